def cB (n r : Nat) : Nat := n / 2 ^ (8 * r) % 256
def sh : Nat → Int32
  | 0 => -8
  | r + 1 => nI (8 * r)
def manyB (n : Nat) : Nat → Nat
  | 0 => 0
  | r + 1 => manyB n r + (if cB n r = 0 then 0 else 1)
abbrev okB (n r : Nat) : Prop := ∀ j, j < r → cB n j = 0 ∨ (32 ≤ cB n j ∧ cB n j ≤ 126)
def appB (n : Nat) : Nat → Nat → (Nat → Int32) → (Nat → Int32)
  | 0, _, g => g
  | r + 1, s, g => if cB n r = 0 then appB n r s g else appB n r (s + 1) (upd g s (nI (cB n r)))
theorem cB_lt (n r : Nat) : cB n r < 256 := Nat.mod_lt _ (by decide)
theorem manyB_le (n : Nat) : ∀ r, manyB n r ≤ r := by
  intro r
  induction r with
  | zero => exact Nat.le_refl 0
  | succ r ih => simp only [manyB]; split <;> omega
theorem sh_dec : ∀ r, r < 8 → nI (8 * r) + (-8) = sh r := by decide +kernel
theorem nI_0iff {c : Nat} (h : c < 2 ^ 31) : nI c = 0 ↔ c = 0 := by
  constructor
  · intro h2; exact (nI_eq (b := 0) h (by decide)).mp h2
  · intro h2; subst h2; rfl
theorem nar_c {c : Nat} (h : c < 256) : vp_nar .char ((nI c).toUInt32 % 65536).toInt32 = nI c := by
  rw [pk_vc, pk_char, pk_tn (by omega), Nat.mod_eq_of_lt (by omega)]
theorem say_c {fu n : Nat} {sz : Int32} {sg : Nat → Int32} {k : Int32 → Option (Nat × Int32 × Int32 × (Nat → Int32))} (hn : n < 2 ^ 64) : ∀ (f r a : Nat), r ≤ 8 → r < f →
    (okB n r → L_FaultRules_say_6 fu sz sg (lN n) k f (nI a) (sh r) = k (nI (a + manyB n r))) ∧ (¬ okB n r → L_FaultRules_say_6 fu sz sg (lN n) k f (nI a) (sh r) = some (1, 0, sz, sg)) := by
  intro f
  induction f with
  | zero => intro r a h1 h2; omega
  | succ f ih =>
    intro r a h1 h2
    cases r with
    | zero =>
      refine ⟨fun _ => ?_, fun h => absurd (fun j hj => absurd hj (Nat.not_lt_zero j)) h⟩
      rw [show sh 0 = (-8 : Int32) from rfl, L_FaultRules_say_6, if_pos (by decide)]
      rfl
    | succ r =>
      have hb := by_c hn (show 8 * r ≤ 56 by omega)
      have hc := cB_lt n r
      have e0 : ¬ nI (8 * r) < 0 := nI_pos (by omega)
      have hdec := sh_dec r (by omega)
      have ih1 := fun a => ih r a (by omega) (by omega)
      rw [show sh (r + 1) = nI (8 * r) from rfl, L_FaultRules_say_6, if_neg e0, hb]
      rw [show n / 2 ^ (8 * r) % 256 = cB n r from rfl, hdec]
      by_cases z : cB n r = 0
      · rw [if_pos ((nI_0iff (by omega)).mpr z), if_pos ((nI_0iff (by omega)).mpr z)]
        rw [show nI a + 0 = nI a from by rw [show (0 : Int32) = nI 0 from rfl, nI_add, Nat.add_zero]]
        have hm : manyB n (r + 1) = manyB n r := by simp [manyB, z]
        rw [hm]
        obtain ⟨i1, i2⟩ := ih1 a
        refine ⟨fun h => i1 (fun j hj => h j (by omega)), fun h => i2 (fun h' => h (fun j hj => ?_))⟩
        rcases Nat.lt_or_ge j r with q | q
        · exact h' j q
        · have : j = r := by omega
          subst this; exact Or.inl z
      · rw [if_neg (fun h => z ((nI_0iff (by omega)).mp h)), if_neg (fun h => z ((nI_0iff (by omega)).mp h))]
        have hm : manyB n (r + 1) = manyB n r + 1 := by simp [manyB, z]
        by_cases l32 : cB n r < 32
        · have l : nI (cB n r) < (32 : Int32) := (nI_ltI (b := 32) (by omega) (by decide)).mpr l32
          rw [if_pos l]
          refine ⟨fun h => ?_, fun _ => rfl⟩
          rcases h r (by omega) with q | q
          · exact absurd q z
          · omega
        · have l : ¬ nI (cB n r) < (32 : Int32) := fun h => l32 ((nI_ltI (b := 32) (by omega) (by decide)).mp h)
          rw [if_neg l]
          by_cases g126 : cB n r ≤ 126
          · have g : nI (cB n r) ≤ (126 : Int32) := (nI_leI (b := 126) (by omega) (by decide)).mpr g126
            rw [if_pos g, nI_1, hm]
            obtain ⟨i1, i2⟩ := ih1 (a + 1)
            refine ⟨fun h => ?_, fun h => i2 (fun h' => h (fun j hj => ?_))⟩
            · rw [i1 (fun j hj => h j (by omega))]
              congr 2; omega
            · rcases Nat.lt_or_ge j r with q | q
              · exact h' j q
              · have : j = r := by omega
                subst this; exact Or.inr ⟨by omega, g126⟩
          · have g : ¬ nI (cB n r) ≤ (126 : Int32) := fun h => g126 ((nI_leI (b := 126) (by omega) (by decide)).mp h)
            rw [if_neg g]
            refine ⟨fun h => ?_, fun _ => rfl⟩
            rcases h r (by omega) with q | q
            · exact absurd q z
            · omega
theorem okB_s {n r : Nat} (h : okB n r) (h2 : cB n r = 0 ∨ (32 ≤ cB n r ∧ cB n r ≤ 126)) : okB n (r + 1) := by
  intro j hj
  rcases Nat.lt_or_ge j r with q | q
  · exact h j q
  · have : j = r := by omega
    subst this; exact h2
theorem okB_p {n r : Nat} (h : okB n (r + 1)) : okB n r := fun j hj => h j (by omega)
theorem i32_add0 (a : Nat) : nI a + 0 = nI a := by rw [show (0 : Int32) = nI 0 from rfl, nI_add, Nat.add_zero]
theorem say_m {fu n : Nat} {k : Int32 → Int32 → Option (Int32 × Int32 × Int32 × (Nat → Int32))} (hn : n < 2 ^ 64) : ∀ (f r a : Nat) (th : Int32), r ≤ 8 → r < f →
    (okB n r → L_Model_say_11 fu (lN n) k f (nI a) (sh r) th = k (nI (a + manyB n r)) th) ∧ (¬ okB n r → L_Model_say_11 fu (lN n) k f (nI a) (sh r) th = k (nI (a + manyB n r)) 1) := by
  intro f
  induction f with
  | zero => intro r a th h1 h2; omega
  | succ f ih =>
    intro r a th h1 h2
    cases r with
    | zero =>
      refine ⟨fun _ => ?_, fun h => absurd (fun j hj => absurd hj (Nat.not_lt_zero j)) h⟩
      rw [show sh 0 = (-8 : Int32) from rfl, L_Model_say_11, if_pos (by decide)]
      rfl
    | succ r =>
      have hb := by_m hn (show 8 * r ≤ 56 by omega)
      have hc := cB_lt n r
      have e0 : ¬ nI (8 * r) < 0 := nI_pos (by omega)
      have hdec := sh_dec r (by omega)
      have ih1 := fun a th => ih r a th (by omega) (by omega)
      rw [show sh (r + 1) = nI (8 * r) from rfl, L_Model_say_11, if_neg e0, hb]
      rw [show n / 2 ^ (8 * r) % 256 = cB n r from rfl, hdec]
      by_cases z : cB n r = 0
      · rw [if_pos ((nI_0iff (by omega)).mpr z), if_pos ((nI_0iff (by omega)).mpr z), i32_add0]
        have hm : manyB n (r + 1) = manyB n r := by simp [manyB, z]
        rw [hm]
        obtain ⟨i1, i2⟩ := ih1 a th
        exact ⟨fun h => i1 (okB_p h), fun h => i2 (fun h' => h (okB_s h' (Or.inl z)))⟩
      · have z' : ¬ nI (cB n r) = 0 := fun h => z ((nI_0iff (by omega)).mp h)
        rw [if_neg z', isIn_eq (a := 32) (b := 126) rfl rfl]
        simp only [Option.bind_some]
        have hm : manyB n (r + 1) = manyB n r + 1 := by simp [manyB, z]
        have ha : a + 1 + manyB n r = a + (manyB n r + 1) := by omega
        rw [hm, if_neg z', if_neg z', nI_1, ← ha]
        have bad : ¬ (32 ≤ cB n r ∧ cB n r ≤ 126) → (okB n (r + 1) → L_Model_say_11 fu (lN n) k f (nI (a + 1)) (sh r) 1 = k (nI (a + 1 + manyB n r)) th) ∧ (¬ okB n (r + 1) → L_Model_say_11 fu (lN n) k f (nI (a + 1)) (sh r) 1 = k (nI (a + 1 + manyB n r)) 1) := by
          intro hb
          refine ⟨fun h => ?_, fun _ => ?_⟩
          · rcases h r (by omega) with q | q
            · exact absurd q z
            · exact absurd q hb
          · by_cases o : okB n r
            · exact (ih1 (a + 1) 1).1 o
            · exact (ih1 (a + 1) 1).2 o
        by_cases l32 : cB n r < 32
        · have l : nI (cB n r) < (32 : Int32) := (nI_ltI (b := 32) (by omega) (by decide)).mpr l32
          rw [if_pos (show (if nI (cB n r) < (32 : Int32) then (0 : Int32) else if (126 : Int32) < nI (cB n r) then 0 else 1) = 0 by rw [if_pos l])]
          exact bad (by omega)
        · have l : ¬ nI (cB n r) < (32 : Int32) := fun h => l32 ((nI_ltI (b := 32) (by omega) (by decide)).mp h)
          by_cases g126 : 126 < cB n r
          · have g : (126 : Int32) < nI (cB n r) := (nI_ltI (a := 126) (by decide) (by omega)).mpr g126
            rw [if_pos (show (if nI (cB n r) < (32 : Int32) then (0 : Int32) else if (126 : Int32) < nI (cB n r) then 0 else 1) = 0 by rw [if_neg l, if_pos g])]
            exact bad (by omega)
          · have g : ¬ (126 : Int32) < nI (cB n r) := fun h => g126 ((nI_ltI (a := 126) (by decide) (by omega)).mp h)
            rw [if_neg (show ¬ (if nI (cB n r) < (32 : Int32) then (0 : Int32) else if (126 : Int32) < nI (cB n r) then 0 else 1) = 0 by rw [if_neg l, if_neg g]; decide)]
            obtain ⟨i1, i2⟩ := ih1 (a + 1) th
            exact ⟨fun h => i1 (okB_p h), fun h => i2 (fun h' => h (okB_s h' (Or.inr ⟨by omega, by omega⟩)))⟩
theorem app_c {fu n : Nat} (hn : n < 2 ^ 64) : ∀ (f r s : Nat) (g : Nat → Int32), r ≤ 8 → r < f → s + manyB n r ≤ 1000 →
    L_Text_append_3 fu (lN n) f (sh r) (nI s) g = some (nI (s + manyB n r), appB n r s g) := by
  intro f
  induction f with
  | zero => intro r s g h1 h2; omega
  | succ f ih =>
    intro r s g h1 h2 h3
    cases r with
    | zero => rw [show sh 0 = (-8 : Int32) from rfl, L_Text_append_3, if_pos (by decide)]; rfl
    | succ r =>
      have hb := by_c hn (show 8 * r ≤ 56 by omega)
      have hc := cB_lt n r
      have e0 : ¬ nI (8 * r) < 0 := nI_pos (by omega)
      have hdec := sh_dec r (by omega)
      rw [show sh (r + 1) = nI (8 * r) from rfl, L_Text_append_3, if_neg e0, hb]
      rw [show n / 2 ^ (8 * r) % 256 = cB n r from rfl, hdec]
      by_cases z : cB n r = 0
      · have hm : manyB n (r + 1) = manyB n r := by simp [manyB, z]
        have hA : appB n (r + 1) s g = appB n r s g := by simp [appB, z]
        rw [if_pos ((nI_0iff (by omega)).mpr z), hm, hA]
        exact ih r s g (by omega) (by omega) (by omega)
      · have hm : manyB n (r + 1) = manyB n r + 1 := by simp [manyB, z]
        have hA : appB n (r + 1) s g = appB n r (s + 1) (upd g s (nI (cB n r))) := by simp [appB, z]
        have hs : ¬ (1000 : Int32) ≤ nI s := fun h => absurd ((nI_leI (a := 1000) (by decide) (by omega)).mp h) (by omega)
        rw [if_neg (fun h => z ((nI_0iff (by omega)).mp h)), if_neg hs, bd_nI (by omega) (by decide), nI_1, nI_clamp (by omega), nar_c hc, hA, hm, show s + (manyB n r + 1) = s + 1 + manyB n r by omega]
        exact ih r (s + 1) _ (by omega) (by omega) (by omega)
theorem app_m {fu n : Nat} {th : Int32} (hn : n < 2 ^ 64) : ∀ (f r s : Nat) (g : Nat → Int32), r ≤ 8 → r < f → s + manyB n r ≤ 1000 →
    L_Model_say_122 fu th (lN n) f (sh r) (nI s) g = some (nI (s + manyB n r), th, nI (s + manyB n r), appB n r s g) := by
  intro f
  induction f with
  | zero => intro r s g h1 h2; omega
  | succ f ih =>
    intro r s g h1 h2 h3
    cases r with
    | zero => rw [show sh 0 = (-8 : Int32) from rfl, L_Model_say_122, if_pos (by decide)]; rfl
    | succ r =>
      have hb := by_m hn (show 8 * r ≤ 56 by omega)
      have hc := cB_lt n r
      have e0 : ¬ nI (8 * r) < 0 := nI_pos (by omega)
      have hdec := sh_dec r (by omega)
      rw [show sh (r + 1) = nI (8 * r) from rfl, L_Model_say_122, if_neg e0, hb]
      rw [show n / 2 ^ (8 * r) % 256 = cB n r from rfl, hdec]
      by_cases z : cB n r = 0
      · have hm : manyB n (r + 1) = manyB n r := by simp [manyB, z]
        have hA : appB n (r + 1) s g = appB n r s g := by simp [appB, z]
        rw [if_pos ((nI_0iff (by omega)).mpr z), hm, hA]
        exact ih r s g (by omega) (by omega) (by omega)
      · have hm : manyB n (r + 1) = manyB n r + 1 := by simp [manyB, z]
        have hA : appB n (r + 1) s g = appB n r (s + 1) (upd g s (nI (cB n r))) := by simp [appB, z]
        rw [if_neg (fun h => z ((nI_0iff (by omega)).mp h)), bd_nI (by omega) (by decide), nI_1, nI_clamp (by omega), hA, hm, show s + (manyB n r + 1) = s + 1 + manyB n r by omega]
        exact ih r (s + 1) _ (by omega) (by omega) (by omega)
-- the text: as many characters, the same ones, each a character that it may have
abbrev IText (n : Nat) (sx sm : Int32) (sg tx : Nat → Int32) : Prop := n ≤ 1000 ∧ sx = nI n ∧ sm = nI n ∧ ∀ j, j < n → sg j = tx j ∧ ∃ c, 32 ≤ c ∧ c ≤ 126 ∧ tx j = nI c
theorem app_I {n : Nat} : ∀ (r s : Nat) (sg tx : Nat → Int32), okB n r → (∀ j, j < s → sg j = tx j ∧ ∃ c, 32 ≤ c ∧ c ≤ 126 ∧ tx j = nI c) →
    ∀ j, j < s + manyB n r → appB n r s sg j = appB n r s tx j ∧ ∃ c, 32 ≤ c ∧ c ≤ 126 ∧ appB n r s tx j = nI c := by
  intro r
  induction r with
  | zero => intro s sg tx _ h j hj; exact h j hj
  | succ r ih =>
    intro s sg tx ho h j hj
    by_cases z : cB n r = 0
    · have hm : manyB n (r + 1) = manyB n r := by simp [manyB, z]
      have hA : ∀ g, appB n (r + 1) s g = appB n r s g := by intro g; simp [appB, z]
      rw [hA, hA]
      exact ih s sg tx (okB_p ho) h j (by omega)
    · have hm : manyB n (r + 1) = manyB n r + 1 := by simp [manyB, z]
      have hA : ∀ g, appB n (r + 1) s g = appB n r (s + 1) (upd g s (nI (cB n r))) := by intro g; simp [appB, z]
      rw [hA, hA]
      refine ih (s + 1) _ _ (okB_p ho) (fun i hi => ?_) j (by omega)
      by_cases his : i = s
      · subst his
        rw [pk_us, pk_us]
        rcases ho r (by omega) with q | q
        · exact absurd q z
        · exact ⟨rfl, cB n r, q.1, q.2, rfl⟩
      · rw [pk_un his, pk_un his]; exact h i (by omega)
theorem st_say {fu T : Nat} {sx sm th0 : Int32} {sg tx : Nat → Int32} {out : Nat → Int64} {w : Int64} (hfu : 10 ≤ fu) (hI : IText T sx sm sg tx) :
    ∃ (k : Int32) (T' : Nat) (sx' : Int32) (sg' : Nat → Int32) (out' : Nat → Int64) (b sm' : Int32) (tx' : Nat → Int32), f_Law_say fu 1 sx sg out w = some (k, sx', sg', out') ∧ f_Model_say fu th0 sm tx w = some (b, k, sm', tx') ∧ (k = 0 → out' 0 = b.toInt64) ∧ IText T' sx' sm' sg' tx' := by
  obtain ⟨n, hn, rfl⟩ := wb_of w
  obtain ⟨hT, rfl, rfl, he⟩ := id hI
  have hmb := manyB_le n 8
  have e56 : (56 : Int32) = sh 8 := rfl
  have e0 : (0 : Int32) = nI 0 := rfl
  unfold f_Law_say f_FaultRules_say f_Model_say
  by_cases ho : okB n 8
  · have c1 := (say_c (fu := fu) (sz := nI T) (sg := sg) (k := fun (l3 : Int32) => (if l3 ≤ (1000 - nI T) then ((f_Text_append fu (nI T) sg (lN n)).bind (fun t_9 => (some (0, t_9.1, t_9.1, t_9.2)))) else (some (2, 0, nI T, sg)))) hn fu 8 0 (Nat.le_refl 8) (by omega)).1 ho
    have m1 := (say_m (fu := fu) (k := fun (l3 : Int32) (v_th : Int32) => (if v_th = 0 then (if (nI T + l3) ≤ 1000 then (J_Model_say_106 fu v_th (nI T) tx (lN n) v_th) else (J_Model_say_106 fu v_th (nI T) tx (lN n) 2)) else (J_Model_say_106 fu v_th (nI T) tx (lN n) v_th))) hn fu 8 0 0 (Nat.le_refl 8) (by omega)).1 ho
    rw [Nat.zero_add] at c1 m1
    have hsub : (1000 : Int32) - nI T = nI (1000 - T) := pk_sub (a := 1000) hT
    by_cases h1 : T + manyB n 8 ≤ 1000
    · refine ⟨0, T + manyB n 8, nI (T + manyB n 8), appB n 8 T sg, vp_updL out 0 (nI (T + manyB n 8)).toInt64, nI (T + manyB n 8), nI (T + manyB n 8), appB n 8 T tx, ?_, ?_, fun _ => pk_uLs, h1, rfl, rfl, app_I 8 T sg tx ho he⟩
      · have l1 : nI (manyB n 8) ≤ nI (1000 - T) := nI_le (by omega) (by omega)
        have ap : f_Text_append fu (nI T) sg (lN n) = some (nI (T + manyB n 8), appB n 8 T sg) := app_c hn fu 8 T sg (Nat.le_refl 8) (by omega) h1
        refine Eq.trans (congrArg (fun z => Option.bind z _) c1) ?_
        rw [hsub, if_pos l1, ap]
        show bd 0 1 _ = _
        rw [bd_01]
        rfl
      · have l1 : nI T + nI (manyB n 8) ≤ (1000 : Int32) := by rw [nI_add]; exact (nI_leI (b := 1000) (by omega) (by decide)).mpr h1
        refine Eq.trans m1 ?_
        rw [if_pos rfl, if_pos l1]
        unfold J_Model_say_106
        rw [if_pos (by decide)]
        exact app_m hn fu 8 T tx (Nat.le_refl 8) (by omega) h1
    · refine ⟨2, T, nI T, sg, out, 0, nI T, tx, ?_, ?_, fun h => absurd h (by decide), hI⟩
      · have l1 : ¬ nI (manyB n 8) ≤ nI (1000 - T) := fun h => h1 (by have := (nI_leI (by omega) (by omega)).mp h; omega)
        refine Eq.trans (congrArg (fun z => Option.bind z _) c1) ?_
        rw [hsub, if_neg l1]
        rfl
      · have l1 : ¬ nI T + nI (manyB n 8) ≤ (1000 : Int32) := by rw [nI_add]; exact fun h => h1 ((nI_leI (b := 1000) (by omega) (by decide)).mp h)
        refine Eq.trans m1 ?_
        rw [if_pos rfl, if_neg l1]
        rfl
  · have c1 := (say_c (fu := fu) (sz := nI T) (sg := sg) (k := fun (l3 : Int32) => (if l3 ≤ (1000 - nI T) then ((f_Text_append fu (nI T) sg (lN n)).bind (fun t_9 => (some (0, t_9.1, t_9.1, t_9.2)))) else (some (2, 0, nI T, sg)))) hn fu 8 0 (Nat.le_refl 8) (by omega)).2 ho
    have m1 := (say_m (fu := fu) (k := fun (l3 : Int32) (v_th : Int32) => (if v_th = 0 then (if (nI T + l3) ≤ 1000 then (J_Model_say_106 fu v_th (nI T) tx (lN n) v_th) else (J_Model_say_106 fu v_th (nI T) tx (lN n) 2)) else (J_Model_say_106 fu v_th (nI T) tx (lN n) v_th))) hn fu 8 0 0 (Nat.le_refl 8) (by omega)).2 ho
    refine ⟨1, T, nI T, sg, out, 0, nI T, tx, ?_, ?_, fun h => absurd h (by decide), hI⟩
    · exact Eq.trans (congrArg (fun z => Option.bind z _) c1) rfl
    · refine Eq.trans m1 ?_
      rw [if_neg (by decide)]
      rfl
