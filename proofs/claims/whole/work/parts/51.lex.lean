-- the words of a text: class and reference cut alike
theorem lg0 {x y : Int64} : lg_cmp x y = 0 ↔ x = y := by
  constructor
  · intro h
    have h1 := lg_ge (a := x) (b := y)
    rw [h] at h1
    have h2 := h1.mp (by decide)
    apply Int64.toInt_inj.mp
    unfold lg_cmp at h
    by_cases e : y < x
    · rw [if_pos e] at h; exact absurd h (by decide)
    · rw [Int64.lt_iff_toInt_lt] at e; omega
  · exact lg_eq
def kdOf (mk : Int32) (mv : Int64) : Int32 :=
  if mk = 0 then (if mv = 7381243658609098752 then 9 else if mv = 7165072476152528896 then 10 else if mv = 8319403481517522944 then 16 else if mv = 7671157868099272704 then 17 else if mv = 8316297369816924160 then 18 else 2)
  else if mk = 1 then (if 0 ≤ mv.toInt ∧ mv.toInt ≤ 1000000 then 3 else 1)
  else if mk = 2 then (if 0 ≤ mv.toInt ∧ mv.toInt ≤ 15 then 4 else 1)
  else if mk = 3 then (if mv = 58 then 5 else if mv = 38 then 6 else if mv = 59 then 7 else if mv = 45 then 8 else if mv = 60 then 11 else if mv = 316 then 12 else if mv = 61 then 13 else if mv = 318 then 14 else if mv = 62 then 15 else 1)
  else 1
def WR (kd am : Int32) (le : Int64) (mk : Int32) (mv : Int64) : Prop :=
  kd = kdOf mk mv ∧ (mk = 0 → le = mv) ∧ (kd = 3 ∨ kd = 4 → ∃ v, v ≤ 1000000 ∧ am = nI v ∧ mv = lN v)
def mkS (x : Int32) : Int32 := if x = 58 then 3 else if x = 38 then 3 else if x = 59 then 3 else if x = 45 then 3 else if x = 60 then 3 else if x = 61 then 3 else if x = 62 then 3 else 9
def rnK (fu : Nat) (v_size : Int32) (v_signs : Nat → Int32) (v_kind v_amount : Int32) (v_letters : Int64) : Int32 → Option (Int32 × Int32 × Int32 × Int64) :=
  (fun (v_at_0x4 : Int32) => ((f_Text_signAt v_size v_signs v_at_0x4).bind (fun t_5 => (if v_at_0x4 < v_size then (if t_5 = 112 then ((f_Text_signAt v_size v_signs (v_at_0x4 + 1)).bind (fun t_15 => ((f_Text_isLetter t_15).bind (fun t_16 => (if t_16 = 0 then ((f_Text_readPoint fu v_size v_at_0x4 v_kind v_amount v_signs).bind (fun t_25 => (some (t_25.1, t_25.2.1, t_25.2.2, v_letters)))) else ((f_Text_isLetter t_5).bind (fun t_18 => (if t_18 = 0 then ((f_Text_isDigit t_5).bind (fun t_20 => (if t_20 = 0 then ((f_Text_readSign v_size v_at_0x4 v_kind v_signs t_5).bind (fun t_22 => (some (t_22.1, t_22.2, v_amount, v_letters)))) else ((f_Text_readNumber fu v_size v_at_0x4 v_kind v_amount v_signs).bind (fun t_23 => (some (t_23.1, t_23.2.1, t_23.2.2, v_letters))))))) else ((f_Text_readLetters fu v_size v_at_0x4 v_kind v_letters v_signs).bind (fun t_24 => (some (t_24.1, t_24.2.1, v_amount, t_24.2.2)))))))))))) else ((f_Text_isLetter t_5).bind (fun t_8 => (if t_8 = 0 then ((f_Text_isDigit t_5).bind (fun t_10 => (if t_10 = 0 then ((f_Text_readSign v_size v_at_0x4 v_kind v_signs t_5).bind (fun t_12 => (some (t_12.1, t_12.2, v_amount, v_letters)))) else ((f_Text_readNumber fu v_size v_at_0x4 v_kind v_amount v_signs).bind (fun t_13 => (some (t_13.1, t_13.2.1, t_13.2.2, v_letters))))))) else ((f_Text_readLetters fu v_size v_at_0x4 v_kind v_letters v_signs).bind (fun t_14 => (some (t_14.1, t_14.2.1, v_amount, t_14.2.2)))))))) else (some (v_at_0x4, 0, v_amount, v_letters))))))
theorem rn_def {fu : Nat} {sz at0 kd am : Int32} {le : Int64} {sg : Nat → Int32} : f_Text_readNext fu sz at0 kd am le sg = L_Text_readNext_0 fu sz sg (rnK fu sz sg kd am le) fu at0 := rfl
theorem let_b : ∀ c, c < 127 → (f_Text_isLetter (nI c) = some 0 ∧ ¬ (97 ≤ c ∧ c ≤ 122)) ∨ (f_Text_isLetter (nI c) = some 1 ∧ 97 ≤ c ∧ c ≤ 122) := by decide +kernel
theorem dig_b : ∀ c, c < 127 → (f_Text_isDigit (nI c) = some 0 ∧ ¬ (48 ≤ c ∧ c ≤ 57)) ∨ (f_Text_isDigit (nI c) = some 1 ∧ 48 ≤ c ∧ c ≤ 57) := by decide +kernel
theorem sm_eq (x : Int32) : f_Model_isSmall x = f_Text_isLetter x := rfl
theorem dg_eq (x : Int32) : f_Model_isDigit x = f_Text_isDigit x := rfl
theorem zc_c : ∀ c, c < 127 → (nI c).toUInt32.toUInt16.toUInt32.toInt32 = nI c := by decide +kernel
theorem zc_ok {α : Type} {c : Nat} {k : Option α} (h : c < 127) : zc (nI c) k = k := by unfold zc; exact if_pos (zc_c c h)
-- a text, as characters
abbrev Tx (N : Nat) (sg tx : Nat → Int32) : Prop := N ≤ 1000 ∧ ∀ j, j < N → sg j = tx j ∧ ∃ c, 32 ≤ c ∧ c ≤ 126 ∧ tx j = nI c
theorem sg_in {N k : Nat} {sg tx : Nat → Int32} (hT : Tx N sg tx) (hk : k < N) : ∃ c, 32 ≤ c ∧ c ≤ 126 ∧ tx k = nI c ∧ sg k = nI c ∧ f_Text_signAt (nI N) sg (nI k) = some (nI c) ∧ f_Model_letter (nI N) tx (nI k) = some (nI c) := by
  obtain ⟨h1, h2⟩ := hT
  obtain ⟨e, c, c1, c2, c3⟩ := h2 k hk
  refine ⟨c, c1, c2, c3, e.trans c3, ?_, ?_⟩
  · unfold f_Text_signAt
    rw [if_neg (nI_ge hk (by omega)), bd_nI (by omega) (by decide), nI_clamp (by omega), e, c3, zc_ok (by omega)]
  · unfold f_Model_letter
    rw [if_neg (nI_ge hk (by omega)), bd_nI (by omega) (by decide), nI_clamp (by omega), c3]
theorem sg_out {N k : Nat} {sg tx : Nat → Int32} (hk : N ≤ k) (hk2 : k < 2 ^ 31) : f_Text_signAt (nI N) sg (nI k) = some 32 ∧ f_Model_letter (nI N) tx (nI k) = some 0 := by
  unfold f_Text_signAt f_Model_letter
  rw [if_pos (nI_le hk hk2), if_pos (nI_le hk hk2)]
  exact ⟨rfl, rfl⟩
theorem dig_loop {fu N fr : Nat} {sg tx : Nat → Int32} {p2 : Int32} {kont : Int32 → Int64 → Option (Int32 × Int32 × (Nat → Int32) × (Nat → Int64))} (hT : Tx N sg tx) :
    ∀ (f l a : Nat), fr + l ≤ N → N < f + (fr + l) → a < 10000000 → (l ≤ 7 → a < 10 ^ l) → ∃ l' a', l ≤ l' ∧ fr + l' ≤ N ∧ a' < 10000000 ∧ L_Text_readDigits_7 fu (nI N) sg f (nI l) (nI (fr + l)) (nI a) = some (nI l', nI (fr + l'), nI a') ∧ L_Model_digits_5 fu (nI N) tx (nI fr) p2 kont f (nI (fr + l)) (lN a) = kont (nI (fr + l')) (lN a') ∧ (fr + l < N → f_Text_isDigit (tx (fr + l)) = some 1 → l < l') := by
  have hN := hT.1
  intro f
  induction f with
  | zero => intro l a h1 h2; omega
  | succ f ih =>
    intro l a h1 h2 h3 h4
    rw [L_Text_readDigits_7, L_Model_digits_5]
    rcases Nat.lt_or_ge (fr + l) N with h | h
    · obtain ⟨c, c1, c2, c3, c4, c5, c6⟩ := sg_in hT h
      rw [if_neg (nI_ge h (by omega)), bd_nI (by omega) (by decide), nI_clamp (by omega), c4, c6, c3]
      simp only [Option.bind_some]
      rw [dg_eq]
      rcases dig_b c (by omega) with ⟨d, -⟩ | ⟨d, d1, d2⟩
      · rw [d]
        simp only [Option.bind_some]
        rw [if_pos trivial, if_pos trivial]
        exact ⟨l, a, Nat.le_refl l, h1, h3, rfl, rfl, fun _ q => absurd q (by decide)⟩
      · rw [d]
        simp only [Option.bind_some]
        have n10 : ¬ (1 : Int32) = 0 := by decide
        rw [if_neg n10, if_neg n10, pk_sub (show fr ≤ fr + l by omega), show fr + l - fr = l by omega, nI_1, nI_1]
        rcases Nat.lt_or_ge l 7 with g | g
        · have g1 : ¬ (7 : Int32) ≤ nI l := nI_ge (b := 7) g (by decide)
          rw [if_neg g1, if_neg g1, bd_nI (by omega) (by decide)]
          have e1 : nI a * 10 + (nI c - 48) = nI (a * 10 + (c - 48)) := by
            have q1 : nI a * 10 = nI (a * 10) := pk_mul a 10
            have q2 : nI c - 48 = nI (c - 48) := pk_sub (b := 48) d1
            rw [q1, q2, nI_add]
          have e2 : 10 * lN a + (nI c).toInt64 - 48 = lN (a * 10 + (c - 48)) := by
            have q1 : 10 * lN a = lN (10 * a) := lN_mul 10 a
            rw [q1, nI_l (by omega), lN_add]
            have q2 : lN (10 * a + c) - 48 = lN (10 * a + c - 48) := lN_sub (b := 48) (by omega)
            rw [q2]
            congr 1
            omega
          rw [e1, e2]
          have hp := h4 (by omega)
          have hl : 10 ^ l ≤ 10 ^ 6 := Nat.pow_le_pow_right (by decide) (by omega)
          have hs : 10 ^ (l + 1) = 10 ^ l * 10 := Nat.pow_succ 10 l
          have h6 : (10 : Nat) ^ 6 = 1000000 := by decide
          rw [h6] at hl
          generalize 10 ^ l = pw at *
          obtain ⟨l', a', x1, x2, x3, x4, x5, -⟩ := ih (l + 1) (a * 10 + (c - 48)) (by omega) (by omega) (by omega) (by rw [hs]; omega)
          exact ⟨l', a', by omega, x2, x3, x4, x5, fun _ _ => by omega⟩
        · have g1 : (7 : Int32) ≤ nI l := nI_le (a := 7) g (by omega)
          rw [if_pos g1, if_pos g1]
          obtain ⟨l', a', x1, x2, x3, x4, x5, -⟩ := ih (l + 1) a (by omega) (by omega) h3 (fun q => absurd q (by omega))
          exact ⟨l', a', by omega, x2, x3, x4, x5, fun _ _ => by omega⟩
    · obtain ⟨-, o2⟩ := sg_out (sg := sg) (tx := tx) h (show fr + l < 2 ^ 31 by omega)
      have z : f_Model_isDigit 0 = some 0 := rfl
      rw [if_pos (nI_le h (by omega)), o2]
      simp only [Option.bind_some]
      rw [z]
      simp only [Option.bind_some]
      rw [if_pos trivial]
      exact ⟨l, a, Nat.le_refl l, h1, h3, rfl, rfl, fun q => absurd q (by omega)⟩
theorem let_loop {fu N fr : Nat} {sg tx : Nat → Int32} {kx : Int32 → Int32 → Int64 → Option (Int32 × Int32 × Int64)} {km : Int32 → Int64 → Option (Int32 × Int32 × (Nat → Int32) × (Nat → Int64))} (hT : Tx N sg tx) :
    ∀ (f l : Nat) (v : Int64), fr + l ≤ N → N < f + (fr + l) → ∃ l' v', l ≤ l' ∧ fr + l' ≤ N ∧ L_Text_readLetters_7 fu (nI N) sg kx f (nI l) (nI (fr + l)) v = kx (nI l') (nI (fr + l')) v' ∧ L_Model_letters_4 fu (nI N) tx (nI fr) km f (nI (fr + l)) v = km (nI (fr + l')) v' ∧ (fr + l < N → f_Text_isLetter (tx (fr + l)) = some 1 → l < l') := by
  have hN := hT.1
  intro f
  induction f with
  | zero => intro l v h1 h2; omega
  | succ f ih =>
    intro l v h1 h2
    rw [L_Text_readLetters_7, L_Model_letters_4]
    rcases Nat.lt_or_ge (fr + l) N with h | h
    · obtain ⟨c, c1, c2, c3, c4, c5, c6⟩ := sg_in hT h
      rw [if_neg (nI_ge h (by omega)), bd_nI (by omega) (by decide), nI_clamp (by omega), c4, c6, c3]
      simp only [Option.bind_some]
      rw [sm_eq]
      rcases let_b c (by omega) with ⟨d, -⟩ | ⟨d, d1, d2⟩
      · rw [d]
        simp only [Option.bind_some]
        rw [if_pos trivial, if_pos trivial]
        exact ⟨l, v, Nat.le_refl l, h1, rfl, rfl, fun _ q => absurd q (by decide)⟩
      · rw [d]
        simp only [Option.bind_some]
        have n10 : ¬ (1 : Int32) = 0 := by decide
        rw [if_neg n10, if_neg n10, pk_sub (show fr ≤ fr + l by omega), show fr + l - fr = l by omega, nI_1, nI_1]
        rcases Nat.lt_or_ge l 8 with g | g
        · have g1 : ¬ (8 : Int32) ≤ nI l := nI_ge (b := 8) g (by decide)
          rw [if_neg g1, if_neg g1, bd_nI (by omega) (by decide)]
          obtain ⟨l', a', x1, x2, x4, x5, -⟩ := ih (l + 1) (v ||| (((nI c : Int32).toInt64) <<< ((56 - (8 * nI l) : Int32).toInt64 &&& 63))) (by omega) (by omega)
          exact ⟨l', a', by omega, x2, x4, x5, fun _ _ => by omega⟩
        · have g1 : (8 : Int32) ≤ nI l := nI_le (a := 8) g (by omega)
          rw [if_pos g1, if_pos g1]
          obtain ⟨l', a', x1, x2, x4, x5, -⟩ := ih (l + 1) v (by omega) (by omega)
          exact ⟨l', a', by omega, x2, x4, x5, fun _ _ => by omega⟩
    · obtain ⟨-, o2⟩ := sg_out (sg := sg) (tx := tx) h (show fr + l < 2 ^ 31 by omega)
      have z : f_Model_isSmall 0 = some 0 := rfl
      rw [if_pos (nI_le h (by omega)), o2]
      simp only [Option.bind_some]
      rw [z]
      simp only [Option.bind_some]
      rw [if_pos trivial]
      exact ⟨l, v, Nat.le_refl l, h1, rfl, rfl, fun q => absurd q (by omega)⟩
theorem word_m {j : Nat} {kinds : Nat → Int32} {values : Nat → Int64} (hj : j < 1000) (a : Int32) (b : Int64) : f_Model_word (nI j) kinds values a b = some (nI (j + 1), upd kinds j a, vp_updL values j b) := by
  unfold f_Model_word
  rw [bd_nI hj (by decide), bd_nI hj (by decide), nI_1, nI_clamp (by omega)]
