def mF (s : Int32) : Nat → Int32 → Int32
  | 0, m => m
  | d + 1, m => mF s d (m + ((s >>> (nI (9 - d) &&& 31)) &&& 1))
theorem bits_ok : ∀ s, s < 1024 → f_java_lang_Integer_bitCount (nI s) = some (mF (nI s) 10 0) := by decide +kernel
theorem i32_or0 (x : Int32) : x ||| 0 = x := by simp
theorem cau_in {fu : Nat} {br bg : Nat → Int32} {l1 l2 l3 s : Int32} {k : Int32 → Int32 → Option (Int32 × Int32)} (hI : ICause br bg) : ∀ (d f : Nat) (a m : Int32), d ≤ 10 → d < f →
    ∃ a', L_FaultRules_broughtBy_4 fu br s f a (nI (10 - d)) = some a' ∧ L_Model_causes_79 fu bg l1 l2 l3 s k f a m (nI (10 - d)) = k a' (mF s d m) := by
  intro d
  induction d with
  | zero =>
    intro f a m h1 h2
    obtain ⟨f, rfl⟩ : ∃ g, f = g + 1 := ⟨f - 1, by omega⟩
    refine ⟨a, ?_, ?_⟩
    · rw [L_FaultRules_broughtBy_4, if_pos (by decide)]
    · rw [L_Model_causes_79, if_pos (by decide)]; rfl
  | succ d ih =>
    intro f a m h1 h2
    obtain ⟨f, rfl⟩ : ∃ g, f = g + 1 := ⟨f - 1, by omega⟩
    have e : ¬ (10 : Int32) ≤ nI (10 - (d + 1)) := nI_ge (b := 10) (by omega) (by decide)
    have e2 : nI (10 - (d + 1)) + 1 = nI (10 - d) := by rw [nI_1]; congr 1; omega
    have e3 : 10 - (d + 1) = 9 - d := by omega
    rw [L_FaultRules_broughtBy_4, L_Model_causes_79, if_neg e, if_neg e, e2, bd_nI (by omega) (by decide), bd_nI (by omega) (by decide), nI_clamp (by omega), hI _ (by omega), e3]
    show ∃ a', _ ∧ _ = k a' (mF s d (m + ((s >>> (nI (9 - d) &&& 31)) &&& 1)))
    by_cases h : ((s >>> (nI (9 - d) &&& 31)) &&& 1) = 1
    · rw [if_pos h, if_pos h]
      exact ih f _ _ (by omega) (by omega)
    · rw [if_neg h, if_neg h, i32_or0]
      exact ih f _ _ (by omega) (by omega)
theorem cau_out {fu : Nat} {br bg : Nat → Int32} {due : Int32} (hfu : 11 ≤ fu) (hI : ICause br bg) : ∀ (f i : Nat) (a m : Int32), i ≤ 1024 → 1024 < f + i →
    ∃ b, L_FaultRules_causes_27 fu due br f a m (nI i) = some (0, b) ∧ L_Model_causes_62 fu 0 bg due f a m (nI i) = some (b, 0) := by
  intro f
  induction f with
  | zero => intro i a m h1 h2; omega
  | succ f ih =>
    intro i a m h1 h2
    rw [L_FaultRules_causes_27, L_Model_causes_62]
    rcases Nat.lt_or_ge i 1024 with h | h
    · have e : ¬ (1024 : Int32) ≤ nI i := nI_ge (b := 1024) h (by decide)
      rw [if_neg e, if_neg e, bits_ok i h, nI_1]
      simp only [Option.bind_some]
      obtain ⟨a', g1, g2⟩ := cau_in (fu := fu) (l1 := due) (l2 := a) (l3 := m) (s := nI i) (k := fun (l5 : Int32) (l6 : Int32) => (if (due &&& (l5 ^^^ ((-1)))) = 0 then (if m ≤ l6 then ((L_Model_causes_62 fu 0 bg due f) a m (nI (i + 1))) else ((L_Model_causes_62 fu 0 bg due f) (nI i) l6 (nI (i + 1)))) else ((L_Model_causes_62 fu 0 bg due f) a m (nI (i + 1))))) hI 10 fu 0 0 (Nat.le_refl 10) (by omega)
      have g1' : f_FaultRules_broughtBy fu br (nI i) = some a' := g1
      have g2' := g2
      rw [show nI (10 - 10) = (0 : Int32) from rfl] at g2'
      rw [g1', g2']
      simp only [Option.bind_some]
      by_cases x1 : m ≤ mF (nI i) 10 0
      · rw [if_pos x1, if_pos x1]
        obtain ⟨b, b1, b2⟩ := ih (i + 1) a m (by omega) (by omega)
        refine ⟨b, b1, ?_⟩
        by_cases x2 : (due &&& (a' ^^^ ((-1)))) = 0
        · rw [if_pos x2]; exact b2
        · rw [if_neg x2]; exact b2
      · rw [if_neg x1, if_neg x1]
        by_cases x2 : (due &&& (a' ^^^ ((-1)))) = 0
        · rw [if_pos x2, if_pos x2]
          exact ih (i + 1) _ _ (by omega) (by omega)
        · rw [if_neg x2, if_neg x2]
          exact ih (i + 1) a m (by omega) (by omega)
    · have : i = 1024 := by omega
      subst this
      rw [if_pos (by decide), if_pos (by decide)]
      exact ⟨a, rfl, rfl⟩
theorem due_loop {fu nF : Nat} {mR : Nat → Int32} {k : Int32 → Option (Int32 × Int32)} (hn : nF ≤ 726) : ∀ (f i : Nat), i ≤ nF → nF < f + i →
    L_Model_causes_29 fu (nI nF) mR k f (orN mR i) (nI i) = k (orN mR nF) := by
  intro f
  induction f with
  | zero => intro i h1 h2; omega
  | succ f ih =>
    intro i h1 h2
    rw [L_Model_causes_29]
    rcases Nat.lt_or_ge i nF with h | h
    · rw [if_neg (nI_ge h (by omega)), bd_nI (by omega) (by decide), nI_clamp (by omega), nI_1]
      exact ih (i + 1) (by omega) (by omega)
    · have : i = nF := by omega
      subst this
      rw [if_pos (nI_le (Nat.le_refl i) (by omega))]
theorem st_causes {fu rc : Nat} {isT cnt tot fau ran fts th0 : Int32} {mh fR fB fE fC cs hc mR mB mE od br bg : Nat → Int32} {out : Nat → Int64} (hfu : 1100 ≤ fu) (hI : IRun rc isT cnt tot fau mh fR fB fE fC ran fts cs hc mR mB mE od) (hC : ICause br bg) :
    ∃ (k : Int32) (out' : Nat → Int64) (b : Int32), f_Law_causes fu 1 isT fau br out = some (k, out') ∧ f_Model_causes fu th0 ran fts mR bg = some (b, k) ∧ (k = 0 → out' 0 = b.toInt64) := by
  rcases hI with ⟨rfl, rfl⟩ | ⟨rfl, rfl, nF, hn, rfl, rfl, -, hr, -, -, rfl⟩
  · exact ⟨1, out, 0, rfl, rfl, fun h => absurd h (by decide)⟩
  · obtain ⟨b, b1, b2⟩ := cau_out (fu := fu) (due := orN mR nF) (by omega) hC fu 0 (-1) 11 (by omega) (by omega)
    refine ⟨0, vp_updL out 0 b.toInt64, b, ?_, ?_, fun _ => pk_uLs⟩
    · unfold f_Law_causes f_FaultRules_causes
      rw [if_neg (by decide)]
      have b1' : L_FaultRules_causes_27 fu (orN mR nF) br fu (-1) 11 0 = some (0, b) := b1
      rw [b1']
      show bd 0 1 _ = _
      rw [bd_01]
      rfl
    · unfold f_Model_causes J_Model_causes_13
      rw [if_neg (by decide), if_pos (by decide)]
      exact Eq.trans (due_loop hn fu 0 (Nat.zero_le nF) (by omega)) b2
