abbrev ITest (T : Nat) (ki fi se nu so mf ms re mn : Nat → Int32) : Prop := ∃ p, p < 16 ∧ fi T = nI p ∧ mf T = nI p ∧ nu T = mn T ∧
  ((ki T = 16 ∧ so T = 2) ∨ (ki T = 17 ∧ so T = 3 ∧ ¬ mn T < 0) ∨ (ki T = 18 ∧ so T = 4) ∨ (∃ r, r < 5 ∧ ki T = nI (11 + r) ∧ re T = nI r ∧ ((se T = -1 ∧ so T = 0) ∨ (∃ p2, p2 < 16 ∧ se T = nI p2 ∧ ms T = nI p2 ∧ so T = 1))))
theorem rel_eq {r : Nat} (hr : r < 5) (a num : Int32) : ∃ b : Int32, (b = 0 ∨ b = 1) ∧ f_Model_relates a (nI r) num = some b ∧
    (if nI (11 + r) = 11 then (if num ≤ a then (some (0 : Int32)) else (some 1)) else (if nI (11 + r) = 12 then (if num < a then (some 0) else (some 1)) else (if nI (11 + r) = 13 then (if a = num then (some 1) else (some 0)) else (if nI (11 + r) = 14 then (if a < num then (some 0) else (some 1)) else (if nI (11 + r) = 15 then (if a ≤ num then (some 0) else (some 1)) else (some 0)))))) = some b := by
  unfold f_Model_relates
  have hc : r = 0 ∨ r = 1 ∨ r = 2 ∨ r = 3 ∨ r = 4 := by omega
  rcases hc with rfl | rfl | rfl | rfl | rfl
  · rw [if_pos (show nI 0 = 0 by decide), if_pos (show nI (11 + 0) = 11 by decide)]
    by_cases h : num ≤ a
    · rw [if_pos h]; exact ⟨0, Or.inl rfl, rfl, rfl⟩
    · rw [if_neg h]; exact ⟨1, Or.inr rfl, rfl, rfl⟩
  · rw [if_neg (show ¬ nI 1 = 0 by decide), if_pos (show nI 1 = 1 by decide), if_neg (show ¬ nI (11 + 1) = 11 by decide), if_pos (show nI (11 + 1) = 12 by decide)]
    by_cases h : num < a
    · rw [if_pos h]; exact ⟨0, Or.inl rfl, rfl, rfl⟩
    · rw [if_neg h]; exact ⟨1, Or.inr rfl, rfl, rfl⟩
  · rw [if_neg (show ¬ nI 2 = 0 by decide), if_neg (show ¬ nI 2 = 1 by decide), if_pos (show nI 2 = 2 by decide), if_neg (show ¬ nI (11 + 2) = 11 by decide), if_neg (show ¬ nI (11 + 2) = 12 by decide), if_pos (show nI (11 + 2) = 13 by decide)]
    by_cases h : a = num
    · rw [if_pos h]; exact ⟨1, Or.inr rfl, rfl, rfl⟩
    · rw [if_neg h]; exact ⟨0, Or.inl rfl, rfl, rfl⟩
  · rw [if_neg (show ¬ nI 3 = 0 by decide), if_neg (show ¬ nI 3 = 1 by decide), if_neg (show ¬ nI 3 = 2 by decide), if_pos (show nI 3 = 3 by decide), if_neg (show ¬ nI (11 + 3) = 11 by decide), if_neg (show ¬ nI (11 + 3) = 12 by decide), if_neg (show ¬ nI (11 + 3) = 13 by decide), if_pos (show nI (11 + 3) = 14 by decide)]
    by_cases h : a < num
    · rw [if_pos h]; exact ⟨0, Or.inl rfl, rfl, rfl⟩
    · rw [if_neg h]; exact ⟨1, Or.inr rfl, rfl, rfl⟩
  · rw [if_neg (show ¬ nI 4 = 0 by decide), if_neg (show ¬ nI 4 = 1 by decide), if_neg (show ¬ nI 4 = 2 by decide), if_neg (show ¬ nI 4 = 3 by decide), if_neg (show ¬ nI (11 + 4) = 11 by decide), if_neg (show ¬ nI (11 + 4) = 12 by decide), if_neg (show ¬ nI (11 + 4) = 13 by decide), if_neg (show ¬ nI (11 + 4) = 14 by decide), if_pos (show nI (11 + 4) = 15 by decide)]
    by_cases h : a ≤ num
    · rw [if_pos h]; exact ⟨0, Or.inl rfl, rfl, rfl⟩
    · rw [if_neg h]; exact ⟨1, Or.inr rfl, rfl, rfl⟩
theorem jump_eq {d num : Int32} (hn : ¬ num < 0) : ∃ b : Int32, (b = 0 ∨ b = 1) ∧ (if (if 0 ≤ d then d else 0 - d) ≤ num then (some (0 : Int32)) else some 1) = some b ∧ (if num < d then (some (1 : Int32)) else (if -d ≤ num then some 0 else some 1)) = some b := by
  have c0 : (0 : Int32).toInt = 0 := rfl
  rw [Int32.lt_iff_toInt_lt, c0] at hn
  have e0 : (0 : Int32) - d = -d := by rw [Int32.zero_sub]
  by_cases h : 0 ≤ d
  · rw [if_pos h]
    rw [Int32.le_iff_toInt_le, c0] at h
    have hneg : -d ≤ num := by
      rw [Int32.le_iff_toInt_le, Int32.toInt_neg]
      have := Int32.toInt_lt d
      have : (-d.toInt).bmod (2 ^ 32) = -d.toInt := by
        apply Int.bmod_eq_of_le <;> omega
      omega
    by_cases h2 : d ≤ num
    · have h3 : ¬ num < d := Int32.not_lt.mpr h2
      rw [if_pos h2, if_neg h3, if_pos hneg]; exact ⟨0, Or.inl rfl, rfl, rfl⟩
    · have h3 : num < d := Int32.not_le.mp h2
      rw [if_neg h2, if_pos h3]; exact ⟨1, Or.inr rfl, rfl, rfl⟩
  · rw [if_neg h, e0]
    rw [Int32.le_iff_toInt_le, c0] at h
    have h3 : ¬ num < d := by rw [Int32.lt_iff_toInt_lt]; omega
    rw [if_neg h3]
    by_cases h2 : -d ≤ num
    · rw [if_pos h2]; exact ⟨0, Or.inl rfl, rfl, rfl⟩
    · rw [if_neg h2]; exact ⟨1, Or.inr rfl, rfl, rfl⟩
theorem test_eq {n : Nat} {S σ P M : Nat → Nat} {mi va st : Nat → Int32} {rw : Int32} {rp rm rv : Nat → Int32} {t T : Nat} {c : Nat → Nat} {sn la be ki fi se nu so mf ms re mn : Nat → Int32} (hI : IRows n S σ P M mi va st rw rp rm rv) (ht : t ≤ 100000) (hS : Seen S σ M t c sn) (hSt : StAll n P M t la be) (hT : T < 36) (hK : ITest T ki fi se nu so mf ms re mn) :
    ∃ b : Int32, (b = 0 ∨ b = 1) ∧ f_RuleSet_testHolds ki fi se nu mi va st sn (nI T) (nI t) = some b ∧ f_Model_isSo rm rv so mf ms re mn la be (nI T) (nI t) = some b := by
  have hn := hI.1
  have hk := hI.2.2.2.2.2.2.2.1
  obtain ⟨p, hp, k1, k2, k3, k4⟩ := hK
  have hl := look hI hS hp (hSt p hp)
  have b36 : ∀ {α : Type} (k : Option α), bd (nI T) 36 k = k := fun k => bd_nI hT (by decide)
  have b72 : ∀ {α : Type} (k : Option α), bd (nI T) 72 k = k := fun k => bd_nI (by omega) (by decide)
  have bp : ∀ {α : Type} (k : Option α), bd (nI p) 16 k = k := fun k => bd_nI (by omega) (by decide)
  have hm1 : ¬ 0 ≤ (-1 : Int32) := by decide
  have hm1' : (-1 : Int32) < 0 := by decide
  unfold f_RuleSet_testHolds f_Model_isSo
  simp only [b36, b72, nI_clamp (show T < 2 ^ 31 by omega), k1, k2, k3, bp, nI_clamp (show p < 2 ^ 31 by omega)]
  rcases hl with ⟨g1, g2, g3⟩ | ⟨i, i1, g1, -, g2, g3, g4, g5, g6⟩
  · simp only [g1, g3, Option.bind_some]
    rcases k4 with ⟨q1, q2⟩ | ⟨q1, q2, -⟩ | ⟨q1, q2⟩ | ⟨r, r1, r2, r3, r4⟩
    · rw [q1, q2, if_pos (show (16 : Int32) = 16 from rfl), if_pos trivial, if_neg (show ¬ (2 : Int32) = 4 by decide), if_neg hm1]
      exact ⟨0, Or.inl rfl, rfl, rfl⟩
    · rw [q1, q2, if_neg (show ¬ (17 : Int32) = 16 by decide), if_pos (show (17 : Int32) = 17 from rfl), if_pos trivial, if_neg (show ¬ (3 : Int32) = 4 by decide), if_neg hm1]
      exact ⟨0, Or.inl rfl, rfl, rfl⟩
    · rw [q1, q2, if_neg (show ¬ (18 : Int32) = 16 by decide), if_neg (show ¬ (18 : Int32) = 17 by decide), if_pos (show (18 : Int32) = 18 from rfl), if_pos trivial, if_pos (show (4 : Int32) = 4 from rfl), if_pos hm1']
      exact ⟨1, Or.inr rfl, rfl, rfl⟩
    · have x1 : ¬ ki T = 16 := by rw [r2]; exact fun q => absurd ((nI_eq (b := 16) (by omega) (by decide)).mp q) (by omega)
      have x2 : ¬ ki T = 17 := by rw [r2]; exact fun q => absurd ((nI_eq (b := 17) (by omega) (by decide)).mp q) (by omega)
      have x3 : ¬ ki T = 18 := by rw [r2]; exact fun q => absurd ((nI_eq (b := 18) (by omega) (by decide)).mp q) (by omega)
      have x4 : ¬ so T = 4 := by rcases r4 with ⟨-, r4⟩ | ⟨_, -, -, -, r4⟩ <;> (rw [r4]; decide)
      rw [if_neg x1, if_neg x2, if_neg x3, if_pos trivial, if_neg x4, if_neg hm1]
      exact ⟨0, Or.inl rfl, rfl, rfl⟩
  · obtain ⟨-, -, w3, w4, -⟩ := hk i i1
    have b120 : ∀ {α : Type} (k : Option α), bd (nI i) 120 k = k := fun k => bd_nI (by omega) (by decide)
    have n10 : ¬ (1 : Int32) = 0 := by decide
    simp only [g1, g3, g5, Option.bind_some, b120, nI_clamp (show i < 2 ^ 31 by omega), w3]
    have y1 : 0 ≤ nI i := nI_pos' (by omega)
    have y2 : ¬ nI i < 0 := nI_pos (by omega)
    rcases k4 with ⟨q1, q2⟩ | ⟨q1, q2, q3⟩ | ⟨q1, q2⟩ | ⟨r, r1, r2, r3, r4⟩
    · rw [q1, q2, if_pos (show (16 : Int32) = 16 from rfl), if_neg n10, if_neg (show ¬ (2 : Int32) = 4 by decide), if_pos y1, if_pos (show (2 : Int32) = 2 from rfl)]
      by_cases h : nI t - nI (M i) < mn T
      · rw [if_pos h]; exact ⟨0, Or.inl rfl, rfl, rfl⟩
      · rw [if_neg h]; exact ⟨1, Or.inr rfl, rfl, rfl⟩
    · rw [q1, q2, if_neg (show ¬ (17 : Int32) = 16 by decide), if_pos (show (17 : Int32) = 17 from rfl), if_neg n10, if_neg (show ¬ (3 : Int32) = 4 by decide), if_pos y1, if_neg (show ¬ (3 : Int32) = 2 by decide), if_pos (show (3 : Int32) = 3 from rfl)]
      rw [pk_sub g2]
      by_cases h : M i = t
      · rw [if_pos (show nI (t - M i) = 0 by rw [h, Nat.sub_self]; rfl), if_pos (show nI (M i) = nI t by rw [h])]
        rcases g6 with ⟨u1, u2⟩ | ⟨h', u0, u1, u2⟩
        · rw [u1, u2, if_pos hm1']
          simp only [Option.bind_some]
          rw [if_pos (Int32.not_lt.mp q3)]
          exact ⟨0, Or.inl rfl, rfl, rfl⟩
        · rw [u1, u2, if_neg (nI_pos (by omega)), bd_nI (by omega) (by decide), nI_clamp (by omega)]
          simp only [Option.bind_some]
          exact jump_eq q3
      · rw [if_neg (fun q => absurd ((nI_0iff (by omega)).mp q) (by omega)), if_neg (fun q => h ((nI_eq (by omega) (by omega)).mp q))]
        refine ⟨0, Or.inl rfl, rfl, ?_⟩
        by_cases h2 : be p < 0
        · rw [if_pos h2]
        · rw [if_neg h2]
    · rw [q1, q2, if_neg (show ¬ (18 : Int32) = 16 by decide), if_neg (show ¬ (18 : Int32) = 17 by decide), if_pos (show (18 : Int32) = 18 from rfl), if_neg n10, if_pos (show (4 : Int32) = 4 from rfl), if_neg y2]
      by_cases h : nI t - nI (M i) ≤ mn T
      · rw [if_pos h]; exact ⟨0, Or.inl rfl, rfl, rfl⟩
      · rw [if_neg h]; exact ⟨1, Or.inr rfl, rfl, rfl⟩
    · have x1 : ¬ ki T = 16 := by rw [r2]; exact fun q => absurd ((nI_eq (b := 16) (by omega) (by decide)).mp q) (by omega)
      have x2 : ¬ ki T = 17 := by rw [r2]; exact fun q => absurd ((nI_eq (b := 17) (by omega) (by decide)).mp q) (by omega)
      have x3 : ¬ ki T = 18 := by rw [r2]; exact fun q => absurd ((nI_eq (b := 18) (by omega) (by decide)).mp q) (by omega)
      have x4 : ¬ so T = 4 := by rcases r4 with ⟨-, r4⟩ | ⟨_, -, -, -, r4⟩ <;> (rw [r4]; decide)
      have x5 : ¬ so T = 2 := by rcases r4 with ⟨-, r4⟩ | ⟨_, -, -, -, r4⟩ <;> (rw [r4]; decide)
      have x6 : ¬ so T = 3 := by rcases r4 with ⟨-, r4⟩ | ⟨_, -, -, -, r4⟩ <;> (rw [r4]; decide)
      rw [if_neg x1, if_neg x2, if_neg x3, if_neg n10, if_neg x4, if_pos y1, if_neg x5, if_neg x6]
      unfold f_RuleSet_relationHolds
      simp only [b36, nI_clamp (show T < 2 ^ 31 by omega), k1, g4, Option.bind_some, r3, k3]
      have fin : ∀ b : Int32, (b = 0 ∨ b = 1) → (if b = 0 then some (0 : Int32) else some 1) = some b := by
        intro b hb; rcases hb with rfl | rfl <;> rfl
      have fin2 : ∀ b : Int32, (b = 0 ∨ b = 1) → zb b (some b) = some b := by
        intro b hb; rcases hb with rfl | rfl
        · exact zb_0
        · exact zb_1
      rcases r4 with ⟨s1, s2⟩ | ⟨p2, p21, s1, s3, s2⟩
      · rw [s1, s2, if_pos rfl, if_neg (show ¬ (0 : Int32) = 1 by decide)]
        obtain ⟨b, b1, b2, b3⟩ := rel_eq r1 (rv i) (mn T)
        rw [← r2] at b3
        rw [b2, b3]
        exact ⟨b, b1, fin b b1, fin2 b b1⟩
      · have bp2 : ∀ {α : Type} (k : Option α), bd (nI p2) 16 k = k := fun k => bd_nI (by omega) (by decide)
        rw [s1, s2, if_neg (nI_ne_m1 (by omega)), if_pos rfl, s3]
        simp only [bp2, nI_clamp (show p2 < 2 ^ 31 by omega)]
        rcases look hI hS p21 (hSt p2 p21) with ⟨e1, -, e3⟩ | ⟨i2, i21, e1, -, -, e3, e4, -⟩
        · rw [e1, e3, if_neg hm1]
          exact ⟨0, Or.inl rfl, rfl, rfl⟩
        · rw [e1, e3, e4, if_pos (nI_pos' (by omega)), bd_nI (by omega) (by decide), nI_clamp (by omega)]
          simp only [Option.bind_some]
          rw [if_neg n10]
          obtain ⟨b, b1, b2, b3⟩ := rel_eq r1 (rv i - rv i2) (mn T)
          rw [← r2] at b3
          rw [b2, b3]
          exact ⟨b, b1, fin b b1, fin2 b b1⟩
