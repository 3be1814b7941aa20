theorem kd_num {a : Nat} (h : a < 10000000) : kdOf 1 (lN a) = if a ≤ 1000000 then 3 else 1 := by
  unfold kdOf
  rw [if_neg (by decide), if_pos rfl, lN_toInt (by omega)]
  by_cases c : a ≤ 1000000
  · rw [if_pos c, if_pos (by omega)]
  · rw [if_neg c, if_neg (by omega)]
theorem kd_pt {a : Nat} (h : a < 10000000) : kdOf 2 (lN a) = if a ≤ 15 then 4 else 1 := by
  unfold kdOf
  rw [if_neg (by decide), if_neg (by decide), if_pos rfl, lN_toInt (by omega)]
  by_cases c : a ≤ 15
  · rw [if_pos c, if_pos (by omega)]
  · rw [if_neg c, if_neg (by omega)]
theorem num_eq {fu N k j : Nat} {sg tx kinds : Nat → Int32} {values : Nat → Int64} (hT : Tx N sg tx) (hfu : 1001 ≤ fu) (hk : k < N) (hd : f_Text_isDigit (tx k) = some 1) (hj : j < 1000) :
    ∃ k' mk mv, k < k' ∧ k' ≤ N ∧ (∀ kd am, ∃ kd' am', f_Text_readNumber fu (nI N) (nI k) kd am sg = some (nI k', kd', am') ∧ ∀ le, WR kd' am' le mk mv) ∧ f_Model_digits fu (nI N) (nI j) tx kinds values (nI k) 0 = some (nI k', nI (j + 1), upd kinds j mk, vp_updL values j mv) := by
  have hN := hT.1
  obtain ⟨l, a, x1, x2, x3, x4, x5, x6⟩ := dig_loop (fu := fu) (fr := k) (p2 := 0) (kont := (fun (l3_5x6 : Int32) (l4_5x7 : Int64) => (if (0 : Int32) = 0 then (if (l3_5x6 - nI k) ≤ 7 then ((f_Model_word (nI j) kinds values 1 l4_5x7).bind (fun t_10 => (some (l3_5x6, t_10.1, t_10.2.1, t_10.2.2)))) else ((f_Model_word (nI j) kinds values 1 9999999).bind (fun t_11 => (some (l3_5x6, t_11.1, t_11.2.1, t_11.2.2))))) else (if (l3_5x6 - nI k) < 1 then ((f_Model_word (nI j) kinds values 2 ((-1))).bind (fun t_13 => (some (l3_5x6, t_13.1, t_13.2.1, t_13.2.2)))) else (if (l3_5x6 - nI k) ≤ 2 then ((f_Model_word (nI j) kinds values 2 l4_5x7).bind (fun t_15 => (some (l3_5x6, t_15.1, t_15.2.1, t_15.2.2)))) else ((f_Model_word (nI j) kinds values 2 ((-1))).bind (fun t_16 => (some (l3_5x6, t_16.1, t_16.2.1, t_16.2.2))))))))) hT fu 0 0 (by omega) (by omega) (by decide) (fun _ => by decide)
  have hl : 0 < l := x6 hk hd
  have hm : f_Model_digits fu (nI N) (nI j) tx kinds values (nI k) 0 = (if nI l ≤ 7 then some (nI (k + l), nI (j + 1), upd kinds j 1, vp_updL values j (lN a)) else some (nI (k + l), nI (j + 1), upd kinds j 1, vp_updL values j 9999999)) := by
    unfold f_Model_digits
    refine x5.trans ?_
    simp only [word_m hj, Option.bind_some, pk_sub (show k ≤ k + l by omega), show k + l - k = l by omega]
    rw [if_pos trivial]
  have hc : ∀ kd am, f_Text_readNumber fu (nI N) (nI k) kd am sg = (if 7 < nI l then (some (nI (k + l), 1, nI a)) else (if 1000000 < nI a then (some (nI (k + l), 1, nI a)) else (some (nI (k + l), 3, nI a)))) := by
    intro kd am
    have x4' : L_Text_readDigits_7 fu (nI N) sg fu 0 (nI k) 0 = some (nI l, nI (k + l), nI a) := x4
    unfold f_Text_readNumber f_Text_readDigits
    rw [x4']
    rfl
  rcases Nat.lt_or_ge 7 l with h | h
  · have e1 : (7 : Int32) < nI l := nI_lt (a := 7) h (by omega)
    have e2 : ¬ nI l ≤ (7 : Int32) := nI_ge (a := 7) h (by omega)
    rw [if_neg e2] at hm
    refine ⟨k + l, 1, 9999999, by omega, x2, fun kd am => ⟨1, nI a, ?_, fun le => ⟨by decide, fun q => absurd q (by decide), fun q => absurd q (by decide)⟩⟩, hm⟩
    rw [hc kd am, if_pos e1]
  · have e1 : ¬ (7 : Int32) < nI l := nI_nlt (a := 7) h (by decide)
    have e2 : nI l ≤ (7 : Int32) := nI_le (b := 7) h (by decide)
    rw [if_pos e2] at hm
    refine ⟨k + l, 1, lN a, by omega, x2, fun kd am => ?_, hm⟩
    rw [hc kd am, if_neg e1]
    rcases Nat.lt_or_ge 1000000 a with g | g
    · have e3 : (1000000 : Int32) < nI a := nI_lt (a := 1000000) g (by omega)
      rw [if_pos e3]
      exact ⟨1, nI a, rfl, fun le => ⟨by rw [kd_num x3, if_neg (by omega)], fun q => absurd q (by decide), fun q => absurd q (by decide)⟩⟩
    · have e3 : ¬ (1000000 : Int32) < nI a := nI_nlt (a := 1000000) g (by decide)
      rw [if_neg e3]
      exact ⟨3, nI a, rfl, fun le => ⟨by rw [kd_num x3, if_pos g], fun q => absurd q (by decide), fun _ => ⟨a, g, rfl, rfl⟩⟩⟩
theorem point_eq {fu N k j : Nat} {sg tx kinds : Nat → Int32} {values : Nat → Int64} (hT : Tx N sg tx) (hfu : 1001 ≤ fu) (hk : k < N) (hj : j < 1000) :
    ∃ k' mk mv, k < k' ∧ k' ≤ N ∧ (∀ kd am, ∃ kd' am', f_Text_readPoint fu (nI N) (nI k) kd am sg = some (nI k', kd', am') ∧ ∀ le, WR kd' am' le mk mv) ∧ f_Model_digits fu (nI N) (nI j) tx kinds values (nI (k + 1)) 1 = some (nI k', nI (j + 1), upd kinds j mk, vp_updL values j mv) := by
  have hN := hT.1
  obtain ⟨l, a, x1, x2, x3, x4, x5, x6⟩ := dig_loop (fu := fu) (fr := k + 1) (p2 := 1) (kont := (fun (l3_5x6 : Int32) (l4_5x7 : Int64) => (if (1 : Int32) = 0 then (if (l3_5x6 - nI (k + 1)) ≤ 7 then ((f_Model_word (nI j) kinds values 1 l4_5x7).bind (fun t_10 => (some (l3_5x6, t_10.1, t_10.2.1, t_10.2.2)))) else ((f_Model_word (nI j) kinds values 1 9999999).bind (fun t_11 => (some (l3_5x6, t_11.1, t_11.2.1, t_11.2.2))))) else (if (l3_5x6 - nI (k + 1)) < 1 then ((f_Model_word (nI j) kinds values 2 ((-1))).bind (fun t_13 => (some (l3_5x6, t_13.1, t_13.2.1, t_13.2.2)))) else (if (l3_5x6 - nI (k + 1)) ≤ 2 then ((f_Model_word (nI j) kinds values 2 l4_5x7).bind (fun t_15 => (some (l3_5x6, t_15.1, t_15.2.1, t_15.2.2)))) else ((f_Model_word (nI j) kinds values 2 ((-1))).bind (fun t_16 => (some (l3_5x6, t_16.1, t_16.2.1, t_16.2.2))))))))) hT fu 0 0 (by omega) (by omega) (by decide) (fun _ => by decide)
  have n10 : ¬ (1 : Int32) = 0 := by decide
  have hm : f_Model_digits fu (nI N) (nI j) tx kinds values (nI (k + 1)) 1 = (if nI l < 1 then some (nI (k + 1 + l), nI (j + 1), upd kinds j 2, vp_updL values j (-1)) else if nI l ≤ 2 then some (nI (k + 1 + l), nI (j + 1), upd kinds j 2, vp_updL values j (lN a)) else some (nI (k + 1 + l), nI (j + 1), upd kinds j 2, vp_updL values j (-1))) := by
    unfold f_Model_digits
    refine x5.trans ?_
    simp only [word_m hj, Option.bind_some, pk_sub (show k + 1 ≤ k + 1 + l by omega), show k + 1 + l - (k + 1) = l by omega]
    rw [if_neg n10]
  have hc : ∀ kd am, f_Text_readPoint fu (nI N) (nI k) kd am sg = (if nI l ≤ 0 then (some (nI (k + 1 + l), 1, nI a)) else (if 2 < nI l then (some (nI (k + 1 + l), 1, nI a)) else ((f_FaultRules_isPoint (nI a)).bind (fun t_6 => (if t_6 = 0 then (some (nI (k + 1 + l), 1, nI a)) else (some (nI (k + 1 + l), 4, nI a))))))) := by
    intro kd am
    have x4' : L_Text_readDigits_7 fu (nI N) sg fu 0 (nI (k + 1)) 0 = some (nI l, nI (k + 1 + l), nI a) := x4
    unfold f_Text_readPoint f_Text_readDigits
    rw [nI_1, x4']
    rfl
  have bad : kdOf 2 (-1) = 1 := by decide
  rcases Nat.lt_or_ge l 1 with h | h
  · have e1 : nI l < (1 : Int32) := nI_lt (b := 1) h (by decide)
    have e2 : nI l ≤ (0 : Int32) := nI_le (b := 0) (by omega) (by decide)
    rw [if_pos e1] at hm
    refine ⟨k + 1 + l, 2, -1, by omega, x2, fun kd am => ⟨1, nI a, ?_, fun le => ⟨bad.symm, fun q => absurd q (by decide), fun q => absurd q (by decide)⟩⟩, hm⟩
    rw [hc kd am, if_pos e2]
  · have e1 : ¬ nI l < (1 : Int32) := nI_nlt (b := 1) h (by omega)
    have e2 : ¬ nI l ≤ (0 : Int32) := nI_ge (a := 0) (by omega) (by omega)
    rw [if_neg e1] at hm
    rcases Nat.lt_or_ge 2 l with g | g
    · have e3 : (2 : Int32) < nI l := nI_lt (a := 2) g (by omega)
      have e4 : ¬ nI l ≤ (2 : Int32) := nI_ge (a := 2) g (by omega)
      rw [if_neg e4] at hm
      refine ⟨k + 1 + l, 2, -1, by omega, x2, fun kd am => ⟨1, nI a, ?_, fun le => ⟨bad.symm, fun q => absurd q (by decide), fun q => absurd q (by decide)⟩⟩, hm⟩
      rw [hc kd am, if_neg e2, if_pos e3]
    · have e3 : ¬ (2 : Int32) < nI l := nI_nlt (a := 2) g (by decide)
      have e4 : nI l ≤ (2 : Int32) := nI_le (b := 2) g (by decide)
      rw [if_pos e4] at hm
      refine ⟨k + 1 + l, 2, lN a, by omega, x2, fun kd am => ?_, hm⟩
      rw [hc kd am, if_neg e2, if_neg e3]
      unfold f_FaultRules_isPoint
      rw [if_neg (nI_pos (by omega))]
      rcases Nat.lt_or_ge a 16 with y | y
      · have e5 : ¬ (16 : Int32) ≤ nI a := nI_ge (b := 16) y (by decide)
        rw [if_neg e5]
        exact ⟨4, nI a, rfl, fun le => ⟨by rw [kd_pt x3, if_pos (by omega)], fun q => absurd q (by decide), fun _ => ⟨a, by omega, rfl, rfl⟩⟩⟩
      · have e5 : (16 : Int32) ≤ nI a := nI_le (a := 16) y (by omega)
        rw [if_pos e5]
        exact ⟨1, nI a, rfl, fun le => ⟨by rw [kd_pt x3, if_neg (by omega)], fun q => absurd q (by decide), fun q => absurd q (by decide)⟩⟩
theorem kd_let (v : Int64) : f_Text_kindOfLetters v = some (kdOf 0 v) := by
  unfold f_Text_kindOfLetters kdOf
  simp only [lg0]
  rw [if_pos trivial]
  by_cases h1 : v = 7381243658609098752
  · rw [if_pos h1, if_pos h1]
  rw [if_neg h1, if_neg h1]
  by_cases h2 : v = 7165072476152528896
  · rw [if_pos h2, if_pos h2]
  rw [if_neg h2, if_neg h2]
  by_cases h3 : v = 8319403481517522944
  · rw [if_pos h3, if_pos h3]
  rw [if_neg h3, if_neg h3]
  by_cases h4 : v = 7671157868099272704
  · rw [if_pos h4, if_pos h4]
  rw [if_neg h4, if_neg h4]
  by_cases h5 : v = 8316297369816924160
  · rw [if_pos h5, if_pos h5]
  rw [if_neg h5, if_neg h5]
theorem kd0_n3 (v : Int64) : ¬ (kdOf 0 v = 3 ∨ kdOf 0 v = 4) := by
  unfold kdOf
  rw [if_pos (show (0 : Int32) = 0 from rfl)]
  split
  · decide
  split
  · decide
  split
  · decide
  split
  · decide
  split <;> decide
theorem lets_eq {fu N k j : Nat} {sg tx kinds : Nat → Int32} {values : Nat → Int64} (hT : Tx N sg tx) (hfu : 1001 ≤ fu) (hk : k < N) (hd : f_Text_isLetter (tx k) = some 1) (hj : j < 1000) :
    ∃ k' mk mv, k < k' ∧ k' ≤ N ∧ (∀ kd le, ∃ kd' le', f_Text_readLetters fu (nI N) (nI k) kd le sg = some (nI k', kd', le') ∧ ∀ am, WR kd' am le' mk mv) ∧ f_Model_letters fu (nI N) (nI j) tx kinds values (nI k) = some (nI k', nI (j + 1), upd kinds j mk, vp_updL values j mv) := by
  have hN := hT.1
  obtain ⟨l, v, x1, x2, x4, x5, x6⟩ := let_loop (fu := fu) (fr := k) (kx := (fun (l1_7x7 : Int32) (v_at_7x8 : Int32) (v_letters_7x9 : Int64) => (if 8 < l1_7x7 then (some (v_at_7x8, 1, v_letters_7x9)) else ((f_Text_kindOfLetters v_letters_7x9).bind (fun t_11 => (some (v_at_7x8, t_11, v_letters_7x9))))))) (km := (fun (l2_4x6 : Int32) (l3_4x7 : Int64) => (if (l2_4x6 - nI k) ≤ 8 then ((f_Model_word (nI j) kinds values 0 l3_4x7).bind (fun t_9 => (some (l2_4x6, t_9.1, t_9.2.1, t_9.2.2)))) else ((f_Model_word (nI j) kinds values 9 l3_4x7).bind (fun t_10 => (some (l2_4x6, t_10.1, t_10.2.1, t_10.2.2))))))) hT fu 0 0 (by omega) (by omega)
  have hl : 0 < l := x6 hk hd
  have hm : f_Model_letters fu (nI N) (nI j) tx kinds values (nI k) = (if nI l ≤ 8 then some (nI (k + l), nI (j + 1), upd kinds j 0, vp_updL values j v) else some (nI (k + l), nI (j + 1), upd kinds j 9, vp_updL values j v)) := by
    unfold f_Model_letters
    refine x5.trans ?_
    simp only [word_m hj, Option.bind_some, pk_sub (show k ≤ k + l by omega), show k + l - k = l by omega]
  have hc : ∀ kd le, f_Text_readLetters fu (nI N) (nI k) kd le sg = (if 8 < nI l then (some (nI (k + l), 1, v)) else (some (nI (k + l), kdOf 0 v, v))) := by
    intro kd le
    unfold f_Text_readLetters
    refine x4.trans ?_
    simp only [kd_let, Option.bind_some]
  rcases Nat.lt_or_ge 8 l with h | h
  · have e1 : (8 : Int32) < nI l := nI_lt (a := 8) h (by omega)
    have e2 : ¬ nI l ≤ (8 : Int32) := nI_ge (a := 8) h (by omega)
    rw [if_neg e2] at hm
    refine ⟨k + l, 9, v, by omega, x2, fun kd le => ⟨1, v, ?_, fun am => ⟨rfl, fun q => absurd q (by decide), fun q => absurd q (by decide)⟩⟩, hm⟩
    rw [hc kd le, if_pos e1]
  · have e1 : ¬ (8 : Int32) < nI l := nI_nlt (a := 8) h (by decide)
    have e2 : nI l ≤ (8 : Int32) := nI_le (b := 8) h (by decide)
    rw [if_pos e2] at hm
    refine ⟨k + l, 0, v, by omega, x2, fun kd le => ⟨kdOf 0 v, v, ?_, fun am => ⟨rfl, fun _ => rfl, fun q => absurd q (kd0_n3 v)⟩⟩, hm⟩
    rw [hc kd le, if_neg e1]
theorem sgn_c : ∀ c, c < 127 → f_Text_kindOfSign (nI c) = some (kdOf (mkS (nI c)) (lN c)) ∧ ¬ (kdOf (mkS (nI c)) (lN c) = 3 ∨ kdOf (mkS (nI c)) (lN c) = 4) ∧ ¬ mkS (nI c) = 0 := by decide +kernel
theorem sgn_m {w p x : Int32} {kinds : Nat → Int32} {values : Nat → Int64} : J_Model_sign_35 w kinds values p x 0 = (f_Model_word w kinds values (mkS x) (x.toInt64)).bind (fun t => some (p + 1, t.1, t.2.1, t.2.2)) := by
  unfold J_Model_sign_35 mkS
  by_cases h1 : x = 58
  · rw [if_pos h1, if_pos h1]; rfl
  rw [if_neg h1, if_neg h1]
  by_cases h1 : x = 38
  · rw [if_pos h1, if_pos h1]; rfl
  rw [if_neg h1, if_neg h1]
  by_cases h1 : x = 59
  · rw [if_pos h1, if_pos h1]; rfl
  rw [if_neg h1, if_neg h1]
  by_cases h1 : x = 45
  · rw [if_pos h1, if_pos h1]; rfl
  rw [if_neg h1, if_neg h1]
  by_cases h1 : x = 60
  · rw [if_pos h1, if_pos h1]; rfl
  rw [if_neg h1, if_neg h1]
  by_cases h1 : x = 61
  · rw [if_pos h1, if_pos h1]; rfl
  rw [if_neg h1, if_neg h1]
  by_cases h1 : x = 62
  · rw [if_pos h1, if_pos h1]; rfl
  rw [if_neg h1, if_neg h1]
  rfl
theorem sign_eq {N k j : Nat} {sg tx kinds : Nat → Int32} {values : Nat → Int64} (hT : Tx N sg tx) (hk : k < N) (hj : j < 1000) :
    ∃ k' mk mv, k < k' ∧ k' ≤ N ∧ (∀ kd, ∃ kd', f_Text_readSign (nI N) (nI k) kd sg (tx k) = some (nI k', kd') ∧ ∀ am le, WR kd' am le mk mv) ∧ f_Model_sign (nI N) (nI j) tx kinds values (nI k) = some (nI k', nI (j + 1), upd kinds j mk, vp_updL values j mv) := by
  have hN := hT.1
  obtain ⟨c, c1, c2, c3, c4, c5, c6⟩ := sg_in hT hk
  obtain ⟨s1, s2, s3⟩ := sgn_c c (by omega)
  -- a sign alone
  have one : f_Model_sign (nI N) (nI j) tx kinds values (nI k) = J_Model_sign_35 (nI j) kinds values (nI k) (nI c) 0 → (∀ kd, f_Text_readSign (nI N) (nI k) kd sg (tx k) = (f_Text_kindOfSign (nI c)).bind (fun t_3 => (some (nI (k + 1), t_3)))) → ∃ k' mk mv, k < k' ∧ k' ≤ N ∧ (∀ kd, ∃ kd', f_Text_readSign (nI N) (nI k) kd sg (tx k) = some (nI k', kd') ∧ ∀ am le, WR kd' am le mk mv) ∧ f_Model_sign (nI N) (nI j) tx kinds values (nI k) = some (nI k', nI (j + 1), upd kinds j mk, vp_updL values j mv) := by
    intro h1 h2
    refine ⟨k + 1, mkS (nI c), lN c, by omega, by omega, fun kd => ⟨kdOf (mkS (nI c)) (lN c), ?_, fun am le => ⟨rfl, fun q => absurd q s3, fun q => absurd q s2⟩⟩, ?_⟩
    · rw [h2 kd, s1]; rfl
    · rw [h1, sgn_m, word_m hj, nI_l (by omega), nI_1]; rfl
  -- the next character
  have nx : (k + 1 < N ∧ ∃ d, d ≤ 126 ∧ f_Text_signAt (nI N) sg (nI (k + 1)) = some (nI d) ∧ f_Model_letter (nI N) tx (nI (k + 1)) = some (nI d)) ∨ (f_Text_signAt (nI N) sg (nI (k + 1)) = some 32 ∧ f_Model_letter (nI N) tx (nI (k + 1)) = some 0) := by
    rcases Nat.lt_or_ge (k + 1) N with h | h
    · obtain ⟨d, d1, d2, d3, d4, d5, d6⟩ := sg_in hT h
      exact Or.inl ⟨h, d, d2, d5, d6⟩
    · exact Or.inr (sg_out h (by omega))
  have two : ∀ (y : Int64) (q : Int32), k + 1 < N → (nI c = 60 ∧ y = 316 ∧ q = 12) ∨ (nI c = 62 ∧ y = 318 ∧ q = 14) → f_Text_signAt (nI N) sg (nI (k + 1)) = some 61 → f_Model_letter (nI N) tx (nI (k + 1)) = some 61 → ∃ k' mk mv, k < k' ∧ k' ≤ N ∧ (∀ kd, ∃ kd', f_Text_readSign (nI N) (nI k) kd sg (tx k) = some (nI k', kd') ∧ ∀ am le, WR kd' am le mk mv) ∧ f_Model_sign (nI N) (nI j) tx kinds values (nI k) = some (nI k', nI (j + 1), upd kinds j mk, vp_updL values j mv) := by
    intro y q hk1 hc h1 h2
    refine ⟨k + 2, 3, y, by omega, by omega, fun kd => ⟨q, ?_, fun am le => ?_⟩, ?_⟩
    · unfold f_Text_readSign J_Text_readSign_28
      rw [c3, nI_1, h1]
      simp only [Option.bind_some]
      rw [if_pos trivial, nI_1]
      rcases hc with ⟨e1, e2, e3⟩ | ⟨e1, e2, e3⟩
      · rw [e1, e3]; rfl
      · rw [e1, e3]; rfl
    · rcases hc with ⟨e1, e2, e3⟩ | ⟨e1, e2, e3⟩
      · rw [e2, e3]; exact ⟨by decide, fun q => absurd q (by decide), fun q => absurd q (by decide)⟩
      · rw [e2, e3]; exact ⟨by decide, fun q => absurd q (by decide), fun q => absurd q (by decide)⟩
    · have a2 : nI k + 2 = nI (k + 2) := nI_add k 2
      unfold f_Model_sign
      rw [c6]
      simp only [Option.bind_some]
      rw [nI_1, h2]
      rcases hc with ⟨e1, e2, e3⟩ | ⟨e1, e2, e3⟩
      · rw [e1, if_pos rfl]
        have z : ((60 : Int32).toInt64 + 256) = 316 := by decide
        show (f_Model_word (nI j) kinds values 3 ((60 : Int32).toInt64 + 256)).bind (fun t_5 => some (nI k + 2, t_5.1, t_5.2.1, t_5.2.2)) = _
        rw [word_m hj, z, e2, a2]
        rfl
      · rw [e1, if_neg (by decide), if_pos rfl]
        have z : ((62 : Int32).toInt64 + 256) = 318 := by decide
        show (f_Model_word (nI j) kinds values 3 ((62 : Int32).toInt64 + 256)).bind (fun t_5 => some (nI k + 2, t_5.1, t_5.2.1, t_5.2.2)) = _
        rw [word_m hj, z, e2, a2]
        rfl
  have ms0 : (∀ x, f_Model_letter (nI N) tx (nI (k + 1)) = some x → ¬ x = 61) → f_Model_sign (nI N) (nI j) tx kinds values (nI k) = J_Model_sign_35 (nI j) kinds values (nI k) (nI c) 0 := by
    intro hx
    have hl : ∃ x, f_Model_letter (nI N) tx (nI (k + 1)) = some x := by
      rcases nx with ⟨-, d, -, -, d3⟩ | ⟨-, d3⟩
      · exact ⟨_, d3⟩
      · exact ⟨_, d3⟩
    obtain ⟨x, hx2⟩ := hl
    have hx3 := hx x hx2
    unfold f_Model_sign
    rw [c6]
    simp only [Option.bind_some]
    rw [nI_1, hx2]
    simp only [Option.bind_some]
    rw [if_neg hx3]
    by_cases e1 : nI c = 60
    · rw [if_pos e1]
    · rw [if_neg e1]
      by_cases e2 : nI c = 62
      · rw [if_pos e2]
      · rw [if_neg e2]
  have cs0 : (∀ x, f_Text_signAt (nI N) sg (nI (k + 1)) = some x → ¬ x = 61) → ∀ kd, f_Text_readSign (nI N) (nI k) kd sg (tx k) = (f_Text_kindOfSign (nI c)).bind (fun t_3 => (some (nI (k + 1), t_3))) := by
    intro hx kd
    have hl : ∃ x, f_Text_signAt (nI N) sg (nI (k + 1)) = some x := by
      rcases nx with ⟨-, d, -, d3, -⟩ | ⟨d3, -⟩
      · exact ⟨_, d3⟩
      · exact ⟨_, d3⟩
    obtain ⟨x, hx2⟩ := hl
    unfold f_Text_readSign J_Text_readSign_28
    rw [c3, nI_1, hx2]
    simp only [Option.bind_some]
    rw [if_neg (hx x hx2), if_pos trivial]
  rcases nx with ⟨hk1, d, d1, d2, d3⟩ | ⟨d2, d3⟩
  · by_cases e : nI d = 61
    · rw [e] at d2 d3
      by_cases e1 : nI c = 60
      · exact two 316 12 hk1 (Or.inl ⟨e1, rfl, rfl⟩) d2 d3
      · by_cases e2 : nI c = 62
        · exact two 318 14 hk1 (Or.inr ⟨e2, rfl, rfl⟩) d2 d3
        · refine one ?_ (fun kd => ?_)
          · unfold f_Model_sign
            rw [c6]
            simp only [Option.bind_some]
            rw [if_neg e1, if_neg e2]
          · unfold f_Text_readSign J_Text_readSign_28
            rw [c3, nI_1, d2]
            simp only [Option.bind_some]
            rw [if_pos trivial, if_neg (show ¬ (1 : Int32) = 0 by decide), if_neg e1, if_neg e2]
    · exact one (ms0 (fun x hx => by rw [d3] at hx; rw [← Option.some.inj hx]; exact e)) (cs0 (fun x hx => by rw [d2] at hx; rw [← Option.some.inj hx]; exact e))
  · exact one (ms0 (fun x hx => by rw [d3] at hx; rw [← Option.some.inj hx]; decide)) (cs0 (fun x hx => by rw [d2] at hx; rw [← Option.some.inj hx]; decide))
