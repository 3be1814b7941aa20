-- the rules that stand
def IRules (rc : Nat) (cc : Int32) (nm : Nat → Int64) (sp co si ki fi se nu : Nat → Int32) (mc : Int32) (mnm : Nat → Int64) (mt mm mco so mf ms re mn : Nat → Int32) : Prop :=
  rc ≤ 6 ∧ cc = nI rc ∧ mc = nI rc ∧
  (∀ r, r < rc → nm r = mnm r ∧ sp r = mm r ∧ co r = mco r ∧ si r = mt r ∧ (∃ s, 1 ≤ s ∧ s ≤ 9999 ∧ mm r = nI s) ∧ (∃ s, 1 ≤ s ∧ s ≤ 9999 ∧ mco r = nI s) ∧ (∃ z, 1 ≤ z ∧ z ≤ 6 ∧ mt r = nI z ∧ ∀ k, k < z → ITest (6 * r + k) ki fi se nu so mf ms re mn)) ∧
  (∀ r r', r < rc → r' < rc → mnm r = mnm r' → r = r')
theorem st_holds {n rc : Nat} {S σ P M : Nat → Nat} {mi va st : Nat → Int32} {rw cc mc : Int32} {rp rm rv : Nat → Int32} {nm mnm : Nat → Int64} {sn la be sp co si ki fi se nu mt mm mco so mf ms re mn : Nat → Int32} {out : Nat → Int64} {fu : Nat} {th0 p q w : Int32} (hI : IRows n S σ P M mi va st rw rp rm rv) (hR : IRules rc cc nm sp co si ki fi se nu mc mnm mt mm mco so mf ms re mn) (hfu : 121 ≤ fu) :
    ∃ (k : Int32) (sn' : Nat → Int32) (out' : Nat → Int64) (b : Int32) (la' be' : Nat → Int32), f_Law_holds fu 1 mi va st sn cc si ki fi se nu out p q w = some (k, sn', out') ∧ f_Model_holds fu th0 rw mc rp rm rv mt so mf ms re mn la be p q w = some (b, k, la', be') ∧ (k = 0 → (b = 0 → out' 0 = 0) ∧ (¬ b = 0 → out' 0 = 1)) := by
  obtain ⟨r1, rfl, rfl, r4, -⟩ := hR
  have n10 : ¬ (1 : Int32) = 0 := by decide
  have bad : f_FaultRules_holds fu mi va st sn (nI rc) si ki fi se nu p q w = some (1, 0, sn) → f_Model_holds fu th0 rw (nI rc) rp rm rv mt so mf ms re mn la be p q w = some (0, 1, la, be) → ∃ (k : Int32) (sn' : Nat → Int32) (out' : Nat → Int64) (b : Int32) (la' be' : Nat → Int32), f_Law_holds fu 1 mi va st sn (nI rc) si ki fi se nu out p q w = some (k, sn', out') ∧ f_Model_holds fu th0 rw (nI rc) rp rm rv mt so mf ms re mn la be p q w = some (b, k, la', be') ∧ (k = 0 → (b = 0 → out' 0 = 0) ∧ (¬ b = 0 → out' 0 = 1)) := by
    intro h1 h2
    refine ⟨1, sn, out, 0, la, be, ?_, h2, fun h => absurd h (by decide)⟩
    unfold f_Law_holds
    rw [h1]
    rfl
  have jb : J_Model_holds_39 fu th0 rw rp rm rv so mf ms re mn la be p q w 1 = some (0, 1, la, be) := rfl
  by_cases h1 : p < 0
  · exact bad (by unfold f_FaultRules_holds; rw [if_pos h1]) (by unfold f_Model_holds; rw [if_pos h1, jb])
  by_cases h2 : nI rc ≤ p
  · exact bad (by unfold f_FaultRules_holds; rw [if_neg h1, if_pos h2]) (by unfold f_Model_holds; rw [if_neg h1, if_pos h2, jb])
  by_cases h3 : q < 0
  · exact bad (by unfold f_FaultRules_holds; rw [if_neg h1, if_neg h2, if_pos h3]) (by unfold f_Model_holds; rw [if_neg h1, if_neg h2, if_pos h3, jb])
  obtain ⟨r, hr, rfl⟩ := nI_of h1
  obtain ⟨kk, hkk, rfl⟩ := nI_of h3
  have hrc : r < rc := Nat.lt_of_not_le (fun h => h2 (nI_le h (by omega)))
  obtain ⟨-, -, -, q4, -, -, z, z1, z2, z3, z4⟩ := r4 r hrc
  by_cases h4 : z ≤ kk
  · have h4' : nI z ≤ nI kk := nI_le h4 hkk
    exact bad (by unfold f_FaultRules_holds; rw [if_neg h1, if_neg h2, if_neg h3, bd_nI (by omega) (by decide), nI_clamp hr, q4, z3, if_pos h4']) (by unfold f_Model_holds; rw [if_neg h1, if_neg h2, if_neg h3, bd_nI (by omega) (by decide), nI_clamp hr, z3, if_pos h4', jb])
  have h4' : ¬ nI z ≤ nI kk := nI_ge (by omega) (by omega)
  have pre : f_FaultRules_holds fu mi va st sn (nI rc) si ki fi se nu (nI r) (nI kk) w = (if (if w < 0 then (0 : Int32) else if 100000 < w then 0 else 1) = 0 then (some (1, 0, sn)) else ((f_Rows_rewind fu sn).bind (fun t_8 => ((f_Rows_advance fu mi st t_8 w).bind (fun t_9 => ((f_RuleSet_testHolds ki fi se nu mi va st t_9 ((nI r * 6) + nI kk) w).bind (fun t_10 => (zb t_10 (some (0, t_10, t_9)))))))))) := by
    unfold f_FaultRules_holds
    rw [if_neg h1, if_neg h2, if_neg h3, bd_nI (by omega) (by decide), nI_clamp hr, q4, z3, if_neg h4', isMinute_c]
    rfl
  have prem : f_Model_holds fu th0 rw (nI rc) rp rm rv mt so mf ms re mn la be (nI r) (nI kk) w = (if (if w < 0 then (0 : Int32) else if 100000 < w then 0 else 1) = 0 then (J_Model_holds_39 fu th0 rw rp rm rv so mf ms re mn la be (nI r) (nI kk) w 1) else (J_Model_holds_39 fu th0 rw rp rm rv so mf ms re mn la be (nI r) (nI kk) w 0)) := by
    unfold f_Model_holds
    rw [if_neg h1, if_neg h2, if_neg h3, bd_nI (by omega) (by decide), nI_clamp hr, z3, if_neg h4', isMinute_m]
    rfl
  by_cases h5 : w < 0
  · have e : (if w < 0 then (0 : Int32) else if 100000 < w then 0 else 1) = 0 := by rw [if_pos h5]
    exact bad (by rw [pre, if_pos e]) (by rw [prem, if_pos e, jb])
  obtain ⟨t, ht, rfl⟩ := nI_of h5
  rcases Nat.lt_or_ge 100000 t with h6 | h6
  · have e3 : (100000 : Int32) < nI t := nI_lt (a := 100000) h6 ht
    have e : (if nI t < 0 then (0 : Int32) else if 100000 < nI t then 0 else 1) = 0 := by rw [if_neg h5, if_pos e3]
    exact bad (by rw [pre, if_pos e]) (by rw [prem, if_pos e, jb])
  have e3 : ¬ (100000 : Int32) < nI t := fun q => absurd ((nI_ltI (a := 100000) (by decide) ht).mp q) (by omega)
  have e : ¬ (if nI t < 0 then (0 : Int32) else if 100000 < nI t then 0 else 1) = 0 := by rw [if_neg h5, if_neg e3]; decide
  obtain ⟨se1, a1, a2⟩ := rew_c (σ := σ) (M := M) (se := sn) (t := t) hI.2.2.2.2.1 hfu
  obtain ⟨c, se2, a3, a4⟩ := adv_c hI h6 hfu a2
  obtain ⟨la', be', s1, s2⟩ := stand_m (la := la) (be := be) (fu := fu) hI h6 hfu
  have hT : nI r * 6 + nI kk = nI (6 * r + kk) := by
    have : nI r * 6 = nI (r * 6) := pk_mul r 6
    rw [this, nI_add, Nat.mul_comm]
  have hT' : 6 * nI r + nI kk = nI (6 * r + kk) := by
    have : 6 * nI r = nI (6 * r) := pk_mul 6 r
    rw [this, nI_add]
  obtain ⟨b, b1, b2, b3⟩ := test_eq hI h6 a4 s2 (show 6 * r + kk < 36 by omega) (z4 kk (by omega))
  have fin2 : ∀ {α : Type} (k : Option α), zb b k = k := by
    intro α k; rcases b1 with rfl | rfl
    · exact zb_0
    · exact zb_1
  have hc : f_FaultRules_holds fu mi va st sn (nI rc) si ki fi se nu (nI r) (nI kk) (nI t) = some (0, b, se2) := by
    rw [pre, if_neg e, a1, hT]
    simp only [Option.bind_some]
    rw [a3]
    simp only [Option.bind_some]
    rw [b2]
    simp only [Option.bind_some]
    exact fin2 _
  have hm : f_Model_holds fu th0 rw (nI rc) rp rm rv mt so mf ms re mn la be (nI r) (nI kk) (nI t) = some (b, 0, la', be') := by
    rw [prem, if_neg e]
    unfold J_Model_holds_39
    rw [if_pos (by decide), s1, hT']
    simp only [Option.bind_some]
    rw [b3]
    simp only [Option.bind_some]
    exact fin2 _
  unfold f_Law_holds
  rw [hc, hm]
  rcases b1 with rfl | rfl
  · refine ⟨0, se2, vp_updL out 0 0, 0, la', be', ?_, rfl, fun _ => ⟨fun _ => pk_uLs, fun h => absurd rfl h⟩⟩
    show bd 0 1 _ = _
    rw [bd_01]
    rfl
  · refine ⟨0, se2, vp_updL out 0 1, 1, la', be', ?_, rfl, fun _ => ⟨fun h => absurd h n10, fun _ => pk_uLs⟩⟩
    show bd 0 1 _ = _
    rw [bd_01]
    rfl
