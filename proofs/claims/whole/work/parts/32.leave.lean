theorem nI_ne_m1 {j : Nat} (hj : j < 2 ^ 31) : ¬ nI j = (-1 : Int32) := by
  intro h
  have h1 : (nI j).toInt = (j : Int) := nI_toInt hj
  rw [h] at h1
  have h2 : (-1 : Int32).toInt = -1 := rfl
  omega
theorem st_leave {fu n : Nat} {cx cm p q th0 : Int32} {mi le : Nat → Int32} {out : Nat → Int64} (hfu : 101 ≤ fu) (hI : ILeft n cx cm mi le) :
    ∃ (k : Int32) (n' : Nat) (cx' : Int32) (mi' : Nat → Int32) (out' : Nat → Int64) (b cm' : Int32) (le' : Nat → Int32), f_Law_leave fu 1 cx mi out p q = some (k, cx', mi', out') ∧ f_Model_leave fu th0 cm le p q = some (b, k, cm', le') ∧ (k = 0 → (b = 0 → out' 0 = 0) ∧ (¬ b = 0 → out' 0 = 1)) ∧ ILeft n' cx' cm' mi' le' := by
  rcases Int32.lt_or_le p 0 with hp | hp
  · refine ⟨1, n, cx, mi, out, 0, cm, le, ?_, ?_, fun h => absurd h (by decide), hI⟩
    · simp [f_Law_leave, f_FaultRules_leave, isMinute_c, hp]
    · simp [f_Model_leave, isMinute_m, hp, J_Model_leave_13]
  rcases Int32.lt_or_le 100000 p with hp2 | hp2
  · have hp' : ¬ p < 0 := Int32.not_lt.mpr hp
    refine ⟨1, n, cx, mi, out, 0, cm, le, ?_, ?_, fun h => absurd h (by decide), hI⟩
    · simp [f_Law_leave, f_FaultRules_leave, isMinute_c, hp', hp2]
    · simp [f_Model_leave, isMinute_m, hp', hp2, J_Model_leave_13]
  have hp' : ¬ p < 0 := Int32.not_lt.mpr hp
  have hp2' : ¬ 100000 < p := Int32.not_lt.mpr hp2
  have hl := left_loop (v := p) (fu1 := fu) (fu2 := fu) hI fu 0 (Nat.zero_le n) (by have := hI.1; omega)
  obtain ⟨hn, rfl, rfl, he⟩ := id hI
  rcases hl with ⟨j, -, g2, g3, g4, g5⟩ | ⟨g1, g2, g3⟩
  · have h4 : f_LeftOut_placeOf fu (nI n) mi p = some (nI j) := g4
    have h5 : f_Model_leftAt fu (nI n) le p = some (nI j) := g5
    have hhas : f_LeftOut_has fu (nI n) mi p = some 1 := by
      unfold f_LeftOut_has; rw [h4]; simp [nI_ne_m1 (show j < 2 ^ 31 by omega)]
    have hlt : ¬ nI n ≤ nI j := fun h => absurd ((nI_leI (by omega) (by omega)).mp h) (by omega)
    by_cases hq : q = 0
    · have hm1 : nI n - 1 = nI (n - 1) := by
        have := pk_sub (a := n) (b := 1) (by omega)
        exact this
      have hrem : f_LeftOut_remove fu (nI n) mi p = some (nI (n - 1), upd mi j (mi (n - 1))) := by
        unfold f_LeftOut_remove
        rw [h4]
        simp only [Option.bind_some]
        rw [if_neg (nI_ne_m1 (show j < 2 ^ 31 by omega)), hm1, bd_nI (by omega) (by decide), bd_nI (by omega) (by decide), nI_clamp (show j < 2 ^ 31 by omega), nI_clamp (show n - 1 < 2 ^ 31 by omega)]
      refine ⟨0, n - 1, nI (n - 1), upd mi j (mi (n - 1)), vp_updL out 0 1, 1, nI (n - 1), upd le j (le (n - 1)), ?_, ?_, ?_, ?_⟩
      · simp [f_Law_leave, f_FaultRules_leave, isMinute_c, hp', hp2', hhas, hq, hrem, zb_1, bd_01]
      · simp [f_Model_leave, isMinute_m, hp', hp2', J_Model_leave_13, h5, hlt, J_Model_leave_44, hq, zb_1]
        rw [hm1, bd_nI (by omega) (by decide), bd_nI (by omega) (by decide), nI_clamp (show j < 2 ^ 31 by omega), nI_clamp (show n - 1 < 2 ^ 31 by omega)]
      · intro _
        exact ⟨fun h => absurd h (by decide), fun _ => pk_uLs⟩
      · refine ⟨by omega, rfl, rfl, fun i hi => ?_⟩
        by_cases hij : i = j
        · subst hij; rw [pk_us, pk_us]; exact he _ (by omega)
        · rw [pk_un hij, pk_un hij]; exact he i (by omega)
    · refine ⟨0, n, nI n, mi, vp_updL out 0 1, 1, nI n, le, ?_, ?_, ?_, hI⟩
      · simp [f_Law_leave, f_FaultRules_leave, isMinute_c, hp', hp2', hhas, hq, zb_1, bd_01]
      · simp [f_Model_leave, isMinute_m, hp', hp2', J_Model_leave_13, h5, hlt, J_Model_leave_44, hq, zb_1]
      · intro _
        exact ⟨fun h => absurd h (by decide), fun _ => pk_uLs⟩
  · have h4 : f_LeftOut_placeOf fu (nI n) mi p = some (-1) := g2
    have h5 : f_Model_leftAt fu (nI n) le p = some (nI n) := g3
    have hhas : f_LeftOut_has fu (nI n) mi p = some 0 := by
      unfold f_LeftOut_has; rw [h4]; simp
    have hle : nI n ≤ nI n := nI_le (Nat.le_refl n) (by omega)
    by_cases hq : q = 0
    · refine ⟨0, n, nI n, mi, vp_updL out 0 0, 0, nI n, le, ?_, ?_, ?_, hI⟩
      · simp [f_Law_leave, f_FaultRules_leave, isMinute_c, hp', hp2', hhas, hq, zb_0, bd_01]
      · simp [f_Model_leave, isMinute_m, hp', hp2', J_Model_leave_13, h5, hle, J_Model_leave_44, hq, zb_0]
      · intro _
        exact ⟨fun _ => pk_uLs, fun h => absurd rfl h⟩
    · rcases Nat.lt_or_ge n 100 with h100 | h100
      · have hfull : f_LeftOut_isFull (nI n) = some 0 := by
          unfold f_LeftOut_isFull
          have h9 : nI n < (100 : Int32) := (nI_ltI (b := 100) (by omega) (by decide)).mpr h100
          rw [if_pos h9]
        have hadd : f_LeftOut_add (nI n) mi p = some (nI (n + 1), upd mi n p) := by
          unfold f_LeftOut_add
          rw [bd_nI h100 (by decide), nI_1, nI_clamp (by omega)]
        have hne : ¬ nI n = 100 := fun h => absurd ((nI_eq (b := 100) (by omega) (by decide)).mp h) (by omega)
        refine ⟨0, n + 1, nI (n + 1), upd mi n p, vp_updL out 0 0, 0, nI (n + 1), upd le n p, ?_, ?_, ?_, ?_⟩
        · simp [f_Law_leave, f_FaultRules_leave, isMinute_c, hp', hp2', hhas, hq, zb_0, bd_01, hfull, hadd]
        · simp [f_Model_leave, isMinute_m, hp', hp2', J_Model_leave_13, h5, hle, J_Model_leave_44, hq, zb_0, hne, J_Model_leave_70]
          rw [bd_nI h100 (by decide), nI_1, nI_clamp (by omega)]
        · intro _
          exact ⟨fun _ => pk_uLs, fun h => absurd rfl h⟩
        · refine ⟨by omega, rfl, rfl, fun i hi => ?_⟩
          by_cases hij : i = n
          · subst hij; rw [pk_us, pk_us]
          · rw [pk_un hij, pk_un hij]; exact he i (by omega)
      · have : n = 100 := by omega
        subst this
        have hfull : f_LeftOut_isFull (nI 100) = some 1 := by decide
        refine ⟨2, 100, nI 100, mi, out, 0, nI 100, le, ?_, ?_, fun h => absurd h (by decide), hI⟩
        · simp [f_Law_leave, f_FaultRules_leave, isMinute_c, hp', hp2', hhas, hq, hfull]
        · have hne : nI 100 = 100 := rfl
          have h5' : f_Model_leftAt fu 100 le p = some 100 := h5
          have hle' : (100 : Int32) ≤ 100 := hle
          simp [f_Model_leave, isMinute_m, hp', hp2', J_Model_leave_13, h5', hle', J_Model_leave_44, hq, zb_0, hne, J_Model_leave_70]
