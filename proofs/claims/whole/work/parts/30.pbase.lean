-- PURE: first rows over the written functions
theorem bd_ok {α : Type} {i : Int32} {n : Nat} {k : Option α} (h : vp_in i n) : bd i n k = k := by
  unfold bd
  exact if_neg h
theorem bd_nI {α : Type} {j n : Nat} {k : Option α} (h : j < n) (hn : n < 2 ^ 31) : bd (nI j) n k = k := bd_ok (vp_in_nI h hn)
theorem bd_01 {α : Type} {k : Option α} : bd 0 1 k = k := bd_nI (j := 0) (by decide) (by decide)
theorem lg_eq {x y : Int64} (h : x = y) : lg_cmp x y = 0 := by
  subst h
  unfold lg_cmp
  rw [if_neg (by simp), if_pos rfl]
theorem cl0 : (0 : Int32).toNatClampNeg = 0 := rfl
theorem zb_0 {α : Type} {k : Option α} : zb 0 k = k := by unfold zb; exact if_pos (by decide)
theorem zb_1 {α : Type} {k : Option α} : zb 1 k = k := by unfold zb; exact if_pos (by decide)
-- the causes' sets
abbrev ICause (br bg : Nat → Int32) : Prop := ∀ j, j < 10 → br j = bg j
theorem st_cause {br bg : Nat → Int32} {out : Nat → Int64} {th0 p q : Int32} (hI : ICause br bg) :
    ∃ (k : Int32) (br' : Nat → Int32) (out' : Nat → Int64) (b : Int32) (bg' : Nat → Int32), f_Law_cause 1 br out p q = some (k, br', out') ∧ f_Model_cause th0 bg p q = some (b, k, bg') ∧ (k = 0 → out' 0 = b.toInt64) ∧ ICause br' bg' := by
  have bad : f_FaultRules_cause br p q = some (1, 0, br) → f_Model_cause th0 bg p q = some (0, 1, bg) → ∃ (k : Int32) (br' : Nat → Int32) (out' : Nat → Int64) (b : Int32) (bg' : Nat → Int32), f_Law_cause 1 br out p q = some (k, br', out') ∧ f_Model_cause th0 bg p q = some (b, k, bg') ∧ (k = 0 → out' 0 = b.toInt64) ∧ ICause br' bg' := by
    intro h1 h2
    refine ⟨1, br, out, 0, bg, ?_, h2, fun h => absurd h (by decide), hI⟩
    unfold f_Law_cause
    rw [h1]
    rfl
  by_cases h1 : p < 0
  · exact bad (by unfold f_FaultRules_cause; rw [if_pos h1]) (by unfold f_Model_cause; rw [if_pos h1]; rfl)
  · obtain ⟨j, hj, rfl⟩ := nI_of h1
    by_cases h2 : j < 10
    · have h3 : ¬ (10 : Int32) ≤ nI j := fun h => absurd ((nI_leI (a := 10) (by decide) hj).mp h) (by omega)
      have h4 : ¬ (9 : Int32) < nI j := fun h => absurd ((nI_ltI (a := 9) (by decide) hj).mp h) (by omega)
      by_cases h5 : q < 0
      · exact bad (by unfold f_FaultRules_cause; rw [if_neg h1, if_neg h3, if_pos h5]) (by unfold f_Model_cause; rw [if_neg h1, if_neg h4, if_pos h5]; rfl)
      · by_cases h6 : q ≤ 63
        · refine ⟨0, upd br j q, vp_updL out 0 (br j).toInt64, bg j, upd bg j q, ?_, ?_, ?_, ?_⟩
          · unfold f_Law_cause f_FaultRules_cause
            rw [if_neg h1, if_neg h3, if_neg h5, if_pos h6, bd_nI h2 (by decide), bd_nI h2 (by decide), nI_clamp hj]
            show bd 0 1 _ = _
            rw [bd_01]
            rfl
          · unfold f_Model_cause J_Model_cause_26
            rw [if_neg h1, if_neg h4, if_neg h5, if_pos h6, if_pos (by decide), bd_nI h2 (by decide), bd_nI h2 (by decide), nI_clamp hj]
          · intro _
            rw [← hI j h2]
            exact pk_uLs
          · intro i hi
            by_cases hij : i = j
            · subst hij; rw [pk_us, pk_us]
            · rw [pk_un hij, pk_un hij]; exact hI i hi
        · exact bad (by unfold f_FaultRules_cause; rw [if_neg h1, if_neg h3, if_neg h5, if_neg h6]) (by unfold f_Model_cause; rw [if_neg h1, if_neg h4, if_neg h5, if_neg h6]; rfl)
    · have h3 : (10 : Int32) ≤ nI j := (nI_leI (a := 10) (by decide) hj).mpr (by omega)
      have h4 : (9 : Int32) < nI j := (nI_ltI (a := 9) (by decide) hj).mpr (by omega)
      exact bad (by unfold f_FaultRules_cause; rw [if_neg h1, if_pos h3]) (by unfold f_Model_cause; rw [if_neg h1, if_pos h4]; rfl)
-- trim
theorem st_trim {sz : Int32} {out : Nat → Int64} {th0 p : Int32} {n : Nat} (hn : n ≤ 1000) (hs : sz = nI n) :
    ∃ (k : Int32) (n' : Nat) (out' : Nat → Int64) (b : Int32), n' ≤ n ∧ f_Law_trim 1 sz out p = some (k, nI n', out') ∧ f_Model_trim th0 sz p = some (b, k, nI n') ∧ (k = 0 → out' 0 = b.toInt64) := by
  subst hs
  by_cases h1 : p < 0
  · refine ⟨1, n, out, 0, Nat.le_refl n, ?_, ?_, fun h => absurd h (by decide)⟩
    · unfold f_Law_trim f_FaultRules_trim; rw [if_pos h1]; rfl
    · unfold f_Model_trim; rw [if_pos h1]; rfl
  · obtain ⟨j, hj, rfl⟩ := nI_of h1
    by_cases h2 : j ≤ n
    · have h3 : nI j ≤ nI n := (nI_leI hj (by omega)).mpr h2
      refine ⟨0, n - j, vp_updL out 0 (nI (n - j)).toInt64, nI (n - j), Nat.sub_le n j, ?_, ?_, fun _ => pk_uLs⟩
      · unfold f_Law_trim f_FaultRules_trim
        rw [if_neg h1, if_pos h3, pk_sub h2]
        show bd 0 1 _ = _
        rw [bd_01]
        rfl
      · unfold f_Model_trim J_Model_trim_18
        rw [if_neg h1, if_pos h3, if_pos (by decide), pk_sub h2]
    · have h3 : ¬ nI j ≤ nI n := fun h => h2 ((nI_leI hj (by omega)).mp h)
      refine ⟨1, n, out, 0, Nat.le_refl n, ?_, ?_, fun h => absurd h (by decide)⟩
      · unfold f_Law_trim f_FaultRules_trim; rw [if_neg h1, if_neg h3]; rfl
      · unfold f_Model_trim; rw [if_neg h1, if_neg h3]; rfl
