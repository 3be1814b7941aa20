theorem seen_Q {n : Nat} {S σ P M : Nat → Nat} {mi va st : Nat → Int32} {rw : Int32} {rp rm rv : Nat → Int32} {t p : Nat} {c : Nat → Nat} {se : Nat → Int32} (hI : IRows n S σ P M mi va st rw rp rm rv) (hS : Seen S σ M t c se) (hp : p < 16) (i : Nat) :
    Qr n P M p t i ↔ ∃ j, S p ≤ j ∧ j < S p + c p ∧ σ j = i := by
  obtain ⟨hn, -, h0, h16, hm, hst, hσ, hk, hP, hsur, hinc, -⟩ := hI
  have hSn : S (p + 1) ≤ n := by rw [← h16]; exact mono16' hm (by omega) (by omega)
  obtain ⟨-, l2, l3⟩ := hS.1 p hp
  constructor
  · rintro ⟨q1, q2, q3⟩
    obtain ⟨j, j1, j2, j3⟩ := hsur i q1
    rw [q2] at j1 j2
    refine ⟨j, j1, ?_, j3⟩
    rcases Nat.lt_or_ge j (S p + c p) with h | h
    · exact h
    · have := hS.2 p hp j h j2
      rw [j3] at this
      omega
  · rintro ⟨j, j1, j2, rfl⟩
    exact ⟨(hσ j (by omega)).1, hP p j hp j1 (by omega), l3 j j1 j2⟩
-- what the class sees of a point where the reference's latest two are v and b
theorem look {n : Nat} {S σ P M : Nat → Nat} {mi va st : Nat → Int32} {rw : Int32} {rp rm rv : Nat → Int32} {t p : Nat} {c : Nat → Nat} {se : Nat → Int32} {v b : Int32} (hI : IRows n S σ P M mi va st rw rp rm rv) (hS : Seen S σ M t c se) (hp : p < 16) (hSt : St (Qr n P M p t) v b) :
    (v = -1 ∧ b = -1 ∧ f_Rows_has se (nI p) = some 0) ∨ (∃ i, i < n ∧ v = nI i ∧ P i = p ∧ M i ≤ t ∧ f_Rows_has se (nI p) = some 1 ∧ f_Rows_latestValue va st se (nI p) = some (rv i) ∧ (∀ m, f_Rows_age mi st se (nI p) m = some (m - rm i)) ∧
      ((b = -1 ∧ f_Rows_lastStep va st se (nI p) = some 0) ∨ (∃ h, h < n ∧ b = nI h ∧ f_Rows_lastStep va st se (nI p) = some (if 0 ≤ rv i - rv h then rv i - rv h else 0 - (rv i - rv h))))) := by
  have hQ := seen_Q hI hS hp
  obtain ⟨hn, -, h0, h16, hm, hst, hσ, hk, hP, hsur, hinc, -⟩ := hI
  have hSn : S (p + 1) ≤ n := by rw [← h16]; exact mono16' hm (by omega) (by omega)
  obtain ⟨l1, l2, l3⟩ := hS.1 p hp
  have hstp := hst p (by omega)
  rcases Nat.eq_zero_or_pos (c p) with hc | hc
  · rcases hSt with ⟨s1, s2, s3⟩ | ⟨i, s1, s2, s3, s4⟩
    · refine Or.inl ⟨s1, s2, ?_⟩
      unfold f_Rows_has
      rw [bd_nI hp (by decide), nI_clamp (by omega), l1, hc, if_pos (by decide)]
    · obtain ⟨j, j1, j2, j3⟩ := (hQ i).mp s2
      omega
  · right
    have hlast := (hQ (σ (S p + c p - 1))).mpr ⟨S p + c p - 1, by omega, by omega, rfl⟩
    have hsub : nI (S p) + nI (c p) - 1 = nI (S p + c p - 1) := by rw [nI_add]; exact pk_sub (b := 1) (by omega)
    have hle : ∀ j, S p ≤ j → j < S p + c p → σ j ≤ σ (S p + c p - 1) := by
      intro j j1 j2
      rcases Nat.lt_or_ge j (S p + c p - 1) with h | h
      · exact Nat.le_of_lt (hinc p j _ hp j1 h (by omega)).1
      · rw [show j = S p + c p - 1 by omega]; exact Nat.le_refl _
    rcases hSt with ⟨s1, s2, s3⟩ | ⟨i, s1, s2, s3, s4⟩
    · exact absurd hlast (s3 _)
    · have hi : i = σ (S p + c p - 1) := by
        obtain ⟨j, j1, j2, j3⟩ := (hQ i).mp s2
        have a1 := hle j j1 j2
        have a2 := s3 _ hlast
        omega
      obtain ⟨g1, g2, g3⟩ := hσ (S p + c p - 1) (by omega)
      rw [← hi] at g1 g2 g3
      refine ⟨i, s2.1, s1, s2.2.1, s2.2.2, ?_, ?_, ?_, ?_⟩
      · unfold f_Rows_has
        rw [bd_nI hp (by decide), nI_clamp (by omega), l1, if_neg (nI_nle hc (by omega))]
      · unfold f_Rows_latestValue
        rw [nI_clamp (show p < 2 ^ 31 by omega), l1, hstp, hsub, bd_nI (by omega) (by decide), bd_nI hp (by decide), bd_nI (by omega) (by decide), nI_clamp (by omega), g3]
      · intro m
        unfold f_Rows_age
        rw [nI_clamp (show p < 2 ^ 31 by omega), l1, hstp, hsub, bd_nI (by omega) (by decide), bd_nI hp (by decide), bd_nI (by omega) (by decide), nI_clamp (by omega), g2, (hk i g1).2.2.1]
      · unfold f_Rows_lastStep
        rw [nI_clamp (show p < 2 ^ 31 by omega), l1, hstp, hsub, bd_nI hp (by decide)]
        rcases Nat.lt_or_ge (c p) 2 with h2 | h2
        · have e : ¬ (2 : Int32) ≤ nI (c p) := nI_ge (b := 2) h2 (by decide)
          rw [if_neg e]
          refine Or.inl ⟨?_, rfl⟩
          rcases s4 with ⟨q1, -⟩ | ⟨h, q1, q2, q3, q4⟩
          · exact q1
          · obtain ⟨j, j1, j2, j3⟩ := (hQ h).mp q3
            rw [show j = S p + c p - 1 by omega] at j3
            omega
        · have e : (2 : Int32) ≤ nI (c p) := nI_le (a := 2) h2 (by omega)
          rw [if_pos e]
          have hlt := (hinc p (S p + c p - 2) (S p + c p - 1) hp (by omega) (by omega) (by omega)).1
          have hbef := (hQ (σ (S p + c p - 2))).mpr ⟨S p + c p - 2, by omega, by omega, rfl⟩
          have hsub2 : nI (S p + c p - 1) - 1 = nI (S p + c p - 2) := pk_sub (b := 1) (by omega)
          obtain ⟨u1, u2, u3⟩ := hσ (S p + c p - 2) (by omega)
          rcases s4 with ⟨q1, q2⟩ | ⟨h, q1, q2, q3, q4⟩
          · have := q2 _ hbef
            omega
          · have hh : h = σ (S p + c p - 2) := by
              obtain ⟨j, j1, j2, j3⟩ := (hQ h).mp q3
              have a1 : j ≠ S p + c p - 1 := by
                intro hj; rw [hj] at j3; omega
              have a2 : σ j ≤ σ (S p + c p - 2) := by
                rcases Nat.lt_or_ge j (S p + c p - 2) with h' | h'
                · exact Nat.le_of_lt (hinc p j _ hp j1 h' (by omega)).1
                · rw [show j = S p + c p - 2 by omega]; exact Nat.le_refl _
              have a3 := q4 _ hbef
              omega
            refine Or.inr ⟨h, q3.1, q2, ?_⟩
            rw [← hh] at u3
            rw [hsub2, bd_nI (by omega) (by decide), bd_nI hp (by decide), bd_nI (by omega) (by decide), bd_nI (by omega) (by decide), nI_clamp (show S p + c p - 1 < 2 ^ 31 by omega), nI_clamp (show S p + c p - 2 < 2 ^ 31 by omega), g3, u3]
theorem isPoint_m (p : Int32) : f_Model_isPoint p = some (if p < 0 then 0 else if 15 < p then 0 else 1) := by
  unfold f_Model_isPoint
  rw [isIn_eq (a := 0) (b := 15) rfl rfl]
  exact zb_ite (k := fun x => some x)
-- the value of a point in a minute
theorem st_value {n : Nat} {S σ P M : Nat → Nat} {mi va st : Nat → Int32} {rw : Int32} {rp rm rv se : Nat → Int32} {out : Nat → Int64} {fu : Nat} {th0 p q : Int32} (hI : IRows n S σ P M mi va st rw rp rm rv) (hfu : 121 ≤ fu) :
    ∃ (k : Int32) (se' : Nat → Int32) (out' : Nat → Int64) (b : Int32), f_Law_value fu 1 mi va st se out p q = some (k, se', out') ∧ f_Model_value fu th0 rw rp rm rv p q = some (b, k) ∧ (k = 0 → out' 0 = b.toInt64) := by
  unfold f_Law_value f_FaultRules_value f_Model_value
  rw [isPoint_m, isMinute_m, isMinute_c]
  unfold f_FaultRules_isPoint
  simp only [Option.bind_some]
  by_cases h1 : p < 0
  · refine ⟨1, se, out, 0, ?_, ?_, fun h => absurd h (by decide)⟩
    · simp [h1]
    · simp [h1, J_Model_value_29]
  obtain ⟨p, hp, rfl⟩ := nI_of h1
  rcases Nat.lt_or_ge p 16 with h2 | h2
  rotate_left
  · have e1 : (16 : Int32) ≤ nI p := nI_le (a := 16) h2 hp
    have e2 : (15 : Int32) < nI p := nI_lt (a := 15) (by omega) hp
    refine ⟨1, se, out, 0, ?_, ?_, fun h => absurd h (by decide)⟩
    · simp [h1, e1]
    · simp [h1, e2, J_Model_value_29]
  have e1 : ¬ (16 : Int32) ≤ nI p := nI_ge (b := 16) h2 (by decide)
  have e2 : ¬ (15 : Int32) < nI p := fun q => absurd ((nI_ltI (a := 15) (by decide) hp).mp q) (by omega)
  by_cases h3 : q < 0
  · refine ⟨1, se, out, 0, ?_, ?_, fun h => absurd h (by decide)⟩
    · simp [h1, e1, h3]
    · simp [h1, e2, h3, J_Model_value_29]
  obtain ⟨t, ht, rfl⟩ := nI_of h3
  rcases Nat.lt_or_ge 100000 t with h4 | h4
  · have e3 : (100000 : Int32) < nI t := nI_lt (a := 100000) h4 ht
    refine ⟨1, se, out, 0, ?_, ?_, fun h => absurd h (by decide)⟩
    · simp [h1, e1, h3, e3]
    · simp [h1, e2, h3, e3, J_Model_value_29]
  have e3 : ¬ (100000 : Int32) < nI t := fun q => absurd ((nI_ltI (a := 100000) (by decide) ht).mp q) (by omega)
  obtain ⟨se1, r1, r2⟩ := rew_c (σ := σ) (M := M) (se := se) (t := t) hI.2.2.2.2.1 hfu
  obtain ⟨c, se2, a1, a2⟩ := adv_c hI h4 hfu r2
  obtain ⟨v, b, l1, l2⟩ := latest_m (fu := fu) hI h2 h4 hfu
  have hl := look hI a2 h2 l2
  simp only [h1, e1, e2, h3, e3, if_false, r1, Option.bind_some, a1, l1]
  rw [if_neg (show ¬ (1 : Int32) = 0 by decide), if_neg (show ¬ (1 : Int32) = 0 by decide), if_neg (show ¬ (1 : Int32) = 0 by decide), if_neg (show ¬ (1 : Int32) = 0 by decide)]
  rcases hl with ⟨g1, -, g2⟩ | ⟨i, i1, g1, -, -, g2, g3, -⟩
  · refine ⟨1, se2, out, 0, ?_, ?_, fun h => absurd h (by decide)⟩
    · rw [g2]; rfl
    · rw [g1]; rfl
  · refine ⟨0, se2, vp_updL out 0 (rv i).toInt64, rv i, ?_, ?_, fun _ => pk_uLs⟩
    · rw [g2, g3]
      simp only [Option.bind_some]
      rw [if_neg (show ¬ (1 : Int32) = 0 by decide)]
      show bd 0 1 _ = _
      rw [bd_01]
      rfl
    · have hn := hI.1
      rw [g1, if_pos (nI_pos' (by omega))]
      unfold J_Model_value_29
      rw [if_pos (by decide), l1, g1]
      simp only [Option.bind_some]
      rw [bd_nI (by omega) (by decide), nI_clamp (by omega)]
