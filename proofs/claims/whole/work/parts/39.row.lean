theorem beh_c {n : Nat} {S σ P M : Nat → Nat} {mi va st : Nat → Int32} {rw : Int32} {rp rm rv : Nat → Int32} {p t : Nat} (hI : IRows n S σ P M mi va st rw rp rm rv) (hp : p < 16) (ht : t ≤ 100000) :
    ((∀ x, x < n → P x = p → M x < t) ∧ f_Rows_isBehindLast mi st (nI p) (nI t) = some 1) ∨ ((∃ x, 0 ≤ x ∧ x < n ∧ P x = p ∧ t ≤ M x) ∧ f_Rows_isBehindLast mi st (nI p) (nI t) = some 0) := by
  obtain ⟨hn, -, h0, h16, hm, hst, hσ, hk, hP, hsur, hinc, hcnt⟩ := hI
  have hpos : S (p + 1) ≤ n := by rw [← h16]; exact mono16' hm (by omega) (by omega)
  have hmp := hm p hp
  unfold f_Rows_isBehindLast
  rw [nI_1, bd_nI (by omega) (by decide), bd_nI (by omega) (by decide), nI_clamp (by omega), nI_clamp (by omega), hst p (by omega), hst (p + 1) (by omega)]
  by_cases e : S (p + 1) = S p
  · left
    refine ⟨fun x x1 x2 => ?_, ?_⟩
    · obtain ⟨j, j1, j2, -⟩ := hsur x x1
      rw [x2] at j1 j2
      omega
    · rw [if_pos (by rw [e])]
  · have hs : nI (S (p + 1)) - 1 = nI (S (p + 1) - 1) := pk_sub (b := 1) (by omega)
    obtain ⟨g1, g2, -⟩ := hσ (S (p + 1) - 1) (by omega)
    have g4 := (hk _ g1).2.2.2.1
    rw [if_neg (fun q => e ((nI_eq (by omega) (by omega)).mp q)), hs, bd_nI (by omega) (by decide), nI_clamp (by omega), g2]
    rcases Nat.lt_or_ge (M (σ (S (p + 1) - 1))) t with h | h
    · left
      refine ⟨fun x x1 x2 => ?_, if_neg (nI_ge h (by omega))⟩
      obtain ⟨j, j1, j2, j3⟩ := hsur x x1
      rw [x2] at j1 j2
      rw [← j3]
      rcases Nat.lt_or_ge j (S (p + 1) - 1) with z | z
      · exact Nat.lt_trans (hinc p j _ hp j1 z (by omega)).2 h
      · rw [show j = S (p + 1) - 1 by omega]; exact h
    · right
      exact ⟨⟨_, Nat.zero_le _, g1, hP p _ hp (by omega) (by omega), h⟩, if_pos (nI_le h (by omega))⟩
theorem add_c {n : Nat} {S σ P M : Nat → Nat} {mi va st : Nat → Int32} {rw : Int32} {rp rm rv : Nat → Int32} {p t fu : Nat} {w : Int32} (hI : IRows n S σ P M mi va st rw rp rm rv) (hp : p < 16) (ht : t ≤ 100000) (hn1 : n < 120) (hfu : 121 ≤ fu) :
    ∃ st', f_Rows_add fu mi va st (nI p) (nI t) w = some (nI (1 + cntP P p n), upd (va_cpy mi mi (S (p + 1)) (S (p + 1) + 1) (n - S (p + 1))) (S (p + 1)) (nI t), upd (va_cpy va va (S (p + 1)) (S (p + 1) + 1) (n - S (p + 1))) (S (p + 1)) w, st') ∧ ∀ q, q ≤ 16 → st' q = nI (if q ≤ p then S q else S q + 1) := by
  obtain ⟨hn, -, h0, h16, hm, hst, hσ, hk, hP, hsur, hinc, hcnt⟩ := hI
  have hpos : S (p + 1) ≤ n := by rw [← h16]; exact mono16' hm (by omega) (by omega)
  have hmp := hm p hp
  have hcn := hcnt p hp
  have e16 : st (16 : Int32).toNatClampNeg = nI n := by
    have h1 : (16 : Int32).toNatClampNeg = 16 := rfl
    rw [h1, hst 16 (by omega), h16]
  unfold f_Rows_add
  rw [nI_1, nI_clamp (show p + 1 < 2 ^ 31 by omega), hst (p + 1) (by omega), nI_1, e16, pk_sub hpos, nI_clamp (show S (p + 1) < 2 ^ 31 by omega), nI_clamp (show S (p + 1) + 1 < 2 ^ 31 by omega), nI_clamp (show n - S (p + 1) < 2 ^ 31 by omega)]
  have hcp : ∀ {α : Type} (k : Option α), cp (nI (S (p + 1))) (nI (S (p + 1) + 1)) (nI (n - S (p + 1))) 120 120 k = k := by
    intro α k
    unfold cp
    refine if_pos ⟨nI_pos (by omega), nI_pos (by omega), nI_pos (by omega), ?_, ?_⟩
    · rw [nI_clamp (by omega), nI_clamp (by omega)]; omega
    · rw [nI_clamp (by omega), nI_clamp (by omega)]; omega
  have b16 : ∀ {α : Type} (k : Option α), bd 16 17 k = k := fun k => bd_nI (j := 16) (by decide) (by decide)
  rw [bd_nI (by omega) (by decide), b16, hcp, hcp, bd_nI (by omega) (by decide), bd_nI (by omega) (by decide)]
  obtain ⟨st', h1, h2⟩ := starts_loop (fu := fu) (l1 := nI p) (k := fun (s : Nat → Int32) => (bd (nI (p + 1)) 17 (bd (nI p) 17 (some ((s (p + 1)) - (s (nI p).toNatClampNeg), upd (va_cpy mi mi (S (p + 1)) (S (p + 1) + 1) (n - S (p + 1))) (S (p + 1)) (nI t), upd (va_cpy va va (S (p + 1)) (S (p + 1) + 1) (n - S (p + 1))) (S (p + 1)) w, s))))) (S := S) (p := p) fu (p + 1) st (by omega) (by omega) (by omega) (fun q hq => by rw [hst q hq, if_neg (by omega)])
  refine ⟨st', ?_, h2⟩
  rw [h1, bd_nI (by omega) (by decide), bd_nI (by omega) (by decide), nI_clamp (by omega), h2 p (by omega), h2 (p + 1) (by omega), if_pos (Nat.le_refl p), if_neg (by omega), pk_sub (by omega), show S (p + 1) + 1 - S p = 1 + cntP P p n by omega]
theorem isPoint_c (p : Int32) : f_FaultRules_isPoint p = some (if p < 0 then 0 else if 16 ≤ p then 0 else 1) := by
  unfold f_FaultRules_isPoint
  by_cases h1 : p < 0
  · simp only [if_pos h1]
  · by_cases h2 : 16 ≤ p
    · simp only [if_neg h1, if_pos h2]
    · simp only [if_neg h1, if_neg h2]
theorem st_row {n : Nat} {S σ P M : Nat → Nat} {mi va st : Nat → Int32} {rw : Int32} {rp rm rv : Nat → Int32} {out : Nat → Int64} {fu : Nat} {th0 p q w : Int32} (hI : IRows n S σ P M mi va st rw rp rm rv) (hfu : 121 ≤ fu) :
    ∃ (k : Int32) (n' : Nat) (S' σ' P' M' : Nat → Nat) (mi' va' st' : Nat → Int32) (out' : Nat → Int64) (b rw' : Int32) (rp' rm' rv' : Nat → Int32), f_Law_row fu 1 mi va st out p q w = some (k, mi', va', st', out') ∧ f_Model_row fu th0 rw rp rm rv p q w = some (b, k, rw', rp', rm', rv') ∧ (k = 0 → out' 0 = b.toInt64) ∧ IRows n' S' σ' P' M' mi' va' st' rw' rp' rm' rv' := by
  unfold f_Law_row f_FaultRules_row f_Model_row
  rw [isPoint_m, isPoint_c, isMinute_m, isMinute_c, isIn_eq (a := -1000000) (b := 1000000) rfl rfl]
  simp only [Option.bind_some]
  by_cases h1 : p < 0
  · refine ⟨1, n, S, σ, P, M, mi, va, st, out, 0, rw, rp, rm, rv, ?_, ?_, fun h => absurd h (by decide), hI⟩
    · simp [h1]
    · simp [h1, J_Model_row_47]
  obtain ⟨p, hp, rfl⟩ := nI_of h1
  rcases Nat.lt_or_ge p 16 with h2 | h2
  rotate_left
  · have e1 : (16 : Int32) ≤ nI p := nI_le (a := 16) h2 hp
    have e2 : (15 : Int32) < nI p := nI_lt (a := 15) (by omega) hp
    refine ⟨1, n, S, σ, P, M, mi, va, st, out, 0, rw, rp, rm, rv, ?_, ?_, fun h => absurd h (by decide), hI⟩
    · simp [h1, e1]
    · simp [h1, e2, J_Model_row_47]
  have e1 : ¬ (16 : Int32) ≤ nI p := nI_ge (b := 16) h2 (by decide)
  have e2 : ¬ (15 : Int32) < nI p := fun q => absurd ((nI_ltI (a := 15) (by decide) hp).mp q) (by omega)
  by_cases h3 : q < 0
  · refine ⟨1, n, S, σ, P, M, mi, va, st, out, 0, rw, rp, rm, rv, ?_, ?_, fun h => absurd h (by decide), hI⟩
    · simp [h1, e1, h3]
    · simp [h1, e2, h3, J_Model_row_47]
  obtain ⟨t, ht, rfl⟩ := nI_of h3
  rcases Nat.lt_or_ge 100000 t with h4 | h4
  · have e3 : (100000 : Int32) < nI t := nI_lt (a := 100000) h4 ht
    refine ⟨1, n, S, σ, P, M, mi, va, st, out, 0, rw, rp, rm, rv, ?_, ?_, fun h => absurd h (by decide), hI⟩
    · simp [h1, e1, h3, e3]
    · simp [h1, e2, h3, e3, J_Model_row_47]
  have e3 : ¬ (100000 : Int32) < nI t := fun q => absurd ((nI_ltI (a := 100000) (by decide) ht).mp q) (by omega)
  have n10 : ¬ (1 : Int32) = 0 := by decide
  by_cases h5 : w < -1000000
  · refine ⟨1, n, S, σ, P, M, mi, va, st, out, 0, rw, rp, rm, rv, ?_, ?_, fun h => absurd h (by decide), hI⟩
    · simp [h1, e1, h3, e3, h5]
    · simp [h1, e2, h3, e3, h5, J_Model_row_47]
  by_cases h6 : 1000000 < w
  · have h6' : ¬ w ≤ 1000000 := Int32.not_le.mpr h6
    refine ⟨1, n, S, σ, P, M, mi, va, st, out, 0, rw, rp, rm, rv, ?_, ?_, fun h => absurd h (by decide), hI⟩
    · simp [h1, e1, h3, e3, h5, h6']
    · simp [h1, e2, h3, e3, h5, h6, J_Model_row_47]
  have h6' : w ≤ 1000000 := Int32.not_lt.mp h6
  have hw : -1000000 ≤ w.toInt ∧ w.toInt ≤ 1000000 := by
    rw [Int32.lt_iff_toInt_lt] at h5 h6
    have c1 : (-1000000 : Int32).toInt = -1000000 := rfl
    have c2 : (1000000 : Int32).toInt = 1000000 := rfl
    rw [c1] at h5
    rw [c2] at h6
    omega
  have hn := hI.1
  have hrw := hI.2.1
  have e16 : st (16 : Int32).toNatClampNeg = nI n := by
    have h1 : (16 : Int32).toNatClampNeg = 16 := rfl
    rw [h1, hI.2.2.2.2.2.1 16 (by omega), hI.2.2.2.1]
  simp only [h1, e1, e2, h3, e3, h5, h6, h6', if_false, if_true, n10]
  rcases Nat.lt_or_ge n 120 with hfull | hfull
  · have f1 : f_Rows_isFull st = some 0 := by
      unfold f_Rows_isFull
      rw [e16]
      have l : nI n < (120 : Int32) := nI_lt (b := 120) hfull (by decide)
      rw [if_pos l]
      exact bd_nI (j := 16) (by decide) (by decide)
    have f2 : ¬ rw = (120 : Int32) := by
      rw [hrw]
      exact fun q => absurd ((nI_eq (b := 120) (by omega) (by decide)).mp q) (by omega)
    rw [f1, if_neg f2]
    simp only [Option.bind_some]
    rw [if_pos trivial]
    unfold J_Model_row_47
    rw [if_neg (show ¬ (0 : Int32) = 1 by decide)]
    rcases beh_c hI h2 h4 with ⟨g1, g2⟩ | ⟨g1, g2⟩
    · have m1 := (row_loop (fu := fu) (v := w) (k := fun (l4 : Int32) (th : Int32) => (if th ≤ 0 then (bd rw 120 (bd rw 120 (bd rw 120 (some (l4, th, rw + 1, upd rp rw.toNatClampNeg (nI p), upd rm rw.toNatClampNeg (nI t), upd rv rw.toNatClampNeg w))))) else (some (0, th, rw, rp, rm, rv)))) hI h2 h4 fu 0 0 (Nat.zero_le n) (by omega)).1 (fun x _ x2 x3 => g1 x x2 x3)
      obtain ⟨st', a1, a2⟩ := add_c (fu := fu) (w := w) hI h2 h4 hfull hfu
      refine ⟨0, n + 1, _, _, _, _, _, _, st', vp_updL out 0 (nI (1 + cntP P p n)).toInt64, nI (1 + cntP P p n), nI (n + 1), _, _, _, ?_, ?_, fun _ => pk_uLs, rows_add hI h2 h4 hfull hw g1 a2⟩
      · rw [g2]
        simp only [Option.bind_some]
        rw [if_neg n10, a1]
        show bd 0 1 _ = _
        rw [bd_01]
        rfl
      · refine Eq.trans m1 ?_
        rw [if_pos (by decide), hrw, bd_nI hfull (by decide), bd_nI hfull (by decide), bd_nI hfull (by decide), nI_clamp (by omega), nI_1]
    · have m1 := (row_loop (fu := fu) (v := w) (k := fun (l4 : Int32) (th : Int32) => (if th ≤ 0 then (bd rw 120 (bd rw 120 (bd rw 120 (some (l4, th, rw + 1, upd rp rw.toNatClampNeg (nI p), upd rm rw.toNatClampNeg (nI t), upd rv rw.toNatClampNeg w))))) else (some (0, th, rw, rp, rm, rv)))) hI h2 h4 fu 0 0 (Nat.zero_le n) (by omega)).2 (Or.inl g1)
      refine ⟨2, n, S, σ, P, M, mi, va, st, out, 0, rw, rp, rm, rv, ?_, ?_, fun h => absurd h (by decide), hI⟩
      · rw [g2]; rfl
      · exact Eq.trans m1 rfl
  · have hn120 : n = 120 := by omega
    have f1 : f_Rows_isFull st = some 1 := by
      unfold f_Rows_isFull
      rw [e16, hn120]
      rfl
    have f2 : rw = (120 : Int32) := by rw [hrw, hn120]; rfl
    rw [f1, if_pos f2]
    simp only [Option.bind_some]
    unfold J_Model_row_47
    have m1 := (row_loop (fu := fu) (v := w) (k := fun (l4 : Int32) (th : Int32) => (if th ≤ 0 then (bd rw 120 (bd rw 120 (bd rw 120 (some (l4, th, rw + 1, upd rp rw.toNatClampNeg (nI p), upd rm rw.toNatClampNeg (nI t), upd rv rw.toNatClampNeg w))))) else (some (0, th, rw, rp, rm, rv)))) hI h2 h4 fu 0 2 (Nat.zero_le n) (by omega)).2 (Or.inr rfl)
    refine ⟨2, n, S, σ, P, M, mi, va, st, out, 0, rw, rp, rm, rv, ?_, ?_, fun h => absurd h (by decide), hI⟩
    · rfl
    · rw [if_neg (by decide)]
      exact Eq.trans m1 rfl
