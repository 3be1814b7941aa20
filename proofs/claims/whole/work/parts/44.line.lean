theorem sums_fin {N sx sy xx xy : Int64} (h : Sums 60 N sx sy xx xy) : 0 ≤ (N * xx - sx * sx).toInt ∧ (N * xx - sx * sx).toInt.natAbs < 2 ^ 62 ∧ (N * xy - sx * sy).toInt.natAbs < 2 ^ 62 := by
  obtain ⟨n, X, Y, A, B, h1, h2, h3, h4, h5, h6, b1, b2, b3, b4, c1, c2⟩ := h
  have m1 := mul_bd (x := (n : Int)) (y := A) (a := 60) (b := 60000000000000) (by omega) (by omega)
  have m2 := mul_bd (x := X) (y := X) (a := 60000000) (b := 60000000) (by omega) (by omega)
  have m3 := mul_bd (x := (n : Int)) (y := B) (a := 60) (b := 60000000000000) (by omega) (by omega)
  have m4 := mul_bd (x := X) (y := Y) (a := 60000000) (b := 60000000) (by omega) (by omega)
  have e1 := l_mul h2 h5 (by omega)
  have e2 := l_mul h3 h3 (by omega)
  have e3 := l_mul h2 h6 (by omega)
  have e4 := l_mul h3 h4 (by omega)
  generalize (n : Int) * A = u1 at *
  generalize X * X = u2 at *
  generalize (n : Int) * B = u3 at *
  generalize X * Y = u4 at *
  have e5 := l_sub e1 e2 (by omega)
  have e6 := l_sub e3 e4 (by omega)
  rw [e5, e6]
  omega
theorem st_line {n nL : Nat} {S σ P M : Nat → Nat} {mi va st : Nat → Int32} {rw cx cm : Int32} {rp rm rv sn lm le : Nat → Int32} {out : Nat → Int64} {fu : Nat} {th0 p1 p2 p3 p4 p5 : Int32} (hI : IRows n S σ P M mi va st rw rp rm rv) (hL : ILeft nL cx cm lm le) (hfu : 200 ≤ fu) :
    ∃ (k : Int32) (sn' : Nat → Int32) (out' : Nat → Int64) (b : Int64), f_Law_line fu 1 mi va st sn cx lm out p1 p2 p3 p4 p5 = some (k, sn', out') ∧ f_Model_line fu th0 rw cm rp rm rv le p1 p2 p3 p4 p5 = some (b, k) ∧ (k = 0 → out' 0 = b) := by
  have n10 : ¬ (1 : Int32) = 0 := by decide
  have bad : f_FaultRules_line fu mi va st sn cx lm p1 p2 p3 p4 p5 = some (1, 0, sn) → f_Model_line fu th0 rw cm rp rm rv le p1 p2 p3 p4 p5 = some (0, 1) → ∃ (k : Int32) (sn' : Nat → Int32) (out' : Nat → Int64) (b : Int64), f_Law_line fu 1 mi va st sn cx lm out p1 p2 p3 p4 p5 = some (k, sn', out') ∧ f_Model_line fu th0 rw cm rp rm rv le p1 p2 p3 p4 p5 = some (b, k) ∧ (k = 0 → out' 0 = b) := by
    intro h1 h2
    refine ⟨1, sn, out, 0, ?_, h2, fun h => absurd h (by decide)⟩
    unfold f_Law_line
    rw [h1]
    rfl
  have jb : J_Model_line_61 fu th0 rw cm rp rm rv le p1 p2 p3 p4 p5 1 = some (0, 1) := rfl
  have pt : ∀ p : Int32, (f_FaultRules_isPoint p = some 0 ∧ f_Model_isPoint p = some 0) ∨ (∃ a, a < 16 ∧ p = nI a ∧ f_FaultRules_isPoint p = some 1 ∧ f_Model_isPoint p = some 1) := by
    intro p
    rw [isPoint_c, isPoint_m]
    by_cases h1 : p < 0
    · left; rw [if_pos h1, if_pos h1]; exact ⟨rfl, rfl⟩
    · obtain ⟨p, hp, rfl⟩ := nI_of h1
      rcases Nat.lt_or_ge p 16 with h2 | h2
      · right
        have e1 : ¬ (16 : Int32) ≤ nI p := nI_ge (b := 16) h2 (by decide)
        have e2 : ¬ (15 : Int32) < nI p := fun q => absurd ((nI_ltI (a := 15) (by decide) hp).mp q) (by omega)
        rw [if_neg h1, if_neg h1, if_neg e1, if_neg e2]
        exact ⟨p, h2, rfl, rfl, rfl⟩
      · left
        have e1 : (16 : Int32) ≤ nI p := nI_le (a := 16) h2 hp
        have e2 : (15 : Int32) < nI p := nI_lt (a := 15) (by omega) hp
        rw [if_neg h1, if_neg h1, if_pos e1, if_pos e2]; exact ⟨rfl, rfl⟩
  have mt : ∀ p : Int32, (f_FaultRules_isMinute p = some 0 ∧ f_Model_isMinute p = some 0) ∨ (∃ a, a ≤ 100000 ∧ p = nI a ∧ f_FaultRules_isMinute p = some 1 ∧ f_Model_isMinute p = some 1) := by
    intro p
    rw [isMinute_c, isMinute_m]
    by_cases h1 : p < 0
    · left; rw [if_pos h1]; exact ⟨rfl, rfl⟩
    · obtain ⟨p, hp, rfl⟩ := nI_of h1
      rcases Nat.lt_or_ge 100000 p with h2 | h2
      · left
        have e2 : (100000 : Int32) < nI p := nI_lt (a := 100000) h2 hp
        rw [if_neg h1, if_pos e2]; exact ⟨rfl, rfl⟩
      · right
        have e2 : ¬ (100000 : Int32) < nI p := fun q => absurd ((nI_ltI (a := 100000) (by decide) hp).mp q) (by omega)
        rw [if_neg h1, if_neg e2]
        exact ⟨p, h2, rfl, rfl, rfl⟩
  rcases pt p1 with ⟨c1, m1⟩ | ⟨a, ha, rfl, c1, m1⟩
  · exact bad (by unfold f_FaultRules_line; rw [c1]; rfl) (by unfold f_Model_line; rw [m1]; rfl)
  rcases pt p2 with ⟨c2, m2⟩ | ⟨b, hb, rfl, c2, m2⟩
  · exact bad (by unfold f_FaultRules_line; rw [c1, c2]; rfl) (by unfold f_Model_line; rw [m1, m2]; rfl)
  rcases mt p3 with ⟨c3, m3⟩ | ⟨x, hx, rfl, c3, m3⟩
  · exact bad (by unfold f_FaultRules_line f_FaultRules_isStretch; rw [c1, c2, c3]; rfl) (by unfold f_Model_line; rw [m1, m2, m3]; rfl)
  rcases mt p4 with ⟨c4, m4⟩ | ⟨y, hy, rfl, c4, m4⟩
  · exact bad (by unfold f_FaultRules_line f_FaultRules_isStretch; rw [c1, c2, c3, c4]; rfl) (by unfold f_Model_line; rw [m1, m2, m3, m4]; rfl)
  have hm : ∀ s : Int32, f_Model_line fu th0 rw cm rp rm rv le (nI a) (nI b) (nI x) (nI y) p5 = J_Model_line_61 fu th0 rw cm rp rm rv le (nI a) (nI b) (nI x) (nI y) p5 (if nI y < nI x then 1 else if 59 < nI y - nI x then 1 else if p5 < 0 then 1 else if p5 ≤ 2 then 0 else 1) := by
    intro _
    unfold f_Model_line
    rw [m1, m2, m3, m4]
    simp only [Option.bind_some, if_neg n10]
    by_cases q1 : nI y < nI x
    · simp only [if_pos q1]
    · simp only [if_neg q1]
      by_cases q2 : 59 < nI y - nI x
      · simp only [if_pos q2]
      · simp only [if_neg q2]
        by_cases q3 : p5 < 0
        · simp only [if_pos q3]
        · simp only [if_neg q3]
          by_cases q4 : p5 ≤ 2
          · simp only [if_pos q4]
          · simp only [if_neg q4]
  have hc : f_FaultRules_isStretch (nI x) (nI y) 60 = some (if nI y < nI x then 0 else if 60 ≤ nI y - nI x then 0 else 1) := by
    unfold f_FaultRules_isStretch
    rw [c3, c4]
    simp only [Option.bind_some, if_neg n10]
    by_cases q1 : nI y < nI x
    · simp only [if_pos q1]
    · simp only [if_neg q1]
      by_cases q2 : 60 ≤ nI y - nI x
      · simp only [if_pos q2]
      · simp only [if_neg q2]
  have hm := hm 0
  rcases Nat.lt_or_ge y x with h1 | h1
  · have q1 : nI y < nI x := nI_lt h1 (by omega)
    rw [if_pos q1] at hm hc
    exact bad (by unfold f_FaultRules_line; rw [c1, c2, hc]; rfl) (by rw [hm]; exact jb)
  have q1 : ¬ nI y < nI x := nI_nlt h1 (by omega)
  rw [if_neg q1] at hm hc
  rw [pk_sub h1] at hm hc
  rcases Nat.lt_or_ge (y - x) 60 with h2 | h2
  rotate_left
  · have q2 : (60 : Int32) ≤ nI (y - x) := nI_le (a := 60) h2 (by omega)
    have q3 : (59 : Int32) < nI (y - x) := nI_lt (a := 59) (by omega) (by omega)
    rw [if_pos q2] at hc
    rw [if_pos q3] at hm
    exact bad (by unfold f_FaultRules_line; rw [c1, c2, hc]; rfl) (by rw [hm]; exact jb)
  have q2 : ¬ (60 : Int32) ≤ nI (y - x) := nI_ge (b := 60) h2 (by decide)
  have q3 : ¬ (59 : Int32) < nI (y - x) := fun q => absurd ((nI_ltI (a := 59) (by decide) (by omega)).mp q) (by omega)
  rw [if_neg q2] at hc
  rw [if_neg q3] at hm
  have hcl : f_FaultRules_line fu mi va st sn cx lm (nI a) (nI b) (nI x) (nI y) p5 = (if p5 < 0 then (some (1, 0, sn)) else (if p5 ≤ 2 then ((f_Rows_rewind fu sn).bind (fun t_9 => (L_FaultRules_line_71 fu mi va st cx lm (nI a) (nI b) (nI y) p5 (fun (l6 : Int64) (l8 : Int64) (l10 : Int64) (l12 : Int64) (l14 : Int64) (v : Nat → Int32) => (if p5 = 2 then (some (0, l6, v)) else ((f_FaultRules_lowest fu ((l6 * l14) - (l8 * l10)) ((l6 * l12) - (l8 * l8)) p5).bind (fun t_27 => (some (0, t_27, v)))))) fu 0 0 0 0 0 (nI x) t_9))) else (some (1, 0, sn)))) := by
    unfold f_FaultRules_line
    rw [c1, c2, hc]
    rfl
  by_cases q4 : p5 < 0
  · rw [if_pos q4] at hcl hm
    exact bad hcl (by rw [hm]; exact jb)
  rw [if_neg q4] at hcl hm
  by_cases q5 : p5 ≤ 2
  rotate_left
  · rw [if_neg q5] at hcl hm
    exact bad hcl (by rw [hm]; exact jb)
  rw [if_pos q5] at hcl hm
  obtain ⟨se1, r1, r2⟩ := rew_c (σ := σ) (M := M) (se := sn) (t := x) hI.2.2.2.2.1 (show 121 ≤ fu by omega)
  obtain ⟨N, sx, sy, xx, xy, se', hS, e1, e2⟩ := line_loop (p5 := p5) (kc := fun (l6 : Int64) (l8 : Int64) (l10 : Int64) (l12 : Int64) (l14 : Int64) (v : Nat → Int32) => (if p5 = 2 then (some (0, l6, v)) else ((f_FaultRules_lowest fu ((l6 * l14) - (l8 * l10)) ((l6 * l12) - (l8 * l8)) p5).bind (fun t_27 => (some (0, t_27, v))))))
    (km := fun (l6 : Int64) (l8 : Int64) (l10 : Int64) (l12 : Int64) (l14 : Int64) => (if p5 = 2 then (some (l6, 0)) else (if (lg_cmp ((l6 * l14) - (l8 * l8)) 0) = 0 then (some (0, 0)) else ((f_Model_common fu ((l6 * l12) - (l8 * l10)) ((l6 * l14) - (l8 * l8))).bind (fun t_19 => (if p5 = 0 then (nzL t_19 (some (((l6 * l12) - (l8 * l10)) / t_19, 0))) else (nzL t_19 (some (((l6 * l14) - (l8 * l8)) / t_19, 0)))))))))
    hI hL (show 121 ≤ fu by omega) ha hb hy (show y < x + 60 by omega) fu x 0 0 0 0 0 (fun _ => 0) se1 (Nat.le_refl x) (by omega) (by omega) r2 (by rw [Nat.sub_self]; exact Sums_0)
  rw [r1] at hcl
  simp only [Option.bind_some] at hcl
  have hcl' := Eq.trans hcl e1
  have hm' : f_Model_line fu th0 rw cm rp rm rv le (nI a) (nI b) (nI x) (nI y) p5 = _ := Eq.trans hm (Eq.trans (by unfold J_Model_line_61; rw [if_pos (by decide)]) e2)
  have fin : ∃ v, (if p5 = 2 then (some ((0 : Nat), N, se')) else ((f_FaultRules_lowest fu ((N * xy) - (sx * sy)) ((N * xx) - (sx * sx)) p5).bind (fun t_27 => (some (0, t_27, se'))))) = some (0, v, se') ∧ (if p5 = 2 then (some (N, (0 : Int32))) else (if (lg_cmp ((N * xx) - (sx * sx)) 0) = 0 then (some (0, 0)) else ((f_Model_common fu ((N * xy) - (sx * sy)) ((N * xx) - (sx * sx))).bind (fun t_19 => (if p5 = 0 then (nzL t_19 (some (((N * xy) - (sx * sy)) / t_19, 0))) else (nzL t_19 (some (((N * xx) - (sx * sx)) / t_19, 0)))))))) = some (v, 0) := by
    by_cases q6 : p5 = 2
    · rw [if_pos q6, if_pos q6]; exact ⟨N, rfl, rfl⟩
    · rw [if_neg q6, if_neg q6]
      obtain ⟨s1, s2, s3⟩ := sums_fin hS
      obtain ⟨v, v1, v2⟩ := low_eq (part := p5) (th := 0) hfu s1 s2 s3
      rw [v1]
      exact ⟨v, rfl, v2⟩
  obtain ⟨v, v1, v2⟩ := fin
  refine ⟨0, se', vp_updL out 0 v, v, ?_, Eq.trans hm' v2, fun _ => pk_uLs⟩
  unfold f_Law_line
  rw [Eq.trans hcl' v1]
  show bd 0 1 _ = _
  rw [bd_01]
  rfl
