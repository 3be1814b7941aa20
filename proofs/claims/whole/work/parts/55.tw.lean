theorem kd_cases (mk : Int32) (mv : Int64) : (mk = 0 ∧ mv = 7381243658609098752 ∧ kdOf mk mv = 9) ∨ (mk = 0 ∧ mv = 7165072476152528896 ∧ kdOf mk mv = 10) ∨ (mk = 0 ∧ mv = 8319403481517522944 ∧ kdOf mk mv = 16) ∨ (mk = 0 ∧ mv = 7671157868099272704 ∧ kdOf mk mv = 17) ∨ (mk = 0 ∧ mv = 8316297369816924160 ∧ kdOf mk mv = 18) ∨ (mk = 3 ∧ mv = 58 ∧ kdOf mk mv = 5) ∨ (mk = 3 ∧ mv = 38 ∧ kdOf mk mv = 6) ∨ (mk = 3 ∧ mv = 59 ∧ kdOf mk mv = 7) ∨ (mk = 3 ∧ mv = 45 ∧ kdOf mk mv = 8) ∨ (mk = 3 ∧ mv = 60 ∧ kdOf mk mv = 11) ∨ (mk = 3 ∧ mv = 316 ∧ kdOf mk mv = 12) ∨ (mk = 3 ∧ mv = 61 ∧ kdOf mk mv = 13) ∨ (mk = 3 ∧ mv = 318 ∧ kdOf mk mv = 14) ∨ (mk = 3 ∧ mv = 62 ∧ kdOf mk mv = 15) ∨ kdOf mk mv = 1 ∨ kdOf mk mv = 2 ∨ kdOf mk mv = 3 ∨ kdOf mk mv = 4 := by
  have hd : kdOf mk mv = kdOf mk mv := rfl
  conv at hd => rhs; unfold kdOf
  by_cases h0 : mk = 0
  · rw [if_pos h0] at hd
    by_cases g0 : mv = 7381243658609098752
    · rw [if_pos g0] at hd; exact Or.inl ⟨h0, g0, hd⟩
    rw [if_neg g0] at hd
    by_cases g1 : mv = 7165072476152528896
    · rw [if_pos g1] at hd; exact Or.inr (Or.inl ⟨h0, g1, hd⟩)
    rw [if_neg g1] at hd
    by_cases g2 : mv = 8319403481517522944
    · rw [if_pos g2] at hd; exact Or.inr (Or.inr (Or.inl ⟨h0, g2, hd⟩))
    rw [if_neg g2] at hd
    by_cases g3 : mv = 7671157868099272704
    · rw [if_pos g3] at hd; exact Or.inr (Or.inr (Or.inr (Or.inl ⟨h0, g3, hd⟩)))
    rw [if_neg g3] at hd
    by_cases g4 : mv = 8316297369816924160
    · rw [if_pos g4] at hd; exact Or.inr (Or.inr (Or.inr (Or.inr (Or.inl ⟨h0, g4, hd⟩))))
    rw [if_neg g4] at hd
    exact Or.inr (Or.inr (Or.inr (Or.inr (Or.inr (Or.inr (Or.inr (Or.inr (Or.inr (Or.inr (Or.inr (Or.inr (Or.inr (Or.inr (Or.inr (Or.inl hd)))))))))))))))
  rw [if_neg h0] at hd
  by_cases h1 : mk = 1
  · rw [if_pos h1] at hd
    by_cases g : 0 ≤ mv.toInt ∧ mv.toInt ≤ 1000000
    · rw [if_pos g] at hd; exact Or.inr (Or.inr (Or.inr (Or.inr (Or.inr (Or.inr (Or.inr (Or.inr (Or.inr (Or.inr (Or.inr (Or.inr (Or.inr (Or.inr (Or.inr (Or.inr (Or.inl hd))))))))))))))))
    · rw [if_neg g] at hd; exact Or.inr (Or.inr (Or.inr (Or.inr (Or.inr (Or.inr (Or.inr (Or.inr (Or.inr (Or.inr (Or.inr (Or.inr (Or.inr (Or.inr (Or.inl hd))))))))))))))
  rw [if_neg h1] at hd
  by_cases h2 : mk = 2
  · rw [if_pos h2] at hd
    by_cases g : 0 ≤ mv.toInt ∧ mv.toInt ≤ 15
    · rw [if_pos g] at hd; exact Or.inr (Or.inr (Or.inr (Or.inr (Or.inr (Or.inr (Or.inr (Or.inr (Or.inr (Or.inr (Or.inr (Or.inr (Or.inr (Or.inr (Or.inr (Or.inr (Or.inr (hd)))))))))))))))))
    · rw [if_neg g] at hd; exact Or.inr (Or.inr (Or.inr (Or.inr (Or.inr (Or.inr (Or.inr (Or.inr (Or.inr (Or.inr (Or.inr (Or.inr (Or.inr (Or.inr (Or.inl hd))))))))))))))
  rw [if_neg h2] at hd
  by_cases h3 : mk = 3
  · rw [if_pos h3] at hd
    by_cases g0 : mv = 58
    · rw [if_pos g0] at hd; exact Or.inr (Or.inr (Or.inr (Or.inr (Or.inr (Or.inl ⟨h3, g0, hd⟩)))))
    rw [if_neg g0] at hd
    by_cases g1 : mv = 38
    · rw [if_pos g1] at hd; exact Or.inr (Or.inr (Or.inr (Or.inr (Or.inr (Or.inr (Or.inl ⟨h3, g1, hd⟩))))))
    rw [if_neg g1] at hd
    by_cases g2 : mv = 59
    · rw [if_pos g2] at hd; exact Or.inr (Or.inr (Or.inr (Or.inr (Or.inr (Or.inr (Or.inr (Or.inl ⟨h3, g2, hd⟩)))))))
    rw [if_neg g2] at hd
    by_cases g3 : mv = 45
    · rw [if_pos g3] at hd; exact Or.inr (Or.inr (Or.inr (Or.inr (Or.inr (Or.inr (Or.inr (Or.inr (Or.inl ⟨h3, g3, hd⟩))))))))
    rw [if_neg g3] at hd
    by_cases g4 : mv = 60
    · rw [if_pos g4] at hd; exact Or.inr (Or.inr (Or.inr (Or.inr (Or.inr (Or.inr (Or.inr (Or.inr (Or.inr (Or.inl ⟨h3, g4, hd⟩)))))))))
    rw [if_neg g4] at hd
    by_cases g5 : mv = 316
    · rw [if_pos g5] at hd; exact Or.inr (Or.inr (Or.inr (Or.inr (Or.inr (Or.inr (Or.inr (Or.inr (Or.inr (Or.inr (Or.inl ⟨h3, g5, hd⟩))))))))))
    rw [if_neg g5] at hd
    by_cases g6 : mv = 61
    · rw [if_pos g6] at hd; exact Or.inr (Or.inr (Or.inr (Or.inr (Or.inr (Or.inr (Or.inr (Or.inr (Or.inr (Or.inr (Or.inr (Or.inl ⟨h3, g6, hd⟩)))))))))))
    rw [if_neg g6] at hd
    by_cases g7 : mv = 318
    · rw [if_pos g7] at hd; exact Or.inr (Or.inr (Or.inr (Or.inr (Or.inr (Or.inr (Or.inr (Or.inr (Or.inr (Or.inr (Or.inr (Or.inr (Or.inl ⟨h3, g7, hd⟩))))))))))))
    rw [if_neg g7] at hd
    by_cases g8 : mv = 62
    · rw [if_pos g8] at hd; exact Or.inr (Or.inr (Or.inr (Or.inr (Or.inr (Or.inr (Or.inr (Or.inr (Or.inr (Or.inr (Or.inr (Or.inr (Or.inr (Or.inl ⟨h3, g8, hd⟩)))))))))))))
    rw [if_neg g8] at hd
    exact Or.inr (Or.inr (Or.inr (Or.inr (Or.inr (Or.inr (Or.inr (Or.inr (Or.inr (Or.inr (Or.inr (Or.inr (Or.inr (Or.inr (Or.inl hd))))))))))))))
  rw [if_neg h3] at hd
  exact Or.inr (Or.inr (Or.inr (Or.inr (Or.inr (Or.inr (Or.inr (Or.inr (Or.inr (Or.inr (Or.inr (Or.inr (Or.inr (Or.inr (Or.inl hd))))))))))))))
theorem tw_for (mk : Int32) (mv : Int64) : kdOf mk mv = 9 ↔ (mk = 0 ∧ mv = 7381243658609098752) := by
  constructor
  · intro h
    rcases kd_cases mk mv with ⟨a, b, c⟩ | ⟨a, b, c⟩ | ⟨a, b, c⟩ | ⟨a, b, c⟩ | ⟨a, b, c⟩ | ⟨a, b, c⟩ | ⟨a, b, c⟩ | ⟨a, b, c⟩ | ⟨a, b, c⟩ | ⟨a, b, c⟩ | ⟨a, b, c⟩ | ⟨a, b, c⟩ | ⟨a, b, c⟩ | ⟨a, b, c⟩ | c | c | c | c
    · exact ⟨a, b⟩
    · rw [c] at h; exact absurd h (by decide)
    · rw [c] at h; exact absurd h (by decide)
    · rw [c] at h; exact absurd h (by decide)
    · rw [c] at h; exact absurd h (by decide)
    · rw [c] at h; exact absurd h (by decide)
    · rw [c] at h; exact absurd h (by decide)
    · rw [c] at h; exact absurd h (by decide)
    · rw [c] at h; exact absurd h (by decide)
    · rw [c] at h; exact absurd h (by decide)
    · rw [c] at h; exact absurd h (by decide)
    · rw [c] at h; exact absurd h (by decide)
    · rw [c] at h; exact absurd h (by decide)
    · rw [c] at h; exact absurd h (by decide)
    · rw [c] at h; exact absurd h (by decide)
    · rw [c] at h; exact absurd h (by decide)
    · rw [c] at h; exact absurd h (by decide)
    · rw [c] at h; exact absurd h (by decide)
  · rintro ⟨rfl, rfl⟩
    rfl
theorem tw_costs (mk : Int32) (mv : Int64) : kdOf mk mv = 10 ↔ (mk = 0 ∧ mv = 7165072476152528896) := by
  constructor
  · intro h
    rcases kd_cases mk mv with ⟨a, b, c⟩ | ⟨a, b, c⟩ | ⟨a, b, c⟩ | ⟨a, b, c⟩ | ⟨a, b, c⟩ | ⟨a, b, c⟩ | ⟨a, b, c⟩ | ⟨a, b, c⟩ | ⟨a, b, c⟩ | ⟨a, b, c⟩ | ⟨a, b, c⟩ | ⟨a, b, c⟩ | ⟨a, b, c⟩ | ⟨a, b, c⟩ | c | c | c | c
    · rw [c] at h; exact absurd h (by decide)
    · exact ⟨a, b⟩
    · rw [c] at h; exact absurd h (by decide)
    · rw [c] at h; exact absurd h (by decide)
    · rw [c] at h; exact absurd h (by decide)
    · rw [c] at h; exact absurd h (by decide)
    · rw [c] at h; exact absurd h (by decide)
    · rw [c] at h; exact absurd h (by decide)
    · rw [c] at h; exact absurd h (by decide)
    · rw [c] at h; exact absurd h (by decide)
    · rw [c] at h; exact absurd h (by decide)
    · rw [c] at h; exact absurd h (by decide)
    · rw [c] at h; exact absurd h (by decide)
    · rw [c] at h; exact absurd h (by decide)
    · rw [c] at h; exact absurd h (by decide)
    · rw [c] at h; exact absurd h (by decide)
    · rw [c] at h; exact absurd h (by decide)
    · rw [c] at h; exact absurd h (by decide)
  · rintro ⟨rfl, rfl⟩
    rfl
theorem tw_stuck (mk : Int32) (mv : Int64) : kdOf mk mv = 16 ↔ (mk = 0 ∧ mv = 8319403481517522944) := by
  constructor
  · intro h
    rcases kd_cases mk mv with ⟨a, b, c⟩ | ⟨a, b, c⟩ | ⟨a, b, c⟩ | ⟨a, b, c⟩ | ⟨a, b, c⟩ | ⟨a, b, c⟩ | ⟨a, b, c⟩ | ⟨a, b, c⟩ | ⟨a, b, c⟩ | ⟨a, b, c⟩ | ⟨a, b, c⟩ | ⟨a, b, c⟩ | ⟨a, b, c⟩ | ⟨a, b, c⟩ | c | c | c | c
    · rw [c] at h; exact absurd h (by decide)
    · rw [c] at h; exact absurd h (by decide)
    · exact ⟨a, b⟩
    · rw [c] at h; exact absurd h (by decide)
    · rw [c] at h; exact absurd h (by decide)
    · rw [c] at h; exact absurd h (by decide)
    · rw [c] at h; exact absurd h (by decide)
    · rw [c] at h; exact absurd h (by decide)
    · rw [c] at h; exact absurd h (by decide)
    · rw [c] at h; exact absurd h (by decide)
    · rw [c] at h; exact absurd h (by decide)
    · rw [c] at h; exact absurd h (by decide)
    · rw [c] at h; exact absurd h (by decide)
    · rw [c] at h; exact absurd h (by decide)
    · rw [c] at h; exact absurd h (by decide)
    · rw [c] at h; exact absurd h (by decide)
    · rw [c] at h; exact absurd h (by decide)
    · rw [c] at h; exact absurd h (by decide)
  · rintro ⟨rfl, rfl⟩
    rfl
theorem tw_jump (mk : Int32) (mv : Int64) : kdOf mk mv = 17 ↔ (mk = 0 ∧ mv = 7671157868099272704) := by
  constructor
  · intro h
    rcases kd_cases mk mv with ⟨a, b, c⟩ | ⟨a, b, c⟩ | ⟨a, b, c⟩ | ⟨a, b, c⟩ | ⟨a, b, c⟩ | ⟨a, b, c⟩ | ⟨a, b, c⟩ | ⟨a, b, c⟩ | ⟨a, b, c⟩ | ⟨a, b, c⟩ | ⟨a, b, c⟩ | ⟨a, b, c⟩ | ⟨a, b, c⟩ | ⟨a, b, c⟩ | c | c | c | c
    · rw [c] at h; exact absurd h (by decide)
    · rw [c] at h; exact absurd h (by decide)
    · rw [c] at h; exact absurd h (by decide)
    · exact ⟨a, b⟩
    · rw [c] at h; exact absurd h (by decide)
    · rw [c] at h; exact absurd h (by decide)
    · rw [c] at h; exact absurd h (by decide)
    · rw [c] at h; exact absurd h (by decide)
    · rw [c] at h; exact absurd h (by decide)
    · rw [c] at h; exact absurd h (by decide)
    · rw [c] at h; exact absurd h (by decide)
    · rw [c] at h; exact absurd h (by decide)
    · rw [c] at h; exact absurd h (by decide)
    · rw [c] at h; exact absurd h (by decide)
    · rw [c] at h; exact absurd h (by decide)
    · rw [c] at h; exact absurd h (by decide)
    · rw [c] at h; exact absurd h (by decide)
    · rw [c] at h; exact absurd h (by decide)
  · rintro ⟨rfl, rfl⟩
    rfl
theorem tw_silent (mk : Int32) (mv : Int64) : kdOf mk mv = 18 ↔ (mk = 0 ∧ mv = 8316297369816924160) := by
  constructor
  · intro h
    rcases kd_cases mk mv with ⟨a, b, c⟩ | ⟨a, b, c⟩ | ⟨a, b, c⟩ | ⟨a, b, c⟩ | ⟨a, b, c⟩ | ⟨a, b, c⟩ | ⟨a, b, c⟩ | ⟨a, b, c⟩ | ⟨a, b, c⟩ | ⟨a, b, c⟩ | ⟨a, b, c⟩ | ⟨a, b, c⟩ | ⟨a, b, c⟩ | ⟨a, b, c⟩ | c | c | c | c
    · rw [c] at h; exact absurd h (by decide)
    · rw [c] at h; exact absurd h (by decide)
    · rw [c] at h; exact absurd h (by decide)
    · rw [c] at h; exact absurd h (by decide)
    · exact ⟨a, b⟩
    · rw [c] at h; exact absurd h (by decide)
    · rw [c] at h; exact absurd h (by decide)
    · rw [c] at h; exact absurd h (by decide)
    · rw [c] at h; exact absurd h (by decide)
    · rw [c] at h; exact absurd h (by decide)
    · rw [c] at h; exact absurd h (by decide)
    · rw [c] at h; exact absurd h (by decide)
    · rw [c] at h; exact absurd h (by decide)
    · rw [c] at h; exact absurd h (by decide)
    · rw [c] at h; exact absurd h (by decide)
    · rw [c] at h; exact absurd h (by decide)
    · rw [c] at h; exact absurd h (by decide)
    · rw [c] at h; exact absurd h (by decide)
  · rintro ⟨rfl, rfl⟩
    rfl
theorem tw_colon (mk : Int32) (mv : Int64) : kdOf mk mv = 5 ↔ (mk = 3 ∧ mv = 58) := by
  constructor
  · intro h
    rcases kd_cases mk mv with ⟨a, b, c⟩ | ⟨a, b, c⟩ | ⟨a, b, c⟩ | ⟨a, b, c⟩ | ⟨a, b, c⟩ | ⟨a, b, c⟩ | ⟨a, b, c⟩ | ⟨a, b, c⟩ | ⟨a, b, c⟩ | ⟨a, b, c⟩ | ⟨a, b, c⟩ | ⟨a, b, c⟩ | ⟨a, b, c⟩ | ⟨a, b, c⟩ | c | c | c | c
    · rw [c] at h; exact absurd h (by decide)
    · rw [c] at h; exact absurd h (by decide)
    · rw [c] at h; exact absurd h (by decide)
    · rw [c] at h; exact absurd h (by decide)
    · rw [c] at h; exact absurd h (by decide)
    · exact ⟨a, b⟩
    · rw [c] at h; exact absurd h (by decide)
    · rw [c] at h; exact absurd h (by decide)
    · rw [c] at h; exact absurd h (by decide)
    · rw [c] at h; exact absurd h (by decide)
    · rw [c] at h; exact absurd h (by decide)
    · rw [c] at h; exact absurd h (by decide)
    · rw [c] at h; exact absurd h (by decide)
    · rw [c] at h; exact absurd h (by decide)
    · rw [c] at h; exact absurd h (by decide)
    · rw [c] at h; exact absurd h (by decide)
    · rw [c] at h; exact absurd h (by decide)
    · rw [c] at h; exact absurd h (by decide)
  · rintro ⟨rfl, rfl⟩
    rfl
theorem tw_and (mk : Int32) (mv : Int64) : kdOf mk mv = 6 ↔ (mk = 3 ∧ mv = 38) := by
  constructor
  · intro h
    rcases kd_cases mk mv with ⟨a, b, c⟩ | ⟨a, b, c⟩ | ⟨a, b, c⟩ | ⟨a, b, c⟩ | ⟨a, b, c⟩ | ⟨a, b, c⟩ | ⟨a, b, c⟩ | ⟨a, b, c⟩ | ⟨a, b, c⟩ | ⟨a, b, c⟩ | ⟨a, b, c⟩ | ⟨a, b, c⟩ | ⟨a, b, c⟩ | ⟨a, b, c⟩ | c | c | c | c
    · rw [c] at h; exact absurd h (by decide)
    · rw [c] at h; exact absurd h (by decide)
    · rw [c] at h; exact absurd h (by decide)
    · rw [c] at h; exact absurd h (by decide)
    · rw [c] at h; exact absurd h (by decide)
    · rw [c] at h; exact absurd h (by decide)
    · exact ⟨a, b⟩
    · rw [c] at h; exact absurd h (by decide)
    · rw [c] at h; exact absurd h (by decide)
    · rw [c] at h; exact absurd h (by decide)
    · rw [c] at h; exact absurd h (by decide)
    · rw [c] at h; exact absurd h (by decide)
    · rw [c] at h; exact absurd h (by decide)
    · rw [c] at h; exact absurd h (by decide)
    · rw [c] at h; exact absurd h (by decide)
    · rw [c] at h; exact absurd h (by decide)
    · rw [c] at h; exact absurd h (by decide)
    · rw [c] at h; exact absurd h (by decide)
  · rintro ⟨rfl, rfl⟩
    rfl
theorem tw_semi (mk : Int32) (mv : Int64) : kdOf mk mv = 7 ↔ (mk = 3 ∧ mv = 59) := by
  constructor
  · intro h
    rcases kd_cases mk mv with ⟨a, b, c⟩ | ⟨a, b, c⟩ | ⟨a, b, c⟩ | ⟨a, b, c⟩ | ⟨a, b, c⟩ | ⟨a, b, c⟩ | ⟨a, b, c⟩ | ⟨a, b, c⟩ | ⟨a, b, c⟩ | ⟨a, b, c⟩ | ⟨a, b, c⟩ | ⟨a, b, c⟩ | ⟨a, b, c⟩ | ⟨a, b, c⟩ | c | c | c | c
    · rw [c] at h; exact absurd h (by decide)
    · rw [c] at h; exact absurd h (by decide)
    · rw [c] at h; exact absurd h (by decide)
    · rw [c] at h; exact absurd h (by decide)
    · rw [c] at h; exact absurd h (by decide)
    · rw [c] at h; exact absurd h (by decide)
    · rw [c] at h; exact absurd h (by decide)
    · exact ⟨a, b⟩
    · rw [c] at h; exact absurd h (by decide)
    · rw [c] at h; exact absurd h (by decide)
    · rw [c] at h; exact absurd h (by decide)
    · rw [c] at h; exact absurd h (by decide)
    · rw [c] at h; exact absurd h (by decide)
    · rw [c] at h; exact absurd h (by decide)
    · rw [c] at h; exact absurd h (by decide)
    · rw [c] at h; exact absurd h (by decide)
    · rw [c] at h; exact absurd h (by decide)
    · rw [c] at h; exact absurd h (by decide)
  · rintro ⟨rfl, rfl⟩
    rfl
theorem tw_minus (mk : Int32) (mv : Int64) : kdOf mk mv = 8 ↔ (mk = 3 ∧ mv = 45) := by
  constructor
  · intro h
    rcases kd_cases mk mv with ⟨a, b, c⟩ | ⟨a, b, c⟩ | ⟨a, b, c⟩ | ⟨a, b, c⟩ | ⟨a, b, c⟩ | ⟨a, b, c⟩ | ⟨a, b, c⟩ | ⟨a, b, c⟩ | ⟨a, b, c⟩ | ⟨a, b, c⟩ | ⟨a, b, c⟩ | ⟨a, b, c⟩ | ⟨a, b, c⟩ | ⟨a, b, c⟩ | c | c | c | c
    · rw [c] at h; exact absurd h (by decide)
    · rw [c] at h; exact absurd h (by decide)
    · rw [c] at h; exact absurd h (by decide)
    · rw [c] at h; exact absurd h (by decide)
    · rw [c] at h; exact absurd h (by decide)
    · rw [c] at h; exact absurd h (by decide)
    · rw [c] at h; exact absurd h (by decide)
    · rw [c] at h; exact absurd h (by decide)
    · exact ⟨a, b⟩
    · rw [c] at h; exact absurd h (by decide)
    · rw [c] at h; exact absurd h (by decide)
    · rw [c] at h; exact absurd h (by decide)
    · rw [c] at h; exact absurd h (by decide)
    · rw [c] at h; exact absurd h (by decide)
    · rw [c] at h; exact absurd h (by decide)
    · rw [c] at h; exact absurd h (by decide)
    · rw [c] at h; exact absurd h (by decide)
    · rw [c] at h; exact absurd h (by decide)
  · rintro ⟨rfl, rfl⟩
    rfl
theorem tw_lt (mk : Int32) (mv : Int64) : kdOf mk mv = 11 ↔ (mk = 3 ∧ mv = 60) := by
  constructor
  · intro h
    rcases kd_cases mk mv with ⟨a, b, c⟩ | ⟨a, b, c⟩ | ⟨a, b, c⟩ | ⟨a, b, c⟩ | ⟨a, b, c⟩ | ⟨a, b, c⟩ | ⟨a, b, c⟩ | ⟨a, b, c⟩ | ⟨a, b, c⟩ | ⟨a, b, c⟩ | ⟨a, b, c⟩ | ⟨a, b, c⟩ | ⟨a, b, c⟩ | ⟨a, b, c⟩ | c | c | c | c
    · rw [c] at h; exact absurd h (by decide)
    · rw [c] at h; exact absurd h (by decide)
    · rw [c] at h; exact absurd h (by decide)
    · rw [c] at h; exact absurd h (by decide)
    · rw [c] at h; exact absurd h (by decide)
    · rw [c] at h; exact absurd h (by decide)
    · rw [c] at h; exact absurd h (by decide)
    · rw [c] at h; exact absurd h (by decide)
    · rw [c] at h; exact absurd h (by decide)
    · exact ⟨a, b⟩
    · rw [c] at h; exact absurd h (by decide)
    · rw [c] at h; exact absurd h (by decide)
    · rw [c] at h; exact absurd h (by decide)
    · rw [c] at h; exact absurd h (by decide)
    · rw [c] at h; exact absurd h (by decide)
    · rw [c] at h; exact absurd h (by decide)
    · rw [c] at h; exact absurd h (by decide)
    · rw [c] at h; exact absurd h (by decide)
  · rintro ⟨rfl, rfl⟩
    rfl
theorem tw_le (mk : Int32) (mv : Int64) : kdOf mk mv = 12 ↔ (mk = 3 ∧ mv = 316) := by
  constructor
  · intro h
    rcases kd_cases mk mv with ⟨a, b, c⟩ | ⟨a, b, c⟩ | ⟨a, b, c⟩ | ⟨a, b, c⟩ | ⟨a, b, c⟩ | ⟨a, b, c⟩ | ⟨a, b, c⟩ | ⟨a, b, c⟩ | ⟨a, b, c⟩ | ⟨a, b, c⟩ | ⟨a, b, c⟩ | ⟨a, b, c⟩ | ⟨a, b, c⟩ | ⟨a, b, c⟩ | c | c | c | c
    · rw [c] at h; exact absurd h (by decide)
    · rw [c] at h; exact absurd h (by decide)
    · rw [c] at h; exact absurd h (by decide)
    · rw [c] at h; exact absurd h (by decide)
    · rw [c] at h; exact absurd h (by decide)
    · rw [c] at h; exact absurd h (by decide)
    · rw [c] at h; exact absurd h (by decide)
    · rw [c] at h; exact absurd h (by decide)
    · rw [c] at h; exact absurd h (by decide)
    · rw [c] at h; exact absurd h (by decide)
    · exact ⟨a, b⟩
    · rw [c] at h; exact absurd h (by decide)
    · rw [c] at h; exact absurd h (by decide)
    · rw [c] at h; exact absurd h (by decide)
    · rw [c] at h; exact absurd h (by decide)
    · rw [c] at h; exact absurd h (by decide)
    · rw [c] at h; exact absurd h (by decide)
    · rw [c] at h; exact absurd h (by decide)
  · rintro ⟨rfl, rfl⟩
    rfl
theorem tw_eq (mk : Int32) (mv : Int64) : kdOf mk mv = 13 ↔ (mk = 3 ∧ mv = 61) := by
  constructor
  · intro h
    rcases kd_cases mk mv with ⟨a, b, c⟩ | ⟨a, b, c⟩ | ⟨a, b, c⟩ | ⟨a, b, c⟩ | ⟨a, b, c⟩ | ⟨a, b, c⟩ | ⟨a, b, c⟩ | ⟨a, b, c⟩ | ⟨a, b, c⟩ | ⟨a, b, c⟩ | ⟨a, b, c⟩ | ⟨a, b, c⟩ | ⟨a, b, c⟩ | ⟨a, b, c⟩ | c | c | c | c
    · rw [c] at h; exact absurd h (by decide)
    · rw [c] at h; exact absurd h (by decide)
    · rw [c] at h; exact absurd h (by decide)
    · rw [c] at h; exact absurd h (by decide)
    · rw [c] at h; exact absurd h (by decide)
    · rw [c] at h; exact absurd h (by decide)
    · rw [c] at h; exact absurd h (by decide)
    · rw [c] at h; exact absurd h (by decide)
    · rw [c] at h; exact absurd h (by decide)
    · rw [c] at h; exact absurd h (by decide)
    · rw [c] at h; exact absurd h (by decide)
    · exact ⟨a, b⟩
    · rw [c] at h; exact absurd h (by decide)
    · rw [c] at h; exact absurd h (by decide)
    · rw [c] at h; exact absurd h (by decide)
    · rw [c] at h; exact absurd h (by decide)
    · rw [c] at h; exact absurd h (by decide)
    · rw [c] at h; exact absurd h (by decide)
  · rintro ⟨rfl, rfl⟩
    rfl
theorem tw_ge (mk : Int32) (mv : Int64) : kdOf mk mv = 14 ↔ (mk = 3 ∧ mv = 318) := by
  constructor
  · intro h
    rcases kd_cases mk mv with ⟨a, b, c⟩ | ⟨a, b, c⟩ | ⟨a, b, c⟩ | ⟨a, b, c⟩ | ⟨a, b, c⟩ | ⟨a, b, c⟩ | ⟨a, b, c⟩ | ⟨a, b, c⟩ | ⟨a, b, c⟩ | ⟨a, b, c⟩ | ⟨a, b, c⟩ | ⟨a, b, c⟩ | ⟨a, b, c⟩ | ⟨a, b, c⟩ | c | c | c | c
    · rw [c] at h; exact absurd h (by decide)
    · rw [c] at h; exact absurd h (by decide)
    · rw [c] at h; exact absurd h (by decide)
    · rw [c] at h; exact absurd h (by decide)
    · rw [c] at h; exact absurd h (by decide)
    · rw [c] at h; exact absurd h (by decide)
    · rw [c] at h; exact absurd h (by decide)
    · rw [c] at h; exact absurd h (by decide)
    · rw [c] at h; exact absurd h (by decide)
    · rw [c] at h; exact absurd h (by decide)
    · rw [c] at h; exact absurd h (by decide)
    · rw [c] at h; exact absurd h (by decide)
    · exact ⟨a, b⟩
    · rw [c] at h; exact absurd h (by decide)
    · rw [c] at h; exact absurd h (by decide)
    · rw [c] at h; exact absurd h (by decide)
    · rw [c] at h; exact absurd h (by decide)
    · rw [c] at h; exact absurd h (by decide)
  · rintro ⟨rfl, rfl⟩
    rfl
theorem tw_gt (mk : Int32) (mv : Int64) : kdOf mk mv = 15 ↔ (mk = 3 ∧ mv = 62) := by
  constructor
  · intro h
    rcases kd_cases mk mv with ⟨a, b, c⟩ | ⟨a, b, c⟩ | ⟨a, b, c⟩ | ⟨a, b, c⟩ | ⟨a, b, c⟩ | ⟨a, b, c⟩ | ⟨a, b, c⟩ | ⟨a, b, c⟩ | ⟨a, b, c⟩ | ⟨a, b, c⟩ | ⟨a, b, c⟩ | ⟨a, b, c⟩ | ⟨a, b, c⟩ | ⟨a, b, c⟩ | c | c | c | c
    · rw [c] at h; exact absurd h (by decide)
    · rw [c] at h; exact absurd h (by decide)
    · rw [c] at h; exact absurd h (by decide)
    · rw [c] at h; exact absurd h (by decide)
    · rw [c] at h; exact absurd h (by decide)
    · rw [c] at h; exact absurd h (by decide)
    · rw [c] at h; exact absurd h (by decide)
    · rw [c] at h; exact absurd h (by decide)
    · rw [c] at h; exact absurd h (by decide)
    · rw [c] at h; exact absurd h (by decide)
    · rw [c] at h; exact absurd h (by decide)
    · rw [c] at h; exact absurd h (by decide)
    · rw [c] at h; exact absurd h (by decide)
    · exact ⟨a, b⟩
    · rw [c] at h; exact absurd h (by decide)
    · rw [c] at h; exact absurd h (by decide)
    · rw [c] at h; exact absurd h (by decide)
    · rw [c] at h; exact absurd h (by decide)
  · rintro ⟨rfl, rfl⟩
    rfl
