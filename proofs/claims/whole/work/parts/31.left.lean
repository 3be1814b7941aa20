-- small questions: minutes, points
theorem lgl {a b : Int64} : lg_cmp a b < 0 ↔ a < b := by
  unfold lg_cmp
  by_cases h1 : a > b
  · rw [if_pos h1]
    constructor
    · intro h; exact absurd h (by decide)
    · intro h; exact absurd h (by simp only [gt_iff_lt, Int64.lt_iff_toInt_lt] at *; omega)
  · rw [if_neg h1]
    by_cases h2 : a = b
    · rw [if_pos h2]
      constructor
      · intro h; exact absurd h (by decide)
      · intro h; subst h2; simp only [Int64.lt_iff_toInt_lt] at h; omega
    · rw [if_neg h2]
      constructor
      · intro _
        simp only [gt_iff_lt, Int64.lt_iff_toInt_lt, ← Int64.toInt_inj] at *
        omega
      · intro _; decide
theorem lgg {a b : Int64} : 0 < lg_cmp a b ↔ b < a := by
  unfold lg_cmp
  by_cases h1 : a > b
  · rw [if_pos h1]
    exact ⟨fun _ => h1, fun _ => by decide⟩
  · rw [if_neg h1]
    by_cases h2 : a = b
    · rw [if_pos h2]
      exact ⟨fun h => absurd h (by decide), fun h => absurd h h1⟩
    · rw [if_neg h2]
      exact ⟨fun h => absurd h (by decide), fun h => absurd h h1⟩
theorem in_lo {p : Int32} {v : Int64} {w : Int32} (hv : v.toInt = w.toInt) : p.toInt64 < v ↔ p < w := by
  rw [Int64.lt_iff_toInt_lt, Int32.lt_iff_toInt_lt, Int32.toInt_toInt64, hv]
theorem in_hi {p : Int32} {v : Int64} {w : Int32} (hv : v.toInt = w.toInt) : v < p.toInt64 ↔ w < p := by
  rw [Int64.lt_iff_toInt_lt, Int32.lt_iff_toInt_lt, Int32.toInt_toInt64, hv]
theorem isIn_eq {p : Int32} {lo hi : Int64} {a b : Int32} (ha : lo.toInt = a.toInt) (hb : hi.toInt = b.toInt) : f_Model_isIn p.toInt64 lo hi = some (if p < a then 0 else if b < p then 0 else 1) := by
  unfold f_Model_isIn
  by_cases h1 : p < a
  · rw [if_pos (lgl.mpr ((in_lo ha).mpr h1)), if_pos h1]
  · rw [if_neg (fun h => h1 ((in_lo ha).mp (lgl.mp h))), if_neg h1]
    by_cases h2 : b < p
    · rw [if_pos (lgg.mpr ((in_hi hb).mpr h2)), if_pos h2]
    · rw [if_neg (fun h => h2 ((in_hi hb).mp (lgg.mp h))), if_neg h2]
theorem zb_ite {α : Type} {c d : Prop} [Decidable c] [Decidable d] {k : Int32 → Option α} : zb (if c then 0 else if d then 0 else 1) (k (if c then 0 else if d then 0 else 1)) = k (if c then 0 else if d then 0 else 1) := by
  by_cases h1 : c
  · simp only [if_pos h1]; exact zb_0
  · by_cases h2 : d
    · simp only [if_neg h1, if_pos h2]; exact zb_0
    · simp only [if_neg h1, if_neg h2]; exact zb_1
theorem isMinute_m (p : Int32) : f_Model_isMinute p = some (if p < 0 then 0 else if 100000 < p then 0 else 1) := by
  unfold f_Model_isMinute
  rw [isIn_eq (a := 0) (b := 100000) rfl rfl]
  exact zb_ite (k := fun x => some x)
theorem isMinute_c (p : Int32) : f_FaultRules_isMinute p = some (if p < 0 then 0 else if 100000 < p then 0 else 1) := by
  unfold f_FaultRules_isMinute
  by_cases h1 : p < 0
  · simp only [if_pos h1]
  · by_cases h2 : 100000 < p
    · simp only [if_neg h1, if_pos h2]
    · simp only [if_neg h1, if_neg h2]
-- minutes left out
abbrev ILeft (n : Nat) (cx cm : Int32) (mi le : Nat → Int32) : Prop := n ≤ 100 ∧ cx = nI n ∧ cm = nI n ∧ ∀ j, j < n → mi j = le j
theorem left_loop {n : Nat} {cx cm v : Int32} {mi le : Nat → Int32} {fu1 fu2 : Nat} (hI : ILeft n cx cm mi le) : ∀ (f i : Nat), i ≤ n → n < f + i →
    (∃ j, i ≤ j ∧ j < n ∧ mi j = v ∧ L_LeftOut_placeOf_2 fu1 cx mi v f (nI i) = some (nI j) ∧ L_Model_leftAt_2 fu2 cm le v f (nI i) = some (nI j)) ∨
    ((∀ j, i ≤ j → j < n → mi j ≠ v) ∧ L_LeftOut_placeOf_2 fu1 cx mi v f (nI i) = some (-1) ∧ L_Model_leftAt_2 fu2 cm le v f (nI i) = some (nI n)) := by
  obtain ⟨hn, rfl, rfl, he⟩ := hI
  intro f
  induction f with
  | zero => intro i h1 h2; omega
  | succ f ih =>
    intro i h1 h2
    show (∃ j, i ≤ j ∧ j < n ∧ mi j = v ∧ (if nI n ≤ nI i then (some (-1)) else (bd (nI i) 100 (if mi (nI i).toNatClampNeg = v then some (nI i) else L_LeftOut_placeOf_2 fu1 (nI n) mi v f (nI i + 1)))) = some (nI j) ∧ (if nI n ≤ nI i then (some (nI i)) else (bd (nI i) 100 (if le (nI i).toNatClampNeg = v then some (nI i) else L_Model_leftAt_2 fu2 (nI n) le v f (nI i + 1)))) = some (nI j)) ∨
      ((∀ j, i ≤ j → j < n → mi j ≠ v) ∧ (if nI n ≤ nI i then (some (-1)) else (bd (nI i) 100 (if mi (nI i).toNatClampNeg = v then some (nI i) else L_LeftOut_placeOf_2 fu1 (nI n) mi v f (nI i + 1)))) = some (-1) ∧ (if nI n ≤ nI i then (some (nI i)) else (bd (nI i) 100 (if le (nI i).toNatClampNeg = v then some (nI i) else L_Model_leftAt_2 fu2 (nI n) le v f (nI i + 1)))) = some (nI n))
    rcases Nat.lt_or_ge i n with h | h
    · have h3 : ¬ nI n ≤ nI i := fun q => absurd ((nI_leI (by omega) (by omega)).mp q) (by omega)
      rw [if_neg h3, if_neg h3, bd_nI (by omega) (by decide), bd_nI (by omega) (by decide), nI_clamp (by omega), ← he i h]
      by_cases h4 : mi i = v
      · rw [if_pos h4, if_pos h4]
        exact Or.inl ⟨i, Nat.le_refl i, h, h4, rfl, rfl⟩
      · rw [if_neg h4, if_neg h4, nI_1]
        rcases ih (i + 1) (by omega) (by omega) with ⟨j, g1, g2, g3, g4, g5⟩ | ⟨g1, g2, g3⟩
        · exact Or.inl ⟨j, by omega, g2, g3, g4, g5⟩
        · refine Or.inr ⟨fun j q1 q2 => ?_, g2, g3⟩
          rcases Nat.eq_or_lt_of_le q1 with rfl | q3
          · exact h4
          · exact g1 j q3 q2
    · have : i = n := by omega
      subst this
      rw [if_pos (nI_le (Nat.le_refl i) (by omega)), if_pos (nI_le (Nat.le_refl i) (by omega))]
      exact Or.inr ⟨fun j q1 q2 => absurd q2 (by omega), rfl, rfl⟩
