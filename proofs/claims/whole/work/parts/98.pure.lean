theorem law_pure (sL : Nat) (xs : Nat → Int32) (h : sL ≤ 3072) : law_true sL xs := by sorry
