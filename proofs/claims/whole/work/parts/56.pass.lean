theorem said_eq {a v : Nat} {values : Nat → Int64} (ha : a < 1000) (hv : values a = lN v) : f_Model_said (nI (a + 1)) values = some (nI v) := by
  have e : nI (a + 1) - 1 = nI a := pk_sub (a := a + 1) (b := 1) (by omega)
  unfold f_Model_said
  rw [e, bd_nI ha (by decide), nI_clamp (by omega), hv, lN_i]
theorem pp_eq {m a : Nat} {pos : Nat → Nat} {kinds : Nat → Int32} {values : Nat → Int64} {ax kd am : Int32} {le : Int64} (hm : m ≤ 1000) (hC : Cu m pos kinds values a ax kd am le) :
    (kd = 4 ∧ a < m ∧ ∃ v, v < 16 ∧ am = nI v ∧ f_Model_passesPoint (nI m) (nI a) kinds values = some (1, nI (a + 1)) ∧ f_Model_said (nI (a + 1)) values = some (nI v)) ∨ (¬ kd = 4 ∧ f_Model_passesPoint (nI m) (nI a) kinds values = some (0, nI a)) := by
  have c0 : (0 : Int64).toInt = 0 := rfl
  have c15 : (15 : Int64).toInt = 15 := rfl
  have n10 : ¬ (1 : Int32) = 0 := by decide
  unfold f_Model_passesPoint
  rcases hC with ⟨h1, -, h3, -, h4⟩ | ⟨h1, h2⟩
  · rw [if_neg (nI_ge h1 (by omega)), bd_nI (by omega) (by decide), nI_clamp (by omega), bd_nI (by omega) (by decide), isIn_v, c0, c15]
    simp only [Option.bind_some]
    have q := kd_4 (kinds a) (values a)
    rw [← h3] at q
    by_cases e : kd = 4
    · obtain ⟨q1, q2⟩ := q.mp e
      obtain ⟨v, v1, v2, v3⟩ := h4 (Or.inr e)
      rw [if_pos q1, if_pos q2, if_neg n10, if_neg n10, nI_1]
      rw [v3, lN_toInt (by omega)] at q2
      exact Or.inl ⟨e, h1, v, by omega, v2, rfl, said_eq (by omega) v3⟩
    · refine Or.inr ⟨e, ?_⟩
      by_cases y : kinds a = 2
      · rw [if_pos y, if_neg (fun z => e (q.mpr ⟨y, z⟩)), if_pos rfl, if_pos trivial, i32_add0]
      · rw [if_neg y, if_pos trivial, i32_add0]
  · subst h1
    rw [if_pos (nI_le (Nat.le_refl a) (by omega)), if_pos rfl, i32_add0]
    exact Or.inr ⟨by rw [h2]; decide, rfl⟩
theorem pn_eq {m a lo hi : Nat} {pos : Nat → Nat} {kinds : Nat → Int32} {values : Nat → Int64} {ax kd am : Int32} {le : Int64} (hm : m ≤ 1000) (hlo : lo < 2 ^ 31) (hhi : hi ≤ 1000000) (hC : Cu m pos kinds values a ax kd am le) :
    (kd = 3 ∧ a < m ∧ ∃ v, lo ≤ v ∧ v ≤ hi ∧ am = nI v ∧ f_Model_passesNumber (nI m) (nI a) kinds values (lN lo) (lN hi) = some (1, nI (a + 1)) ∧ f_Model_said (nI (a + 1)) values = some (nI v)) ∨ (¬ (kd = 3 ∧ ∃ v, lo ≤ v ∧ v ≤ hi ∧ am = nI v) ∧ f_Model_passesNumber (nI m) (nI a) kinds values (lN lo) (lN hi) = some (0, nI a)) := by
  have n10 : ¬ (1 : Int32) = 0 := by decide
  unfold f_Model_passesNumber
  rcases hC with ⟨h1, -, h3, -, h4⟩ | ⟨h1, h2⟩
  · rw [if_neg (nI_ge h1 (by omega)), bd_nI (by omega) (by decide), nI_clamp (by omega), bd_nI (by omega) (by decide), isIn_v, lN_toInt hlo, lN_toInt (by omega)]
    simp only [Option.bind_some]
    have q := kd_3 (kinds a) (values a)
    rw [← h3] at q
    by_cases y : kinds a = 1
    · rw [if_pos y]
      by_cases z : (lo : Int) ≤ (values a).toInt ∧ (values a).toInt ≤ (hi : Int)
      · have e : kd = 3 := q.mpr ⟨y, by omega⟩
        obtain ⟨v, v1, v2, v3⟩ := h4 (Or.inl e)
        rw [if_pos z, if_neg n10, if_neg n10, nI_1]
        rw [v3, lN_toInt (by omega)] at z
        exact Or.inl ⟨e, h1, v, by omega, by omega, v2, rfl, said_eq (by omega) v3⟩
      · rw [if_neg z, if_pos rfl, if_pos trivial, i32_add0]
        refine Or.inr ⟨fun ⟨e, v, v1, v2, v3⟩ => ?_, rfl⟩
        obtain ⟨w, w1, w2, w3⟩ := h4 (Or.inl e)
        rw [w2] at v3
        have := (nI_eq (by omega) (by omega)).mp v3
        rw [w3, lN_toInt (by omega)] at z
        omega
    · rw [if_neg y, if_pos trivial, i32_add0]
      exact Or.inr ⟨fun e => y (q.mp e.1).1, rfl⟩
  · subst h1
    rw [if_pos (nI_le (Nat.le_refl a) (by omega)), if_pos rfl, i32_add0]
    exact Or.inr ⟨fun e => absurd (h2.symm.trans e.1) (by decide), rfl⟩
theorem pr_eq {m a : Nat} {pos : Nat → Nat} {kinds : Nat → Int32} {values : Nat → Int64} {ax kd am : Int32} {le : Int64} (hm : m ≤ 1000) (hC : Cu m pos kinds values a ax kd am le) :
    (∃ r, r < 5 ∧ kd = nI (11 + r) ∧ a < m ∧ f_Model_passedRelation (nI m) (nI a) kinds values = some (nI r, nI (a + 1))) ∨ ((kd < 11 ∨ 15 < kd) ∧ f_Model_passedRelation (nI m) (nI a) kinds values = some (-1, nI a)) := by
  have n10 : ¬ (1 : Int32) = 0 := by decide
  unfold f_Model_passedRelation
  rcases ps_eq tw_lt (by decide) hm hC with ⟨e, g, h⟩ | ⟨e1, h⟩
  · rw [h]
    exact Or.inl ⟨0, by decide, e, g, rfl⟩
  rw [h]
  simp only [Option.bind_some]
  rw [if_pos trivial]
  rcases ps_eq tw_le (by decide) hm hC with ⟨e, g, h⟩ | ⟨e2, h⟩
  · rw [h]
    exact Or.inl ⟨1, by decide, e, g, rfl⟩
  rw [h]
  simp only [Option.bind_some]
  rw [if_pos trivial]
  rcases ps_eq tw_eq (by decide) hm hC with ⟨e, g, h⟩ | ⟨e3, h⟩
  · rw [h]
    exact Or.inl ⟨2, by decide, e, g, rfl⟩
  rw [h]
  simp only [Option.bind_some]
  rw [if_pos trivial]
  rcases ps_eq tw_ge (by decide) hm hC with ⟨e, g, h⟩ | ⟨e4, h⟩
  · rw [h]
    exact Or.inl ⟨3, by decide, e, g, rfl⟩
  rw [h]
  simp only [Option.bind_some]
  rw [if_pos trivial]
  rcases ps_eq tw_gt (by decide) hm hC with ⟨e, g, h⟩ | ⟨e5, h⟩
  · rw [h]
    exact Or.inl ⟨4, by decide, e, g, rfl⟩
  rw [h]
  refine Or.inr ⟨?_, rfl⟩
  rcases cu_kd hC with ⟨-, -, -, n, n1, n2, rfl⟩ | ⟨-, rfl⟩
  · have x1 : n ≠ 11 := fun q => e1 (by rw [q]; rfl)
    have x2 : n ≠ 12 := fun q => e2 (by rw [q]; rfl)
    have x3 : n ≠ 13 := fun q => e3 (by rw [q]; rfl)
    have x4 : n ≠ 14 := fun q => e4 (by rw [q]; rfl)
    have x5 : n ≠ 15 := fun q => e5 (by rw [q]; rfl)
    rcases Nat.lt_or_ge n 11 with h | h
    · exact Or.inl (nI_lt (b := 11) h (by decide))
    · exact Or.inr (nI_lt (a := 15) (by omega) (by omega))
  · exact Or.inl (by decide)
