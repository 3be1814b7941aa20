-- the class's reader takes a word; the reference passes one
abbrev TR := Int32 × Int32 × Int32 × Int32 × Int32 × Int32 × Int64 × Int32 × (Nat → Int64) × (Nat → Int32) × (Nat → Int32) × (Nat → Int32) × (Nat → Int32) × (Nat → Int32) × (Nat → Int32) × (Nat → Int32)
def rdK (l3_16x7 : Int32) (v_due_16x8 : Int32) (v_isNegative_16x9 : Int32) (v_p1_at_16x10 : Int32) (v_p1_kind_16x11 : Int32) (v_p1_amount_16x12 : Int32) (v_p1_letters_16x13 : Int64) (v_p2_count_16x14 : Int32) (v_p2_names_16x15 : Nat → Int64) (v_p2_spans_16x16 : Nat → Int32) (v_p2_costs_16x17 : Nat → Int32) (v_p2_sizes_16x18 : Nat → Int32) (v_p2_kinds_16x19 : Nat → Int32) (v_p2_firsts_16x20 : Nat → Int32) (v_p2_seconds_16x21 : Nat → Int32) (v_p2_numbers_16x22 : Nat → Int32) : Option TR := (if v_p1_kind_16x11 = 0 then (if v_due_16x8 = 0 then (some (v_p2_count_16x14, v_due_16x8, v_isNegative_16x9, v_p1_at_16x10, v_p1_kind_16x11, v_p1_amount_16x12, v_p1_letters_16x13, v_p2_count_16x14, v_p2_names_16x15, v_p2_spans_16x16, v_p2_costs_16x17, v_p2_sizes_16x18, v_p2_kinds_16x19, v_p2_firsts_16x20, v_p2_seconds_16x21, v_p2_numbers_16x22)) else (some (((-1)) - l3_16x7, v_due_16x8, v_isNegative_16x9, v_p1_at_16x10, v_p1_kind_16x11, v_p1_amount_16x12, v_p1_letters_16x13, v_p2_count_16x14, v_p2_names_16x15, v_p2_spans_16x16, v_p2_costs_16x17, v_p2_sizes_16x18, v_p2_kinds_16x19, v_p2_firsts_16x20, v_p2_seconds_16x21, v_p2_numbers_16x22))) else (some (((-1)) - l3_16x7, v_due_16x8, v_isNegative_16x9, v_p1_at_16x10, v_p1_kind_16x11, v_p1_amount_16x12, v_p1_letters_16x13, v_p2_count_16x14, v_p2_names_16x15, v_p2_spans_16x16, v_p2_costs_16x17, v_p2_sizes_16x18, v_p2_kinds_16x19, v_p2_firsts_16x20, v_p2_seconds_16x21, v_p2_numbers_16x22)))
abbrev CL (fu N : Nat) (sg : Nat → Int32) (f a : Nat) (due neg ax kd am : Int32) (le : Int64) (cnt : Int32) (nm : Nat → Int64) (sp co si ki fi se nu : Nat → Int32) : Option TR := L_Reader_read_16 fu (nI N) sg rdK f (nI a) due neg ax kd am le cnt nm sp co si ki fi se nu
abbrev Fail (a : Nat) (x : Option TR) : Prop := ∃ t, x = some t ∧ t.1 = -1 - nI a ∧ a ≤ 1000
def Wds (fu N m : Nat) (sg : Nat → Int32) (pos : Nat → Nat) (kinds : Nat → Int32) (values : Nat → Int64) : Prop :=
  N ≤ 1000 ∧ m ≤ N ∧ N < fu ∧ (∀ i, i < m → Lx fu N sg (pos i) (kinds i) (values i) (pos (i + 1))) ∧ LxE fu N sg (pos m)
def Cu (m : Nat) (pos : Nat → Nat) (kinds : Nat → Int32) (values : Nat → Int64) (a : Nat) (ax kd am : Int32) (le : Int64) : Prop :=
  (a < m ∧ ax = nI (pos (a + 1)) ∧ WR kd am le (kinds a) (values a)) ∨ (a = m ∧ kd = 0)
theorem nxt {fu N m a : Nat} {sg : Nat → Int32} {pos : Nat → Nat} {kinds : Nat → Int32} {values : Nat → Int64} (hW : Wds fu N m sg pos kinds values) (ha : a ≤ m) (kd am : Int32) (le : Int64) : ∃ ax' kd' am' le', f_Text_readNext fu (nI N) (nI (pos a)) kd am le sg = some (ax', kd', am', le') ∧ Cu m pos kinds values a ax' kd' am' le' := by
  obtain ⟨h1, h2, h3, h4, h5⟩ := hW
  rw [rn_def]
  rcases Nat.lt_or_ge a m with h | h
  · obtain ⟨kd', am', le', g1, g2⟩ := h4 a h kd am le
    exact ⟨nI (pos (a + 1)), kd', am', le', g1 fu (by omega), Or.inl ⟨h, rfl, g2⟩⟩
  · have e : a = m := by omega
    subst e
    obtain ⟨x, g⟩ := h5 kd am le fu (by omega)
    exact ⟨x, 0, am, le, g, Or.inr ⟨rfl, rfl⟩⟩
abbrev Rn (x : Int32) : Prop := ∃ n, 1 ≤ n ∧ n ≤ 18 ∧ x = nI n
theorem Rn_ite {c : Prop} [Decidable c] {a b : Int32} (h1 : Rn a) (h2 : Rn b) : Rn (if c then a else b) := by
  by_cases h : c
  · rw [if_pos h]; exact h1
  · rw [if_neg h]; exact h2
theorem kd_rng (mk : Int32) (mv : Int64) : ∃ n, 1 ≤ n ∧ n ≤ 18 ∧ kdOf mk mv = nI n := by
  unfold kdOf
  exact Rn_ite (Rn_ite ⟨9, by decide, by decide, rfl⟩ (Rn_ite ⟨10, by decide, by decide, rfl⟩ (Rn_ite ⟨16, by decide, by decide, rfl⟩ (Rn_ite ⟨17, by decide, by decide, rfl⟩ (Rn_ite ⟨18, by decide, by decide, rfl⟩ ⟨2, by decide, by decide, rfl⟩))))) (Rn_ite (Rn_ite ⟨3, by decide, by decide, rfl⟩ ⟨1, by decide, by decide, rfl⟩) (Rn_ite (Rn_ite ⟨4, by decide, by decide, rfl⟩ ⟨1, by decide, by decide, rfl⟩) (Rn_ite (Rn_ite ⟨5, by decide, by decide, rfl⟩ (Rn_ite ⟨6, by decide, by decide, rfl⟩ (Rn_ite ⟨7, by decide, by decide, rfl⟩ (Rn_ite ⟨8, by decide, by decide, rfl⟩ (Rn_ite ⟨11, by decide, by decide, rfl⟩ (Rn_ite ⟨12, by decide, by decide, rfl⟩ (Rn_ite ⟨13, by decide, by decide, rfl⟩ (Rn_ite ⟨14, by decide, by decide, rfl⟩ (Rn_ite ⟨15, by decide, by decide, rfl⟩ ⟨1, by decide, by decide, rfl⟩))))))))) ⟨1, by decide, by decide, rfl⟩)))
theorem cu_kd {m : Nat} {pos : Nat → Nat} {kinds : Nat → Int32} {values : Nat → Int64} {a : Nat} {ax kd am : Int32} {le : Int64} (h : Cu m pos kinds values a ax kd am le) : (a < m ∧ ax = nI (pos (a + 1)) ∧ WR kd am le (kinds a) (values a) ∧ ∃ n, 1 ≤ n ∧ n ≤ 18 ∧ kd = nI n) ∨ (a = m ∧ kd = 0) := by
  rcases h with ⟨h1, h2, h3⟩ | h
  · obtain ⟨n, n1, n2, n3⟩ := kd_rng (kinds a) (values a)
    exact Or.inl ⟨h1, h2, h3, n, n1, n2, h3.1.trans n3⟩
  · exact Or.inr h
theorem cl_step {fu N m f a : Nat} {sg : Nat → Int32} {pos : Nat → Nat} {kinds : Nat → Int32} {values : Nat → Int64} {due neg ax kd am cnt due' neg' cnt' : Int32} {le : Int64} {nm nm' : Nat → Int64} {sp co si ki fi se nu sp' co' si' ki' fi' se' nu' : Nat → Int32} (hW : Wds fu N m sg pos kinds values) (hC : Cu m pos kinds values a ax kd am le) (hk : ¬ kd = 0) (hf : m < f + a) (ht : f_Reader_takes fu due neg kd am le cnt nm sp co si ki fi se nu = some (1, due', neg', cnt', nm', sp', co', si', ki', fi', se', nu')) :
    ∃ f' ax' kd' am' le', f' + 1 = f ∧ Cu m pos kinds values (a + 1) ax' kd' am' le' ∧ CL fu N sg f a due neg ax kd am le cnt nm sp co si ki fi se nu = CL fu N sg f' (a + 1) due' neg' ax' kd' am' le' cnt' nm' sp' co' si' ki' fi' se' nu' := by
  rcases hC with ⟨h1, rfl, h3⟩ | ⟨h1, h2⟩
  · obtain ⟨f, rfl⟩ : ∃ g, f = g + 1 := ⟨f - 1, by omega⟩
    obtain ⟨ax', kd', am', le', g1, g2⟩ := nxt hW (show a + 1 ≤ m by omega) kd am le
    refine ⟨f, ax', kd', am', le', rfl, g2, ?_⟩
    have hN := hW.1
    have hm := hW.2.1
    have e : ¬ (1000 : Int32) ≤ nI a := nI_ge (b := 1000) (by omega) (by decide)
    show L_Reader_read_16 fu (nI N) sg rdK (f + 1) (nI a) due neg (nI (pos (a + 1))) kd am le cnt nm sp co si ki fi se nu = _
    rw [L_Reader_read_16, if_neg e, if_neg hk, ht]
    simp only [Option.bind_some]
    rw [if_neg (show ¬ (1 : Int32) = 0 by decide), g1]
    simp only [Option.bind_some]
    rw [nI_1]
  · exact absurd h2 hk
theorem cl_no {fu N m f a : Nat} {sg : Nat → Int32} {pos : Nat → Nat} {kinds : Nat → Int32} {values : Nat → Int64} {due neg ax kd am cnt : Int32} {le : Int64} {nm : Nat → Int64} {sp co si ki fi se nu : Nat → Int32} (hW : Wds fu N m sg pos kinds values) (hC : Cu m pos kinds values a ax kd am le) (hf : m < f + a) (h0 : kd = 0 → ¬ due = 0) (ht : ¬ kd = 0 → ∃ t, f_Reader_takes fu due neg kd am le cnt nm sp co si ki fi se nu = some (0, t)) :
    Fail a (CL fu N sg f a due neg ax kd am le cnt nm sp co si ki fi se nu) := by
  have hm := hW.2.1
  have hN := hW.1
  have ha : a ≤ m := by rcases hC with ⟨h1, -⟩ | ⟨h1, -⟩ <;> omega
  obtain ⟨f, rfl⟩ : ∃ g, f = g + 1 := ⟨f - 1, by omega⟩
  show Fail a (L_Reader_read_16 fu (nI N) sg rdK (f + 1) (nI a) due neg ax kd am le cnt nm sp co si ki fi se nu)
  rw [L_Reader_read_16]
  by_cases hk : kd = 0
  · have d := h0 hk
    rw [if_pos hk]
    have : rdK (nI a) due neg ax kd am le cnt nm sp co si ki fi se nu = some (((-1)) - nI a, due, neg, ax, kd, am, le, cnt, nm, sp, co, si, ki, fi, se, nu) := by
      unfold rdK
      rw [if_pos hk, if_neg d]
    rw [this]
    by_cases e : (1000 : Int32) ≤ nI a
    · rw [if_pos e]; exact ⟨_, rfl, rfl, by omega⟩
    · rw [if_neg e]; exact ⟨_, rfl, rfl, by omega⟩
  · rcases hC with ⟨h1, -⟩ | ⟨-, h1⟩
    · have e : ¬ (1000 : Int32) ≤ nI a := nI_ge (b := 1000) (by omega) (by decide)
      obtain ⟨t, ht⟩ := ht hk
      rw [if_neg e, if_neg hk, ht]
      simp only [Option.bind_some]
      rw [if_pos trivial]
      unfold rdK
      rw [if_neg hk]
      exact ⟨_, rfl, rfl, by omega⟩
    · exact absurd h1 hk
-- the reference's passes
theorem ps_eq {m a : Nat} {pos : Nat → Nat} {kinds : Nat → Int32} {values : Nat → Int64} {ax kd am K p1 : Int32} {le p2 : Int64} (hT : ∀ mk mv, kdOf mk mv = K ↔ (mk = p1 ∧ mv = p2)) (hK : ¬ K = 0) (hm : m ≤ 1000) (hC : Cu m pos kinds values a ax kd am le) :
    (kd = K ∧ a < m ∧ f_Model_passes (nI m) (nI a) kinds values p1 p2 = some (1, nI (a + 1))) ∨ (¬ kd = K ∧ f_Model_passes (nI m) (nI a) kinds values p1 p2 = some (0, nI a)) := by
  unfold f_Model_passes f_Model_isAt
  rcases hC with ⟨h1, -, h3, -⟩ | ⟨h1, h2⟩
  · rw [if_neg (nI_ge h1 (by omega)), bd_nI (by omega) (by decide), nI_clamp (by omega), bd_nI (by omega) (by decide)]
    by_cases e : kd = K
    · have q := (hT (kinds a) (values a)).mp (h3.symm.trans e)
      rw [if_pos q.1, if_pos (lg0.mpr q.2)]
      simp only [Option.bind_some]
      rw [if_neg (by decide), zb_1, nI_1]
      exact Or.inl ⟨e, h1, rfl⟩
    · refine Or.inr ⟨e, ?_⟩
      have q : ¬ (kinds a = p1 ∧ values a = p2) := fun q => e (h3.trans ((hT (kinds a) (values a)).mpr q))
      by_cases y : kinds a = p1
      · rw [if_pos y, if_neg (fun z => q ⟨y, lg0.mp z⟩)]
        simp only [Option.bind_some]
        rw [if_pos trivial, zb_0, i32_add0]
      · rw [if_neg y]
        simp only [Option.bind_some]
        rw [if_pos trivial, zb_0, i32_add0]
  · subst h1
    rw [if_pos (nI_le (Nat.le_refl a) (by omega))]
    simp only [Option.bind_some]
    rw [if_pos trivial, zb_0, i32_add0]
    exact Or.inr ⟨by rw [h2]; exact fun q => hK q.symm, rfl⟩
theorem isIn_v {v : Int64} {lo hi : Int64} : f_Model_isIn v lo hi = some (if lo.toInt ≤ v.toInt ∧ v.toInt ≤ hi.toInt then 1 else 0) := by
  unfold f_Model_isIn
  have h1 := lgl (a := v) (b := lo)
  have h2 := lgg (a := v) (b := hi)
  rw [Int64.lt_iff_toInt_lt] at h1 h2
  by_cases c1 : lo.toInt ≤ v.toInt
  · have x1 : ¬ lg_cmp v lo < 0 := fun q => absurd (h1.mp q) (by omega)
    rw [if_neg x1]
    by_cases c2 : v.toInt ≤ hi.toInt
    · have x2 : ¬ 0 < lg_cmp v hi := fun q => absurd (h2.mp q) (by omega)
      have x3 : lo.toInt ≤ v.toInt ∧ v.toInt ≤ hi.toInt := ⟨c1, c2⟩
      rw [if_neg x2, if_pos x3]
    · have x2 : 0 < lg_cmp v hi := h2.mpr (by omega)
      have x3 : ¬ (lo.toInt ≤ v.toInt ∧ v.toInt ≤ hi.toInt) := fun q => c2 q.2
      rw [if_pos x2, if_neg x3]
  · have x1 : lg_cmp v lo < 0 := h1.mpr (by omega)
    have x3 : ¬ (lo.toInt ≤ v.toInt ∧ v.toInt ≤ hi.toInt) := fun q => c1 q.1
    rw [if_pos x1, if_neg x3]
theorem kd_3 (mk : Int32) (mv : Int64) : kdOf mk mv = 3 ↔ (mk = 1 ∧ 0 ≤ mv.toInt ∧ mv.toInt ≤ 1000000) := by
  constructor
  · intro h
    unfold kdOf at h
    by_cases h0 : mk = 0
    · rw [if_pos h0] at h
      exact absurd (Or.inl (by unfold kdOf; rw [if_pos (show (0 : Int32) = 0 from rfl)]; exact h)) (kd0_n3 mv)
    · rw [if_neg h0] at h
      by_cases h1 : mk = 1
      · rw [if_pos h1] at h
        by_cases h2 : 0 ≤ mv.toInt ∧ mv.toInt ≤ 1000000
        · exact ⟨h1, h2⟩
        · rw [if_neg h2] at h; exact absurd h (by decide)
      · rw [if_neg h1] at h
        by_cases h2 : mk = 2
        · rw [if_pos h2] at h
          split at h <;> exact absurd h (by decide)
        · rw [if_neg h2] at h
          by_cases h3 : mk = 3
          · rw [if_pos h3] at h
            repeat' split at h
            all_goals exact absurd h (by decide)
          · rw [if_neg h3] at h; exact absurd h (by decide)
  · rintro ⟨rfl, h2⟩
    unfold kdOf
    rw [if_neg (by decide), if_pos rfl, if_pos h2]
theorem kd_4 (mk : Int32) (mv : Int64) : kdOf mk mv = 4 ↔ (mk = 2 ∧ 0 ≤ mv.toInt ∧ mv.toInt ≤ 15) := by
  constructor
  · intro h
    unfold kdOf at h
    by_cases h0 : mk = 0
    · rw [if_pos h0] at h
      exact absurd (Or.inr (by unfold kdOf; rw [if_pos (show (0 : Int32) = 0 from rfl)]; exact h)) (kd0_n3 mv)
    · rw [if_neg h0] at h
      by_cases h1 : mk = 1
      · rw [if_pos h1] at h
        split at h <;> exact absurd h (by decide)
      · rw [if_neg h1] at h
        by_cases h2 : mk = 2
        · rw [if_pos h2] at h
          by_cases h3 : 0 ≤ mv.toInt ∧ mv.toInt ≤ 15
          · exact ⟨h2, h3⟩
          · rw [if_neg h3] at h; exact absurd h (by decide)
        · rw [if_neg h2] at h
          by_cases h3 : mk = 3
          · rw [if_pos h3] at h
            repeat' split at h
            all_goals exact absurd h (by decide)
          · rw [if_neg h3] at h; exact absurd h (by decide)
  · rintro ⟨rfl, h2⟩
    unfold kdOf
    rw [if_neg (by decide), if_neg (by decide), if_pos rfl, if_pos h2]
