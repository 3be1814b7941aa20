theorem tail_eq {fu N k j : Nat} {sg tx kinds : Nat → Int32} {values : Nat → Int64} {kont : Int32 → Int32 → (Nat → Int32) → (Nat → Int64) → Option (Int32 × (Nat → Int32) × (Nat → Int64))} (hT : Tx N sg tx) (hfu : 1001 ≤ fu) (hk : k < N) (hj : j < 1000) :
    ∃ k' mk mv, k < k' ∧ k' ≤ N ∧ (∀ kd am le, ∃ kd' am' le', ((f_Text_isLetter (tx k)).bind (fun t_8 => (if t_8 = 0 then ((f_Text_isDigit (tx k)).bind (fun t_10 => (if t_10 = 0 then ((f_Text_readSign (nI N) (nI k) kd sg (tx k)).bind (fun t_12 => (some (t_12.1, t_12.2, am, le)))) else ((f_Text_readNumber fu (nI N) (nI k) kd am sg).bind (fun t_13 => (some (t_13.1, t_13.2.1, t_13.2.2, le))))))) else ((f_Text_readLetters fu (nI N) (nI k) kd le sg).bind (fun t_14 => (some (t_14.1, t_14.2.1, am, t_14.2.2))))))) = some (nI k', kd', am', le') ∧ WR kd' am' le' mk mv) ∧
      ((f_Model_isSmall (tx k)).bind (fun t_5 => (if t_5 = 0 then ((f_Model_isDigit (tx k)).bind (fun t_7 => (if t_7 = 0 then ((f_Model_sign (nI N) (nI j) tx kinds values (nI k)).bind (fun t_9 => (kont t_9.1 t_9.2.1 t_9.2.2.1 t_9.2.2.2))) else ((f_Model_digits fu (nI N) (nI j) tx kinds values (nI k) 0).bind (fun t_10 => (kont t_10.1 t_10.2.1 t_10.2.2.1 t_10.2.2.2)))))) else ((f_Model_letters fu (nI N) (nI j) tx kinds values (nI k)).bind (fun t_11 => (kont t_11.1 t_11.2.1 t_11.2.2.1 t_11.2.2.2)))))) = kont (nI k') (nI (j + 1)) (upd kinds j mk) (vp_updL values j mv) := by
  have n10 : ¬ (1 : Int32) = 0 := by decide
  obtain ⟨c, c1, c2, c3, c4, c5, c6⟩ := sg_in hT hk
  rw [sm_eq, dg_eq]
  rcases let_b c (by omega) with ⟨d, -⟩ | ⟨d, -⟩
  · rw [← c3] at d
    rw [d]
    simp only [Option.bind_some]
    simp only [if_pos trivial]
    rcases dig_b c (by omega) with ⟨e, -⟩ | ⟨e, -⟩
    · rw [← c3] at e
      rw [e]
      simp only [Option.bind_some]
      simp only [if_pos trivial]
      obtain ⟨k', mk, mv, h1, h2, h3, h4⟩ := sign_eq (kinds := kinds) (values := values) hT hk hj
      refine ⟨k', mk, mv, h1, h2, fun kd am le => ?_, ?_⟩
      · obtain ⟨kd', g1, g2⟩ := h3 kd
        rw [g1]
        exact ⟨kd', am, le, rfl, g2 am le⟩
      · rw [h4]; rfl
    · rw [← c3] at e
      obtain ⟨k', mk, mv, h1, h2, h3, h4⟩ := num_eq (kinds := kinds) (values := values) hT hfu hk e hj
      rw [e]
      simp only [Option.bind_some]
      simp only [if_neg n10]
      refine ⟨k', mk, mv, h1, h2, fun kd am le => ?_, ?_⟩
      · obtain ⟨kd', am', g1, g2⟩ := h3 kd am
        rw [g1]
        exact ⟨kd', am', le, rfl, g2 le⟩
      · rw [h4]; rfl
  · rw [← c3] at d
    obtain ⟨k', mk, mv, h1, h2, h3, h4⟩ := lets_eq (kinds := kinds) (values := values) hT hfu hk d hj
    rw [d]
    simp only [Option.bind_some]
    simp only [if_neg n10]
    refine ⟨k', mk, mv, h1, h2, fun kd am le => ?_, ?_⟩
    · obtain ⟨kd', le', g1, g2⟩ := h3 kd le
      rw [g1]
      exact ⟨kd', am, le', rfl, g2 am⟩
    · rw [h4]; rfl
theorem word_eq {fu N k j f : Nat} {sg tx kinds : Nat → Int32} {values : Nat → Int64} (hT : Tx N sg tx) (hfu : 1001 ≤ fu) (hk : k < N) (hj : j < 1000) (hb : ¬ tx k = 32) :
    ∃ k' mk mv, k < k' ∧ k' ≤ N ∧ (∀ kd am le, ∃ kd' am' le', rnK fu (nI N) sg kd am le (nI k) = some (nI k', kd', am', le') ∧ WR kd' am' le' mk mv) ∧
      L_Model_cut_7 fu (nI N) tx (f + 1) (nI k) (nI j) kinds values = L_Model_cut_7 fu (nI N) tx f (nI k') (nI (j + 1)) (upd kinds j mk) (vp_updL values j mv) := by
  have hN := hT.1
  have n10 : ¬ (1 : Int32) = 0 := by decide
  obtain ⟨c, c1, c2, c3, c4, c5, c6⟩ := sg_in hT hk
  rw [L_Model_cut_7, if_neg (nI_ge hk (by omega)), bd_nI (by omega) (by decide), nI_clamp (by omega), if_neg hb]
  have hcl : ∀ kd am le, rnK fu (nI N) sg kd am le (nI k) = (if tx k = 112 then ((f_Text_signAt (nI N) sg (nI (k + 1))).bind (fun t_15 => ((f_Text_isLetter t_15).bind (fun t_16 => (if t_16 = 0 then ((f_Text_readPoint fu (nI N) (nI k) kd am sg).bind (fun t_25 => (some (t_25.1, t_25.2.1, t_25.2.2, le)))) else ((f_Text_isLetter (tx k)).bind (fun t_18 => (if t_18 = 0 then ((f_Text_isDigit (tx k)).bind (fun t_20 => (if t_20 = 0 then ((f_Text_readSign (nI N) (nI k) kd sg (tx k)).bind (fun t_22 => (some (t_22.1, t_22.2, am, le)))) else ((f_Text_readNumber fu (nI N) (nI k) kd am sg).bind (fun t_23 => (some (t_23.1, t_23.2.1, t_23.2.2, le))))))) else ((f_Text_readLetters fu (nI N) (nI k) kd le sg).bind (fun t_24 => (some (t_24.1, t_24.2.1, am, t_24.2.2)))))))))))) else ((f_Text_isLetter (tx k)).bind (fun t_8 => (if t_8 = 0 then ((f_Text_isDigit (tx k)).bind (fun t_10 => (if t_10 = 0 then ((f_Text_readSign (nI N) (nI k) kd sg (tx k)).bind (fun t_12 => (some (t_12.1, t_12.2, am, le)))) else ((f_Text_readNumber fu (nI N) (nI k) kd am sg).bind (fun t_13 => (some (t_13.1, t_13.2.1, t_13.2.2, le))))))) else ((f_Text_readLetters fu (nI N) (nI k) kd le sg).bind (fun t_14 => (some (t_14.1, t_14.2.1, am, t_14.2.2)))))))) := by
    intro kd am le
    unfold rnK
    rw [c5, ← c3]
    simp only [Option.bind_some]
    rw [if_pos (nI_lt hk (by omega)), nI_1]
  simp only [hcl]
  rw [nI_1]
  by_cases e : tx k = 112
  · rw [if_pos e]
    simp only [if_pos e]
    have nx : ∃ x y : Int32, f_Text_signAt (nI N) sg (nI (k + 1)) = some x ∧ f_Model_letter (nI N) tx (nI (k + 1)) = some y ∧ ((f_Text_isLetter x = some 0 ∧ f_Text_isLetter y = some 0) ∨ (f_Text_isLetter x = some 1 ∧ f_Text_isLetter y = some 1)) := by
      rcases Nat.lt_or_ge (k + 1) N with h | h
      · obtain ⟨d, d1, d2, d3, d4, d5, d6⟩ := sg_in hT h
        refine ⟨nI d, nI d, d5, d6, ?_⟩
        rcases let_b d (by omega) with ⟨z, -⟩ | ⟨z, -⟩
        · exact Or.inl ⟨z, z⟩
        · exact Or.inr ⟨z, z⟩
      · obtain ⟨o1, o2⟩ := sg_out (sg := sg) (tx := tx) h (by omega)
        exact ⟨32, 0, o1, o2, Or.inl ⟨rfl, rfl⟩⟩
    obtain ⟨x, y, x1, x2, x3⟩ := nx
    rw [x1, x2]
    simp only [Option.bind_some]
    rw [sm_eq y]
    rcases x3 with ⟨z1, z2⟩ | ⟨z1, z2⟩
    · rw [z1, z2]
      simp only [Option.bind_some]
      simp only [if_pos trivial]
      obtain ⟨k', mk, mv, h1, h2, h3, h4⟩ := point_eq (kinds := kinds) (values := values) hT hfu hk hj
      refine ⟨k', mk, mv, h1, h2, fun kd am le => ?_, ?_⟩
      · obtain ⟨kd', am', g1, g2⟩ := h3 kd am
        rw [g1]
        exact ⟨kd', am', le, rfl, g2 le⟩
      · rw [h4]; rfl
    · rw [z1, z2]
      simp only [Option.bind_some]
      simp only [if_neg n10]
      exact tail_eq (kont := fun a b c d => L_Model_cut_7 fu (nI N) tx f a b c d) hT hfu hk hj
  · rw [if_neg e]
    simp only [if_neg e]
    exact tail_eq (kont := fun a b c d => L_Model_cut_7 fu (nI N) tx f a b c d) hT hfu hk hj
-- word i of the text stands from place p on, and ends before p'
def Lx (fu N : Nat) (sg : Nat → Int32) (p : Nat) (mk : Int32) (mv : Int64) (p' : Nat) : Prop :=
  ∀ kd am le, ∃ kd' am' le', (∀ f, N < f + p → L_Text_readNext_0 fu (nI N) sg (rnK fu (nI N) sg kd am le) f (nI p) = some (nI p', kd', am', le')) ∧ WR kd' am' le' mk mv
def LxE (fu N : Nat) (sg : Nat → Int32) (p : Nat) : Prop :=
  ∀ kd am le f, N < f + p → ∃ x, L_Text_readNext_0 fu (nI N) sg (rnK fu (nI N) sg kd am le) f (nI p) = some (x, 0, am, le)
theorem cut_loop {fu N : Nat} {sg tx : Nat → Int32} (hT : Tx N sg tx) (hfu : 1001 ≤ fu) :
    ∀ (f k j : Nat) (kinds : Nat → Int32) (values : Nat → Int64), k ≤ N → N < f + k → j ≤ k → ∃ (m : Nat) (pos : Nat → Nat) (kinds' : Nat → Int32) (values' : Nat → Int64), j ≤ m ∧ m ≤ N ∧ L_Model_cut_7 fu (nI N) tx f (nI k) (nI j) kinds values = some (nI m, kinds', values') ∧ (∀ i, i < j → kinds' i = kinds i ∧ values' i = values i) ∧ pos j = k ∧ (∀ i, j ≤ i → i ≤ m → pos i ≤ N) ∧ (∀ i, j ≤ i → i < m → Lx fu N sg (pos i) (kinds' i) (values' i) (pos (i + 1))) ∧ LxE fu N sg (pos m) := by
  have hN := hT.1
  intro f
  induction f with
  | zero => intro k j kinds values h1 h2; omega
  | succ f ih =>
    intro k j kinds values h1 h2 h3
    rcases Nat.lt_or_ge k N with h | h
    · obtain ⟨c, c1, c2, c3, c4, c5, c6⟩ := sg_in hT h
      by_cases hb : tx k = 32
      · have step : L_Model_cut_7 fu (nI N) tx (f + 1) (nI k) (nI j) kinds values = L_Model_cut_7 fu (nI N) tx f (nI (k + 1)) (nI j) kinds values := by
          rw [L_Model_cut_7, if_neg (nI_ge h (by omega)), bd_nI (by omega) (by decide), nI_clamp (by omega), if_pos hb, nI_1]
        have cst : ∀ kd am le f, L_Text_readNext_0 fu (nI N) sg (rnK fu (nI N) sg kd am le) (f + 1) (nI k) = L_Text_readNext_0 fu (nI N) sg (rnK fu (nI N) sg kd am le) f (nI (k + 1)) := by
          intro kd am le f
          rw [L_Text_readNext_0, if_neg (nI_ge h (by omega)), bd_nI (by omega) (by decide), nI_clamp (by omega), if_pos (by rw [c4, ← c3]; exact hb), nI_1]
        obtain ⟨m, pos, kinds', values', a1, a2, a3, a4, a5, a6, a7, a8⟩ := ih (k + 1) j kinds values (by omega) (by omega) (by omega)
        refine ⟨m, nuf pos j k, kinds', values', a1, a2, step.trans a3, a4, nuf_s, fun i i1 i2 => ?_, fun i i1 i2 => ?_, ?_⟩
        · by_cases e : i = j
          · subst e; rw [nuf_s]; omega
          · rw [nuf_n e]; exact a6 i i1 i2
        · by_cases e : i = j
          · subst e
            rw [nuf_s, nuf_n (by omega)]
            have q := a7 i i1 i2
            rw [a5] at q
            intro kd am le
            obtain ⟨kd', am', le', g1, g2⟩ := q kd am le
            refine ⟨kd', am', le', fun f hf => ?_, g2⟩
            obtain ⟨f, rfl⟩ : ∃ g, f = g + 1 := ⟨f - 1, by omega⟩
            rw [cst]
            exact g1 f (by omega)
          · rw [nuf_n e, nuf_n (by omega)]; exact a7 i i1 i2
        · by_cases e : m = j
          · subst e
            rw [nuf_s]
            rw [a5] at a8
            intro kd am le f hf
            obtain ⟨f, rfl⟩ : ∃ g, f = g + 1 := ⟨f - 1, by omega⟩
            rw [cst]
            exact a8 kd am le f (by omega)
          · rw [nuf_n e]; exact a8
      · obtain ⟨k', mk, mv, b1, b2, b3, b4⟩ := word_eq (f := f) (kinds := kinds) (values := values) hT hfu h (show j < 1000 by omega) hb
        obtain ⟨m, pos, kinds', values', a1, a2, a3, a4, a5, a6, a7, a8⟩ := ih k' (j + 1) (upd kinds j mk) (vp_updL values j mv) b2 (by omega) (by omega)
        refine ⟨m, nuf pos j k, kinds', values', by omega, a2, b4.trans a3, fun i hi => ?_, nuf_s, fun i i1 i2 => ?_, fun i i1 i2 => ?_, ?_⟩
        · obtain ⟨y1, y2⟩ := a4 i (by omega)
          rw [y1, y2, pk_un (by omega), pk_uLn (by omega)]
          exact ⟨rfl, rfl⟩
        · by_cases e : i = j
          · subst e; rw [nuf_s]; omega
          · rw [nuf_n e]; exact a6 i (by omega) i2
        · by_cases e : i = j
          · subst e
            rw [nuf_s, nuf_n (by omega), a5]
            obtain ⟨y1, y2⟩ := a4 i (by omega)
            rw [y1, y2, pk_us, pk_uLs]
            intro kd am le
            obtain ⟨kd', am', le', g1, g2⟩ := b3 kd am le
            refine ⟨kd', am', le', fun f hf => ?_, g2⟩
            obtain ⟨f, rfl⟩ : ∃ g, f = g + 1 := ⟨f - 1, by omega⟩
            rw [L_Text_readNext_0, if_neg (nI_ge h (by omega)), bd_nI (by omega) (by decide), nI_clamp (by omega), if_neg (by rw [c4, ← c3]; exact hb)]
            exact g1
          · rw [nuf_n e, nuf_n (by omega)]; exact a7 i (by omega) i2
        · rw [nuf_n (by omega)]; exact a8
    · have ek : k = N := by omega
      subst ek
      refine ⟨j, fun _ => k, kinds, values, Nat.le_refl j, h3, ?_, fun i _ => ⟨rfl, rfl⟩, rfl, fun _ _ _ => Nat.le_refl k, fun i i1 i2 => absurd i1 (by omega), fun kd am le f hf => ?_⟩
      · rw [L_Model_cut_7, if_pos (nI_le (Nat.le_refl k) (by omega))]
      · have hf : k < f + k := hf
        obtain ⟨f, rfl⟩ : ∃ g, f = g + 1 := ⟨f - 1, by omega⟩
        obtain ⟨o1, -⟩ := sg_out (N := k) (k := k) (sg := sg) (tx := tx) (Nat.le_refl k) (by omega)
        refine ⟨nI k, ?_⟩
        show L_Text_readNext_0 fu (nI k) sg (rnK fu (nI k) sg kd am le) (f + 1) (nI k) = _
        rw [L_Text_readNext_0, if_pos (nI_le (Nat.le_refl k) (by omega))]
        unfold rnK
        rw [o1]
        simp only [Option.bind_some]
        rw [if_neg (nI_nlt (Nat.le_refl k) (by omega))]
