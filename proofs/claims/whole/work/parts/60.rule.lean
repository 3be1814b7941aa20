-- reading the tests of a rule, and a rule
abbrev Low4 (n : Nat) (ki fi se nu ki' fi' se' nu' : Nat → Int32) : Prop := ∀ i, i < n → ki' i = ki i ∧ fi' i = fi i ∧ se' i = se i ∧ nu' i = nu i
abbrev Low5 (n : Nat) (so mf ms re mn so' mf' ms' re' mn' : Nat → Int32) : Prop := ∀ i, i < n → so' i = so i ∧ mf' i = mf i ∧ ms' i = ms i ∧ re' i = re i ∧ mn' i = mn i
theorem Low4_tr {n : Nat} {ki fi se nu ki' fi' se' nu' ki2 fi2 se2 nu2 : Nat → Int32} (h1 : Low4 n ki fi se nu ki' fi' se' nu') (h2 : Low4 n ki' fi' se' nu' ki2 fi2 se2 nu2) : Low4 n ki fi se nu ki2 fi2 se2 nu2 := fun i hi => ⟨(h2 i hi).1.trans (h1 i hi).1, (h2 i hi).2.1.trans (h1 i hi).2.1, (h2 i hi).2.2.1.trans (h1 i hi).2.2.1, (h2 i hi).2.2.2.trans (h1 i hi).2.2.2⟩
theorem Low5_tr {n : Nat} {so mf ms re mn so' mf' ms' re' mn' so2 mf2 ms2 re2 mn2 : Nat → Int32} (h1 : Low5 n so mf ms re mn so' mf' ms' re' mn') (h2 : Low5 n so' mf' ms' re' mn' so2 mf2 ms2 re2 mn2) : Low5 n so mf ms re mn so2 mf2 ms2 re2 mn2 := fun i hi => ⟨(h2 i hi).1.trans (h1 i hi).1, (h2 i hi).2.1.trans (h1 i hi).2.1, (h2 i hi).2.2.1.trans (h1 i hi).2.2.1, (h2 i hi).2.2.2.1.trans (h1 i hi).2.2.2.1, (h2 i hi).2.2.2.2.trans (h1 i hi).2.2.2.2⟩
theorem ITest_congr {T : Nat} {ki fi se nu so mf ms re mn ki' fi' se' nu' so' mf' ms' re' mn' : Nat → Int32} (h : ITest T ki fi se nu so mf ms re mn) (h1 : ki' T = ki T) (h2 : fi' T = fi T) (h3 : se' T = se T) (h4 : nu' T = nu T) (h5 : so' T = so T) (h6 : mf' T = mf T) (h7 : ms' T = ms T) (h8 : re' T = re T) (h9 : mn' T = mn T) : ITest T ki' fi' se' nu' so' mf' ms' re' mn' := by
  unfold ITest
  rw [h1, h2, h3, h4, h5, h6, h7, h8, h9]
  exact h
theorem ITest_low {T : Nat} {ki fi se nu so mf ms re mn ki' fi' se' nu' so' mf' ms' re' mn' : Nat → Int32} {a b : Nat} (h : ITest T ki fi se nu (s36 so) (s36 mf) (s36 ms) (s36 re) (s36 mn)) (ha : Low4 a ki fi se nu ki' fi' se' nu') (hb : Low5 b so mf ms re mn so' mf' ms' re' mn') (h1 : T < a) (h2 : 36 + T < b) : ITest T ki' fi' se' nu' (s36 so') (s36 mf') (s36 ms') (s36 re') (s36 mn') :=
  ITest_congr h (ha T h1).1 (ha T h1).2.1 (ha T h1).2.2.1 (ha T h1).2.2.2 (hb (36 + T) h2).1 (hb (36 + T) h2).2.1 (hb (36 + T) h2).2.2.1 (hb (36 + T) h2).2.2.2.1 (hb (36 + T) h2).2.2.2.2
abbrev TRl := Int32 × Int32 × (Nat → Int64) × (Nat → Int32) × (Nat → Int32) × (Nat → Int32) × (Nat → Int32) × (Nat → Int32) × (Nat → Int32) × (Nat → Int32) × (Nat → Int32)
theorem tests_rd {fu N m q : Nat} {sg : Nat → Int32} {pos : Nat → Nat} {kinds : Nat → Int32} {values : Nat → Int64} {nm names : Nat → Int64} {sp co mm mco : Nat → Int32} {k95 : Int32 → (Nat → Int32) → (Nat → Int32) → (Nat → Int32) → (Nat → Int32) → (Nat → Int32) → (Nat → Int32) → Option TRl} (hW : Wds fu N m sg pos kinds values) (hq : q < 6) :
    ∀ (n k fm f a : Nat) (neg ax kd am : Int32) (le : Int64) (si ki fi se nu mt so mf ms re mn : Nat → Int32), k + n = 6 → 1 ≤ n → n + 1 < fm → Cu m pos kinds values a ax kd am le → m < f + a → si q = nI k → mt (6 + q) = nI k → (∀ l, l < k → ITest (6 * q + l) ki fi se nu (s36 so) (s36 mf) (s36 ms) (s36 re) (s36 mn)) →
    (∃ (z x f' : Nat) (neg' ax' kd' am' : Int32) (le' : Int64) (si' ki' fi' se' nu' mt' so' mf' ms' re' mn' : Nat → Int32), f' + x = f + a ∧ a < x ∧ Cu m pos kinds values x ax' kd' am' le' ∧ CL fu N sg f a 2 neg ax kd am le (nI q) nm sp co si ki fi se nu = CL fu N sg f' x 9 neg' ax' kd' am' le' (nI q) nm sp co si' ki' fi' se' nu' ∧ L_Model_readsRule_30 fu (nI m) kinds values names mm mco (nI (6 + q)) k95 fm 1 (nI a) mt so mf ms re mn = k95 (nI x) mt' so' mf' ms' re' mn' ∧ 1 ≤ z ∧ z ≤ 6 ∧ si' q = nI z ∧ mt' (6 + q) = nI z ∧ (kd' = 6 → z = 6) ∧ (∀ l, l < z → ITest (6 * q + l) ki' fi' se' nu' (s36 so') (s36 mf') (s36 ms') (s36 re') (s36 mn')) ∧ (∀ i, i < q → si' i = si i) ∧ (∀ i, i < 6 + q → mt' i = mt i) ∧ Low4 (6 * q) ki fi se nu ki' fi' se' nu' ∧ Low5 (36 + 6 * q) so mf ms re mn so' mf' ms' re' mn') ∨
    (∃ (x : Nat) (mt' so' mf' ms' re' mn' : Nat → Int32), L_Model_readsRule_30 fu (nI m) kinds values names mm mco (nI (6 + q)) k95 fm 1 (nI a) mt so mf ms re mn = some (0, nI x, names, mt', mm, mco, so', mf', ms', re', mn') ∧ Fail x (CL fu N sg f a 2 neg ax kd am le (nI q) nm sp co si ki fi se nu) ∧ (∀ i, i < 6 + q → mt' i = mt i) ∧ Low5 (36 + 6 * q) so mf ms re mn so' mf' ms' re' mn') := by
  have hm : m ≤ 1000 := Nat.le_trans hW.2.1 hW.1
  have n10 : ¬ (1 : Int32) = 0 := by decide
  have b12 : ∀ {α : Type} (z : Option α), bd (nI (6 + q)) 12 z = z := fun z => bd_nI (by omega) (by decide)
  have cR : (nI (6 + q)).toNatClampNeg = 6 + q := nI_clamp (by omega)
  intro n
  induction n with
  | zero => intro k fm f a neg ax kd am le si ki fi se nu mt so mf ms re mn h1 h2; omega
  | succ n ih =>
    intro k fm f a neg ax kd am le si ki fi se nu mt so mf ms re mn h1 h2 h3 hC hf hs hmt hts
    obtain ⟨fm, rfl⟩ : ∃ g, fm = g + 1 + 1 := ⟨fm - 2, by omega⟩
    have eT : (6 : Int32) * nI (6 + q) + nI k = nI (36 + (6 * q + k)) := by
      have e1 : (6 : Int32) * nI (6 + q) = nI (6 * (6 + q)) := pk_mul 6 (6 + q)
      rw [e1, nI_add]
      congr 1
      omega
    rw [L_Model_readsRule_30, if_neg n10]
    simp only [b12, cR, hmt, eT, pk_us, nI_1]
    rcases test_rd (neg := neg) (nm := nm) (sp := sp) (co := co) (ki := ki) (fi := fi) (se := se) (nu := nu) (so := so) (mf := mf) (ms := ms) (re := re) (mn := mn) hW hC hf hq hs (show k < 6 by omega) with ⟨x, f', neg', ax', kd', am', le', ki', fi', se', nu', so', mf', ms', re', mn', y1, y2, y3, y4, y5, y6, y7, y8⟩ | ⟨x, so', mf', ms', re', mn', y5, y4, y8⟩
    · rw [y4, y5]
      simp only [Option.bind_some]
      rw [if_neg n10]
      have l4 : Low4 (6 * q) ki fi se nu ki' fi' se' nu' := fun i hi => y7 i (by omega)
      have l5 : Low5 (36 + 6 * q) so mf ms re mn so' mf' ms' re' mn' := fun i hi => y8 i (by omega)
      have l4' : Low4 (6 * q + k) ki fi se nu ki' fi' se' nu' := fun i hi => y7 i (by omega)
      have l5' : Low5 (36 + (6 * q + k)) so mf ms re mn so' mf' ms' re' mn' := fun i hi => y8 i (by omega)
      have ts : ∀ l, l < k + 1 → ITest (6 * q + l) ki' fi' se' nu' (s36 so') (s36 mf') (s36 ms') (s36 re') (s36 mn') := fun l hl => by
        rcases Nat.lt_or_ge l k with g | g
        · exact ITest_low (hts l g) l4' l5' (by omega) (by omega)
        · have : l = k := by omega
          subst this
          exact y6
      have si1 : ∀ i, i < q → upd si q (nI (k + 1)) i = si i := fun i hi => pk_un (by omega)
      have mt1 : ∀ i, i < 6 + q → upd mt (6 + q) (nI (k + 1)) i = mt i := fun i hi => pk_un (by omega)
      rcases Nat.lt_or_ge (k + 1) 6 with g | g
      · have g6 : ¬ (6 : Int32) ≤ nI (k + 1) := nI_ge (b := 6) g (by decide)
        rw [if_neg g6]
        rcases ps_eq tw_and (by decide) hm y3 with ⟨e, e1, h⟩ | ⟨e, h⟩
        · subst e
          obtain ⟨f2, ax2, kd2, am2, le2, z1, z2, z3⟩ := cl_step (f := f') hW y3 (by decide) (by omega) (tk9a (k := k + 1) (neg := neg') (nm := nm) (sp := sp) (co := co) (si := upd si q (nI (k + 1))) (ki := ki') (fi := fi') (se := se') (nu := nu') hq pk_us g)
          rw [z3, h]
          simp only [Option.bind_some]
          rw [if_neg n10]
          rcases ih (k + 1) (fm + 1) f2 (x + 1) neg' ax2 kd2 am2 le2 (upd si q (nI (k + 1))) ki' fi' se' nu' (upd mt (6 + q) (nI (k + 1))) so' mf' ms' re' mn' (by omega) (by omega) (by omega) z2 (by omega) pk_us pk_us ts with ⟨z, x2, f3, neg3, ax3, kd3, am3, le3, si3, ki3, fi3, se3, nu3, mt3, so3, mf3, ms3, re3, mn3, w1, w2, w3, w4, w5, w6, w7, w8, w9, w10, w11, w12, w13, w14, w15⟩ | ⟨x2, mt3, so3, mf3, ms3, re3, mn3, w1, w2, w3, w4⟩
          · exact Or.inl ⟨z, x2, f3, neg3, ax3, kd3, am3, le3, si3, ki3, fi3, se3, nu3, mt3, so3, mf3, ms3, re3, mn3, by omega, by omega, w3, w4, w5, w6, w7, w8, w9, w10, w11, fun i hi => (w12 i hi).trans (si1 i hi), fun i hi => (w13 i hi).trans (mt1 i hi), Low4_tr l4 w14, Low5_tr l5 w15⟩
          · exact Or.inr ⟨x2, mt3, so3, mf3, ms3, re3, mn3, w1, w2, fun i hi => (w3 i hi).trans (mt1 i hi), Low5_tr l5 w4⟩
        · rw [h]
          simp only [Option.bind_some]
          rw [if_pos trivial, L_Model_readsRule_30, if_pos rfl]
          exact Or.inl ⟨k + 1, x, f', neg', ax', kd', am', le', upd si q (nI (k + 1)), ki', fi', se', nu', upd mt (6 + q) (nI (k + 1)), so', mf', ms', re', mn', y1, y2, y3, rfl, rfl, by omega, by omega, pk_us, pk_us, fun q => absurd q e, ts, si1, mt1, l4, l5⟩
      · have g6 : (6 : Int32) ≤ nI (k + 1) := nI_le (a := 6) g (by omega)
        rw [if_pos g6, L_Model_readsRule_30, if_pos rfl]
        exact Or.inl ⟨k + 1, x, f', neg', ax', kd', am', le', upd si q (nI (k + 1)), ki', fi', se', nu', upd mt (6 + q) (nI (k + 1)), so', mf', ms', re', mn', y1, y2, y3, rfl, rfl, by omega, by omega, pk_us, pk_us, fun _ => by omega, ts, si1, mt1, l4, l5⟩
    · rw [y5]
      exact Or.inr ⟨x, mt, so', mf', ms', re', mn', rfl, y4, fun _ _ => rfl, fun i hi => y8 i (by omega)⟩
-- names
theorem is_eq {m a : Nat} {kinds : Nat → Int32} {values : Nat → Int64} {kd am K p1 : Int32} {le p2 : Int64} (hT : ∀ mk mv, kdOf mk mv = K ↔ (mk = p1 ∧ mv = p2)) (hm : m ≤ 1000) (ha : a < m) (hC : WR kd am le (kinds a) (values a)) :
    (kd = K ∧ f_Model_isAt (nI m) (nI a) kinds values p1 p2 = some 1) ∨ (¬ kd = K ∧ f_Model_isAt (nI m) (nI a) kinds values p1 p2 = some 0) := by
  unfold f_Model_isAt
  obtain ⟨h3, -⟩ := hC
  rw [if_neg (nI_ge ha (by omega)), bd_nI (by omega) (by decide), nI_clamp (by omega), bd_nI (by omega) (by decide)]
  by_cases e : kd = K
  · have q := (hT (kinds a) (values a)).mp (h3.symm.trans e)
    rw [if_pos q.1, if_pos (lg0.mpr q.2)]
    exact Or.inl ⟨e, rfl⟩
  · refine Or.inr ⟨e, ?_⟩
    have q : ¬ (kinds a = p1 ∧ values a = p2) := fun q => e (h3.trans ((hT (kinds a) (values a)).mpr q))
    by_cases y : kinds a = p1
    · rw [if_pos y, if_neg (fun z => q ⟨y, lg0.mp z⟩)]
    · rw [if_neg y]
theorem kd_mk0 (mv : Int64) : kdOf 0 mv = 9 ∨ kdOf 0 mv = 10 ∨ kdOf 0 mv = 16 ∨ kdOf 0 mv = 17 ∨ kdOf 0 mv = 18 ∨ kdOf 0 mv = 2 := by
  unfold kdOf
  rw [if_pos (show (0 : Int32) = 0 from rfl)]
  by_cases h1 : mv = 7381243658609098752
  · rw [if_pos h1]; exact Or.inl rfl
  rw [if_neg h1]
  by_cases h2 : mv = 7165072476152528896
  · rw [if_pos h2]; exact Or.inr (Or.inl rfl)
  rw [if_neg h2]
  by_cases h3 : mv = 8319403481517522944
  · rw [if_pos h3]; exact Or.inr (Or.inr (Or.inl rfl))
  rw [if_neg h3]
  by_cases h4 : mv = 7671157868099272704
  · rw [if_pos h4]; exact Or.inr (Or.inr (Or.inr (Or.inl rfl)))
  rw [if_neg h4]
  by_cases h5 : mv = 8316297369816924160
  · rw [if_pos h5]; exact Or.inr (Or.inr (Or.inr (Or.inr (Or.inl rfl))))
  rw [if_neg h5]
  exact Or.inr (Or.inr (Or.inr (Or.inr (Or.inr rfl))))
theorem kd_2 {mk : Int32} {mv : Int64} (h : kdOf mk mv = 2) : mk = 0 := by
  by_cases h0 : mk = 0
  · exact h0
  · exfalso
    unfold kdOf at h
    rw [if_neg h0] at h
    by_cases h1 : mk = 1
    · rw [if_pos h1] at h
      split at h <;> exact absurd h (by decide)
    · rw [if_neg h1] at h
      by_cases h2 : mk = 2
      · rw [if_pos h2] at h
        split at h <;> exact absurd h (by decide)
      · rw [if_neg h2] at h
        by_cases h3 : mk = 3
        · rw [if_pos h3] at h
          repeat' split at h
          all_goals exact absurd h (by decide)
        · rw [if_neg h3] at h; exact absurd h (by decide)
theorem nm_eq {fu m a R : Nat} {pos : Nat → Nat} {kinds : Nat → Int32} {values names : Nat → Int64} {ax kd am : Int32} {le : Int64} (hm : m ≤ 1000) (hR : R < 12) (hC : Cu m pos kinds values a ax kd am le) :
    (kd = 2 ∧ a < m ∧ le = values a ∧ f_Model_readsName fu (nI m) (nI a) kinds values names (nI R) = L_Model_readsName_83 fu (nI a) values names (nI R) (some (1, nI (a + 1), vp_updL names R (values a))) fu 6) ∨ (¬ kd = 2 ∧ f_Model_readsName fu (nI m) (nI a) kinds values names (nI R) = some (0, nI a, names)) := by
  have n10 : ¬ (1 : Int32) = 0 := by decide
  unfold f_Model_readsName
  rcases hC with ⟨h1, -, h3⟩ | ⟨h1, h2⟩
  · rw [if_neg (nI_ge h1 (by omega))]
    have ba : ∀ {α : Type} (z : Option α), bd (nI a) 1000 z = z := fun z => bd_nI (by omega) (by decide)
    have bR : ∀ {α : Type} (z : Option α), bd (nI R) 12 z = z := fun z => bd_nI hR (by decide)
    simp only [ba, bR, nI_clamp (show a < 2 ^ 31 by omega), nI_clamp (show R < 2 ^ 31 by omega), nI_1]
    by_cases y : kinds a = 0
    · rw [if_pos y]
      rcases is_eq tw_for hm h1 h3 with ⟨e, h⟩ | ⟨e1, h⟩
      · rw [h]; simp only [Option.bind_some]; rw [if_neg n10]; exact Or.inr ⟨by rw [e]; decide, rfl⟩
      rw [h]; simp only [Option.bind_some]; rw [if_pos trivial]
      rcases is_eq tw_costs hm h1 h3 with ⟨e, h⟩ | ⟨e2, h⟩
      · rw [h]; simp only [Option.bind_some]; rw [if_neg n10]; exact Or.inr ⟨by rw [e]; decide, rfl⟩
      rw [h]; simp only [Option.bind_some]; rw [if_pos trivial]
      rcases is_eq tw_stuck hm h1 h3 with ⟨e, h⟩ | ⟨e3, h⟩
      · rw [h]; simp only [Option.bind_some]; rw [if_neg n10]; exact Or.inr ⟨by rw [e]; decide, rfl⟩
      rw [h]; simp only [Option.bind_some]; rw [if_pos trivial]
      rcases is_eq tw_jump hm h1 h3 with ⟨e, h⟩ | ⟨e4, h⟩
      · rw [h]; simp only [Option.bind_some]; rw [if_neg n10]; exact Or.inr ⟨by rw [e]; decide, rfl⟩
      rw [h]; simp only [Option.bind_some]; rw [if_pos trivial]
      rcases is_eq tw_silent hm h1 h3 with ⟨e, h⟩ | ⟨e5, h⟩
      · rw [h]; simp only [Option.bind_some]; rw [if_neg n10]; exact Or.inr ⟨by rw [e]; decide, rfl⟩
      rw [h]; simp only [Option.bind_some]; rw [if_pos trivial]
      have q := kd_mk0 (values a)
      rw [← y, ← h3.1] at q
      rcases q with q | q | q | q | q | q
      · exact absurd q e1
      · exact absurd q e2
      · exact absurd q e3
      · exact absurd q e4
      · exact absurd q e5
      · exact Or.inl ⟨q, h1, h3.2.1 y, rfl⟩
    · rw [if_neg y]
      exact Or.inr ⟨fun e => y (kd_2 (h3.1.symm.trans e)), rfl⟩
  · subst h1
    rw [if_pos (nI_le (Nat.le_refl a) (by omega))]
    exact Or.inr ⟨by rw [h2]; decide, rfl⟩
theorem nms_loop {fu a q : Nat} {values names nm : Nat → Int64} {kont : Option (Int32 × Int32 × (Nat → Int64))} (ha : a < 1000) (hq : q ≤ 6) (hn : ∀ r, r < q → nm r = names (6 + r)) :
    ∀ (f r : Nat), r ≤ q → q < f + r → (L_RuleSet_hasName_2 fu (nI q) nm (values a) f (nI r) = some 1 ∧ L_Model_readsName_83 fu (nI a) values names (nI (6 + q)) kont f (nI (6 + r)) = some (0, nI a, names)) ∨ (L_RuleSet_hasName_2 fu (nI q) nm (values a) f (nI r) = some 0 ∧ L_Model_readsName_83 fu (nI a) values names (nI (6 + q)) kont f (nI (6 + r)) = kont ∧ ∀ r', r ≤ r' → r' < q → ¬ names (6 + r') = values a) := by
  intro f
  induction f with
  | zero => intro r h1 h2; omega
  | succ f ih =>
    intro r h1 h2
    rw [L_RuleSet_hasName_2, L_Model_readsName_83]
    rcases Nat.lt_or_ge r q with h | h
    · rw [if_neg (nI_ge h (by omega)), if_neg (nI_ge (by omega) (by omega)), bd_nI (by omega) (by decide), bd_nI (by omega) (by decide), bd_nI ha (by decide), nI_clamp (by omega), nI_clamp (by omega), nI_clamp (by omega), hn r h, nI_1, nI_1]
      by_cases e : names (6 + r) = values a
      · rw [if_pos (lg0.mpr e), if_pos (lg0.mpr e)]
        exact Or.inl ⟨rfl, rfl⟩
      · rw [if_neg (fun z => e (lg0.mp z)), if_neg (fun z => e (lg0.mp z))]
        rcases ih (r + 1) (by omega) (by omega) with g | ⟨g1, g2, g3⟩
        · exact Or.inl g
        · refine Or.inr ⟨g1, g2, fun r' r1 r2 => ?_⟩
          rcases Nat.eq_or_lt_of_le r1 with y | y
          · subst y; exact e
          · exact g3 r' y r2
    · rw [if_pos (nI_le h (by omega)), if_pos (nI_le (by omega) (by omega))]
      exact Or.inr ⟨rfl, rfl, fun r' r1 r2 => absurd r1 (by omega)⟩
