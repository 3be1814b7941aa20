theorem neg_lt0 : ∀ x, x < 1001 → ((-1 : Int32) - nI x) < 0 := by decide +kernel
def ruK (fu : Nat) (mw : Int32) (kinds : Nat → Int32) (values : Nat → Int64) (l1_16x6 : Int32) (v_at_16x7 : Int32) (v_names_16x8 : Nat → Int64) (v_testCounts_16x9 : Nat → Int32) (v_minutes_16x10 : Nat → Int32) (v_costs_16x11 : Nat → Int32) (v_sorts_16x12 : Nat → Int32) (v_firsts_16x13 : Nat → Int32) (v_seconds_16x14 : Nat → Int32) (v_relations_16x15 : Nat → Int32) (v_numbers_16x16 : Nat → Int32) : Option TRu := (L_Model_rules_59 fu l1_16x6 (fun (v_names_59x42 : Nat → Int64) (v_testCounts_59x43 : Nat → Int32) (v_minutes_59x44 : Nat → Int32) (v_costs_59x45 : Nat → Int32) (v_sorts_59x46 : Nat → Int32) (v_firsts_59x47 : Nat → Int32) (v_seconds_59x48 : Nat → Int32) (v_relations_59x49 : Nat → Int32) (v_numbers_59x50 : Nat → Int32) => (some (l1_16x6, 0, 0, mw, v_at_16x7, l1_16x6, 0, kinds, values, v_names_59x42, v_testCounts_59x43, v_minutes_59x44, v_costs_59x45, v_sorts_59x46, v_firsts_59x47, v_seconds_59x48, v_relations_59x49, v_numbers_59x50))) fu 0 v_names_16x8 v_testCounts_16x9 v_minutes_16x10 v_costs_16x11 v_sorts_16x12 v_firsts_16x13 v_seconds_16x14 v_relations_16x15 v_numbers_16x16)
theorem read_def {fu : Nat} {due neg sz ax kd am cnt : Int32} {le : Int64} {sg : Nat → Int32} {nm : Nat → Int64} {sp co si ki fi se nu : Nat → Int32} : f_Reader_read fu due neg sz ax kd am le sg cnt nm sp co si ki fi se nu = (f_Text_readFirst fu sz ax kd am le sg).bind (fun t_1 => L_Reader_read_16 fu sz sg rdK fu 0 0 neg t_1.1 t_1.2.1 t_1.2.2.1 t_1.2.2.2 0 nm sp co si ki fi se nu) := by
  unfold f_Reader_read
  rfl
theorem rules_def {fu : Nat} {th sz w0 at0 rc ran : Int32} {tx kinds : Nat → Int32} {values names : Nat → Int64} {mt mm mco so mf ms re mn : Nat → Int32} : f_Model_rules fu th sz w0 at0 rc ran tx kinds values names mt mm mco so mf ms re mn = (f_Model_cut fu sz w0 tx kinds values).bind (fun t_1 => L_Model_rules_16 fu 0 sz t_1.1 rc ran t_1.2.1 t_1.2.2 (ruK fu t_1.1 t_1.2.1 t_1.2.2) fu 0 0 names mt mm mco so mf ms re mn) := by
  unfold f_Model_rules
  rfl
theorem read_at {fu N : Nat} {due neg ax kd am cnt ax1 kd1 am1 : Int32} {le le1 : Int64} {sg : Nat → Int32} {nm : Nat → Int64} {sp co si ki fi se nu : Nat → Int32} (h : f_Text_readNext fu (nI N) 0 kd am le sg = some (ax1, kd1, am1, le1)) : f_Reader_read fu due neg (nI N) ax kd am le sg cnt nm sp co si ki fi se nu = CL fu N sg fu 0 0 neg ax1 kd1 am1 le1 (nI 0) nm sp co si ki fi se nu := by
  have h2 : f_Text_readFirst fu (nI N) ax kd am le sg = some (ax1, kd1, am1, le1) := by
    unfold f_Text_readFirst
    rw [h, Option.bind_some]
  rw [read_def, h2, Option.bind_some]
  rfl
theorem rules_at {fu N m : Nat} {th w0 at0 rc ran : Int32} {tx kinds kinds' : Nat → Int32} {values values' names : Nat → Int64} {mt mm mco so mf ms re mn : Nat → Int32} (h : f_Model_cut fu (nI N) w0 tx kinds values = some (nI m, kinds', values')) : f_Model_rules fu th (nI N) w0 at0 rc ran tx kinds values names mt mm mco so mf ms re mn = L_Model_rules_16 fu 0 (nI N) (nI m) rc ran kinds' values' (ruK fu (nI m) kinds' values') fu (nI 0) (nI 0) names mt mm mco so mf ms re mn := by
  rw [rules_def, h, Option.bind_some]
  rfl
theorem fr_ok {fu q : Nat} {sx ax kd am due neg isT dcnt : Int32} {le : Int64} {sg : Nat → Int32} {dnm : Nat → Int64} {dsp dco dsi dki dfi dse dnu : Nat → Int32} {neg' ax' am' : Int32} {le' : Int64} {nm' : Nat → Int64} {sp' co' si' ki' fi' se' nu' : Nat → Int32} (hq : q ≤ 6) (h : f_Reader_read fu due neg sx ax kd am le sg dcnt dnm dsp dco dsi dki dfi dse dnu = some (nI q, 0, neg', ax', 0, am', le', nI q, nm', sp', co', si', ki', fi', se', nu')) :
    f_FaultRules_rules fu sx ax kd am le sg due neg isT dcnt dnm dsp dco dsi dki dfi dse dnu = some (nI q, 0, ax', 0, am', le', 0, neg', 0, nI q, nm', sp', co', si', ki', fi', se', nu', true) := by
  unfold f_FaultRules_rules
  rw [h, Option.bind_some]
  exact if_neg (nI_pos (by omega))
theorem fr_no {fu x : Nat} {sx ax kd am due neg isT dcnt : Int32} {le : Int64} {sg : Nat → Int32} {dnm : Nat → Int64} {dsp dco dsi dki dfi dse dnu : Nat → Int32} {tdue tneg tax tkd tam : Int32} {tle : Int64} {tcnt : Int32} {tnm : Nat → Int64} {tsp tco tsi tki tfi tse tnu : Nat → Int32} (hx : x ≤ 1000) (h : f_Reader_read fu due neg sx ax kd am le sg dcnt dnm dsp dco dsi dki dfi dse dnu = some (-1 - nI x, tdue, tneg, tax, tkd, tam, tle, tcnt, tnm, tsp, tco, tsi, tki, tfi, tse, tnu)) :
    f_FaultRules_rules fu sx ax kd am le sg due neg isT dcnt dnm dsp dco dsi dki dfi dse dnu = some (-1 - nI x, sx, tax, tkd, tam, tle, tdue, tneg, isT, tcnt, tnm, tsp, tco, tsi, tki, tfi, tse, tnu, false) := by
  unfold f_FaultRules_rules
  rw [h, Option.bind_some]
  exact if_pos (neg_lt0 x (by omega))
theorem ru_ok {fu q m x : Nat} {kinds' : Nat → Int32} {values' names' : Nat → Int64} {mt' mm' mco' so' mf' ms' re' mn' : Nat → Int32} (q6 : q ≤ 6) (hfu : 1000 ≤ fu) : ∃ n2 x2 y2 z2 a2 b2 e2 f2 h2, ruK fu (nI m) kinds' values' (nI q) (nI x) names' mt' mm' mco' so' mf' ms' re' mn' = some (nI q, 0, 0, nI m, nI x, nI q, 0, kinds', values', n2, x2, y2, z2, a2, b2, e2, f2, h2) ∧ C6L q names' n2 ∧ C6 q mt' x2 ∧ C6 q mm' y2 ∧ C6 q mco' z2 ∧ Cp 0 (6 * q) so' a2 ∧ Cp 0 (6 * q) mf' b2 ∧ Cp 0 (6 * q) ms' e2 ∧ Cp 0 (6 * q) re' f2 ∧ Cp 0 (6 * q) mn' h2 := by
  have cl : C6L 0 names' names' := fun j => ⟨fun h => absurd h (Nat.not_lt_zero j), fun _ => rfl⟩
  have c6 : ∀ g, C6 0 g g := fun g j => ⟨fun h => absurd h (Nat.not_lt_zero j), fun _ => rfl⟩
  have cp : ∀ g, Cp 0 (6 * 0) g g := fun g j => ⟨fun _ h => absurd h (Nat.not_lt_zero j), fun _ => rfl⟩
  unfold ruK
  obtain ⟨n2, x2, y2, z2, a2, b2, e2, f2, h2, k1, k2, k3, k4, k5, k6, k7, k8, k9, k10⟩ := cpo_loop (fu := fu) (k := (fun (v_names_59x42 : Nat → Int64) (v_testCounts_59x43 : Nat → Int32) (v_minutes_59x44 : Nat → Int32) (v_costs_59x45 : Nat → Int32) (v_sorts_59x46 : Nat → Int32) (v_firsts_59x47 : Nat → Int32) (v_seconds_59x48 : Nat → Int32) (v_relations_59x49 : Nat → Int32) (v_numbers_59x50 : Nat → Int32) => (some (nI q, 0, 0, nI m, nI x, nI q, 0, kinds', values', v_names_59x42, v_testCounts_59x43, v_minutes_59x44, v_costs_59x45, v_sorts_59x46, v_firsts_59x47, v_seconds_59x48, v_relations_59x49, v_numbers_59x50)))) q6 hfu fu 0 names' mt' mm' mco' so' mf' ms' re' mn' (Nat.zero_le q) (by omega) cl (c6 _) (c6 _) (c6 _) (cp _) (cp _) (cp _) (cp _) (cp _)
  exact ⟨n2, x2, y2, z2, a2, b2, e2, f2, h2, k1, k2, k3, k4, k5, k6, k7, k8, k9, k10⟩
theorem st_rules {N rc fu : Nat} {sx sm ax kd am due neg isT ran dcnt th w0 at0 cc mc : Int32} {le : Int64} {sg tx : Nat → Int32} {dnm : Nat → Int64} {dsp dco dsi dki dfi dse dnu : Nat → Int32} {kinds : Nat → Int32} {values : Nat → Int64} {nm mnm : Nat → Int64} {sp co si ki fi se nu mt mm mco so mf ms re mn : Nat → Int32}
    (hT : IText N sx sm sg tx) (hR : IRules rc cc nm sp co si ki fi se nu mc mnm mt mm mco so mf ms re mn) (hfu : 3000 ≤ fu) :
    ∃ (r : Int32) (sx' ax' kd' am' : Int32) (le' : Int64) (due' neg' isT' dcnt' : Int32) (dnm' : Nat → Int64) (dsp' dco' dsi' dki' dfi' dse' dnu' : Nat → Int32) (b : Bool) (sm' w' at' mc' ran' : Int32) (kinds' : Nat → Int32) (values' mnm' : Nat → Int64) (mt' mm' mco' so' mf' ms' re' mn' : Nat → Int32),
      f_FaultRules_rules fu sx ax kd am le sg due neg isT dcnt dnm dsp dco dsi dki dfi dse dnu = some (r, sx', ax', kd', am', le', due', neg', isT', dcnt', dnm', dsp', dco', dsi', dki', dfi', dse', dnu', b) ∧
      f_Model_rules fu th sm w0 at0 mc ran tx kinds values mnm mt mm mco so mf ms re mn = some (r, 0, sm', w', at', mc', ran', kinds', values', mnm', mt', mm', mco', so', mf', ms', re', mn') ∧
      ((b = false ∧ sx' = sx ∧ sm' = sm ∧ isT' = isT ∧ ran' = ran ∧ (∀ i, i < 6 → mco' i = mco i) ∧ IRules rc cc nm sp co si ki fi se nu mc' mnm' mt' mm' mco' so' mf' ms' re' mn') ∨
       (b = true ∧ sx' = 0 ∧ sm' = 0 ∧ isT' = 0 ∧ ran' = 0 ∧ ∃ q, IRules q dcnt' dnm' dsp' dco' dsi' dki' dfi' dse' dnu' mc' mnm' mt' mm' mco' so' mf' ms' re' mn')) := by
  obtain ⟨hN, rfl, rfl, he⟩ := hT
  have hTx : Tx N sg tx := ⟨hN, he⟩
  obtain ⟨m, pos, kinds', values', c1, c2, c3, -, c5, -, c7, c8⟩ := cut_loop (fu := fu) hTx (by omega) fu 0 0 kinds values (Nat.zero_le N) (by omega) (Nat.le_refl 0)
  have c3' : f_Model_cut fu (nI N) w0 tx kinds values = some (nI m, kinds', values') := c3
  have hW : Wds fu N m sg pos kinds' values' := ⟨hN, c2, by omega, fun i hi => c7 i (Nat.zero_le i) hi, c8⟩
  have hm : m ≤ 1000 := Nat.le_trans c2 hN
  obtain ⟨ax1, kd1, am1, le1, g1, g2⟩ := nxt hW (Nat.zero_le m) kd am le
  rw [c5] at g1
  have g1' : f_Text_readNext fu (nI N) 0 kd am le sg = some (ax1, kd1, am1, le1) := g1
  have hD : DR 0 dnm dsp dco dsi dki dfi dse dnu mnm mt mm mco so mf ms re mn := ⟨by omega, rfl, rfl, fun r hr => absurd hr (Nat.not_lt_zero r), fun r r' hr => absurd hr (Nat.not_lt_zero r)⟩
  have hread : f_Reader_read fu due neg (nI N) ax kd am le sg dcnt dnm dsp dco dsi dki dfi dse dnu = CL fu N sg fu 0 0 neg ax1 kd1 am1 le1 (nI 0) dnm dsp dco dsi dki dfi dse dnu := read_at g1'
  have hmod : f_Model_rules fu th (nI N) w0 at0 mc ran tx kinds values mnm mt mm mco so mf ms re mn = L_Model_rules_16 fu 0 (nI N) (nI m) mc ran kinds' values' (ruK fu (nI m) kinds' values') fu (nI 0) (nI 0) mnm mt mm mco so mf ms re mn := rules_at c3'
  rcases rules_loop (th := 0) (sz := nI N) (rcn := mc) (ran := ran) (k57 := ruK fu (nI m) kinds' values') hW (by omega) 6 0 fu fu 0 neg ax1 kd1 am1 le1 dnm dsp dco dsi dki dfi dse dnu mnm mt mm mco so mf ms re mn (by omega) (by omega) g2 (by omega) hD with ⟨q, x, neg', ax', am', le', nm', sp', co', si', ki', fi', se', nu', names', mt', mm', mco', so', mf', ms', re', mn', w1, w2, w3⟩ | ⟨x, names', mt', mm', mco', so', mf', ms', re', mn', w1, ⟨t, t1, t2, t3⟩, w3⟩
  · obtain ⟨q6, -, -, d4, d5⟩ := w3
    obtain ⟨n2, x2, y2, z2, a2, b2, e2, f2, h2, k1, k2, k3, k4, k5, k6, k7, k8, k9, k10⟩ := ru_ok (m := m) (x := x) (kinds' := kinds') (values' := values') (names' := names') (mt' := mt') (mm' := mm') (mco' := mco') (so' := so') (mf' := mf') (ms' := ms') (re' := re') (mn' := mn') q6 (show 1000 ≤ fu by omega)
    refine ⟨nI q, 0, ax', 0, am', le', 0, neg', 0, nI q, nm', sp', co', si', ki', fi', se', nu', true, 0, nI m, nI x, nI q, 0, kinds', values', n2, x2, y2, z2, a2, b2, e2, f2, h2, ?_, ?_, Or.inr ⟨rfl, rfl, rfl, rfl, rfl, q, q6, rfl, rfl, fun r hr => ?_, fun r r' hr hr' hn => ?_⟩⟩
    · exact fr_ok q6 (hread.trans w1)
    · exact (hmod.trans w2).trans k1
    · obtain ⟨a1, a3, a4, a5, a6, a7, zz, b1, b3, b4, b5⟩ := d4 r hr
      have i1 := (k2 r).1 hr
      have i2 := (k3 r).1 hr
      have i3 := (k4 r).1 hr
      have i4 := (k5 r).1 hr
      refine ⟨a1.trans i1.symm, a3.trans i3.symm, a4.trans i4.symm, a5.trans i2.symm, ?_, ?_, zz, b1, b3, i2.trans b4, fun k hk => ?_⟩
      · rw [i3]; exact a6
      · rw [i4]; exact a7
      · have hT6 : 6 * r + k < 6 * q := by omega
        exact ITest_congr (b5 k hk) rfl rfl rfl rfl ((k6 (6 * r + k)).1 (Nat.zero_le _) hT6) ((k7 (6 * r + k)).1 (Nat.zero_le _) hT6) ((k8 (6 * r + k)).1 (Nat.zero_le _) hT6) ((k9 (6 * r + k)).1 (Nat.zero_le _) hT6) ((k10 (6 * r + k)).1 (Nat.zero_le _) hT6)
    · rw [(k2 r).1 hr, (k2 r').1 hr'] at hn
      exact d5 r r' hr hr' hn
  · obtain ⟨tr, tdue, tneg, tax, tkd, tam, tle, tcnt, tnm, tsp, tco, tsi, tki, tfi, tse, tnu⟩ := t
    have t2' : tr = -1 - nI x := t2
    subst t2'
    refine ⟨-1 - nI x, nI N, tax, tkd, tam, tle, tdue, tneg, isT, tcnt, tnm, tsp, tco, tsi, tki, tfi, tse, tnu, false, nI N, nI m, nI x, mc, ran, kinds', values', names', mt', mm', mco', so', mf', ms', re', mn', ?_, hmod.trans w1, Or.inl ⟨rfl, rfl, rfl, rfl, rfl, fun i hi => (w3.1 i hi).2.2.2, ?_⟩⟩
    · exact fr_no t3 (hread.trans t1)
    · obtain ⟨r1, r2, r3, r4, r5⟩ := hR
      refine ⟨r1, r2, r3, fun r hr => ?_, fun r r' hr hr' hn => ?_⟩
      · obtain ⟨a1, a3, a4, a5, a6, a7, zz, b1, b3, b4, b5⟩ := r4 r hr
        obtain ⟨i1, i2, i3, i4⟩ := w3.1 r (by omega)
        refine ⟨a1.trans i1.symm, a3.trans i3.symm, a4.trans i4.symm, a5.trans i2.symm, ?_, ?_, zz, b1, b3, i2.trans b4, fun k hk => ?_⟩
        · rw [i3]; exact a6
        · rw [i4]; exact a7
        · obtain ⟨o1, o2, o3, o4, o5⟩ := w3.2 (6 * r + k) (by omega)
          exact ITest_congr (b5 k hk) rfl rfl rfl rfl o1 o2 o3 o4 o5
      · rw [(w3.1 r (by omega)).1, (w3.1 r' (by omega)).1] at hn
        exact r5 r r' hr hr' hn
theorem IRun_cs {rc : Nat} {isT cnt tot fau ran fts : Int32} {mh fR fB fE fC cs cs' hc mR mB mE od : Nat → Int32} (hrc : rc ≤ 6) (h : IRun rc isT cnt tot fau mh fR fB fE fC ran fts cs hc mR mB mE od) (hcs : ∀ i, i < 6 → cs' i = cs i) : IRun rc isT cnt tot fau mh fR fB fE fC ran fts cs' hc mR mB mE od := by
  rcases h with h | ⟨h1, h2, nF, h3, h4, h5, h6, h7, h8, h9, h10⟩
  · exact Or.inl h
  · have hC : ∀ k, k < nF → costN cs' mR mB mE k = costN cs mR mB mE k := fun k hk => by
      obtain ⟨r, r1, r2⟩ := h7 k hk
      unfold costN
      rw [r2, nI_clamp (by omega), hcs r (by omega)]
    refine Or.inr ⟨h1, h2, nF, h3, h4, h5, h6, h7, fun k hk => ?_, ?_, h10⟩
    · obtain ⟨i, i1, i2, i3, i4, i5, i6⟩ := h8 k hk
      exact ⟨i, i1, i2, i3, i4, i5, i6.trans (hC i i1).symm⟩
    · rw [h9]; exact (sumN_congr nF hC).symm
