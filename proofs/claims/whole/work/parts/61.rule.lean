abbrev s6 (g : Nat → Int32) : Nat → Int32 := fun i => g (6 + i)
abbrev s6L (g : Nat → Int64) : Nat → Int64 := fun i => g (6 + i)
-- the draft, class and reference, with q rules
abbrev DR (q : Nat) (nm : Nat → Int64) (sp co si ki fi se nu : Nat → Int32) (names : Nat → Int64) (mt mm mco so mf ms re mn : Nat → Int32) : Prop :=
  IRules q (nI q) nm sp co si ki fi se nu (nI q) (s6L names) (s6 mt) (s6 mm) (s6 mco) (s36 so) (s36 mf) (s36 ms) (s36 re) (s36 mn)
abbrev LowA (names : Nat → Int64) (mt mm mco so mf ms re mn : Nat → Int32) (names' : Nat → Int64) (mt' mm' mco' so' mf' ms' re' mn' : Nat → Int32) : Prop :=
  (∀ i, i < 6 → names' i = names i ∧ mt' i = mt i ∧ mm' i = mm i ∧ mco' i = mco i) ∧ Low5 36 so mf ms re mn so' mf' ms' re' mn'
def rlK (v_words : Int32) (v_kinds : Nat → Int32) (v_values : Nat → Int64) (nm1 : Nat → Int64) (v_minutes v_costs : Nat → Int32) (p1 : Int32) (v_at_30x16 : Int32) (v_testCounts_30x17 : Nat → Int32) (v_sorts_30x18 : Nat → Int32) (v_firsts_30x19 : Nat → Int32) (v_seconds_30x20 : Nat → Int32) (v_relations_30x21 : Nat → Int32) (v_numbers_30x22 : Nat → Int32) : Option TRl := ((f_Model_passes v_words v_at_30x16 v_kinds v_values 0 7381243658609098752).bind (fun t_23 => (if t_23.1 = 0 then (some (0, t_23.2, nm1, v_testCounts_30x17, v_minutes, v_costs, v_sorts_30x18, v_firsts_30x19, v_seconds_30x20, v_relations_30x21, v_numbers_30x22)) else ((f_Model_passesNumber v_words t_23.2 v_kinds v_values 1 9999).bind (fun t_25 => (if t_25.1 = 0 then (some (0, t_25.2, nm1, v_testCounts_30x17, v_minutes, v_costs, v_sorts_30x18, v_firsts_30x19, v_seconds_30x20, v_relations_30x21, v_numbers_30x22)) else ((f_Model_said t_25.2 v_values).bind (fun t_27 => (bd p1 12 ((f_Model_passes v_words t_25.2 v_kinds v_values 0 7165072476152528896).bind (fun t_29 => (if t_29.1 = 0 then (some (0, t_29.2, nm1, v_testCounts_30x17, upd v_minutes (p1 : Int32).toNatClampNeg t_27, v_costs, v_sorts_30x18, v_firsts_30x19, v_seconds_30x20, v_relations_30x21, v_numbers_30x22)) else ((f_Model_passesNumber v_words t_29.2 v_kinds v_values 1 9999).bind (fun t_31 => (if t_31.1 = 0 then (some (0, t_31.2, nm1, v_testCounts_30x17, upd v_minutes (p1 : Int32).toNatClampNeg t_27, v_costs, v_sorts_30x18, v_firsts_30x19, v_seconds_30x20, v_relations_30x21, v_numbers_30x22)) else ((f_Model_said t_31.2 v_values).bind (fun t_33 => (bd p1 12 ((f_Model_passes v_words t_31.2 v_kinds v_values 3 59).bind (fun t_35 => (zb t_35.1 (some (t_35.1, t_35.2, nm1, v_testCounts_30x17, upd v_minutes (p1 : Int32).toNatClampNeg t_27, upd v_costs (p1 : Int32).toNatClampNeg t_33, v_sorts_30x18, v_firsts_30x19, v_seconds_30x20, v_relations_30x21, v_numbers_30x22)))))))))))))))))))))))
-- from 'for' to the end of a rule
theorem end_rd {fu N m q f a z : Nat} {sg : Nat → Int32} {pos : Nat → Nat} {kinds : Nat → Int32} {values : Nat → Int64} {neg ax kd am : Int32} {le : Int64} {nm nm1 : Nat → Int64} {sp co si ki fi se nu mt mm mco so mf ms re mn : Nat → Int32} (hW : Wds fu N m sg pos kinds values) (hq : q < 6) (hC : Cu m pos kinds values a ax kd am le) (hf : m < f + a) (hs : si q = nI z) (hz : kd = 6 → z = 6) :
    (∃ (x f' v w : Nat) (ax' kd' am' : Int32) (le' : Int64), f' + x = f + a ∧ a < x ∧ Cu m pos kinds values x ax' kd' am' le' ∧ 1 ≤ v ∧ v ≤ 9999 ∧ 1 ≤ w ∧ w ≤ 9999 ∧ CL fu N sg f a 9 neg ax kd am le (nI q) nm sp co si ki fi se nu = CL fu N sg f' x 0 neg ax' kd' am' le' (nI (q + 1)) nm (upd sp q (nI v)) (upd co q (nI w)) si ki fi se nu ∧ rlK (nI m) kinds values nm1 mm mco (nI (6 + q)) (nI a) mt so mf ms re mn = some (1, nI x, nm1, mt, upd mm (6 + q) (nI v), upd mco (6 + q) (nI w), so, mf, ms, re, mn)) ∨
    (∃ (x : Nat) (mm' mco' : Nat → Int32), rlK (nI m) kinds values nm1 mm mco (nI (6 + q)) (nI a) mt so mf ms re mn = some (0, nI x, nm1, mt, mm', mco', so, mf, ms, re, mn) ∧ Fail x (CL fu N sg f a 9 neg ax kd am le (nI q) nm sp co si ki fi se nu) ∧ ∀ i, i < 6 + q → mm' i = mm i ∧ mco' i = mco i) := by
  have hm : m ≤ 1000 := Nat.le_trans hW.2.1 hW.1
  have n10 : ¬ (1 : Int32) = 0 := by decide
  have b12 : ∀ {α : Type} (z : Option α), bd (nI (6 + q)) 12 z = z := fun z => bd_nI (by omega) (by decide)
  have cR : (nI (6 + q)).toNatClampNeg = 6 + q := nI_clamp (by omega)
  unfold rlK
  simp only [b12, cR]
  rcases ps_eq tw_for (by decide) hm hC with ⟨e, g, h⟩ | ⟨e, h⟩
  · subst e
    obtain ⟨f1, ax1, kd1, am1, le1, y1, y2, y3⟩ := cl_step hW hC (by decide) hf (tk9f (q := q) (neg := neg) (nm := nm) (sp := sp) (co := co) (si := si) (ki := ki) (fi := fi) (se := se) (nu := nu))
    rw [h, y3]
    simp only [Option.bind_some]
    rw [if_neg n10]
    rcases pn1 hm y2 with ⟨k1, g1, i1, v, v1, v2, v3, v4, v5⟩ | ⟨i1, v4⟩
    · subst v3
      obtain ⟨f2, ax2, kd2, am2, le2, z1, z2, z3⟩ := cl_step (f := f1) hW y2 k1 (by omega) (tk10 (neg := neg) (nm := nm) (sp := sp) (co := co) (si := si) (ki := ki) (fi := fi) (se := se) (nu := nu) hq i1)
      rw [v4, z3]
      simp only [Option.bind_some]
      rw [if_neg n10, v5]
      simp only [Option.bind_some]
      rcases ps_eq tw_costs (by decide) hm z2 with ⟨e, g2, h2⟩ | ⟨e, h2⟩
      · subst e
        obtain ⟨f3, ax3, kd3, am3, le3, u1, u2, u3⟩ := cl_step (f := f2) hW z2 (by decide) (by omega) (tk11 (q := q) (neg := neg) (nm := nm) (sp := upd sp q (nI v)) (co := co) (si := si) (ki := ki) (fi := fi) (se := se) (nu := nu))
        rw [h2, u3]
        simp only [Option.bind_some]
        rw [if_neg n10]
        rcases pn1 hm u2 with ⟨k2, g3, i2, w, w1, w2, w3, w4, w5⟩ | ⟨i2, w4⟩
        · subst w3
          obtain ⟨f4, ax4, kd4, am4, le4, p1, p2, p3⟩ := cl_step (f := f3) hW u2 k2 (by omega) (tk12 (neg := neg) (nm := nm) (sp := upd sp q (nI v)) (co := co) (si := si) (ki := ki) (fi := fi) (se := se) (nu := nu) hq i2)
          rw [w4, p3]
          simp only [Option.bind_some]
          rw [if_neg n10, w5]
          simp only [Option.bind_some]
          rcases ps_eq tw_semi (by decide) hm p2 with ⟨e, g4, h4⟩ | ⟨e, h4⟩
          · subst e
            obtain ⟨f5, ax5, kd5, am5, le5, o1, o2, o3⟩ := cl_step (f := f4) hW p2 (by decide) (by omega) (tk13 (q := q) (neg := neg) (nm := nm) (sp := upd sp q (nI v)) (co := upd co q (nI w)) (si := si) (ki := ki) (fi := fi) (se := se) (nu := nu))
            rw [h4, o3]
            simp only [Option.bind_some]
            rw [zb_1]
            exact Or.inl ⟨a + 1 + 1 + 1 + 1 + 1, f5, v, w, ax5, kd5, am5, le5, by omega, by omega, o2, v1, v2, w1, w2, rfl, rfl⟩
          · rw [h4]
            simp only [Option.bind_some]
            rw [zb_0]
            exact Or.inr ⟨a + 1 + 1 + 1 + 1, _, _, rfl, cl_no (f := f4) hW p2 (by omega) (fun _ => by decide) (fun _ => tk13n e), fun i hi => ⟨pk_un (by omega), pk_un (by omega)⟩⟩
        · rw [w4]
          simp only [Option.bind_some]
          rw [if_pos trivial]
          exact Or.inr ⟨a + 1 + 1 + 1, _, _, rfl, cl_no (f := f3) hW u2 (by omega) (fun _ => by decide) (fun _ => tk12n hq i2), fun i hi => ⟨pk_un (by omega), rfl⟩⟩
      · rw [h2]
        simp only [Option.bind_some]
        rw [if_pos trivial]
        exact Or.inr ⟨a + 1 + 1, _, _, rfl, cl_no (f := f2) hW z2 (by omega) (fun _ => by decide) (fun _ => tk11n e), fun i hi => ⟨pk_un (by omega), rfl⟩⟩
    · rw [v4]
      simp only [Option.bind_some]
      rw [if_pos trivial]
      exact Or.inr ⟨a + 1, _, _, rfl, cl_no (f := f1) hW y2 (by omega) (fun _ => by decide) (fun _ => tk10n hq i1), fun i hi => ⟨rfl, rfl⟩⟩
  · rw [h]
    simp only [Option.bind_some]
    rw [if_pos trivial]
    exact Or.inr ⟨a, _, _, rfl, cl_no hW hC hf (fun _ => by decide) (fun _ => tk9n hq e (fun q6 => by rw [hs, hz q6]; rfl)), fun i hi => ⟨rfl, rfl⟩⟩
theorem rule_rd {fu N m q f a : Nat} {sg : Nat → Int32} {pos : Nat → Nat} {kinds : Nat → Int32} {values : Nat → Int64} {neg ax kd am : Int32} {le : Int64} {nm names : Nat → Int64} {sp co si ki fi se nu mt mm mco so mf ms re mn : Nat → Int32} (hW : Wds fu N m sg pos kinds values) (hfu : 1001 ≤ fu) (hq : q < 6) (hC : Cu m pos kinds values a ax kd am le) (hk0 : ¬ kd = 0) (hf : m < f + a) (hD : DR q nm sp co si ki fi se nu names mt mm mco so mf ms re mn) :
    (∃ (x f' : Nat) (neg' ax' kd' am' : Int32) (le' : Int64) (nm' : Nat → Int64) (sp' co' si' ki' fi' se' nu' : Nat → Int32) (names' : Nat → Int64) (mt' mm' mco' so' mf' ms' re' mn' : Nat → Int32), f' + x = f + a ∧ a < x ∧ Cu m pos kinds values x ax' kd' am' le' ∧ CL fu N sg f a 0 neg ax kd am le (nI q) nm sp co si ki fi se nu = CL fu N sg f' x 0 neg' ax' kd' am' le' (nI (q + 1)) nm' sp' co' si' ki' fi' se' nu' ∧ f_Model_readsRule fu (nI m) (nI a) kinds values names mt mm mco so mf ms re mn (nI (6 + q)) = some (1, nI x, names', mt', mm', mco', so', mf', ms', re', mn') ∧ DR (q + 1) nm' sp' co' si' ki' fi' se' nu' names' mt' mm' mco' so' mf' ms' re' mn' ∧ LowA names mt mm mco so mf ms re mn names' mt' mm' mco' so' mf' ms' re' mn') ∨
    (∃ (x : Nat) (names' : Nat → Int64) (mt' mm' mco' so' mf' ms' re' mn' : Nat → Int32), f_Model_readsRule fu (nI m) (nI a) kinds values names mt mm mco so mf ms re mn (nI (6 + q)) = some (0, nI x, names', mt', mm', mco', so', mf', ms', re', mn') ∧ Fail x (CL fu N sg f a 0 neg ax kd am le (nI q) nm sp co si ki fi se nu) ∧ LowA names mt mm mco so mf ms re mn names' mt' mm' mco' so' mf' ms' re' mn') := by
  have hm : m ≤ 1000 := Nat.le_trans hW.2.1 hW.1
  have n10 : ¬ (1 : Int32) = 0 := by decide
  have b12 : ∀ {α : Type} (z : Option α), bd (nI (6 + q)) 12 z = z := fun z => bd_nI (by omega) (by decide)
  have cR : (nI (6 + q)).toNatClampNeg = 6 + q := nI_clamp (by omega)
  have triv : LowA names mt mm mco so mf ms re mn names mt mm mco so mf ms re mn := ⟨fun i hi => ⟨rfl, rfl, rfl, rfl⟩, fun i hi => ⟨rfl, rfl, rfl, rfl, rfl⟩⟩
  obtain ⟨-, -, -, d4, d5⟩ := hD
  rcases nm_eq (fu := fu) (R := 6 + q) (names := names) hm (by omega) hC with ⟨e, g, hl, h⟩ | ⟨e, h⟩
  · subst e
    subst hl
    rcases nms_loop (fu := fu) (values := values) (names := names) (nm := nm) (kont := some (1, nI (a + 1), vp_updL names (6 + q) (values a))) (show a < 1000 by omega) (show q ≤ 6 by omega) (fun r hr => (d4 r hr).1) fu 0 (Nat.zero_le q) (by omega) with ⟨n1, n2⟩ | ⟨n1, n2, n3⟩
    · refine Or.inr ⟨a, names, mt, mm, mco, so, mf, ms, re, mn, ?_, cl_no hW hC hf (fun z => absurd z hk0) (fun _ => tk0h n1), triv⟩
      have n2' : L_Model_readsName_83 fu (nI a) values names (nI (6 + q)) (some (1, nI (a + 1), vp_updL names (6 + q) (values a))) fu 6 = some (0, nI a, names) := n2
      unfold f_Model_readsRule
      rw [h, n2']
      rfl
    · have n2' : L_Model_readsName_83 fu (nI a) values names (nI (6 + q)) (some (1, nI (a + 1), vp_updL names (6 + q) (values a))) fu 6 = some (1, nI (a + 1), vp_updL names (6 + q) (values a)) := n2
      obtain ⟨f1, ax1, kd1, am1, le1, y1, y2, y3⟩ := cl_step hW hC (by decide) hf (tk0 (neg := neg) (nm := nm) (sp := sp) (co := co) (si := si) (ki := ki) (fi := fi) (se := se) (nu := nu) hq n1)
      rw [y3]
      have nl : ∀ i, i < 6 + q → vp_updL names (6 + q) (values a) i = names i := fun i hi => pk_uLn (by omega)
      rcases ps_eq tw_colon (by decide) hm y2 with ⟨e, g1, h1⟩ | ⟨e, h1⟩
      · subst e
        obtain ⟨f2, ax2, kd2, am2, le2, z1, z2, z3⟩ := cl_step (f := f1) hW y2 (by decide) (by omega) (tk1 (q := q) (neg := neg) (nm := vp_updL nm q (values a)) (sp := sp) (co := co) (si := upd si q 0) (ki := ki) (fi := fi) (se := se) (nu := nu))
        rw [z3]
        have hpre : f_Model_readsRule fu (nI m) (nI a) kinds values names mt mm mco so mf ms re mn (nI (6 + q)) = L_Model_readsRule_30 fu (nI m) kinds values (vp_updL names (6 + q) (values a)) mm mco (nI (6 + q)) (rlK (nI m) kinds values (vp_updL names (6 + q) (values a)) mm mco (nI (6 + q))) fu 1 (nI (a + 1 + 1)) (upd mt (6 + q) 0) so mf ms re mn := by
          unfold f_Model_readsRule
          rw [h, n2']
          simp only [Option.bind_some]
          rw [if_neg n10, h1]
          simp only [Option.bind_some]
          have eu : upd mt (nI (6 + q)).toNatClampNeg 0 = upd mt (6 + q) 0 := by rw [cR]
          rw [if_neg n10, b12, eu]
          rfl
        have ml : ∀ i, i < 6 + q → upd mt (6 + q) 0 i = mt i := fun i hi => pk_un (by omega)
        rcases tests_rd (nm := vp_updL nm q (values a)) (names := vp_updL names (6 + q) (values a)) (sp := sp) (co := co) (mm := mm) (mco := mco) (k95 := rlK (nI m) kinds values (vp_updL names (6 + q) (values a)) mm mco (nI (6 + q))) hW hq 6 0 fu f2 (a + 1 + 1) neg ax2 kd2 am2 le2 (upd si q 0) ki fi se nu (upd mt (6 + q) 0) so mf ms re mn (by omega) (by omega) (by omega) z2 (by omega) pk_us pk_us (fun l hl => absurd hl (Nat.not_lt_zero l)) with ⟨z, x, f3, neg3, ax3, kd3, am3, le3, si3, ki3, fi3, se3, nu3, mt3, so3, mf3, ms3, re3, mn3, w1, w2, w3, w4, w5, w6, w7, w8, w9, w10, w11, w12, w13, w14, w15⟩ | ⟨x, mt3, so3, mf3, ms3, re3, mn3, w1, w2, w3, w4⟩
        · rw [w4]
          rcases end_rd (nm := vp_updL nm q (values a)) (nm1 := vp_updL names (6 + q) (values a)) (sp := sp) (co := co) (mm := mm) (mco := mco) (neg := neg3) (ki := ki3) (fi := fi3) (se := se3) (nu := nu3) (mt := mt3) (so := so3) (mf := mf3) (ms := ms3) (re := re3) (mn := mn3) hW hq w3 (show m < f3 + x by omega) w8 w10 with ⟨x2, f4, v, w, ax4, kd4, am4, le4, u1, u2, u3, u4, u5, u6, u7, u8, u9⟩ | ⟨x2, mm', mco', u1, u2, u3⟩
          · refine Or.inl ⟨x2, f4, neg3, ax4, kd4, am4, le4, vp_updL nm q (values a), upd sp q (nI v), upd co q (nI w), si3, ki3, fi3, se3, nu3, vp_updL names (6 + q) (values a), mt3, upd mm (6 + q) (nI v), upd mco (6 + q) (nI w), so3, mf3, ms3, re3, mn3, by omega, by omega, u3, u8, (hpre.trans w5).trans u9, ?_, ⟨fun i hi => ⟨nl i (by omega), (w13 i (by omega)).trans (ml i (by omega)), pk_un (by omega), pk_un (by omega)⟩, fun i hi => w15 i (by omega)⟩⟩
            refine ⟨by omega, rfl, rfl, fun r hr => ?_, fun r r' hr hr' hn => ?_⟩
            · rcases Nat.lt_or_ge r q with c | c
              · obtain ⟨a1, a2, a3, a4, a5, a6, zz, b1, b2, b3, b4⟩ := d4 r c
                have t1 : mt3 (6 + r) = mt (6 + r) := (w13 (6 + r) (by omega)).trans (ml (6 + r) (by omega))
                have t2 : upd mm (6 + q) (nI v) (6 + r) = mm (6 + r) := pk_un (by omega)
                have t3 : upd mco (6 + q) (nI w) (6 + r) = mco (6 + r) := pk_un (by omega)
                have t4 : si3 r = si r := (w12 r c).trans (pk_un (by omega))
                refine ⟨?_, ?_, ?_, ?_, ?_, ?_, zz, b1, b2, ?_, fun k hk => ITest_low (b4 k hk) w14 w15 (by omega) (by omega)⟩
                · show vp_updL nm q (values a) r = vp_updL names (6 + q) (values a) (6 + r)
                  rw [pk_uLn (by omega), nl (6 + r) (by omega)]; exact a1
                · show upd sp q (nI v) r = upd mm (6 + q) (nI v) (6 + r)
                  rw [pk_un (by omega), t2]; exact a2
                · show upd co q (nI w) r = upd mco (6 + q) (nI w) (6 + r)
                  rw [pk_un (by omega), t3]; exact a3
                · show si3 r = mt3 (6 + r)
                  rw [t4, t1]; exact a4
                · show ∃ s, 1 ≤ s ∧ s ≤ 9999 ∧ upd mm (6 + q) (nI v) (6 + r) = nI s
                  rw [t2]; exact a5
                · show ∃ s, 1 ≤ s ∧ s ≤ 9999 ∧ upd mco (6 + q) (nI w) (6 + r) = nI s
                  rw [t3]; exact a6
                · show mt3 (6 + r) = nI zz
                  rw [t1]; exact b3
              · have er : r = q := by omega
                subst er
                refine ⟨?_, ?_, ?_, w8.trans w9.symm, ⟨v, u4, u5, pk_us⟩, ⟨w, u6, u7, pk_us⟩, z, w6, w7, w9, w11⟩
                · show vp_updL nm r (values a) r = vp_updL names (6 + r) (values a) (6 + r)
                  rw [pk_uLs, pk_uLs]
                · show upd sp r (nI v) r = upd mm (6 + r) (nI v) (6 + r)
                  rw [pk_us, pk_us]
                · show upd co r (nI w) r = upd mco (6 + r) (nI w) (6 + r)
                  rw [pk_us, pk_us]
            · have hn' : vp_updL names (6 + q) (values a) (6 + r) = vp_updL names (6 + q) (values a) (6 + r') := hn
              rcases Nat.lt_or_ge r q with c | c
              · rcases Nat.lt_or_ge r' q with c' | c'
                · rw [nl (6 + r) (by omega), nl (6 + r') (by omega)] at hn'
                  exact d5 r r' c c' hn'
                · have er : r' = q := by omega
                  subst er
                  rw [nl (6 + r) (by omega), pk_uLs] at hn'
                  exact absurd hn' (n3 r (Nat.zero_le r) c)
              · have er : r = q := by omega
                subst er
                rcases Nat.lt_or_ge r' r with c' | c'
                · rw [nl (6 + r') (by omega), pk_uLs] at hn'
                  exact absurd hn'.symm (n3 r' (Nat.zero_le r') c')
                · omega
          · exact Or.inr ⟨x2, vp_updL names (6 + q) (values a), mt3, mm', mco', so3, mf3, ms3, re3, mn3, (hpre.trans w5).trans u1, u2, ⟨fun i hi => ⟨nl i (by omega), (w13 i (by omega)).trans (ml i (by omega)), (u3 i (by omega)).1, (u3 i (by omega)).2⟩, fun i hi => w15 i (by omega)⟩⟩
        · exact Or.inr ⟨x, vp_updL names (6 + q) (values a), mt3, mm, mco, so3, mf3, ms3, re3, mn3, hpre.trans w1, w2, ⟨fun i hi => ⟨nl i (by omega), (w3 i (by omega)).trans (ml i (by omega)), rfl, rfl⟩, fun i hi => w4 i (by omega)⟩⟩
      · refine Or.inr ⟨a + 1, vp_updL names (6 + q) (values a), mt, mm, mco, so, mf, ms, re, mn, ?_, cl_no (f := f1) hW y2 (by omega) (fun _ => by decide) (fun _ => tk1n e), ⟨fun i hi => ⟨nl i (by omega), rfl, rfl, rfl⟩, fun i hi => ⟨rfl, rfl, rfl, rfl, rfl⟩⟩⟩
        unfold f_Model_readsRule
        rw [h, n2']
        simp only [Option.bind_some]
        rw [if_neg n10, h1]
        rfl
  · refine Or.inr ⟨a, names, mt, mm, mco, so, mf, ms, re, mn, ?_, cl_no hW hC hf (fun z => absurd z hk0) (fun _ => tk0n e), triv⟩
    unfold f_Model_readsRule
    rw [h]
    rfl
