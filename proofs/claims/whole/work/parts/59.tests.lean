abbrev s36 (g : Nat → Int32) : Nat → Int32 := fun i => g (36 + i)
abbrev Same4 (T : Nat) (ki fi se nu ki' fi' se' nu' : Nat → Int32) : Prop := ∀ i, i ≠ T → ki' i = ki i ∧ fi' i = fi i ∧ se' i = se i ∧ nu' i = nu i
abbrev Same5 (U : Nat) (so mf ms re mn so' mf' ms' re' mn' : Nat → Int32) : Prop := ∀ i, i ≠ U → so' i = so i ∧ mf' i = mf i ∧ ms' i = ms i ∧ re' i = re i ∧ mn' i = mn i
def TestOut (fu N m : Nat) (sg : Nat → Int32) (pos : Nat → Nat) (kinds : Nat → Int32) (values : Nat → Int64) (f a q k : Nat) (nm : Nat → Int64) (sp co si ki fi se nu so mf ms re mn : Nat → Int32) (X : Option TR) (Y : Option (Int32 × Int32 × (Nat → Int32) × (Nat → Int32) × (Nat → Int32) × (Nat → Int32) × (Nat → Int32))) : Prop :=
  (∃ (x f' : Nat) (neg' ax' kd' am' : Int32) (le' : Int64) (ki' fi' se' nu' so' mf' ms' re' mn' : Nat → Int32), f' + x = f + a ∧ a < x ∧ Cu m pos kinds values x ax' kd' am' le' ∧ X = CL fu N sg f' x 9 neg' ax' kd' am' le' (nI q) nm sp co (upd si q (nI (k + 1))) ki' fi' se' nu' ∧ Y = some (1, nI x, so', mf', ms', re', mn') ∧ ITest (6 * q + k) ki' fi' se' nu' (s36 so') (s36 mf') (s36 ms') (s36 re') (s36 mn') ∧ Same4 (6 * q + k) ki fi se nu ki' fi' se' nu' ∧ Same5 (36 + (6 * q + k)) so mf ms re mn so' mf' ms' re' mn') ∨
  (∃ (x : Nat) (so' mf' ms' re' mn' : Nat → Int32), Y = some (0, nI x, so', mf', ms', re', mn') ∧ Fail x X ∧ Same5 (36 + (6 * q + k)) so mf ms re mn so' mf' ms' re' mn')
theorem watch_rd {fu N m f a q k : Nat} {sg : Nat → Int32} {pos : Nat → Nat} {kinds : Nat → Int32} {values : Nat → Int64} {neg ax kd am s : Int32} {le : Int64} {nm : Nat → Int64} {sp co si ki fi se nu so mf ms re mn : Nat → Int32} {Y : Option (Int32 × Int32 × (Nat → Int32) × (Nat → Int32) × (Nat → Int32) × (Nat → Int32) × (Nat → Int32))} (hW : Wds fu N m sg pos kinds values) (hC : Cu m pos kinds values a ax kd am le) (hf : m < f + a) (hq : q < 6) (hs : si q = nI k) (hk : k < 6) (hkd : (kd = 16 ∧ s = 2) ∨ (kd = 17 ∧ s = 3) ∨ (kd = 18 ∧ s = 4))
    (hY : Y = (f_Model_readsAge (nI m) (nI (a + 1)) kinds values so mf mn (nI (36 + (6 * q + k))) s).bind (fun t_43 => (zb t_43.1 (some (t_43.1, t_43.2.1, t_43.2.2.1, t_43.2.2.2.1, ms, re, t_43.2.2.2.2))))) :
    TestOut fu N m sg pos kinds values f a q k nm sp co si ki fi se nu so mf ms re mn (CL fu N sg f a 2 neg ax kd am le (nI q) nm sp co si ki fi se nu) Y := by
  have hkd' : kd = 16 ∨ kd = 17 ∨ kd = 18 := by
    rcases hkd with ⟨h, -⟩ | ⟨h, -⟩ | ⟨h, -⟩
    · exact Or.inl h
    · exact Or.inr (Or.inl h)
    · exact Or.inr (Or.inr h)
  have k0 : ¬ kd = 0 := by rcases hkd' with rfl | rfl | rfl <;> decide
  obtain ⟨f1, ax1, kd1, am1, le1, y1, y2, y3⟩ := cl_step hW hC k0 hf (tk2w (neg := neg) (nm := nm) (sp := sp) (co := co) (ki := ki) (fi := fi) (se := se) (nu := nu) hq hs hk hkd')
  rcases age_rd (nm := nm) (sp := sp) (co := co) (ki := upd ki (6 * q + k) kd) (fi := fi) (se := upd se (6 * q + k) (-1)) (nu := nu) (so := so) (mf := mf) (mn := mn) (s := s) hW y2 (show m < f1 + (a + 1) by omega) hq hs hk (show 36 + (6 * q + k) < 72 by omega) with ⟨v, w, f', x, ax', kd', am', le', z1, z2, z3, z4, z5, z6, z7⟩ | ⟨x, so', mf', mn', z1, z2, z3⟩
  · refine Or.inl ⟨x, f', 0, ax', kd', am', le', upd ki (6 * q + k) kd, upd fi (6 * q + k) (nI v), upd se (6 * q + k) (-1), upd nu (6 * q + k) (nI w), upd so (36 + (6 * q + k)) s, upd mf (36 + (6 * q + k)) (nI v), ms, re, upd mn (36 + (6 * q + k)) (nI w), by omega, by omega, z5, y3.trans z6, ?_, ?_, fun i hi => ⟨pk_un hi, pk_un hi, pk_un hi, pk_un hi⟩, fun i hi => ⟨pk_un hi, pk_un hi, rfl, rfl, pk_un hi⟩⟩
    · rw [hY, z7]
      simp only [Option.bind_some]
      rw [zb_1]
    · refine ⟨v, z1, pk_us, pk_us, ?_, ?_⟩
      · show upd nu (6 * q + k) (nI w) (6 * q + k) = upd mn (36 + (6 * q + k)) (nI w) (36 + (6 * q + k))
        rw [pk_us, pk_us]
      · have e1 : upd ki (6 * q + k) kd (6 * q + k) = kd := pk_us
        have e2 : s36 (upd so (36 + (6 * q + k)) s) (6 * q + k) = s := pk_us
        have e3 : s36 (upd mn (36 + (6 * q + k)) (nI w)) (6 * q + k) = nI w := pk_us
        rw [e1, e2, e3]
        rcases hkd with h | h | h
        · exact Or.inl h
        · exact Or.inr (Or.inl ⟨h.1, h.2, nI_pos (by omega)⟩)
        · exact Or.inr (Or.inr (Or.inl h))
  · refine Or.inr ⟨x, so', mf', ms, re, mn', ?_, by rw [y3]; exact z2, fun i hi => ⟨(z3 i hi).1, (z3 i hi).2.1, rfl, rfl, (z3 i hi).2.2⟩⟩
    rw [hY, z1]
    simp only [Option.bind_some]
    rw [zb_0]
theorem test_rd {fu N m f a q k : Nat} {sg : Nat → Int32} {pos : Nat → Nat} {kinds : Nat → Int32} {values : Nat → Int64} {neg ax kd am : Int32} {le : Int64} {nm : Nat → Int64} {sp co si ki fi se nu so mf ms re mn : Nat → Int32} (hW : Wds fu N m sg pos kinds values) (hC : Cu m pos kinds values a ax kd am le) (hf : m < f + a) (hq : q < 6) (hs : si q = nI k) (hk : k < 6) :
    TestOut fu N m sg pos kinds values f a q k nm sp co si ki fi se nu so mf ms re mn (CL fu N sg f a 2 neg ax kd am le (nI q) nm sp co si ki fi se nu) (f_Model_readsTest (nI m) (nI a) kinds values so mf ms re mn (nI (36 + (6 * q + k)))) := by
  have hm : m ≤ 1000 := Nat.le_trans hW.2.1 hW.1
  have n10 : ¬ (1 : Int32) = 0 := by decide
  have bU : ∀ {α : Type} (z : Option α), bd (nI (36 + (6 * q + k))) 72 z = z := fun z => bd_nI (by omega) (by decide)
  have cU : (nI (36 + (6 * q + k))).toNatClampNeg = 36 + (6 * q + k) := nI_clamp (by omega)
  rcases ps_eq tw_stuck (by decide) hm hC with ⟨e, g, h⟩ | ⟨e16, h16⟩
  · refine watch_rd (s := 2) hW hC hf hq hs hk (Or.inl ⟨e, rfl⟩) ?_
    unfold f_Model_readsTest
    rw [h]
    simp only [Option.bind_some]
    rw [if_neg n10]
  rcases ps_eq tw_jump (by decide) hm hC with ⟨e, g, h⟩ | ⟨e17, h17⟩
  · refine watch_rd (s := 3) hW hC hf hq hs hk (Or.inr (Or.inl ⟨e, rfl⟩)) ?_
    unfold f_Model_readsTest
    rw [h16]
    simp only [Option.bind_some]
    rw [if_pos trivial, h]
    simp only [Option.bind_some]
    rw [if_neg n10]
  rcases ps_eq tw_silent (by decide) hm hC with ⟨e, g, h⟩ | ⟨e18, h18⟩
  · refine watch_rd (s := 4) hW hC hf hq hs hk (Or.inr (Or.inr ⟨e, rfl⟩)) ?_
    unfold f_Model_readsTest
    rw [h16]
    simp only [Option.bind_some]
    rw [if_pos trivial, h17]
    simp only [Option.bind_some]
    rw [if_pos trivial, h]
    simp only [Option.bind_some]
    rw [if_neg n10]
  unfold f_Model_readsTest
  rw [h16]
  simp only [Option.bind_some]
  rw [if_pos trivial, h17]
  simp only [Option.bind_some]
  rw [if_pos trivial, h18]
  simp only [Option.bind_some]
  rw [if_pos trivial]
  simp only [bU, cU, pk_us]
  rcases pp_eq hm hC with ⟨e, g, v, v1, v2, v3, v4⟩ | ⟨e, v3⟩
  · subst e
    subst v2
    obtain ⟨f1, ax1, kd1, am1, le1, y1, y2, y3⟩ := cl_step hW hC (by decide) hf (tk2p (neg := neg) (nm := nm) (sp := sp) (co := co) (ki := ki) (fi := fi) (se := se) (nu := nu) hq hs hk)
    rw [y3, v3]
    simp only [Option.bind_some]
    rw [if_neg n10, v4]
    simp only [Option.bind_some]
    rcases ps_eq tw_minus (by decide) hm y2 with ⟨e, g1, h⟩ | ⟨e8, h8⟩
    · subst e
      obtain ⟨f2, ax2, kd2, am2, le2, z1, z2, z3⟩ := cl_step (f := f1) hW y2 (by decide) (by omega) (tk3m (q := q) (neg := 0) (nm := nm) (sp := sp) (co := co) (si := si) (ki := ki) (fi := upd fi (6 * q + k) (nI v)) (se := upd se (6 * q + k) (-1)) (nu := nu))
      rw [z3, h]
      simp only [Option.bind_some]
      rw [if_neg n10]
      rcases pp_eq hm z2 with ⟨e, g2, p2, p21, p22, p23, p24⟩ | ⟨e4, p23⟩
      · subst e
        subst p22
        obtain ⟨f3, ax3, kd3, am3, le3, u1, u2, u3⟩ := cl_step (f := f2) hW z2 (by decide) (by omega) (tk4p (neg := 0) (nm := nm) (sp := sp) (co := co) (ki := ki) (fi := upd fi (6 * q + k) (nI v)) (se := upd se (6 * q + k) (-1)) (nu := nu) hq hs hk)
        rw [u3, p23]
        simp only [Option.bind_some]
        rw [if_neg n10, p24]
        simp only [Option.bind_some]
        rcases rel_rd (d := 5) (nm := nm) (sp := sp) (co := co) (ki := ki) (fi := upd fi (6 * q + k) (nI v)) (se := upd (upd se (6 * q + k) (-1)) (6 * q + k) (nI p2)) (nu := nu) hW u2 (show m < f3 + (a + 1 + 1 + 1) by omega) hq hs hk (Or.inr rfl) with ⟨r, x, b, x', x'', w0, w, f', neg', ax', kd', am', le', r1, r2, r3, r4, r5, r6, r7, r8, r9, r10⟩ | ⟨r, x, b, x', r1, r2, r3, r4, r5⟩ | ⟨r2, r5⟩
        · rw [r2]
          simp only [Option.bind_some]
          rw [if_pos (nI_pos' (by omega)), r3]
          simp only [Option.bind_some]
          rw [r4]
          simp only [Option.bind_some]
          rw [if_neg n10, r5]
          simp only [Option.bind_some]
          refine Or.inl ⟨x'', f', neg', ax', kd', am', le', upd ki (6 * q + k) (nI (11 + r)), upd fi (6 * q + k) (nI v), upd (upd se (6 * q + k) (-1)) (6 * q + k) (nI p2), upd nu (6 * q + k) w, upd (upd so (36 + (6 * q + k)) 0) (36 + (6 * q + k)) 1, upd mf (36 + (6 * q + k)) (nI v), upd ms (36 + (6 * q + k)) (nI p2), upd re (36 + (6 * q + k)) (nI r), upd mn (36 + (6 * q + k)) w, by omega, by omega, r9, r10, ?_, ⟨v, v1, pk_us, pk_us, ?_, Or.inr (Or.inr (Or.inr ⟨r, r1, pk_us, pk_us, Or.inr ⟨p2, p21, pk_us, pk_us, pk_us⟩⟩))⟩, fun i hi => ⟨pk_un hi, pk_un hi, by rw [pk_un hi, pk_un hi], pk_un hi⟩, fun i hi => ⟨by rw [pk_un hi, pk_un hi], pk_un hi, pk_un hi, pk_un hi, pk_un hi⟩⟩
          · rcases r6 with ⟨rfl, rfl⟩ | ⟨rfl, rfl⟩
            · rw [if_pos rfl]
            · rw [if_neg n10]
          · show upd nu (6 * q + k) w (6 * q + k) = upd mn (36 + (6 * q + k)) w (36 + (6 * q + k))
            rw [pk_us, pk_us]
        · rw [r2]
          simp only [Option.bind_some]
          rw [if_pos (nI_pos' (by omega)), r3]
          simp only [Option.bind_some]
          rw [r4]
          simp only [Option.bind_some]
          rw [if_pos trivial]
          exact Or.inr ⟨x', _, _, _, _, _, rfl, r5, fun i hi => ⟨by rw [pk_un hi, pk_un hi], pk_un hi, pk_un hi, pk_un hi, rfl⟩⟩
        · rw [r2]
          simp only [Option.bind_some]
          rw [if_neg (show ¬ (0 : Int32) ≤ -1 by decide)]
          exact Or.inr ⟨a + 1 + 1 + 1, _, _, _, _, _, rfl, r5, fun i hi => ⟨by rw [pk_un hi, pk_un hi], pk_un hi, pk_un hi, pk_un hi, rfl⟩⟩
      · rw [p23]
        simp only [Option.bind_some]
        rw [if_pos trivial]
        exact Or.inr ⟨a + 1 + 1, _, _, _, _, _, rfl, cl_no (f := f2) hW z2 (by omega) (fun _ => by decide) (fun _ => tk4n hq hs hk e4), fun i hi => ⟨by rw [pk_un hi, pk_un hi], pk_un hi, rfl, rfl, rfl⟩⟩
    · rw [h8]
      simp only [Option.bind_some]
      rw [if_pos trivial]
      rcases rel_rd (d := 3) (nm := nm) (sp := sp) (co := co) (ki := ki) (fi := upd fi (6 * q + k) (nI v)) (se := upd se (6 * q + k) (-1)) (nu := nu) hW y2 (show m < f1 + (a + 1) by omega) hq hs hk (Or.inl ⟨rfl, e8⟩) with ⟨r, x, b, x', x'', w0, w, f', neg', ax', kd', am', le', r1, r2, r3, r4, r5, r6, r7, r8, r9, r10⟩ | ⟨r, x, b, x', r1, r2, r3, r4, r5⟩ | ⟨r2, r5⟩
      · rw [r2]
        simp only [Option.bind_some]
        rw [if_pos (nI_pos' (by omega)), r3]
        simp only [Option.bind_some]
        rw [r4]
        simp only [Option.bind_some]
        rw [if_neg n10, r5]
        simp only [Option.bind_some]
        refine Or.inl ⟨x'', f', neg', ax', kd', am', le', upd ki (6 * q + k) (nI (11 + r)), upd fi (6 * q + k) (nI v), upd se (6 * q + k) (-1), upd nu (6 * q + k) w, upd so (36 + (6 * q + k)) 0, upd mf (36 + (6 * q + k)) (nI v), ms, upd re (36 + (6 * q + k)) (nI r), upd mn (36 + (6 * q + k)) w, by omega, by omega, r9, r10, ?_, ⟨v, v1, pk_us, pk_us, ?_, Or.inr (Or.inr (Or.inr ⟨r, r1, pk_us, pk_us, Or.inl ⟨pk_us, pk_us⟩⟩))⟩, fun i hi => ⟨pk_un hi, pk_un hi, pk_un hi, pk_un hi⟩, fun i hi => ⟨pk_un hi, pk_un hi, rfl, pk_un hi, pk_un hi⟩⟩
        · rcases r6 with ⟨rfl, rfl⟩ | ⟨rfl, rfl⟩
          · rw [if_pos rfl]
          · rw [if_neg n10]
        · show upd nu (6 * q + k) w (6 * q + k) = upd mn (36 + (6 * q + k)) w (36 + (6 * q + k))
          rw [pk_us, pk_us]
      · rw [r2]
        simp only [Option.bind_some]
        rw [if_pos (nI_pos' (by omega)), r3]
        simp only [Option.bind_some]
        rw [r4]
        simp only [Option.bind_some]
        rw [if_pos trivial]
        exact Or.inr ⟨x', _, _, _, _, _, rfl, r5, fun i hi => ⟨pk_un hi, pk_un hi, rfl, pk_un hi, rfl⟩⟩
      · rw [r2]
        simp only [Option.bind_some]
        rw [if_neg (show ¬ (0 : Int32) ≤ -1 by decide)]
        exact Or.inr ⟨a + 1, _, _, _, _, _, rfl, r5, fun i hi => ⟨pk_un hi, pk_un hi, rfl, pk_un hi, rfl⟩⟩
  · rw [v3]
    simp only [Option.bind_some]
    rw [if_pos trivial]
    exact Or.inr ⟨a, _, _, _, _, _, rfl, cl_no hW hC hf (fun _ => by decide) (fun _ => tk2n hq hs hk e e16 e17 e18), fun i hi => ⟨rfl, rfl, rfl, rfl, rfl⟩⟩
