-- reading a test
theorem pn0 {m a : Nat} {pos : Nat → Nat} {kinds : Nat → Int32} {values : Nat → Int64} {ax kd am : Int32} {le : Int64} (hm : m ≤ 1000) (hC : Cu m pos kinds values a ax kd am le) :
    (kd = 3 ∧ a < m ∧ ∃ v, v ≤ 1000000 ∧ am = nI v ∧ f_Model_passesNumber (nI m) (nI a) kinds values 0 1000000 = some (1, nI (a + 1)) ∧ f_Model_said (nI (a + 1)) values = some (nI v)) ∨ (¬ kd = 3 ∧ f_Model_passesNumber (nI m) (nI a) kinds values 0 1000000 = some (0, nI a)) := by
  rcases pn_eq (lo := 0) (hi := 1000000) hm (by decide) (by decide) hC with ⟨h1, h2, v, -, h3, h4, h5, h6⟩ | ⟨h1, h2⟩
  · exact Or.inl ⟨h1, h2, v, h3, h4, h5, h6⟩
  · refine Or.inr ⟨fun e => h1 ⟨e, ?_⟩, h2⟩
    rcases hC with ⟨-, -, -, -, q⟩ | ⟨-, q⟩
    · obtain ⟨v, v1, v2, -⟩ := q (Or.inl e)
      exact ⟨v, Nat.zero_le v, v1, v2⟩
    · rw [q] at e; exact absurd e (by decide)
theorem pn1 {m a : Nat} {pos : Nat → Nat} {kinds : Nat → Int32} {values : Nat → Int64} {ax kd am : Int32} {le : Int64} (hm : m ≤ 1000) (hC : Cu m pos kinds values a ax kd am le) :
    (¬ kd = 0 ∧ a < m ∧ f_Reader_isRuleNumber kd am = some 1 ∧ ∃ v, 1 ≤ v ∧ v ≤ 9999 ∧ am = nI v ∧ f_Model_passesNumber (nI m) (nI a) kinds values 1 9999 = some (1, nI (a + 1)) ∧ f_Model_said (nI (a + 1)) values = some (nI v)) ∨ (f_Reader_isRuleNumber kd am = some 0 ∧ f_Model_passesNumber (nI m) (nI a) kinds values 1 9999 = some (0, nI a)) := by
  rcases pn_eq (lo := 1) (hi := 9999) hm (by decide) (by decide) hC with ⟨h1, h2, v, h0, h3, h4, h5, h6⟩ | ⟨h1, h2⟩
  · refine Or.inl ⟨by rw [h1]; decide, h2, ?_, v, h0, h3, h4, h5, h6⟩
    unfold f_Reader_isRuleNumber
    have x1 : ¬ nI v < (1 : Int32) := nI_nlt (b := 1) h0 (by omega)
    have x2 : ¬ (9999 : Int32) < nI v := nI_nlt (a := 9999) h3 (by decide)
    rw [if_pos h1, h4, if_neg x1, if_neg x2]
  · refine Or.inr ⟨?_, h2⟩
    unfold f_Reader_isRuleNumber
    by_cases e : kd = 3
    · rw [if_pos e]
      rcases hC with ⟨-, -, -, -, q⟩ | ⟨-, q⟩
      · obtain ⟨v, v1, v2, -⟩ := q (Or.inl e)
        rw [v2]
        rcases Nat.lt_or_ge v 1 with y | y
        · have x1 : nI v < (1 : Int32) := nI_lt (b := 1) y (by decide)
          rw [if_pos x1]
        · rcases Nat.lt_or_ge 9999 v with z | z
          · have x2 : (9999 : Int32) < nI v := nI_lt (a := 9999) z (by omega)
            by_cases x1 : nI v < (1 : Int32)
            · rw [if_pos x1]
            · rw [if_neg x1, if_pos x2]
          · exact absurd ⟨e, v, y, z, v2⟩ h1
      · rw [q] at e; exact absurd e (by decide)
    · rw [if_neg e]
theorem tail_rd {fu N m f a q k : Nat} {sg : Nat → Int32} {pos : Nat → Nat} {kinds : Nat → Int32} {values : Nat → Int64} {ax kd am : Int32} {le : Int64} {nm : Nat → Int64} {sp co si ki fi se nu : Nat → Int32} (hW : Wds fu N m sg pos kinds values) (hC : Cu m pos kinds values a ax kd am le) (hf : m < f + a) (hq : q < 6) (hs : si q = nI k) (hk : k < 6) :
    (∃ (b : Int32) (x' x'' v : Nat) (w : Int32) (f' : Nat) (neg' ax' kd' am' : Int32) (le' : Int64), f_Model_passes (nI m) (nI a) kinds values 3 45 = some (b, nI x') ∧ f_Model_passesNumber (nI m) (nI x') kinds values 0 1000000 = some (1, nI x'') ∧ f_Model_said (nI x'') values = some (nI v) ∧ ((b = 0 ∧ w = nI v) ∨ (b = 1 ∧ w = -(nI v))) ∧ f' + x'' = f + a ∧ a < x'' ∧ Cu m pos kinds values x'' ax' kd' am' le' ∧ CL fu N sg f a 6 0 ax kd am le (nI q) nm sp co si ki fi se nu = CL fu N sg f' x'' 9 neg' ax' kd' am' le' (nI q) nm sp co (upd si q (nI (k + 1))) ki fi se (upd nu (6 * q + k) w)) ∨
    (∃ (b : Int32) (x' : Nat), f_Model_passes (nI m) (nI a) kinds values 3 45 = some (b, nI x') ∧ f_Model_passesNumber (nI m) (nI x') kinds values 0 1000000 = some (0, nI x') ∧ Fail x' (CL fu N sg f a 6 0 ax kd am le (nI q) nm sp co si ki fi se nu)) := by
  have hm : m ≤ 1000 := Nat.le_trans hW.2.1 hW.1
  rcases ps_eq tw_minus (by decide) hm hC with ⟨e, g, h⟩ | ⟨e, h⟩
  · subst e
    obtain ⟨f1, ax1, kd1, am1, le1, y1, y2, y3⟩ := cl_step hW hC (by decide) hf tk6m
    rcases pn0 hm y2 with ⟨e1, g1, v, v1, v2, v3, v4⟩ | ⟨e1, v3⟩
    · subst e1
      subst v2
      obtain ⟨f2, ax2, kd2, am2, le2, z1, z2, z3⟩ := cl_step (f := f1) hW y2 (by decide) (by omega) (tk73m hq hs hk)
      exact Or.inl ⟨1, a + 1, a + 1 + 1, v, -(nI v), f2, 1, ax2, kd2, am2, le2, h, v3, v4, Or.inr ⟨rfl, rfl⟩, by omega, by omega, z2, y3.trans z3⟩
    · refine Or.inr ⟨1, a + 1, h, v3, ?_⟩
      rw [y3]
      refine cl_no hW y2 (by omega) (fun _ => by decide) (fun _ => ?_)
      by_cases e8 : kd1 = 8
      · subst e8; exact tk7n8 hq hs hk
      · exact tk7n hq hs hk e8 e1
  · rcases pn0 hm hC with ⟨e1, g1, v, v1, v2, v3, v4⟩ | ⟨e1, v3⟩
    · subst e1
      subst v2
      obtain ⟨f2, ax2, kd2, am2, le2, z1, z2, z3⟩ := cl_step hW hC (by decide) hf (tk63 hq hs hk)
      exact Or.inl ⟨0, a, a + 1, v, nI v, f2, 0, ax2, kd2, am2, le2, h, v3, v4, Or.inl ⟨rfl, rfl⟩, by omega, by omega, z2, z3⟩
    · exact Or.inr ⟨0, a, h, v3, cl_no hW hC hf (fun _ => by decide) (fun _ => tk6n hq hs hk e e1)⟩
theorem rel_rd {fu N m f a q k : Nat} {sg : Nat → Int32} {pos : Nat → Nat} {kinds : Nat → Int32} {values : Nat → Int64} {d ax kd am : Int32} {le : Int64} {nm : Nat → Int64} {sp co si ki fi se nu : Nat → Int32} (hW : Wds fu N m sg pos kinds values) (hC : Cu m pos kinds values a ax kd am le) (hf : m < f + a) (hq : q < 6) (hs : si q = nI k) (hk : k < 6) (hd : (d = 3 ∧ ¬ kd = 8) ∨ d = 5) :
    (∃ (r x : Nat) (b : Int32) (x' x'' v : Nat) (w : Int32) (f' : Nat) (neg' ax' kd' am' : Int32) (le' : Int64), r < 5 ∧ f_Model_passedRelation (nI m) (nI a) kinds values = some (nI r, nI x) ∧ f_Model_passes (nI m) (nI x) kinds values 3 45 = some (b, nI x') ∧ f_Model_passesNumber (nI m) (nI x') kinds values 0 1000000 = some (1, nI x'') ∧ f_Model_said (nI x'') values = some (nI v) ∧ ((b = 0 ∧ w = nI v) ∨ (b = 1 ∧ w = -(nI v))) ∧ f' + x'' = f + a ∧ a < x'' ∧ Cu m pos kinds values x'' ax' kd' am' le' ∧ CL fu N sg f a d 0 ax kd am le (nI q) nm sp co si ki fi se nu = CL fu N sg f' x'' 9 neg' ax' kd' am' le' (nI q) nm sp co (upd si q (nI (k + 1))) (upd ki (6 * q + k) (nI (11 + r))) fi se (upd nu (6 * q + k) w)) ∨
    (∃ (r x : Nat) (b : Int32) (x' : Nat), r < 5 ∧ f_Model_passedRelation (nI m) (nI a) kinds values = some (nI r, nI x) ∧ f_Model_passes (nI m) (nI x) kinds values 3 45 = some (b, nI x') ∧ f_Model_passesNumber (nI m) (nI x') kinds values 0 1000000 = some (0, nI x') ∧ Fail x' (CL fu N sg f a d 0 ax kd am le (nI q) nm sp co si ki fi se nu)) ∨
    (f_Model_passedRelation (nI m) (nI a) kinds values = some (-1, nI a) ∧ Fail a (CL fu N sg f a d 0 ax kd am le (nI q) nm sp co si ki fi se nu)) := by
  have hm : m ≤ 1000 := Nat.le_trans hW.2.1 hW.1
  rcases pr_eq hm hC with ⟨r, r1, r2, r3, r4⟩ | ⟨r1, r4⟩
  · have k0 : ¬ kd = 0 := by rw [r2]; exact fun z => absurd ((nI_0iff (by omega)).mp z) (by omega)
    have st : ∃ f' ax' kd' am' le', f' + 1 = f ∧ Cu m pos kinds values (a + 1) ax' kd' am' le' ∧ CL fu N sg f a d 0 ax kd am le (nI q) nm sp co si ki fi se nu = CL fu N sg f' (a + 1) 6 0 ax' kd' am' le' (nI q) nm sp co si (upd ki (6 * q + k) (nI (11 + r))) fi se nu := by
      rcases hd with ⟨rfl, -⟩ | rfl
      · rw [← r2]; exact cl_step hW hC k0 hf (tk3r hq hs hk r1 r2)
      · rw [← r2]; exact cl_step hW hC k0 hf (tk5r hq hs hk r1 r2)
    obtain ⟨f1, ax1, kd1, am1, le1, y1, y2, y3⟩ := st
    rw [y3]
    rcases tail_rd (nm := nm) (sp := sp) (co := co) (ki := upd ki (6 * q + k) (nI (11 + r))) (fi := fi) (se := se) (nu := nu) hW y2 (show m < f1 + (a + 1) by omega) hq hs hk with ⟨b, x', x'', v, w, f', neg', ax', kd', am', le', z1, z2, z3, z4, z5, z6, z7, z8⟩ | ⟨b, x', z1, z2, z3⟩
    · exact Or.inl ⟨r, a + 1, b, x', x'', v, w, f', neg', ax', kd', am', le', r1, r4, z1, z2, z3, z4, by omega, by omega, z7, z8⟩
    · exact Or.inr (Or.inl ⟨r, a + 1, b, x', r1, r4, z1, z2, z3⟩)
  · refine Or.inr (Or.inr ⟨r4, ?_⟩)
    rcases hd with ⟨rfl, h8⟩ | rfl
    · exact cl_no hW hC hf (fun _ => by decide) (fun _ => tk3n hq hs hk h8 r1)
    · refine cl_no hW hC hf (fun _ => by decide) (fun _ => ?_)
      by_cases e8 : kd = 8
      · subst e8; exact tk5n8 hq hs hk
      · exact tk5n hq hs hk e8 r1
theorem age_rd {fu N m f a q k U : Nat} {sg : Nat → Int32} {pos : Nat → Nat} {kinds : Nat → Int32} {values : Nat → Int64} {ax kd am s : Int32} {le : Int64} {nm : Nat → Int64} {sp co si ki fi se nu so mf mn : Nat → Int32} (hW : Wds fu N m sg pos kinds values) (hC : Cu m pos kinds values a ax kd am le) (hf : m < f + a) (hq : q < 6) (hs : si q = nI k) (hk : k < 6) (hU : U < 72) :
    (∃ (v w f' x : Nat) (ax' kd' am' : Int32) (le' : Int64), v < 16 ∧ w ≤ 1000000 ∧ f' + x = f + a ∧ a < x ∧ Cu m pos kinds values x ax' kd' am' le' ∧ CL fu N sg f a 8 0 ax kd am le (nI q) nm sp co si ki fi se nu = CL fu N sg f' x 9 0 ax' kd' am' le' (nI q) nm sp co (upd si q (nI (k + 1))) ki (upd fi (6 * q + k) (nI v)) se (upd nu (6 * q + k) (nI w)) ∧ f_Model_readsAge (nI m) (nI a) kinds values so mf mn (nI U) s = some (1, nI x, upd so U s, upd mf U (nI v), upd mn U (nI w))) ∨
    (∃ (x : Nat) (so' mf' mn' : Nat → Int32), f_Model_readsAge (nI m) (nI a) kinds values so mf mn (nI U) s = some (0, nI x, so', mf', mn') ∧ Fail x (CL fu N sg f a 8 0 ax kd am le (nI q) nm sp co si ki fi se nu) ∧ ∀ i, i ≠ U → so' i = so i ∧ mf' i = mf i ∧ mn' i = mn i) := by
  have hm : m ≤ 1000 := Nat.le_trans hW.2.1 hW.1
  have n10 : ¬ (1 : Int32) = 0 := by decide
  have bU : ∀ {α : Type} (z : Option α), bd (nI U) 72 z = z := fun z => bd_nI hU (by decide)
  have cU : (nI U).toNatClampNeg = U := nI_clamp (by omega)
  unfold f_Model_readsAge
  simp only [bU, cU]
  rcases pp_eq hm hC with ⟨e, g, v, v1, v2, v3, v4⟩ | ⟨e, v3⟩
  · subst e
    subst v2
    obtain ⟨f1, ax1, kd1, am1, le1, y1, y2, y3⟩ := cl_step hW hC (by decide) hf (tk8p hq hs hk)
    rw [v3]
    simp only [Option.bind_some]
    rw [if_neg n10, v4]
    simp only [Option.bind_some]
    rw [y3]
    rcases pn0 hm y2 with ⟨e1, g1, w, w1, w2, w3, w4⟩ | ⟨e1, w3⟩
    · subst e1
      subst w2
      obtain ⟨f2, ax2, kd2, am2, le2, z1, z2, z3⟩ := cl_step (f := f1) hW y2 (by decide) (by omega) (tk73 hq hs hk)
      rw [w3]
      simp only [Option.bind_some]
      rw [if_neg n10, w4]
      exact Or.inl ⟨v, w, f2, a + 1 + 1, ax2, kd2, am2, le2, v1, w1, by omega, by omega, z2, z3, rfl⟩
    · rw [w3]
      refine Or.inr ⟨a + 1, _, _, _, rfl, ?_, fun i hi => ⟨pk_un hi, pk_un hi, rfl⟩⟩
      refine cl_no hW y2 (by omega) (fun _ => by decide) (fun _ => ?_)
      by_cases e8 : kd1 = 8
      · subst e8; exact tk7n8 hq hs hk
      · exact tk7n hq hs hk e8 e1
  · rw [v3]
    exact Or.inr ⟨a, _, _, _, rfl, cl_no hW hC hf (fun _ => by decide) (fun _ => tk8n hq hs hk e), fun i hi => ⟨pk_un hi, rfl, rfl⟩⟩
