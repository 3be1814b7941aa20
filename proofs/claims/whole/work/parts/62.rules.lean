abbrev TRu := Int32 × Int32 × Int32 × Int32 × Int32 × Int32 × Int32 × (Nat → Int32) × (Nat → Int64) × (Nat → Int64) × (Nat → Int32) × (Nat → Int32) × (Nat → Int32) × (Nat → Int32) × (Nat → Int32) × (Nat → Int32) × (Nat → Int32) × (Nat → Int32)
theorem LowA_tr {n0 n1 n2 : Nat → Int64} {a0 b0 c0 d0 e0 f0 g0 h0 a1 b1 c1 d1 e1 f1 g1 h1 a2 b2 c2 d2 e2 f2 g2 h2 : Nat → Int32} (x : LowA n0 a0 b0 c0 d0 e0 f0 g0 h0 n1 a1 b1 c1 d1 e1 f1 g1 h1) (y : LowA n1 a1 b1 c1 d1 e1 f1 g1 h1 n2 a2 b2 c2 d2 e2 f2 g2 h2) : LowA n0 a0 b0 c0 d0 e0 f0 g0 h0 n2 a2 b2 c2 d2 e2 f2 g2 h2 :=
  ⟨fun i hi => ⟨(y.1 i hi).1.trans (x.1 i hi).1, (y.1 i hi).2.1.trans (x.1 i hi).2.1, (y.1 i hi).2.2.1.trans (x.1 i hi).2.2.1, (y.1 i hi).2.2.2.trans (x.1 i hi).2.2.2⟩, Low5_tr x.2 y.2⟩
theorem rules_loop {fu N m : Nat} {sg : Nat → Int32} {pos : Nat → Nat} {kinds : Nat → Int32} {values : Nat → Int64} {th sz rcn ran : Int32} {k57 : Int32 → Int32 → (Nat → Int64) → (Nat → Int32) → (Nat → Int32) → (Nat → Int32) → (Nat → Int32) → (Nat → Int32) → (Nat → Int32) → (Nat → Int32) → (Nat → Int32) → Option TRu} (hW : Wds fu N m sg pos kinds values) (hfu : 1001 ≤ fu) :
    ∀ (n q fm f a : Nat) (neg ax kd am : Int32) (le : Int64) (nm : Nat → Int64) (sp co si ki fi se nu : Nat → Int32) (names : Nat → Int64) (mt mm mco so mf ms re mn : Nat → Int32), q + n = 6 → n < fm → Cu m pos kinds values a ax kd am le → m < f + a → DR q nm sp co si ki fi se nu names mt mm mco so mf ms re mn →
    (∃ (q' x : Nat) (neg' ax' am' : Int32) (le' : Int64) (nm' : Nat → Int64) (sp' co' si' ki' fi' se' nu' : Nat → Int32) (names' : Nat → Int64) (mt' mm' mco' so' mf' ms' re' mn' : Nat → Int32), CL fu N sg f a 0 neg ax kd am le (nI q) nm sp co si ki fi se nu = some (nI q', 0, neg', ax', 0, am', le', nI q', nm', sp', co', si', ki', fi', se', nu') ∧ L_Model_rules_16 fu th sz (nI m) rcn ran kinds values k57 fm (nI q) (nI a) names mt mm mco so mf ms re mn = k57 (nI q') (nI x) names' mt' mm' mco' so' mf' ms' re' mn' ∧ DR q' nm' sp' co' si' ki' fi' se' nu' names' mt' mm' mco' so' mf' ms' re' mn') ∨
    (∃ (x : Nat) (names' : Nat → Int64) (mt' mm' mco' so' mf' ms' re' mn' : Nat → Int32), L_Model_rules_16 fu th sz (nI m) rcn ran kinds values k57 fm (nI q) (nI a) names mt mm mco so mf ms re mn = some (-1 - nI x, th, sz, nI m, nI x, rcn, ran, kinds, values, names', mt', mm', mco', so', mf', ms', re', mn') ∧ Fail x (CL fu N sg f a 0 neg ax kd am le (nI q) nm sp co si ki fi se nu) ∧ LowA names mt mm mco so mf ms re mn names' mt' mm' mco' so' mf' ms' re' mn') := by
  have hm : m ≤ 1000 := Nat.le_trans hW.2.1 hW.1
  have n10 : ¬ (1 : Int32) = 0 := by decide
  intro n
  induction n with
  | zero =>
    intro q fm f a neg ax kd am le nm sp co si ki fi se nu names mt mm mco so mf ms re mn h1 h2 hC hf hD
    have e6 : q = 6 := by omega
    subst e6
    obtain ⟨fm, rfl⟩ : ∃ g, fm = g + 1 := ⟨fm - 1, by omega⟩
    rw [L_Model_rules_16]
    by_cases hk0 : kd = 0
    · have ea : a = m := by
        rcases cu_kd hC with ⟨-, -, -, n, n1, n2, n3⟩ | ⟨h, -⟩
        · rw [n3] at hk0; exact absurd ((nI_0iff (by omega)).mp hk0) (by omega)
        · exact h
      subst ea
      subst hk0
      rw [if_pos (nI_le (Nat.le_refl a) (by omega))]
      obtain ⟨f, rfl⟩ : ∃ g, f = g + 1 := ⟨f - 1, by omega⟩
      refine Or.inl ⟨6, a, neg, ax, am, le, nm, sp, co, si, ki, fi, se, nu, names, mt, mm, mco, so, mf, ms, re, mn, ?_, rfl, hD⟩
      show L_Reader_read_16 fu (nI N) sg rdK (f + 1) (nI a) 0 neg ax 0 am le (nI 6) nm sp co si ki fi se nu = _
      rw [L_Reader_read_16, if_pos (show (0 : Int32) = 0 from rfl)]
      by_cases e : (1000 : Int32) ≤ nI a
      · rw [if_pos e]; rfl
      · rw [if_neg e]; rfl
    · have ha : a < m := by
        rcases hC with ⟨h, -⟩ | ⟨-, h⟩
        · exact h
        · exact absurd h hk0
      rw [if_neg (nI_ge ha (by omega)), if_pos (show nI 6 = 6 from rfl)]
      exact Or.inr ⟨a, names, mt, mm, mco, so, mf, ms, re, mn, rfl, cl_no hW hC hf (fun z => absurd z hk0) (fun _ => tk06 (q := 0)), ⟨fun i hi => ⟨rfl, rfl, rfl, rfl⟩, fun i hi => ⟨rfl, rfl, rfl, rfl, rfl⟩⟩⟩
  | succ n ih =>
    intro q fm f a neg ax kd am le nm sp co si ki fi se nu names mt mm mco so mf ms re mn h1 h2 hC hf hD
    obtain ⟨fm, rfl⟩ : ∃ g, fm = g + 1 := ⟨fm - 1, by omega⟩
    rw [L_Model_rules_16]
    by_cases hk0 : kd = 0
    · have ea : a = m := by
        rcases cu_kd hC with ⟨-, -, -, n, n1, n2, n3⟩ | ⟨h, -⟩
        · rw [n3] at hk0; exact absurd ((nI_0iff (by omega)).mp hk0) (by omega)
        · exact h
      subst ea
      subst hk0
      rw [if_pos (nI_le (Nat.le_refl a) (by omega))]
      obtain ⟨f, rfl⟩ : ∃ g, f = g + 1 := ⟨f - 1, by omega⟩
      refine Or.inl ⟨q, a, neg, ax, am, le, nm, sp, co, si, ki, fi, se, nu, names, mt, mm, mco, so, mf, ms, re, mn, ?_, rfl, hD⟩
      show L_Reader_read_16 fu (nI N) sg rdK (f + 1) (nI a) 0 neg ax 0 am le (nI q) nm sp co si ki fi se nu = _
      rw [L_Reader_read_16, if_pos (show (0 : Int32) = 0 from rfl)]
      by_cases e : (1000 : Int32) ≤ nI a
      · rw [if_pos e]; rfl
      · rw [if_neg e]; rfl
    · have ha : a < m := by
        rcases hC with ⟨h, -⟩ | ⟨-, h⟩
        · exact h
        · exact absurd h hk0
      have e6 : ¬ nI q = 6 := fun z => absurd ((nI_eq (b := 6) (by omega) (by decide)).mp z) (by omega)
      have eR : (6 : Int32) + nI q = nI (6 + q) := nI_add 6 q
      rw [if_neg (nI_ge ha (by omega)), if_neg e6, eR]
      rcases rule_rd (neg := neg) hW hfu (show q < 6 by omega) hC hk0 hf hD with ⟨x, f', neg', ax', kd', am', le', nm', sp', co', si', ki', fi', se', nu', names', mt', mm', mco', so', mf', ms', re', mn', y1, y2, y3, y4, y5, y6, y7⟩ | ⟨x, names', mt', mm', mco', so', mf', ms', re', mn', y1, y2, y3⟩
      · rw [y4, y5]
        simp only [Option.bind_some]
        rw [if_neg n10, nI_1]
        rcases ih (q + 1) fm f' x neg' ax' kd' am' le' nm' sp' co' si' ki' fi' se' nu' names' mt' mm' mco' so' mf' ms' re' mn' (by omega) (by omega) y3 (by omega) y6 with h | ⟨x2, n3, a3, b3, c3, d3, e3, f3, g3, h3, w1, w2, w3⟩
        · exact Or.inl h
        · exact Or.inr ⟨x2, n3, a3, b3, c3, d3, e3, f3, g3, h3, w1, w2, LowA_tr y7 w3⟩
      · rw [y1]
        simp only [Option.bind_some]
        rw [if_pos trivial]
        exact Or.inr ⟨x, names', mt', mm', mco', so', mf', ms', re', mn', rfl, y2, y3⟩
-- the draft becomes the rules
def Cp (lo hi : Nat) (g0 g : Nat → Int32) : Prop := ∀ j, (lo ≤ j → j < hi → g j = g0 (36 + j)) ∧ ((j < lo ∨ hi ≤ j) → g j = g0 j)
theorem Cp_step {lo hi : Nat} {g0 g : Nat → Int32} (h : Cp lo hi g0 g) (h0 : lo ≤ hi) (h1 : hi < 36) : Cp lo (hi + 1) g0 (upd g hi (g (36 + hi))) := by
  intro j
  by_cases e : j = hi
  · subst e
    rw [pk_us]
    exact ⟨fun _ _ => (h (36 + j)).2 (Or.inr (by omega)), fun q => by omega⟩
  · rw [pk_un e]
    exact ⟨fun x y => (h j).1 x (by omega), fun q => (h j).2 (by omega)⟩
theorem Cp_tr {r : Nat} {g0 g g' : Nat → Int32} (h : Cp 0 (6 * r) g0 g) (h' : Cp (6 * r) (6 * r + 6) g g') (hr : r < 6) : Cp 0 (6 * (r + 1)) g0 g' := by
  intro j
  refine ⟨fun _ hj => ?_, fun hj => ?_⟩
  · rcases Nat.lt_or_ge j (6 * r) with c | c
    · rw [(h' j).2 (Or.inl c)]; exact (h j).1 (Nat.zero_le j) c
    · rw [(h' j).1 c (by omega)]; exact (h (36 + j)).2 (Or.inr (by omega))
  · rw [(h' j).2 (Or.inr (by omega))]; exact (h j).2 (Or.inr (by omega))
def C6 (r : Nat) (g0 g : Nat → Int32) : Prop := ∀ j, (j < r → g j = g0 (6 + j)) ∧ (r ≤ j → g j = g0 j)
def C6L (r : Nat) (g0 g : Nat → Int64) : Prop := ∀ j, (j < r → g j = g0 (6 + j)) ∧ (r ≤ j → g j = g0 j)
theorem C6_step {r : Nat} {g0 g : Nat → Int32} (h : C6 r g0 g) (hr : r < 6) : C6 (r + 1) g0 (upd g r (g (6 + r))) := by
  intro j
  by_cases e : j = r
  · subst e
    rw [pk_us]
    exact ⟨fun _ => (h (6 + j)).2 (by omega), fun q => by omega⟩
  · rw [pk_un e]
    exact ⟨fun x => (h j).1 (by omega), fun q => (h j).2 (by omega)⟩
theorem C6L_step {r : Nat} {g0 g : Nat → Int64} (h : C6L r g0 g) (hr : r < 6) : C6L (r + 1) g0 (vp_updL g r (g (6 + r))) := by
  intro j
  by_cases e : j = r
  · subst e
    rw [pk_uLs]
    exact ⟨fun _ => (h (6 + j)).2 (by omega), fun q => by omega⟩
  · rw [pk_uLn e]
    exact ⟨fun x => (h j).1 (by omega), fun q => (h j).2 (by omega)⟩
theorem cp_loop {fu r : Nat} {l1 : Int32} {k : (Nat → Int32) → (Nat → Int32) → (Nat → Int32) → (Nat → Int32) → (Nat → Int32) → Option TRu} {a0 b0 c0 d0 e0 : Nat → Int32} (hr : r < 6) :
    ∀ (f i : Nat) (a b c d e : Nat → Int32), i ≤ 6 → 6 < f + i → Cp (6 * r) (6 * r + i) a0 a → Cp (6 * r) (6 * r + i) b0 b → Cp (6 * r) (6 * r + i) c0 c → Cp (6 * r) (6 * r + i) d0 d → Cp (6 * r) (6 * r + i) e0 e → ∃ a' b' c' d' e', L_Model_rules_129 fu l1 (nI r) k f (nI (6 * r + i)) a b c d e = k a' b' c' d' e' ∧ Cp (6 * r) (6 * r + 6) a0 a' ∧ Cp (6 * r) (6 * r + 6) b0 b' ∧ Cp (6 * r) (6 * r + 6) c0 c' ∧ Cp (6 * r) (6 * r + 6) d0 d' ∧ Cp (6 * r) (6 * r + 6) e0 e' := by
  intro f
  induction f with
  | zero => intro i a b c d e h1 h2; omega
  | succ f ih =>
    intro i a b c d e h1 h2 p1 p2 p3 p4 p5
    have e6 : (6 : Int32) * nI r + 6 = nI (6 * r + 6) := by
      have x1 : (6 : Int32) * nI r = nI (6 * r) := pk_mul 6 r
      rw [x1]; exact nI_add (6 * r) 6
    rw [L_Model_rules_129, e6]
    rcases Nat.lt_or_ge i 6 with h | h
    · have e36 : (36 : Int32) + nI (6 * r + i) = nI (36 + (6 * r + i)) := nI_add 36 (6 * r + i)
      have ba : ∀ {α : Type} (z : Option α), bd (nI (36 + (6 * r + i))) 72 z = z := fun z => bd_nI (by omega) (by decide)
      have bb : ∀ {α : Type} (z : Option α), bd (nI (6 * r + i)) 72 z = z := fun z => bd_nI (by omega) (by decide)
      rw [if_neg (nI_ge (by omega) (by omega)), e36]
      simp only [ba, bb]
      rw [nI_clamp (by omega), nI_clamp (by omega), nI_1]
      have k1 : 6 * r ≤ 6 * r + i := by omega
      have k2 : 6 * r + i < 36 := by omega
      exact ih (i + 1) _ _ _ _ _ (by omega) (by omega) (Cp_step (hi := 6 * r + i) p1 k1 k2) (Cp_step (hi := 6 * r + i) p2 k1 k2) (Cp_step (hi := 6 * r + i) p3 k1 k2) (Cp_step (hi := 6 * r + i) p4 k1 k2) (Cp_step (hi := 6 * r + i) p5 k1 k2)
    · have ei : i = 6 := by omega
      subst ei
      rw [if_pos (nI_le (Nat.le_refl _) (by omega))]
      exact ⟨a, b, c, d, e, rfl, p1, p2, p3, p4, p5⟩
theorem cp0 {r : Nat} {g : Nat → Int32} : Cp (6 * r) (6 * r + 0) g g := fun j => ⟨fun h1 h2 => absurd h1 (by omega), fun _ => rfl⟩
theorem cpo_loop {fu q : Nat} {k : (Nat → Int64) → (Nat → Int32) → (Nat → Int32) → (Nat → Int32) → (Nat → Int32) → (Nat → Int32) → (Nat → Int32) → (Nat → Int32) → (Nat → Int32) → Option TRu} {n0 : Nat → Int64} {x0 y0 z0 a0 b0 c0 d0 e0 : Nat → Int32} (hq : q ≤ 6) (hfu : 1000 ≤ fu) :
    ∀ (f r : Nat) (n : Nat → Int64) (x y z a b c d e : Nat → Int32), r ≤ q → q < f + r → C6L r n0 n → C6 r x0 x → C6 r y0 y → C6 r z0 z → Cp 0 (6 * r) a0 a → Cp 0 (6 * r) b0 b → Cp 0 (6 * r) c0 c → Cp 0 (6 * r) d0 d → Cp 0 (6 * r) e0 e → ∃ n' x' y' z' a' b' c' d' e', L_Model_rules_59 fu (nI q) k f (nI r) n x y z a b c d e = k n' x' y' z' a' b' c' d' e' ∧ C6L q n0 n' ∧ C6 q x0 x' ∧ C6 q y0 y' ∧ C6 q z0 z' ∧ Cp 0 (6 * q) a0 a' ∧ Cp 0 (6 * q) b0 b' ∧ Cp 0 (6 * q) c0 c' ∧ Cp 0 (6 * q) d0 d' ∧ Cp 0 (6 * q) e0 e' := by
  intro f
  induction f with
  | zero => intro r n x y z a b c d e h1 h2; omega
  | succ f ih =>
    intro r n x y z a b c d e h1 h2 o1 o2 o3 o4 p1 p2 p3 p4 p5
    rw [L_Model_rules_59]
    rcases Nat.lt_or_ge r q with h | h
    · have e6 : (6 : Int32) + nI r = nI (6 + r) := nI_add 6 r
      have em : (6 : Int32) * nI r = nI (6 * r + 0) := pk_mul 6 r
      have ba : ∀ {α : Type} (z : Option α), bd (nI (6 + r)) 12 z = z := fun z => bd_nI (by omega) (by decide)
      have bb : ∀ {α : Type} (z : Option α), bd (nI r) 12 z = z := fun z => bd_nI (by omega) (by decide)
      rw [if_neg (nI_ge h (by omega)), e6, em]
      simp only [ba, bb]
      rw [nI_clamp (show 6 + r < 2 ^ 31 by omega), nI_clamp (show r < 2 ^ 31 by omega), nI_1]
      obtain ⟨a', b', c', d', e', g1, g2, g3, g4, g5, g6⟩ := cp_loop (fu := fu) (l1 := nI q) (k := (fun (v_sorts_129x37 : Nat → Int32) (v_firsts_129x38 : Nat → Int32) (v_seconds_129x39 : Nat → Int32) (v_relations_129x40 : Nat → Int32) (v_numbers_129x41 : Nat → Int32) => ((L_Model_rules_59 fu (nI q) k f) (nI (r + 1)) (vp_updL n r (n (6 + r))) (upd x r (x (6 + r))) (upd y r (y (6 + r))) (upd z r (z (6 + r))) v_sorts_129x37 v_firsts_129x38 v_seconds_129x39 v_relations_129x40 v_numbers_129x41))) (show r < 6 by omega) fu 0 a b c d e (by omega) (by omega) cp0 cp0 cp0 cp0 cp0
      rw [g1]
      exact ih (r + 1) _ _ _ _ _ _ _ _ _ (by omega) (by omega) (C6L_step o1 (by omega)) (C6_step o2 (by omega)) (C6_step o3 (by omega)) (C6_step o4 (by omega)) (Cp_tr p1 g2 (by omega)) (Cp_tr p2 g3 (by omega)) (Cp_tr p3 g4 (by omega)) (Cp_tr p4 g5 (by omega)) (Cp_tr p5 g6 (by omega))
    · have er : r = q := by omega
      subst er
      rw [if_pos (nI_le (Nat.le_refl r) (by omega))]
      exact ⟨n, x, y, z, a, b, c, d, e, rfl, o1, o2, o3, o4, p1, p2, p3, p4, p5⟩
