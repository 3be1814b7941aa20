-- the order of faults
abbrev lt3 (c v b : Nat → Int) (i j : Nat) : Prop := c j < c i ∨ (c i = c j ∧ (v i < v j ∨ (v i = v j ∧ b i < b j)))
theorem lt3_tr {c v b : Nat → Int} {i j k : Nat} (h1 : lt3 c v b i j) (h2 : lt3 c v b j k) : lt3 c v b i k := by omega
theorem lt3_as {c v b : Nat → Int} {i j : Nat} (h1 : lt3 c v b i j) : ¬ lt3 c v b j i := by omega
theorem lt3_to {c v b : Nat → Int} {i j : Nat} (h1 : ¬ lt3 c v b i j) (h2 : ¬ (v i = v j ∧ b i = b j)) : lt3 c v b j i := by omega
def insO (od : Nat → Nat) (p x : Nat) (k : Nat) : Nat := if k < p then od k else if k = p then x else od (k - 1)
def Rk (c v b : Nat → Int) : Nat → (Nat → Nat) → Prop
  | 0, _ => True
  | n + 1, od => ∃ od0 p, Rk c v b n od0 ∧ (∀ k, k < n → od0 k < n) ∧ p ≤ n ∧ (∀ k, k < p → lt3 c v b (od0 k) n) ∧ (∀ k, p ≤ k → k < n → lt3 c v b n (od0 k)) ∧ (∀ k, k < n + 1 → od k = insO od0 p n k)
theorem Rk_congr {c v b c' v' b' : Nat → Int} : ∀ (n : Nat) (od : Nat → Nat), (∀ i, i < n → c i = c' i ∧ v i = v' i ∧ b i = b' i) → Rk c v b n od → Rk c' v' b' n od := by
  intro n
  induction n with
  | zero => intro od _ _; exact trivial
  | succ n ih =>
    intro od h hR
    obtain ⟨od0, p, r1, r2, r3, r4, r5, r6⟩ := hR
    obtain ⟨n1, n2, n3⟩ := h n (by omega)
    refine ⟨od0, p, ih od0 (fun i hi => h i (by omega)) r1, r2, r3, fun k hk => ?_, fun k k1 k2 => ?_, r6⟩
    · have q := r4 k hk
      obtain ⟨m1, m2, m3⟩ := h (od0 k) (by have := r2 k (by omega); omega)
      unfold lt3 at *
      rw [← m1, ← m2, ← m3, ← n1, ← n2, ← n3]; exact q
    · have q := r5 k k1 k2
      obtain ⟨m1, m2, m3⟩ := h (od0 k) (by have := r2 k (by omega); omega)
      unfold lt3 at *
      rw [← m1, ← m2, ← m3, ← n1, ← n2, ← n3]; exact q
-- the keys of the faults, as the reference keeps them
abbrev kC (cs mR mB mE : Nat → Int32) : Nat → Int := fun i => (costN cs mR mB mE i).toInt
abbrev kV (nm : Nat → Int64) (mR : Nat → Int32) : Nat → Int := fun i => (nm (mR i).toNatClampNeg).toInt
abbrev kB (mB : Nat → Int32) : Nat → Int := fun i => (mB i).toInt
theorem i32_eqI {a b : Int32} : a = b ↔ a.toInt = b.toInt := ⟨fun h => by rw [h], fun h => Int32.toInt_inj.mp h⟩
theorem lg_ge {a b : Int64} : 0 ≤ lg_cmp a b ↔ b.toInt ≤ a.toInt := by
  constructor
  · intro h
    have h2 : ¬ a < b := fun q => Int32.not_lt.mpr h (lgl.mpr q)
    rw [Int64.lt_iff_toInt_lt] at h2
    omega
  · intro h
    refine Int32.not_lt.mp (fun q => ?_)
    have h2 := lgl.mp q
    rw [Int64.lt_iff_toInt_lt] at h2
    omega
abbrev NmInj (rc : Nat) (nm : Nat → Int64) : Prop := ∀ r r', r < rc → r' < rc → nm r = nm r' → r = r'
theorem gf_m {nm : Nat → Int64} {cs mR mB mE : Nat → Int32} {rc i j ri rj : Nat} (hrc : rc ≤ 6) (hN : NmInj rc nm) (hi : i < 6000) (hj : j < 6000) (h1 : ri < rc) (h2 : rj < rc) (e1 : mR i = nI ri) (e2 : mR j = nI rj) :
    (lt3 (kC cs mR mB mE) (kV nm mR) (kB mB) i j → f_Model_goesFirst nm cs mR mB mE (nI i) (nI j) = some 1) ∧ (¬ lt3 (kC cs mR mB mE) (kV nm mR) (kB mB) i j → f_Model_goesFirst nm cs mR mB mE (nI i) (nI j) = some 0) := by
  have c1 := costOf_ok (cs := cs) (mB := mB) (mE := mE) hi (show ri < 12 by omega) e1
  have c2 := costOf_ok (cs := cs) (mB := mB) (mE := mE) hj (show rj < 12 by omega) e2
  have bi : ∀ {α : Type} (k : Option α), bd (nI i) 6000 k = k := fun k => bd_nI hi (by decide)
  have bj : ∀ {α : Type} (k : Option α), bd (nI j) 6000 k = k := fun k => bd_nI hj (by decide)
  have bri : ∀ {α : Type} (k : Option α), bd (nI ri) 12 k = k := fun k => bd_nI (by omega) (by decide)
  have brj : ∀ {α : Type} (k : Option α), bd (nI rj) 12 k = k := fun k => bd_nI (by omega) (by decide)
  unfold f_Model_goesFirst
  rw [c1, c2]
  simp only [Option.bind_some, bi, bj, nI_clamp (show i < 2 ^ 31 by omega), nI_clamp (show j < 2 ^ 31 by omega), e1, e2, bri, brj, nI_clamp (show ri < 2 ^ 31 by omega), nI_clamp (show rj < 2 ^ 31 by omega)]
  have v1 : kV nm mR i = (nm ri).toInt := by show (nm (mR i).toNatClampNeg).toInt = _; rw [e1, nI_clamp (by omega)]
  have v2 : kV nm mR j = (nm rj).toInt := by show (nm (mR j).toNatClampNeg).toInt = _; rw [e2, nI_clamp (by omega)]
  unfold lt3
  rw [v1, v2]
  show ((costN cs mR mB mE j).toInt < (costN cs mR mB mE i).toInt ∨ ((costN cs mR mB mE i).toInt = (costN cs mR mB mE j).toInt ∧ ((nm ri).toInt < (nm rj).toInt ∨ ((nm ri).toInt = (nm rj).toInt ∧ (mB i).toInt < (mB j).toInt))) → _) ∧ (¬ ((costN cs mR mB mE j).toInt < (costN cs mR mB mE i).toInt ∨ ((costN cs mR mB mE i).toInt = (costN cs mR mB mE j).toInt ∧ ((nm ri).toInt < (nm rj).toInt ∨ ((nm ri).toInt = (nm rj).toInt ∧ (mB i).toInt < (mB j).toInt)))) → _)
  by_cases q1 : costN cs mR mB mE i = costN cs mR mB mE j
  · rw [if_pos q1]
    have q1' := i32_eqI.mp q1
    by_cases q2 : nI ri = nI rj
    · have q3 : ri = rj := (nI_eq (by omega) (by omega)).mp q2
      rw [if_pos q2]
      subst q3
      by_cases q4 : mB j ≤ mB i
      · rw [if_pos q4]
        rw [Int32.le_iff_toInt_le] at q4
        exact ⟨fun h => absurd h (by omega), fun _ => rfl⟩
      · rw [if_neg q4]
        rw [Int32.le_iff_toInt_le] at q4
        exact ⟨fun _ => rfl, fun h => absurd h (by omega)⟩
    · rw [if_neg q2]
      have q3 : ¬ (nm ri).toInt = (nm rj).toInt := fun h => q2 (by rw [hN ri rj h1 h2 (Int64.toInt_inj.mp h)])
      by_cases q4 : 0 ≤ lg_cmp (nm ri) (nm rj)
      · rw [if_pos q4]
        rw [lg_ge] at q4
        exact ⟨fun h => absurd h (by omega), fun _ => rfl⟩
      · rw [if_neg q4]
        rw [lg_ge] at q4
        exact ⟨fun _ => rfl, fun h => absurd h (by omega)⟩
  · rw [if_neg q1]
    have q1' : ¬ (costN cs mR mB mE i).toInt = (costN cs mR mB mE j).toInt := fun h => q1 (i32_eqI.mpr h)
    by_cases q4 : costN cs mR mB mE i ≤ costN cs mR mB mE j
    · rw [if_pos q4]
      rw [Int32.le_iff_toInt_le] at q4
      exact ⟨fun h => absurd h (by omega), fun _ => rfl⟩
    · rw [if_neg q4]
      rw [Int32.le_iff_toInt_le] at q4
      exact ⟨fun _ => rfl, fun h => absurd h (by omega)⟩
-- the reference's rank
theorem shift_m {fu : Nat} {nm : Nat → Int64} {cs mR mB mE : Nat → Int32} {rc x p : Nat} {od0 : Nat → Nat} {kk : Int32 → (Nat → Int32) → Option (Nat → Int32)} (hrc : rc ≤ 6) (hN : NmInj rc nm) (hx : x < 6000) (hR : ∀ i, i ≤ x → ∃ r, r < rc ∧ mR i = nI r) (h1 : ∀ k, k < x → od0 k < x) (hp : p ≤ x)
    (h2 : ∀ k, k < p → lt3 (kC cs mR mB mE) (kV nm mR) (kB mB) (od0 k) x) (h3 : ∀ k, p ≤ k → k < x → lt3 (kC cs mR mB mE) (kV nm mR) (kB mB) x (od0 k)) :
    ∀ (f q : Nat) (ord : Nat → Int32), p ≤ q → q ≤ x → q < f → (∀ k, k < q → ord k = nI (od0 k)) → (∀ k, q < k → k ≤ x → ord k = nI (od0 (k - 1))) →
    ∃ ord', L_Model_rank_12 fu nm cs mR mB mE (nI x) kk f (nI q) ord = kk (nI p) ord' ∧ (∀ k, k < p → ord' k = nI (od0 k)) ∧ (∀ k, p < k → k ≤ x → ord' k = nI (od0 (k - 1))) := by
  intro f
  induction f with
  | zero => intro q ord _ _ h; omega
  | succ f ih =>
    intro q ord q1 q2 q3 o1 o2
    rw [L_Model_rank_12]
    rcases Nat.eq_zero_or_pos q with z | z
    · subst z
      have hp0 : p = 0 := by omega
      subst hp0
      rw [if_pos (by decide)]
      exact ⟨ord, rfl, o1, o2⟩
    · have hs : nI q - 1 = nI (q - 1) := pk_sub (b := 1) z
      have hs2 : nI q + (-1) = nI (q - 1) := by
        obtain ⟨q', rfl⟩ : ∃ q', q = q' + 1 := ⟨q - 1, by omega⟩
        exact pk_m1 q'
      rw [if_neg (nI_nle z (by omega)), hs, bd_nI (by omega) (by decide), nI_clamp (show q - 1 < 2 ^ 31 by omega), o1 (q - 1) (by omega), hs2]
      have hod := h1 (q - 1) (by omega)
      obtain ⟨r1, r2, r3⟩ := hR x (Nat.le_refl x)
      obtain ⟨s1, s2, s3⟩ := hR (od0 (q - 1)) (by omega)
      obtain ⟨g1, g2⟩ := gf_m (cs := cs) (mB := mB) (mE := mE) hrc hN hx (show od0 (q - 1) < 6000 by omega) r2 s2 r3 s3
      rcases Nat.lt_or_ge p q with e | e
      · rw [g1 (h3 (q - 1) (by omega) (by omega))]
        simp only [Option.bind_some]
        rw [if_neg (by decide), bd_nI (by omega) (by decide), bd_nI (by omega) (by decide), nI_clamp (by omega)]
        refine ih (q - 1) _ (by omega) (by omega) (by omega) (fun k hk => ?_) (fun k k1 k2 => ?_)
        · rw [pk_un (by omega)]; exact o1 k (by omega)
        · by_cases e2 : k = q
          · subst e2; rw [pk_us]
          · rw [pk_un e2]; exact o2 k (by omega) k2
      · have e2 : q = p := by omega
        subst e2
        rw [g2 (lt3_as (h2 (q - 1) (by omega)))]
        exact ⟨ord, rfl, o1, o2⟩
theorem rank_m {fu nF : Nat} {nm : Nat → Int64} {cs mR mB mE : Nat → Int32} {rc : Nat} (hrc : rc ≤ 6) (hN : NmInj rc nm) (hn : nF ≤ 726) (hfu : 1000 ≤ fu) (hR : ∀ i, i < nF → ∃ r, r < rc ∧ mR i = nI r) :
    ∀ (m f : Nat) (od : Nat → Nat) (ord : Nat → Int32), m ≤ nF → Rk (kC cs mR mB mE) (kV nm mR) (kB mB) m od →
    ∃ ord', L_Model_rank_2 fu (nI nF) nm cs mR mB mE (f + m) 0 ord = L_Model_rank_2 fu (nI nF) nm cs mR mB mE f (nI m) ord' ∧ ∀ k, k < m → ord' k = nI (od k) := by
  intro m
  induction m with
  | zero => intro f od ord _ _; exact ⟨ord, rfl, fun k hk => absurd hk (Nat.not_lt_zero k)⟩
  | succ m ih =>
    intro f od ord hm hk
    obtain ⟨od0, p, r1, r2, r3, r4, r5, r6⟩ := hk
    obtain ⟨ord1, e1, e2⟩ := ih (f + 1) od0 ord (by omega) r1
    rw [show f + (m + 1) = f + 1 + m by omega, e1, L_Model_rank_2, if_neg (nI_ge (show m < nF by omega) (by omega))]
    obtain ⟨ord2, s1, s2, s3⟩ := shift_m (fu := fu) (cs := cs) (mR := mR) (mB := mB) (mE := mE) (kk := fun (l2 : Int32) (v : Nat → Int32) => (bd l2 6000 ((L_Model_rank_2 fu (nI nF) nm cs mR mB mE f) (nI m + 1) (upd v l2.toNatClampNeg (nI m))))) hrc hN (show m < 6000 by omega) (fun i hi => hR i (by omega)) r2 r3 r4 r5 fu m ord1 r3 (Nat.le_refl m) (by omega) e2 (fun k k1 k2 => absurd k1 (by omega))
    rw [s1, bd_nI (by omega) (by decide), nI_1, nI_clamp (by omega)]
    refine ⟨_, rfl, fun k hk => ?_⟩
    rw [r6 k hk]
    unfold insO
    by_cases x1 : k < p
    · rw [if_pos x1, pk_un (by omega)]; exact s2 k x1
    · rw [if_neg x1]
      by_cases x2 : k = p
      · subst x2; rw [if_pos rfl, pk_us]
      · rw [if_neg x2, pk_un x2]; exact s3 k (by omega) (by omega)
theorem rank_all {fu nF : Nat} {nm : Nat → Int64} {cs mR mB mE ord : Nat → Int32} {rc : Nat} {od : Nat → Nat} (hrc : rc ≤ 6) (hN : NmInj rc nm) (hn : nF ≤ 726) (hfu : 1000 ≤ fu) (hR : ∀ i, i < nF → ∃ r, r < rc ∧ mR i = nI r) (hk : Rk (kC cs mR mB mE) (kV nm mR) (kB mB) nF od) :
    ∃ ord', f_Model_rank fu (nI nF) nm cs mR mB mE ord = some ord' ∧ ∀ k, k < nF → ord' k = nI (od k) := by
  obtain ⟨ord', e1, e2⟩ := rank_m (fu := fu) (cs := cs) hrc hN hn hfu hR nF (fu - nF) od ord (Nat.le_refl nF) hk
  refine ⟨ord', ?_, e2⟩
  unfold f_Model_rank
  rw [show fu - nF + nF = fu by omega] at e1
  rw [e1]
  obtain ⟨g, hg⟩ : ∃ g, fu - nF = g + 1 := ⟨fu - nF - 1, by omega⟩
  rw [hg, L_Model_rank_2, if_pos (nI_le (Nat.le_refl nF) (by omega))]
