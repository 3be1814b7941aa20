theorem rb_c {fR fB fC : Nat → Int32} {nmC : Nat → Int64} {rc k ri r : Nat} {ci cst bi bn : Int32} (hrc : rc ≤ 6) (hN : NmInj rc nmC) (hk : k < 726) (h1 : ri < rc) (h2 : r < rc) (e1 : fC k = ci) (e2 : fR k = nI ri) (e3 : fB k = bi) :
    ((cst.toInt < ci.toInt ∨ (ci.toInt = cst.toInt ∧ ((nmC ri).toInt < (nmC r).toInt ∨ ((nmC ri).toInt = (nmC r).toInt ∧ bi.toInt < bn.toInt)))) → f_Run_ranksBefore fR fB fC nmC (nI k) (nI r) bn cst = some 1) ∧
    (¬ (cst.toInt < ci.toInt ∨ (ci.toInt = cst.toInt ∧ ((nmC ri).toInt < (nmC r).toInt ∨ ((nmC ri).toInt = (nmC r).toInt ∧ bi.toInt < bn.toInt)))) → f_Run_ranksBefore fR fB fC nmC (nI k) (nI r) bn cst = some 0) := by
  have bk : ∀ {α : Type} (z : Option α), bd (nI k) 726 z = z := fun z => bd_nI hk (by decide)
  have bri : ∀ {α : Type} (z : Option α), bd (nI ri) 6 z = z := fun z => bd_nI (by omega) (by decide)
  have br : ∀ {α : Type} (z : Option α), bd (nI r) 6 z = z := fun z => bd_nI (by omega) (by decide)
  unfold f_Run_ranksBefore
  simp only [bk, nI_clamp (show k < 2 ^ 31 by omega), e1, e2, e3, bri, br, nI_clamp (show ri < 2 ^ 31 by omega), nI_clamp (show r < 2 ^ 31 by omega)]
  by_cases q1 : ci = cst
  · rw [if_pos q1]
    have q1' := i32_eqI.mp q1
    by_cases q2 : nI ri = nI r
    · have q3 : ri = r := (nI_eq (by omega) (by omega)).mp q2
      rw [if_pos q2]
      subst q3
      by_cases q4 : bn ≤ bi
      · rw [if_pos q4]
        rw [Int32.le_iff_toInt_le] at q4
        exact ⟨fun h => absurd h (by omega), fun _ => rfl⟩
      · rw [if_neg q4]
        rw [Int32.le_iff_toInt_le] at q4
        exact ⟨fun _ => rfl, fun h => absurd h (by omega)⟩
    · rw [if_neg q2]
      have q3 : ¬ (nmC ri).toInt = (nmC r).toInt := fun h => q2 (by rw [hN ri r h1 h2 (Int64.toInt_inj.mp h)])
      by_cases q4 : 0 ≤ lg_cmp (nmC ri) (nmC r)
      · rw [if_pos q4]
        rw [lg_ge] at q4
        exact ⟨fun h => absurd h (by omega), fun _ => rfl⟩
      · rw [if_neg q4]
        rw [lg_ge] at q4
        exact ⟨fun _ => rfl, fun h => absurd h (by omega)⟩
  · rw [if_neg q1]
    have q1' : ¬ ci.toInt = cst.toInt := fun h => q1 (i32_eqI.mpr h)
    by_cases q4 : ci ≤ cst
    · rw [if_pos q4]
      rw [Int32.le_iff_toInt_le] at q4
      exact ⟨fun h => absurd h (by omega), fun _ => rfl⟩
    · rw [if_neg q4]
      rw [Int32.le_iff_toInt_le] at q4
      exact ⟨fun _ => rfl, fun h => absurd h (by omega)⟩
theorem place_c {fu n : Nat} {fR fB fC : Nat → Int32} {nmC : Nat → Int64} {r b cst : Int32} {Q : Nat → Prop} (hn : n ≤ 726) (hQ : ∀ k, k < n → (Q k → f_Run_ranksBefore fR fB fC nmC (nI k) r b cst = some 1) ∧ (¬ Q k → f_Run_ranksBefore fR fB fC nmC (nI k) r b cst = some 0)) (hd : ∀ k l, k < l → l < n → Q l → Q k) :
    ∀ (m f lo hi s : Nat), hi - lo < 2 ^ m → s + m ≤ 32 → m < f → lo ≤ hi → hi ≤ n → (∀ k, k < lo → Q k) → (∀ k, hi ≤ k → k < n → ¬ Q k) →
    ∃ p, p ≤ n ∧ L_Run_placeOf_12 fu fR fB fC nmC r b cst f (nI lo) (nI hi) (nI s) = some (nI p) ∧ (∀ k, k < p → Q k) ∧ (∀ k, p ≤ k → k < n → ¬ Q k) := by
  intro m
  induction m with
  | zero =>
    intro f lo hi s h1 h2 h3 h4 h5 q1 q2
    obtain ⟨f, rfl⟩ : ∃ g, f = g + 1 := ⟨f - 1, by omega⟩
    have e : lo = hi := by omega
    subst e
    rw [L_Run_placeOf_12]
    refine ⟨lo, h5, ?_, q1, q2⟩
    by_cases e1 : (32 : Int32) ≤ nI s
    · rw [if_pos e1]
    · rw [if_neg e1, if_pos (nI_le (Nat.le_refl lo) (by omega))]
  | succ m ih =>
    intro f lo hi s h1 h2 h3 h4 h5 q1 q2
    obtain ⟨f, rfl⟩ : ∃ g, f = g + 1 := ⟨f - 1, by omega⟩
    have e1 : ¬ (32 : Int32) ≤ nI s := nI_ge (b := 32) (by omega) (by decide)
    have hp : 2 ^ (m + 1) = 2 * 2 ^ m := by rw [Nat.pow_succ, Nat.mul_comm]
    rw [L_Run_placeOf_12, if_neg e1]
    rcases Nat.eq_or_lt_of_le h4 with e | e
    · subst e
      rw [if_pos (nI_le (Nat.le_refl lo) (by omega))]
      exact ⟨lo, h5, rfl, q1, q2⟩
    · have hm : (nI lo + nI hi) >>> (1 &&& 31) = nI ((lo + hi) / 2) := by
        rw [nI_add]
        exact pk_shrN (by omega) (1 &&& 31) 1 (by decide)
      rw [if_neg (nI_ge e (by omega)), hm, nI_1, nI_1]
      obtain ⟨g1, g2⟩ := hQ ((lo + hi) / 2) (by omega)
      by_cases z : Q ((lo + hi) / 2)
      · rw [g1 z]
        simp only [Option.bind_some]
        rw [if_neg (by decide)]
        refine ih f ((lo + hi) / 2 + 1) hi (s + 1) (by omega) (by omega) (by omega) (by omega) h5 (fun k hk => ?_) q2
        rcases Nat.lt_or_ge k ((lo + hi) / 2) with y | y
        · exact hd k _ y (by omega) z
        · rw [show k = (lo + hi) / 2 by omega]; exact z
      · rw [g2 z]
        simp only [Option.bind_some]
        rw [if_pos trivial]
        refine ih f lo ((lo + hi) / 2) (s + 1) (by omega) (by omega) (by omega) (by omega) (by omega) q1 (fun k k1 k2 => ?_)
        rcases Nat.eq_or_lt_of_le k1 with y | y
        · rw [← y]; exact z
        · exact fun h => z (hd _ k y k2 h)
theorem room_c {nF p : Nat} {g : Nat → Int32} (hp : p ≤ nF) (hn : nF < 726) : f_Run_makeRoom 726 (nI nF) g (nI p) = some (va_cpy g g p (p + 1) (nF - p)) := by
  unfold f_Run_makeRoom
  rw [nI_1, pk_sub hp, nI_clamp (by omega), nI_clamp (by omega), nI_clamp (by omega)]
  unfold cp
  refine if_pos ⟨nI_pos (by omega), nI_pos (by omega), nI_pos (by omega), ?_, ?_⟩
  · rw [nI_clamp (by omega), nI_clamp (by omega)]; omega
  · rw [nI_clamp (by omega), nI_clamp (by omega)]; omega
theorem ins_arr {g h h' : Nat → Int32} {od : Nat → Nat} {p nF : Nat} {x : Int32} (hp : p ≤ nF) (h1 : ∀ k, k < nF → od k < nF ∧ g k = h (od k)) (h2 : ∀ i, i < nF → h' i = h i) (h3 : h' nF = x) :
    ∀ k, k < nF + 1 → upd (va_cpy g g p (p + 1) (nF - p)) p x k = h' (insO od p nF k) := by
  intro k hk
  unfold insO
  by_cases e1 : k < p
  · obtain ⟨a, b⟩ := h1 k (by omega)
    rw [if_pos e1, pk_un (by omega), pk_cpy_out (by omega), h2 _ a, b]
  · rw [if_neg e1]
    by_cases e2 : k = p
    · subst e2; rw [if_pos rfl, pk_us, h3]
    · obtain ⟨a, b⟩ := h1 (k - 1) (by omega)
      rw [if_neg e2, pk_un e2, pk_cpy_in (by omega) (by omega), show p + (k - (p + 1)) = k - 1 by omega, h2 _ a, b]
theorem sumN_congr {g h : Nat → Int32} : ∀ n, (∀ k, k < n → g k = h k) → sumN g n = sumN h n := by
  intro n
  induction n with
  | zero => intro _; rfl
  | succ n ih => intro hh; simp only [sumN]; rw [ih (fun k hk => hh k (by omega)), hh n (by omega)]
theorem orN_congr {g h : Nat → Int32} : ∀ n, (∀ k, k < n → g k = h k) → orN g n = orN h n := by
  intro n
  induction n with
  | zero => intro _; rfl
  | succ n ih => intro hh; simp only [orN]; rw [ih (fun k hk => hh k (by omega)), hh n (by omega)]
-- the faults found so far
def FI (rc nF : Nat) (od : Nat → Nat) (cnt tot fau : Int32) (fR fB fE fC : Nat → Int32) (fts : Int32) (mR mB mE cs : Nat → Int32) (nm : Nat → Int64) : Prop :=
  nF ≤ 726 ∧ cnt = nI nF ∧ fts = nI nF ∧
  (∀ i, i < nF → ∃ r b e, r < rc ∧ mR i = nI r ∧ mB i = nI b ∧ mE i = nI e ∧ b ≤ e ∧ e ≤ 100000) ∧
  (∀ i j, i < j → j < nF → mR i = mR j → (mB i).toInt < (mB j).toInt) ∧
  (∀ k, k < nF → od k < nF ∧ fR k = mR (od k) ∧ fB k = mB (od k) ∧ fE k = mE (od k) ∧ fC k = costN cs mR mB mE (od k)) ∧
  (∀ k l, k < l → l < nF → lt3 (kC cs mR mB mE) (kV nm mR) (kB mB) (od k) (od l)) ∧
  Rk (kC cs mR mB mE) (kV nm mR) (kB mB) nF od ∧ tot = sumN (costN cs mR mB mE) nF ∧ fau = orN mR nF
theorem add_eq {fu rc nF r b e : Nat} {od : Nat → Nat} {cnt tot fau fts : Int32} {fR fB fE fC mR mB mE cs csC : Nat → Int32} {nm nmC : Nat → Int64} (hF : FI rc nF od cnt tot fau fR fB fE fC fts mR mB mE cs nm) (hrc : rc ≤ 6) (hN : NmInj rc nm) (h726 : nF < 726) (hr : r < rc) (hbe : b ≤ e) (he : e ≤ 100000) (hnew : ∀ i, i < nF → mR i = nI r → (mB i).toInt < (b : Int)) (hnm : ∀ q, q < rc → nmC q = nm q) (hcs : csC r = cs r) (hfu : 100 ≤ fu) :
    ∃ od' cnt' tot' fau' fR' fB' fE' fC', f_Run_add fu cnt tot fau fR fB fE fC nmC csC (nI r) (nI b) (nI e) = some (cnt', tot', fau', fR', fB', fE', fC') ∧ FI rc (nF + 1) od' cnt' tot' fau' fR' fB' fE' fC' (nI (nF + 1)) (upd mR nF (nI r)) (upd mB nF (nI b)) (upd mE nF (nI e)) cs nm := by
  obtain ⟨-, rfl, rfl, f4, f5, f6, f7, f8, rfl, rfl⟩ := hF
  have hN' : NmInj rc nmC := fun q q' h1 h2 h3 => hN q q' h1 h2 (by rw [← hnm q h1, ← hnm q' h2]; exact h3)
  -- the new arrays
  have uR : ∀ i, i < nF → upd mR nF (nI r) i = mR i := fun i hi => pk_un (by omega)
  have uB : ∀ i, i < nF → upd mB nF (nI b) i = mB i := fun i hi => pk_un (by omega)
  have uE : ∀ i, i < nF → upd mE nF (nI e) i = mE i := fun i hi => pk_un (by omega)
  have uC : ∀ i, i < nF → costN cs (upd mR nF (nI r)) (upd mB nF (nI b)) (upd mE nF (nI e)) i = costN cs mR mB mE i := fun i hi => by
    unfold costN; rw [uR i hi, uB i hi, uE i hi]
  have nC : costN cs (upd mR nF (nI r)) (upd mB nF (nI b)) (upd mE nF (nI e)) nF = ((nI e - nI b) + 1) * cs r := by
    unfold costN; rw [pk_us, pk_us, pk_us, nI_clamp (by omega)]
  generalize hmR : upd mR nF (nI r) = mR' at *
  generalize hmB : upd mB nF (nI b) = mB' at *
  generalize hmE : upd mE nF (nI e) = mE' at *
  have nR : mR' nF = nI r := by rw [← hmR, pk_us]
  have nB : mB' nF = nI b := by rw [← hmB, pk_us]
  have nE : mE' nF = nI e := by rw [← hmE, pk_us]
  have key : ∀ i, i < nF → kC cs mR mB mE i = kC cs mR' mB' mE' i ∧ kV nm mR i = kV nm mR' i ∧ kB mB i = kB mB' i := fun i hi => by
    refine ⟨?_, ?_, ?_⟩
    · show (costN cs mR mB mE i).toInt = (costN cs mR' mB' mE' i).toInt
      rw [uC i hi]
    · show (nm (mR i).toNatClampNeg).toInt = (nm (mR' i).toNatClampNeg).toInt
      rw [uR i hi]
    · show (mB i).toInt = (mB' i).toInt
      rw [uB i hi]
  have srt : ∀ k l, k < l → l < nF → lt3 (kC cs mR' mB' mE') (kV nm mR') (kB mB') (od k) (od l) := fun k l h1 h2 => by
    have q := f7 k l h1 h2
    obtain ⟨a1, a2, a3⟩ := key (od k) (f6 k (by omega)).1
    obtain ⟨b1, b2, b3⟩ := key (od l) (f6 l h2).1
    unfold lt3 at *
    rw [← a1, ← a2, ← a3, ← b1, ← b2, ← b3]; exact q
  have tot3 : ∀ i, i < nF → ¬ lt3 (kC cs mR' mB' mE') (kV nm mR') (kB mB') i nF → lt3 (kC cs mR' mB' mE') (kV nm mR') (kB mB') nF i := fun i hi h => by
    refine lt3_to h (fun q => ?_)
    obtain ⟨q1, q2⟩ := q
    obtain ⟨ri, bi, ei, g1, g2, g3, g4, g5, g6⟩ := f4 i hi
    have q1' : (nm (mR' i).toNatClampNeg).toInt = (nm (mR' nF).toNatClampNeg).toInt := q1
    rw [uR i hi, g2, nR, nI_clamp (show ri < 2 ^ 31 by omega), nI_clamp (show r < 2 ^ 31 by omega)] at q1'
    have e1 := hN ri r g1 hr (Int64.toInt_inj.mp q1')
    subst e1
    have q2' : (mB' i).toInt = (mB' nF).toInt := q2
    rw [uB i hi, nB, nI_toInt (show b < 2 ^ 31 by omega)] at q2'
    have := hnew i hi g2
    omega
  have place := place_c (fu := fu) (n := nF) (fR := fR) (fB := fB) (fC := fC) (nmC := nmC) (r := nI r) (b := nI b) (cst := ((nI e - nI b) + 1) * cs r) (Q := fun k => lt3 (kC cs mR' mB' mE') (kV nm mR') (kB mB') (od k) nF) (by omega) (fun k hk => by
      obtain ⟨o1, o2, o3, o4, o5⟩ := f6 k hk
      obtain ⟨ri, bi, ei, g1, g2, g3, g4, g5, g6⟩ := f4 (od k) o1
      have hrb := rb_c (cst := ((nI e - nI b) + 1) * cs r) (bn := nI b) hrc hN' (show k < 726 by omega) g1 hr o5 (o2.trans g2) o3
      have v1 : kV nm mR' (od k) = (nmC ri).toInt := by
        show (nm (mR' (od k)).toNatClampNeg).toInt = _
        rw [uR _ o1, g2, nI_clamp (by omega), hnm ri g1]
      have v2 : kV nm mR' nF = (nmC r).toInt := by
        show (nm (mR' nF).toNatClampNeg).toInt = _
        rw [nR, nI_clamp (by omega), hnm r hr]
      have c1 : kC cs mR' mB' mE' (od k) = (costN cs mR mB mE (od k)).toInt := by
        show (costN cs mR' mB' mE' (od k)).toInt = _
        rw [uC _ o1]
      have c2 : kC cs mR' mB' mE' nF = (((nI e - nI b) + 1) * cs r).toInt := by
        show (costN cs mR' mB' mE' nF).toInt = _
        rw [nC]
      have b1 : kB mB' (od k) = (mB (od k)).toInt := by
        show (mB' (od k)).toInt = _
        rw [uB _ o1]
      have b2 : kB mB' nF = (nI b).toInt := by
        show (mB' nF).toInt = _
        rw [nB]
      show (lt3 (kC cs mR' mB' mE') (kV nm mR') (kB mB') (od k) nF → _) ∧ (¬ lt3 (kC cs mR' mB' mE') (kV nm mR') (kB mB') (od k) nF → _)
      unfold lt3
      rw [v1, v2, c1, c2, b1, b2]
      exact hrb)
    (fun k l h1 h2 h3 => lt3_tr (srt k l h1 h2) h3) 10 fu 0 nF 0 (by omega) (by omega) (by omega) (by omega) (Nat.le_refl nF) (fun k hk => absurd hk (Nat.not_lt_zero k)) (fun k k1 k2 => absurd k1 (by omega))
  obtain ⟨p, p1, p2, p3, p4⟩ := place
  have p4' : ∀ k, p ≤ k → k < nF → lt3 (kC cs mR' mB' mE') (kV nm mR') (kB mB') nF (od k) := fun k k1 k2 => tot3 (od k) (f6 k k2).1 (p4 k k1 k2)
  have hpl : f_Run_placeOf fu (nI nF) fR fB fC nmC (nI r) (nI b) (((nI e - nI b) + 1) * cs r) = some (nI p) := p2
  refine ⟨insO od p nF, nI (nF + 1), sumN (costN cs mR mB mE) nF + ((nI e - nI b) + 1) * cs r, orN mR nF ||| (1 <<< (nI r &&& 31)), upd (va_cpy fR fR p (p + 1) (nF - p)) p (nI r), upd (va_cpy fB fB p (p + 1) (nF - p)) p (nI b), upd (va_cpy fE fE p (p + 1) (nF - p)) p (nI e), upd (va_cpy fC fC p (p + 1) (nF - p)) p (((nI e - nI b) + 1) * cs r), ?_, ?_⟩
  rotate_left
  · refine ⟨by omega, rfl, rfl, ?_, ?_, ?_, ?_, ?_, ?_, ?_⟩
    rotate_left
    rotate_left
    · intro k hk
      refine ⟨?_, ins_arr p1 (fun k hk => ⟨(f6 k hk).1, (f6 k hk).2.1⟩) uR nR k hk, ins_arr p1 (fun k hk => ⟨(f6 k hk).1, (f6 k hk).2.2.1⟩) uB nB k hk, ins_arr p1 (fun k hk => ⟨(f6 k hk).1, (f6 k hk).2.2.2.1⟩) uE nE k hk, ins_arr p1 (fun k hk => ⟨(f6 k hk).1, (f6 k hk).2.2.2.2⟩) uC nC k hk⟩
      unfold insO
      by_cases e1 : k < p
      · rw [if_pos e1]; have := (f6 k (by omega)).1; omega
      · rw [if_neg e1]
        by_cases e2 : k = p
        · rw [if_pos e2]; omega
        · rw [if_neg e2]; have := (f6 (k - 1) (by omega)).1; omega
    · intro k l h1 h2
      unfold insO
      by_cases e1 : l < p
      · rw [if_pos e1, if_pos (by omega)]; exact srt k l h1 (by omega)
      · rw [if_neg e1]
        by_cases e2 : l = p
        · rw [if_pos e2, if_pos (by omega)]; exact p3 k (by omega)
        · rw [if_neg e2]
          by_cases e3 : k < p
          · rw [if_pos e3]; exact srt k (l - 1) (by omega) (by omega)
          · rw [if_neg e3]
            by_cases e4 : k = p
            · rw [if_pos e4]; exact p4' (l - 1) (by omega) (by omega)
            · rw [if_neg e4]; exact srt (k - 1) (l - 1) (by omega) (by omega)
    · exact ⟨od, p, Rk_congr nF od key f8, fun k hk => (f6 k hk).1, p1, p3, p4', fun k hk => rfl⟩
    · show _ = sumN (costN cs mR' mB' mE') nF + costN cs mR' mB' mE' nF
      rw [nC, sumN_congr nF uC]
    · show _ = orN mR' nF ||| ((1 : Int32) <<< (mR' nF &&& 31))
      rw [nR, orN_congr nF uR]
    · intro i hi
      rcases Nat.lt_or_ge i nF with h | h
      · rw [uR i h, uB i h, uE i h]; exact f4 i h
      · have : i = nF := by omega
        subst this
        exact ⟨r, b, e, hr, nR, nB, nE, hbe, he⟩
    · intro i j h1 h2 h3
      rcases Nat.lt_or_ge j nF with h | h
      · rw [uB i (by omega), uB j h]
        rw [uR i (by omega), uR j h] at h3
        exact f5 i j h1 h h3
      · have : j = nF := by omega
        subst this
        rw [uR i h1, nR] at h3
        rw [uB i h1, nB, nI_toInt (by omega)]
        exact hnew i h1 h3
  · unfold f_Run_add
    have l : nI nF < (726 : Int32) := nI_lt (b := 726) h726 (by decide)
    rw [if_pos l, bd_nI (by omega) (by decide), nI_clamp (by omega), hcs, hpl]
    simp only [Option.bind_some]
    rw [room_c p1 h726, room_c p1 h726, room_c p1 h726, room_c p1 h726]
    simp only [Option.bind_some]
    rw [bd_nI (by omega) (by decide), bd_nI (by omega) (by decide), bd_nI (by omega) (by decide), bd_nI (by omega) (by decide), nI_1, nI_clamp (by omega)]
