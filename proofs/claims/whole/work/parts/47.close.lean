-- rows before a minute
def rho (M : Nat → Nat) (t : Nat) : Nat → Nat
  | 0 => 0
  | k + 1 => rho M t k + (if M k < t then 1 else 0)
theorem rho_le {M : Nat → Nat} {t : Nat} : ∀ n, rho M t n ≤ n := by
  intro n
  induction n with
  | zero => exact Nat.le_refl 0
  | succ n ih =>
    simp only [rho]
    by_cases h : M n < t
    · rw [if_pos h]; omega
    · rw [if_neg h]; omega
theorem rho_mono {M : Nat → Nat} {t t' : Nat} (htt : t ≤ t') : ∀ n, rho M t n ≤ rho M t' n := by
  intro n
  induction n with
  | zero => exact Nat.le_refl 0
  | succ n ih =>
    simp only [rho]
    by_cases h : M n < t
    · rw [if_pos h, if_pos (show M n < t' by omega)]; omega
    · rw [if_neg h]; omega
theorem rho_row {M : Nat → Nat} {t i : Nat} (hM : M i = t) : ∀ n, i < n → rho M t n + 1 ≤ rho M (t + 1) n := by
  intro n
  induction n with
  | zero => intro h; omega
  | succ n ih =>
    intro h
    simp only [rho]
    rcases Nat.lt_or_ge i n with g | g
    · have := ih g
      by_cases h : M n < t
      · rw [if_pos h, if_pos (show M n < t + 1 by omega)]; omega
      · rw [if_neg h]; omega
    · have e : i = n := by omega
      subst e
      rw [if_neg (show ¬ M i < t by omega), if_pos (show M i < t + 1 by omega)]
      have := rho_mono (M := M) (show t ≤ t + 1 by omega) i
      omega
def nuf (f : Nat → Nat) (j x : Nat) : Nat → Nat := fun q => if q = j then x else f q
theorem nuf_s {f : Nat → Nat} {j x : Nat} : nuf f j x j = x := if_pos rfl
theorem nuf_n {f : Nat → Nat} {j x q : Nat} (h : q ≠ j) : nuf f j x q = f q := if_neg h
-- a rule's stretch at next minute t: open since b, or closed (b = t)
abbrev Spn (x0 t b : Nat) (s k : Int32) : Prop := x0 ≤ b ∧ b ≤ t ∧ ((s = -1 ∧ k = 0 ∧ b = t) ∨ (b < t ∧ s = nI b ∧ k = nI (t - b)))
def RI (rc x0 nF : Nat) (od kk B T W : Nat → Nat) (J : Nat → Prop) (cnt tot fau : Int32) (mh sc fR fB fE fC : Nat → Int32) (fts : Int32) (hc sk mR mB mE cs : Nat → Int32) (nm : Nat → Int64) : Prop :=
  FI rc nF od cnt tot fau fR fB fE fC fts mR mB mE cs nm ∧
  kk 0 + kk 1 + kk 2 + kk 3 + kk 4 + kk 5 = nF ∧
  (∀ q, q < 6 → kk q ≤ W q) ∧
  (∀ q, q < rc → Spn x0 (T q) (B q) (sc q) (sk q) ∧ (J q → B q < T q → kk q + 1 ≤ W q) ∧ mh q = hc q) ∧
  (∀ i, i < nF → ∀ q, q < rc → mR i = nI q → (mB i).toInt < (B q : Int))
theorem close_step {fu rc x0 nF j t t' w s : Nat} {od kk B T W : Nat → Nat} {J : Nat → Prop} {cnt tot fau fts p3 : Int32} {mh sc fR fB fE fC hc sk mR mB mE cs csC sp spC : Nat → Int32} {nm nmC : Nat → Int64}
    (hRI : RI rc x0 nF od kk B T W J cnt tot fau mh sc fR fB fE fC fts hc sk mR mB mE cs nm) (hrc : rc ≤ 6) (hN : NmInj rc nm) (hj : j < rc) (hT : T j = t) (ht : t ≤ 100001) (htt : t ≤ t') (hp : 1 ≤ t → p3 = nI (t - 1)) (hw : W j ≤ w) (hop : B j < t → kk j + 1 ≤ w) (hW : ∀ q, q < 6 → W q ≤ 121) (hw1 : w ≤ 121) (hnm : ∀ q, q < rc → nmC q = nm q) (hcs : csC j = cs j) (hsp : spC j = sp j) (hs : sp j = nI s) (hs1 : 1 ≤ s) (hs2 : s ≤ 9999) (hfu : 100 ≤ fu) :
    ∃ nF' od' kk' cnt' tot' fau' fR' fB' fE' fC' fts' mR' mB' mE',
      f_Run_end fu cnt tot fau sc fR fB fE fC nmC spC csC (nI j) p3 = some (cnt', tot', fau', upd sc j (-1), fR', fB', fE', fC') ∧
      f_Model_close fts sp sk mR mB mE (nI j) (nI t) = some (fts', upd sk j 0, mR', mB', mE') ∧
      RI rc x0 nF' od' kk' (nuf B j t') (nuf T j t') (nuf W j w) J cnt' tot' fau' mh (upd sc j (-1)) fR' fB' fE' fC' fts' hc (upd sk j 0) mR' mB' mE' cs nm := by
  obtain ⟨hF, hsum, hk, hq, hb⟩ := hRI
  obtain ⟨⟨s1, s2, s3⟩, s4, s5⟩ := hq j hj
  rw [hT] at s2 s3 s4
  have b6 : ∀ {α : Type} (z : Option α), bd (nI j) 6 z = z := fun z => bd_nI (by omega) (by decide)
  have b12 : ∀ {α : Type} (z : Option α), bd (nI j) 12 z = z := fun z => bd_nI (by omega) (by decide)
  have cj : (nI j).toNatClampNeg = j := nI_clamp (by omega)
  have Bmono : ∀ q, B q ≤ nuf B j t' q := fun q => by
    by_cases e : q = j
    · subst e; rw [nuf_s]; omega
    · rw [nuf_n e]; exact Nat.le_refl _
  have tail : ∀ kk' : Nat → Nat, (∀ q, q ≠ j → kk' q = kk q) → ∀ q, q < rc → Spn x0 (nuf T j t' q) (nuf B j t' q) (upd sc j (-1) q) (upd sk j 0 q) ∧ (J q → nuf B j t' q < nuf T j t' q → kk' q + 1 ≤ nuf W j w q) ∧ mh q = hc q := by
    intro kk' hkk q hqr
    by_cases e : q = j
    · subst e
      rw [nuf_s, nuf_s, pk_us, pk_us]
      exact ⟨⟨by omega, Nat.le_refl _, Or.inl ⟨rfl, rfl, rfl⟩⟩, fun _ h => absurd h (by omega), s5⟩
    · rw [nuf_n e, nuf_n e, nuf_n e, pk_un e, pk_un e, hkk q e]
      exact hq q hqr
  -- nothing new
  have same : f_Run_end fu cnt tot fau sc fR fB fE fC nmC spC csC (nI j) p3 = some (cnt, tot, fau, upd sc j (-1), fR, fB, fE, fC) → f_Model_close fts sp sk mR mB mE (nI j) (nI t) = some (fts, upd sk j 0, mR, mB, mE) → ∃ nF' od' kk' cnt' tot' fau' fR' fB' fE' fC' fts' mR' mB' mE',
      f_Run_end fu cnt tot fau sc fR fB fE fC nmC spC csC (nI j) p3 = some (cnt', tot', fau', upd sc j (-1), fR', fB', fE', fC') ∧
      f_Model_close fts sp sk mR mB mE (nI j) (nI t) = some (fts', upd sk j 0, mR', mB', mE') ∧
      RI rc x0 nF' od' kk' (nuf B j t') (nuf T j t') (nuf W j w) J cnt' tot' fau' mh (upd sc j (-1)) fR' fB' fE' fC' fts' hc (upd sk j 0) mR' mB' mE' cs nm := by
    intro h1 h2
    refine ⟨nF, od, kk, cnt, tot, fau, fR, fB, fE, fC, fts, mR, mB, mE, h1, h2, hF, hsum, fun q h6 => ?_, tail kk (fun _ _ => rfl), fun i hi q hqr e => ?_⟩
    · by_cases e : q = j
      · subst e; rw [nuf_s]; exact Nat.le_trans (hk q h6) hw
      · rw [nuf_n e]; exact hk q h6
    · have := hb i hi q hqr e
      have := Bmono q
      omega
  rcases s3 with ⟨e1, e2, e3⟩ | ⟨e1, e2, e3⟩
  · refine same ?_ ?_
    · unfold f_Run_end
      rw [b6, b6, cj, e1, if_pos rfl]
    · unfold f_Model_close
      have z0 : (0 : Int32) < nI s := nI_lt (a := 0) (by omega) (by omega)
      rw [b6, b12, cj, e2, hs, if_pos z0, b6]
  · have hp3 := hp (by omega)
    have hd : p3 - nI (B j) + 1 = nI (t - B j) := by
      rw [hp3, pk_sub (by omega), nI_1]
      congr 1
      omega
    by_cases c : t - B j < s
    · refine same ?_ ?_
      · unfold f_Run_end
        rw [b6, b6, cj, e2, if_neg (nI_ne_m1 (by omega)), b6, hd, hsp, hs, if_pos (nI_lt c (by omega))]
      · unfold f_Model_close
        rw [b6, b12, cj, e3, hs, if_pos (nI_lt c (by omega)), b6]
    · have k1 := hop e1
      have c0 := hk 0 (by omega)
      have c1 := hk 1 (by omega)
      have c2 := hk 2 (by omega)
      have c3 := hk 3 (by omega)
      have c4 := hk 4 (by omega)
      have c5 := hk 5 (by omega)
      have d0 := hW 0 (by omega)
      have d1 := hW 1 (by omega)
      have d2 := hW 2 (by omega)
      have d3 := hW 3 (by omega)
      have d4 := hW 4 (by omega)
      have d5 := hW 5 (by omega)
      have hcase : j = 0 ∨ j = 1 ∨ j = 2 ∨ j = 3 ∨ j = 4 ∨ j = 5 := by omega
      have h726 : nF < 726 := by
        rcases hcase with h | h | h | h | h | h <;> rw [h] at k1 <;> omega
      obtain ⟨od', cnt', tot', fau', fR', fB', fE', fC', a1, a2⟩ := add_eq (nmC := nmC) (csC := csC) (r := j) (b := B j) (e := t - 1) (fu := fu) hF hrc hN h726 hj (by omega) (by omega) (fun i hi h => hb i hi j hj h) hnm hcs hfu
      refine ⟨nF + 1, od', nuf kk j (kk j + 1), cnt', tot', fau', fR', fB', fE', fC', nI (nF + 1), upd mR nF (nI j), upd mB nF (nI (B j)), upd mE nF (nI (t - 1)), ?_, ?_, a2, ?_, fun q h6 => ?_, tail _ (fun q h => nuf_n h), fun i hi q hqr e => ?_⟩
      · unfold f_Run_end
        rw [b6, b6, cj, e2, if_neg (nI_ne_m1 (by omega)), b6, hd, hsp, hs, if_neg (nI_nlt (by omega) (by omega)), hp3, a1]
        rfl
      · have hfts : fts = nI nF := hF.2.2.1
        have bF : ∀ {α : Type} (z : Option α), bd (nI nF) 6000 z = z := fun z => bd_nI (by omega) (by decide)
        unfold f_Model_close
        rw [b6, b12, cj, e3, hs, if_neg (nI_nlt (by omega) (by omega)), hfts, bF, b6, bF, bF, b6, nI_clamp (show nF < 2 ^ 31 by omega), nI_1, pk_sub (show t - B j ≤ t by omega), show t - (t - B j) = B j by omega]
        have : nI t - 1 = nI (t - 1) := pk_sub (a := t) (b := 1) (by omega)
        rw [this]
      · rcases hcase with h | h | h | h | h | h <;> subst h <;> simp only [nuf] <;> simp <;> omega
      · by_cases e : q = j
        · subst e; rw [nuf_s, nuf_s]; exact k1
        · rw [nuf_n e, nuf_n e]; exact hk q h6
      · rcases Nat.lt_or_ge i nF with g | g
        · rw [pk_un (by omega)] at e
          rw [pk_un (by omega)]
          have := hb i g q hqr e
          have := Bmono q
          omega
        · have ei : i = nF := by omega
          subst ei
          rw [pk_us] at e
          have eq : j = q := (nI_eq (by omega) (by omega)).mp e
          subst eq
          rw [pk_us, nuf_s, nI_toInt (by omega)]
          omega
theorem go_step {rc x0 nF j t w : Nat} {od kk B T W : Nat → Nat} {J : Nat → Prop} {cnt tot fau fts : Int32} {mh sc fR fB fE fC hc sk mR mB mE cs : Nat → Int32} {nm : Nat → Int64}
    (hRI : RI rc x0 nF od kk B T W J cnt tot fau mh sc fR fB fE fC fts hc sk mR mB mE cs nm) (hrc : rc ≤ 6) (hj : j < rc) (hT : T j = t) (ht : t ≤ 100001) (hw : W j ≤ w) (hJ : J j → kk j + 1 ≤ w) :
    ∃ mh' sc', f_Run_goOn mh sc (nI j) (nI t) = some (mh', sc') ∧
      RI rc x0 nF od kk B (nuf T j (t + 1)) (nuf W j w) J cnt tot fau mh' sc' fR fB fE fC fts (upd hc j (hc j + 1)) (upd sk j (sk j + 1)) mR mB mE cs nm := by
  obtain ⟨hF, hsum, hk, hq, hb⟩ := hRI
  obtain ⟨⟨s1, s2, s3⟩, s4, s5⟩ := hq j hj
  rw [hT] at s2 s3 s4
  have b6 : ∀ {α : Type} (z : Option α), bd (nI j) 6 z = z := fun z => bd_nI (by omega) (by decide)
  have cj : (nI j).toNatClampNeg = j := nI_clamp (by omega)
  have fin : ∀ sc' : Nat → Int32, (∀ q, q ≠ j → sc' q = sc q) → sc' j = nI (B j) → sk j + 1 = nI (t + 1 - B j) → f_Run_goOn mh sc (nI j) (nI t) = some (upd mh j (mh j + 1), sc') → ∃ mh' sc', f_Run_goOn mh sc (nI j) (nI t) = some (mh', sc') ∧
      RI rc x0 nF od kk B (nuf T j (t + 1)) (nuf W j w) J cnt tot fau mh' sc' fR fB fE fC fts (upd hc j (hc j + 1)) (upd sk j (sk j + 1)) mR mB mE cs nm := by
    intro sc' h1 h2 h3 h4
    refine ⟨upd mh j (mh j + 1), sc', h4, hF, hsum, fun q h6 => ?_, fun q hqr => ?_, hb⟩
    · by_cases e : q = j
      · subst e; rw [nuf_s]; exact Nat.le_trans (hk q h6) hw
      · rw [nuf_n e]; exact hk q h6
    · by_cases e : q = j
      · subst e
        rw [nuf_s, nuf_s, pk_us, pk_us, pk_us, s5, h3, h2]
        exact ⟨⟨s1, by omega, Or.inr ⟨by omega, rfl, rfl⟩⟩, fun h _ => hJ h, rfl⟩
      · rw [nuf_n e, nuf_n e, pk_un e, pk_un e, pk_un e, h1 q e]
        exact hq q hqr
  rcases s3 with ⟨e1, e2, e3⟩ | ⟨e1, e2, e3⟩
  · refine fin (upd sc j (nI t)) (fun q e => pk_un e) (by rw [pk_us, e3]) (by rw [e2, e3, show t + 1 - t = 1 by omega]; rfl) ?_
    unfold f_Run_goOn
    rw [b6, b6, b6, cj, e1, if_pos rfl, b6]
  · refine fin sc (fun q e => rfl) e2 (by rw [e3, nI_1]; congr 1; omega) ?_
    unfold f_Run_goOn
    rw [b6, b6, b6, cj, e2, if_neg (nI_ne_m1 (by omega))]
