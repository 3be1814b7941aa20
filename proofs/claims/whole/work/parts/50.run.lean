theorem out_loop {n rc x0 y : Nat} {S σ P M : Nat → Nat} {mi va st : Nat → Int32} {rw cc mc : Int32} {rp rm rv : Nat → Int32} {nm mnm : Nat → Int64} {sp co si ki fi se nu mt mm mco so mf ms re mn : Nat → Int32} {fu : Nat} {k82 : (Int32) → (Int32) → (Int32) → (Nat → Int32) → (Nat → Int32) → (Nat → Int32) → (Nat → Int32) → (Nat → Int32) → (Nat → Int32) → (Nat → Int32) → Option TC} {k210 : (Int32) → (Nat → Int32) → (Nat → Int32) → (Nat → Int32) → (Nat → Int32) → (Nat → Int32) → (Nat → Int32) → (Nat → Int32) → Option TM}
    (hI : IRows n S σ P M mi va st rw rp rm rv) (hR : IRules rc cc nm sp co si ki fi se nu mc mnm mt mm mco so mf ms re mn) (hy : y ≤ 100000) (hfu : 1000 ≤ fu) :
    ∀ (f t nF : Nat) (od kk B T W c : Nat → Nat) (cnt tot fau fts : Int32) (mh sc fR fB fE fC sn la be hc sk mR mB mE : Nat → Int32), x0 ≤ t → t ≤ y + 1 → y + 1 < f + t → RI rc x0 nF od kk B T W (JmpR mt so) cnt tot fau mh sc fR fB fE fC fts hc sk mR mB mE mco mnm → (∀ q, q < rc → T q = t) → (∀ q, q < rc → W q = rho M t n) → (∀ q, q < 6 → W q ≤ 120) → (∀ q, q < rc → B q < t → OkR rm rv mt so mf ms re mn la be q (t - 1)) → Low S σ M t c sn → ((t = x0 ∧ StAll n P M t la be) ∨ (x0 < t ∧ StAll n P M (t - 1) la be)) →
    ∃ (nF' : Nat) (od' kk' B' T' W' : Nat → Nat) (cnt' tot' fau' fts' : Int32) (mh' sc' fR' fB' fE' fC' sn' la' be' hc' sk' mR' mB' mE' : Nat → Int32),
      L_Run_find_11 fu cc nm sp co si ki fi se nu mi va st (nI y) k82 f (nI t) cnt tot fau mh sc fR fB fE fC sn = k82 cnt' tot' fau' mh' sc' fR' fB' fE' fC' sn' ∧
      L_Model_run_99 fu rw mc rp rm rv mt mm so mf ms re mn (nI x0) (nI y) k210 f (nI t) fts la be hc sk mR mB mE = k210 fts' la' be' hc' sk' mR' mB' mE' ∧
      RI rc x0 nF' od' kk' B' T' W' (JmpR mt so) cnt' tot' fau' mh' sc' fR' fB' fE' fC' fts' hc' sk' mR' mB' mE' mco mnm ∧ (∀ q, q < rc → T' q = y + 1) ∧ (∀ q, q < 6 → W' q ≤ 120) := by
  intro f
  induction f with
  | zero => intro t nF od kk B T W c cnt tot fau fts mh sc fR fB fE fC sn la be hc sk mR mB mE h0 h1 h2; omega
  | succ f ih =>
    intro t nF od kk B T W c cnt tot fau fts mh sc fR fB fE fC sn la be hc sk mR mB mE h0 h1 h2 hRI hT hW hW6 hok hL hSt
    rw [L_Run_find_11, L_Model_run_99]
    rcases Nat.lt_or_ge y t with h | h
    · have et : t = y + 1 := by omega
      subst et
      rw [if_pos (nI_lt h (by omega)), if_pos (nI_lt h (by omega))]
      exact ⟨nF, od, kk, B, T, W, cnt, tot, fau, fts, mh, sc, fR, fB, fE, fC, sn, la, be, hc, sk, mR, mB, mE, rfl, rfl, hRI, hT, hW6⟩
    · have ht : t ≤ 100000 := by omega
      obtain ⟨c', sn', a1, a2⟩ := adv_c hI ht (show 121 ≤ fu by omega) hL
      rw [if_neg (nI_nlt h (by omega)), if_neg (nI_nlt h (by omega)), a1]
      simp only [Option.bind_some]
      obtain ⟨la', be', g1, g2, g3⟩ := rows_min (fu := fu) (l2 := nI y) (k := (fun (v_last_107x14 : Nat → Int32) (v_before_107x15 : Nat → Int32) => (L_Model_run_147 fu mc rm rv mt mm so mf ms re mn v_last_107x14 v_before_107x15 (nI x0) (nI y) (nI t) (fun (v_faults_147x24 : Int32) (v_heldCounts_147x25 : Nat → Int32) (v_streaks_147x26 : Nat → Int32) (v_faultRule_147x27 : Nat → Int32) (v_faultBegin_147x28 : Nat → Int32) (v_faultEnd_147x29 : Nat → Int32) => ((L_Model_run_99 fu rw mc rp rm rv mt mm so mf ms re mn (nI x0) (nI y) k210 f) (nI t + 1) v_faults_147x24 v_last_107x14 v_before_107x15 v_heldCounts_147x25 v_streaks_147x26 v_faultRule_147x27 v_faultBegin_147x28 v_faultEnd_147x29)) fu 0 fts hc sk mR mB mE))) hI ht (by omega) hSt
      rw [g1]
      have hMI : MI n rc 0 t M T W B (fun q => OkR rm rv mt so mf ms re mn la' be' q t) (JmpR mt so) := by
        refine ⟨fun q hq => by rw [if_neg (Nat.not_lt_zero q)]; exact hT q hq, fun q hq => by rw [hT q hq]; exact hW q hq, hW6, fun q hq hB => ⟨fun k => absurd k (Nat.not_lt_zero q), fun _ nr nj => ?_⟩⟩
        rw [hT q hq] at hB
        have hx : x0 < t := Nat.lt_of_le_of_lt (hRI.2.2.2.1 q hq).1.1 hB
        obtain ⟨rfl, rfl⟩ := g3 hx nr
        rcases hSt with ⟨y1, -⟩ | ⟨-, y2⟩
        · omega
        · have ok := hok q hq hB
          obtain ⟨r1, -, -, r4, -⟩ := hR
          obtain ⟨-, -, -, -, -, -, z, z1, z2, z3, z4⟩ := r4 q hq
          intro k hk
          have hk' := hk
          rw [z3, nI_clamp (by omega)] at hk'
          exact isSo_stay hI (by omega) ht y2 (show 6 * q + k < 36 by omega) (z4 k hk') (fun e => nj ⟨k, hk, e⟩) (ok k hk)
      obtain ⟨nF', od', kk', B', T', W', cnt', tot', fau', fts', mh', sc', fR', fB', fE', fC', hc', sk', mR', mB', mE', w1, w2, w3, w4⟩ := min_loop (l4 := nI y) (m1 := nI x0) (m2 := nI y) (k27 := (fun (v_count_27x10 : Int32) (v_total_27x11 : Int32) (v_faultyRules_27x12 : Int32) (v_minutesHeld_27x13 : Nat → Int32) (v_since_27x14 : Nat → Int32) (v_faultRules_27x15 : Nat → Int32) (v_begins_27x16 : Nat → Int32) (v_ends_27x17 : Nat → Int32) (v_faultCosts_27x18 : Nat → Int32) => ((L_Run_find_11 fu cc nm sp co si ki fi se nu mi va st (nI y) k82 f) (nI t + 1) v_count_27x10 v_total_27x11 v_faultyRules_27x12 v_minutesHeld_27x13 v_since_27x14 v_faultRules_27x15 v_begins_27x16 v_ends_27x17 v_faultCosts_27x18 sn'))) (k147 := (fun (v_faults_147x24 : Int32) (v_heldCounts_147x25 : Nat → Int32) (v_streaks_147x26 : Nat → Int32) (v_faultRule_147x27 : Nat → Int32) (v_faultBegin_147x28 : Nat → Int32) (v_faultEnd_147x29 : Nat → Int32) => ((L_Model_run_99 fu rw mc rp rm rv mt mm so mf ms re mn (nI x0) (nI y) k210 f) (nI t + 1) v_faults_147x24 la' be' v_heldCounts_147x25 v_streaks_147x26 v_faultRule_147x27 v_faultBegin_147x28 v_faultEnd_147x29))) hI hR ht a2 g2 hfu fu 0 nF od kk B T W cnt tot fau fts mh sc fR fB fE fC hc sk mR mB mE (Nat.zero_le rc) (by have := hR.1; omega) hRI hMI
      have w1' : L_Run_find_27 fu cc nm sp co si ki fi se nu mi va st sn' (nI y) (nI t) (fun (v_count_27x10 : Int32) (v_total_27x11 : Int32) (v_faultyRules_27x12 : Int32) (v_minutesHeld_27x13 : Nat → Int32) (v_since_27x14 : Nat → Int32) (v_faultRules_27x15 : Nat → Int32) (v_begins_27x16 : Nat → Int32) (v_ends_27x17 : Nat → Int32) (v_faultCosts_27x18 : Nat → Int32) => ((L_Run_find_11 fu cc nm sp co si ki fi se nu mi va st (nI y) k82 f) (nI t + 1) v_count_27x10 v_total_27x11 v_faultyRules_27x12 v_minutesHeld_27x13 v_since_27x14 v_faultRules_27x15 v_begins_27x16 v_ends_27x17 v_faultCosts_27x18 sn')) fu 0 cnt tot fau mh sc fR fB fE fC = L_Run_find_11 fu cc nm sp co si ki fi se nu mi va st (nI y) k82 f (nI t + 1) cnt' tot' fau' mh' sc' fR' fB' fE' fC' sn' := w1
      have w2' : L_Model_run_147 fu mc rm rv mt mm so mf ms re mn la' be' (nI x0) (nI y) (nI t) (fun (v_faults_147x24 : Int32) (v_heldCounts_147x25 : Nat → Int32) (v_streaks_147x26 : Nat → Int32) (v_faultRule_147x27 : Nat → Int32) (v_faultBegin_147x28 : Nat → Int32) (v_faultEnd_147x29 : Nat → Int32) => ((L_Model_run_99 fu rw mc rp rm rv mt mm so mf ms re mn (nI x0) (nI y) k210 f) (nI t + 1) v_faults_147x24 la' be' v_heldCounts_147x25 v_streaks_147x26 v_faultRule_147x27 v_faultBegin_147x28 v_faultEnd_147x29)) fu 0 fts hc sk mR mB mE = L_Model_run_99 fu rw mc rp rm rv mt mm so mf ms re mn (nI x0) (nI y) k210 f (nI t + 1) fts' la' be' hc' sk' mR' mB' mE' := w2
      rw [w1', w2', nI_1]
      obtain ⟨v1, v2, v3, v4⟩ := w4
      have vT : ∀ q, q < rc → T' q = t + 1 := fun q hq => by rw [v1 q hq, if_pos hq]
      exact ih (t + 1) nF' od' kk' B' T' W' c' cnt' tot' fau' fts' mh' sc' fR' fB' fE' fC' sn' la' be' hc' sk' mR' mB' mE' (by omega) (by omega) (by omega) w3 vT (fun q hq => by rw [v2 q hq, vT q hq]) v3 (fun q hq hB => (v4 q hq (by rw [vT q hq]; exact hB)).1 hq) (Low_up a2.1 (Nat.le_succ t)) (Or.inr ⟨by omega, g2⟩)
-- the stretches that are open at the end
theorem fin_loop {n rc x0 y : Nat} {cc mc th isT : Int32} {nm mnm : Nat → Int64} {sp co si ki fi se nu mt mm mco so mf ms re mn mh hc sn la be ord : Nat → Int32} {fu : Nat} {J : Nat → Prop}
    (hR : IRules rc cc nm sp co si ki fi se nu mc mnm mt mm mco so mf ms re mn) (hy : y ≤ 100000) (hfu : 1000 ≤ fu) :
    ∀ (f j nF : Nat) (od kk B T W : Nat → Nat) (cnt tot fau fts : Int32) (sc fR fB fE fC sk mR mB mE : Nat → Int32), j ≤ rc → rc < f + j → RI rc x0 nF od kk B T W J cnt tot fau mh sc fR fB fE fC fts hc sk mR mB mE mco mnm → (∀ q, q < rc → T q = y + 1) → (∀ q, q < 6 → W q ≤ 121) → (∀ q, j ≤ q → q < 6 → W q ≤ 120) →
    ∃ (cnt' tot' fau' : Int32) (sc' fR' fB' fE' fC' sk' mR' mB' mE' ord' : Nat → Int32),
      L_Run_find_85 fu isT mh cc nm sp co sn (nI y) f (nI j) cnt tot fau sc fR fB fE fC = some (1, cnt', tot', fau', mh, sc', fR', fB', fE', fC', sn) ∧
      L_Model_run_212 fu th mc 1 mnm mm mco la be hc ord (nI y) f (nI j) fts sk mR mB mE = some (cnt', th, 1, cnt', la, be, hc, sk', mR', mB', mE', ord') ∧
      IRun rc 1 cnt' tot' fau' mh fR' fB' fE' fC' 1 cnt' mco hc mR' mB' mE' ord' := by
  obtain ⟨r1, hcc, hmc, r4, r5⟩ := hR
  intro f
  induction f with
  | zero => intro j nF od kk B T W cnt tot fau fts sc fR fB fE fC sk mR mB mE h1 h2; omega
  | succ f ih =>
    intro j nF od kk B T W cnt tot fau fts sc fR fB fE fC sk mR mB mE h1 h2 hRI hT hW hW0
    rw [L_Run_find_85, L_Model_run_212]
    rcases Nat.lt_or_ge j rc with h | h
    · have e1 : ¬ cc ≤ nI j := by rw [hcc]; exact nI_ge h (by omega)
      have e2 : ¬ mc ≤ nI j := by rw [hmc]; exact nI_ge h (by omega)
      obtain ⟨q1, q2, q3, q4, ⟨s, q5, q6, q7⟩, -⟩ := r4 j h
      have w0 := hW0 j (Nat.le_refl j) (by omega)
      have hk := hRI.2.2.1 j (by omega)
      obtain ⟨nF', od', kk', cnt', tot', fau', fR', fB', fE', fC', fts', mR', mB', mE', a1, a2, a3⟩ := close_step (fu := fu) (t := y + 1) (t' := y + 1) (w := W j + 1) (p3 := nI y) (nmC := nm) (csC := co) (spC := sp) (sp := mm) hRI r1 r5 h (hT j h) (by omega) (Nat.le_refl _) (fun _ => rfl) (by omega) (fun _ => by omega) hW (by omega) (fun q hq => (r4 q hq).1) q3 q2 q7 q5 q6 (by omega)
      rw [if_neg e1, if_neg e2, a1, nI_1 y, a2]
      simp only [Option.bind_some]
      rw [nI_1]
      refine ih (j + 1) nF' od' kk' (nuf B j (y + 1)) (nuf T j (y + 1)) (nuf W j (W j + 1)) cnt' tot' fau' fts' (upd sc j (-1)) fR' fB' fE' fC' (upd sk j 0) mR' mB' mE' (by omega) (by omega) a3 (fun q hq => ?_) (fun q hq => ?_) (fun q g hq => ?_)
      · by_cases e : q = j
        · subst e; rw [nuf_s]
        · rw [nuf_n e]; exact hT q hq
      · by_cases e : q = j
        · subst e; rw [nuf_s]; omega
        · rw [nuf_n e]; exact hW q hq
      · rw [nuf_n (by omega)]; exact hW0 q (by omega) hq
    · have ej : j = rc := by omega
      subst ej
      rw [if_pos (by rw [hcc]; exact nI_le (Nat.le_refl j) (by omega)), if_pos (by rw [hmc]; exact nI_le (Nat.le_refl j) (by omega))]
      obtain ⟨⟨f1, rfl, rfl, f4, f5, f6, f7, f8, f9, f10⟩, -, -, hq, -⟩ := hRI
      have hRr : ∀ i, i < nF → ∃ r, r < j ∧ mR i = nI r := fun i hi => by
        obtain ⟨r, b, e, g1, g2, -⟩ := f4 i hi
        exact ⟨r, g1, g2⟩
      obtain ⟨ord', o1, o2⟩ := rank_all (ord := ord) (fu := fu) r1 r5 f1 hfu hRr f8
      rw [o1]
      refine ⟨nI nF, tot, fau, sc, fR, fB, fE, fC, sk, mR, mB, mE, ord', rfl, rfl, Or.inr ⟨rfl, rfl, nF, f1, rfl, rfl, fun r hr => (hq r hr).2.2, hRr, fun k hk => ?_, f9, f10⟩⟩
      obtain ⟨g1, g2, g3, g4, g5⟩ := f6 k hk
      exact ⟨od k, g1, o2 k hk, g2, g3, g4, g5⟩
theorem zero_loop {fu : Nat} {l1 l2 : Int32} {k : (Nat → Int32) → (Nat → Int32) → Option TM} : ∀ (f i : Nat) (hc sk : Nat → Int32), i ≤ 6 → 6 < f + i → (∀ q, q < i → hc q = 0 ∧ sk q = 0) → ∃ hc' sk', L_Model_run_66 fu l1 l2 k f (nI i) hc sk = k hc' sk' ∧ ∀ q, q < 6 → hc' q = 0 ∧ sk' q = 0 := by
  intro f
  induction f with
  | zero => intro i hc sk h1 h2; omega
  | succ f ih =>
    intro i hc sk h1 h2 hs
    rw [L_Model_run_66]
    rcases Nat.lt_or_ge i 6 with h | h
    · have e : ¬ (6 : Int32) ≤ nI i := nI_ge (b := 6) h (by decide)
      rw [if_neg e, bd_nI h (by decide), bd_nI h (by decide), nI_clamp (by omega), nI_1]
      refine ih (i + 1) _ _ (by omega) (by omega) (fun q hq => ?_)
      by_cases e2 : q = i
      · subst e2; rw [pk_us, pk_us]; exact ⟨rfl, rfl⟩
      · rw [pk_un e2, pk_un e2]; exact hs q (by omega)
    · have : i = 6 := by omega
      subst this
      have e : (6 : Int32) ≤ nI 6 := by decide
      rw [if_pos e]
      exact ⟨hc, sk, rfl, hs⟩
theorem fill_6 {fu : Nat} {g : Nat → Int32} (x : Int32) (hfu : 121 ≤ fu) : ∃ g', f_java_util_Arrays_fill fu 6 g x = some g' ∧ ∀ q, q < 6 → g' q = x := by
  obtain ⟨g', h1, h2⟩ := fill_loop (fu := fu) (N := 6) (x := x) (by decide) fu 0 g (by omega) (by omega) (fun j hj => absurd hj (Nat.not_lt_zero j))
  exact ⟨g', h1, h2⟩
theorem find_eq {n rc x0 y : Nat} {S σ P M : Nat → Nat} {mi va st : Nat → Int32} {rw cc mc isT cnt tot fau th ran fts : Int32} {rp rm rv : Nat → Int32} {nm mnm : Nat → Int64} {sn la be sp co si ki fi se nu mt mm mco so mf ms re mn mh sc fR fB fE fC hc sk mR mB mE ord : Nat → Int32} {fu : Nat}
    (hI : IRows n S σ P M mi va st rw rp rm rv) (hR : IRules rc cc nm sp co si ki fi se nu mc mnm mt mm mco so mf ms re mn) (hx : x0 ≤ y) (hxy : y - x0 ≤ 1999) (hy : y ≤ 100000) (hfu : 3000 ≤ fu) :
    ∃ (cnt' tot' fau' : Int32) (sn' la' be' mh' sc' fR' fB' fE' fC' hc' sk' mR' mB' mE' ord' : Nat → Int32),
      f_Run_find fu isT cnt tot fau mh sc fR fB fE fC cc nm sp co si ki fi se nu mi va st sn (nI x0) (nI y) = some (1, cnt', tot', fau', mh', sc', fR', fB', fE', fC', sn') ∧
      J_Model_run_42 fu th rw mc ran fts rp rm rv mnm mt mm mco so mf ms re mn la be hc sk mR mB mE ord (nI x0) (nI y) 0 = some (cnt', 0, 1, cnt', la', be', hc', sk', mR', mB', mE', ord') ∧
      IRun rc 1 cnt' tot' fau' mh' fR' fB' fE' fC' 1 cnt' mco hc' mR' mB' mE' ord' := by
  have hn := hI.1
  have r1 := hR.1
  obtain ⟨mh0, a1, a2⟩ := fill_6 (fu := fu) (g := mh) 0 (by omega)
  obtain ⟨sc0, b1, b2⟩ := fill_6 (fu := fu) (g := sc) (-1) (by omega)
  obtain ⟨sn0, c1, c2⟩ := rew_c (σ := σ) (M := M) (se := sn) (t := x0) hI.2.2.2.2.1 (show 121 ≤ fu by omega)
  obtain ⟨la0, be0, d1, d2⟩ := stand_m (la := la) (be := be) (fu := fu) (t := x0) hI (by omega) (by omega)
  obtain ⟨hc0, sk0, e1, e2⟩ := zero_loop (fu := fu) (l1 := nI x0) (l2 := nI y) (k := (fun (v_heldCounts_66x5 : Nat → Int32) (v_streaks_66x6 : Nat → Int32) => ((f_Model_stand fu rw rp rm la be (nI x0)).bind (fun t_7 => (L_Model_run_99 fu rw mc rp rm rv mt mm so mf ms re mn (nI x0) (nI y) (fun (v_faults_99x30 : Int32) (v_last_99x31 : Nat → Int32) (v_before_99x32 : Nat → Int32) (v_heldCounts_99x33 : Nat → Int32) (v_streaks_99x34 : Nat → Int32) (v_faultRule_99x35 : Nat → Int32) (v_faultBegin_99x36 : Nat → Int32) (v_faultEnd_99x37 : Nat → Int32) => (L_Model_run_212 fu 0 mc 1 mnm mm mco v_last_99x31 v_before_99x32 v_heldCounts_99x33 ord (nI y) fu 0 v_faults_99x30 v_streaks_99x34 v_faultRule_99x35 v_faultBegin_99x36 v_faultEnd_99x37)) fu (nI x0) 0 t_7.1 t_7.2 v_heldCounts_66x5 v_streaks_66x6 mR mB mE))))) fu 0 hc sk (by omega) (by omega) (fun q hq => absurd hq (Nat.not_lt_zero q))
  have hrho := rho_le (M := M) (t := x0) n
  have hRI : RI rc x0 0 (fun k => k) (fun _ => 0) (fun _ => x0) (fun _ => x0) (fun _ => rho M x0 n) (JmpR mt so) 0 0 0 mh0 sc0 fR fB fE fC 0 hc0 sk0 mR mB mE mco mnm := by
    refine ⟨⟨by omega, rfl, rfl, fun i hi => absurd hi (Nat.not_lt_zero i), fun i j _ hj => absurd hj (Nat.not_lt_zero j), fun k hk => absurd hk (Nat.not_lt_zero k), fun k l _ hl => absurd hl (Nat.not_lt_zero l), trivial, rfl, rfl⟩, rfl, fun q _ => Nat.zero_le _, fun q hq => ⟨⟨Nat.le_refl x0, Nat.le_refl x0, Or.inl ⟨b2 q (by omega), (e2 q (by omega)).2, rfl⟩⟩, fun _ h => absurd h (Nat.lt_irrefl x0), ?_⟩, fun i hi => absurd hi (Nat.not_lt_zero i)⟩
    rw [a2 q (by omega), (e2 q (by omega)).1]
  obtain ⟨nF', od', kk', B', T', W', cnt', tot', fau', fts', mh', sc', fR', fB', fE', fC', sn', la', be', hc', sk', mR', mB', mE', w1, w2, w3, w4, w5⟩ := out_loop (x0 := x0) (k82 := (fun (v_count_11x19 : Int32) (v_total_11x20 : Int32) (v_faultyRules_11x21 : Int32) (v_minutesHeld_11x22 : Nat → Int32) (v_since_11x23 : Nat → Int32) (v_faultRules_11x24 : Nat → Int32) (v_begins_11x25 : Nat → Int32) (v_ends_11x26 : Nat → Int32) (v_faultCosts_11x27 : Nat → Int32) (v_p2_seen_11x28 : Nat → Int32) => (L_Run_find_85 fu isT v_minutesHeld_11x22 cc nm sp co v_p2_seen_11x28 (nI y) fu 0 v_count_11x19 v_total_11x20 v_faultyRules_11x21 v_since_11x23 v_faultRules_11x24 v_begins_11x25 v_ends_11x26 v_faultCosts_11x27))) (k210 := (fun (v_faults_99x30 : Int32) (v_last_99x31 : Nat → Int32) (v_before_99x32 : Nat → Int32) (v_heldCounts_99x33 : Nat → Int32) (v_streaks_99x34 : Nat → Int32) (v_faultRule_99x35 : Nat → Int32) (v_faultBegin_99x36 : Nat → Int32) (v_faultEnd_99x37 : Nat → Int32) => (L_Model_run_212 fu 0 mc 1 mnm mm mco v_last_99x31 v_before_99x32 v_heldCounts_99x33 ord (nI y) fu 0 v_faults_99x30 v_streaks_99x34 v_faultRule_99x35 v_faultBegin_99x36 v_faultEnd_99x37))) hI hR hy (show 1000 ≤ fu by omega) fu x0 0 (fun k => k) (fun _ => 0) (fun _ => x0) (fun _ => x0) (fun _ => rho M x0 n) (fun _ => 0) 0 0 0 0 mh0 sc0 fR fB fE fC sn0 la0 be0 hc0 sk0 mR mB mE (Nat.le_refl x0) (by omega) (by omega) hRI (fun q _ => rfl) (fun q _ => rfl) (fun q _ => by omega) (fun q _ h => absurd h (Nat.lt_irrefl x0)) c2 (Or.inl ⟨rfl, d2⟩)
  obtain ⟨cnt2, tot2, fau2, sc2, fR2, fB2, fE2, fC2, sk2, mR2, mB2, mE2, ord2, v1, v2, v3⟩ := fin_loop (isT := isT) (th := 0) (sn := sn') (la := la') (be := be') (ord := ord) (n := n) hR hy (show 1000 ≤ fu by omega) fu 0 nF' od' kk' B' T' W' cnt' tot' fau' fts' sc' fR' fB' fE' fC' sk' mR' mB' mE' (Nat.zero_le rc) (by omega) w3 w4 (fun q hq => by have := w5 q hq; omega) (fun q _ hq => w5 q hq)
  refine ⟨cnt2, tot2, fau2, sn', la', be', mh', sc2, fR2, fB2, fE2, fC2, hc', sk2, mR2, mB2, mE2, ord2, ?_, ?_, v3⟩
  · unfold f_Run_find f_Run_clear
    rw [a1]
    simp only [Option.bind_some]
    rw [b1]
    simp only [Option.bind_some]
    rw [c1]
    simp only [Option.bind_some]
    exact w1.trans v1
  · unfold J_Model_run_42
    rw [if_pos (by decide)]
    refine e1.trans ?_
    show (f_Model_stand fu rw rp rm la be (nI x0)).bind _ = _
    rw [d1]
    simp only [Option.bind_some]
    exact w2.trans v2
theorem st_run {n rc : Nat} {S σ P M : Nat → Nat} {mi va st : Nat → Int32} {rw cc mc isT cnt tot fau th0 ran fts p q : Int32} {rp rm rv : Nat → Int32} {nm mnm : Nat → Int64} {sn la be sp co si ki fi se nu mt mm mco so mf ms re mn mh sc fR fB fE fC hc sk mR mB mE ord : Nat → Int32} {out : Nat → Int64} {fu : Nat}
    (hI : IRows n S σ P M mi va st rw rp rm rv) (hR : IRules rc cc nm sp co si ki fi se nu mc mnm mt mm mco so mf ms re mn) (hIR : IRun rc isT cnt tot fau mh fR fB fE fC ran fts mco hc mR mB mE ord) (hfu : 3000 ≤ fu) :
    ∃ (k : Int32) (sn' : Nat → Int32) (isT' cnt' tot' fau' : Int32) (mh' sc' fR' fB' fE' fC' : Nat → Int32) (out' : Nat → Int64) (b ran' fts' : Int32) (la' be' hc' sk' mR' mB' mE' ord' : Nat → Int32),
      f_Law_run fu 1 mi va st sn isT cnt tot fau mh sc fR fB fE fC cc nm sp co si ki fi se nu out p q = some (k, sn', isT', cnt', tot', fau', mh', sc', fR', fB', fE', fC', out') ∧
      f_Model_run fu th0 rw mc ran fts rp rm rv mnm mt mm mco so mf ms re mn la be hc sk mR mB mE ord p q = some (b, k, ran', fts', la', be', hc', sk', mR', mB', mE', ord') ∧ (k = 0 → out' 0 = b.toInt64) ∧
      IRun rc isT' cnt' tot' fau' mh' fR' fB' fE' fC' ran' fts' mco hc' mR' mB' mE' ord' := by
  have bad1 : f_FaultRules_isStretch p q 2000 = some 0 → f_Model_run fu th0 rw mc ran fts rp rm rv mnm mt mm mco so mf ms re mn la be hc sk mR mB mE ord p q = J_Model_run_42 fu th0 rw mc ran fts rp rm rv mnm mt mm mco so mf ms re mn la be hc sk mR mB mE ord p q 1 → ∃ (k : Int32) (sn' : Nat → Int32) (isT' cnt' tot' fau' : Int32) (mh' sc' fR' fB' fE' fC' : Nat → Int32) (out' : Nat → Int64) (b ran' fts' : Int32) (la' be' hc' sk' mR' mB' mE' ord' : Nat → Int32),
      f_Law_run fu 1 mi va st sn isT cnt tot fau mh sc fR fB fE fC cc nm sp co si ki fi se nu out p q = some (k, sn', isT', cnt', tot', fau', mh', sc', fR', fB', fE', fC', out') ∧
      f_Model_run fu th0 rw mc ran fts rp rm rv mnm mt mm mco so mf ms re mn la be hc sk mR mB mE ord p q = some (b, k, ran', fts', la', be', hc', sk', mR', mB', mE', ord') ∧ (k = 0 → out' 0 = b.toInt64) ∧
      IRun rc isT' cnt' tot' fau' mh' fR' fB' fE' fC' ran' fts' mco hc' mR' mB' mE' ord' := by
    intro h1 h2
    refine ⟨1, sn, isT, cnt, tot, fau, mh, sc, fR, fB, fE, fC, out, 0, ran, fts, la, be, hc, sk, mR, mB, mE, ord, ?_, ?_, fun h => absurd h (by decide), hIR⟩
    · unfold f_Law_run f_FaultRules_run
      rw [h1]
      rfl
    · rw [h2]
      unfold J_Model_run_42
      rw [if_neg (by decide)]
  by_cases h1 : p < 0
  · exact bad1 (by unfold f_FaultRules_isStretch; rw [isMinute_c, if_pos h1]; rfl) (by unfold f_Model_run; rw [if_pos h1])
  obtain ⟨x, hx, rfl⟩ := nI_of h1
  by_cases h2 : q < nI x
  · refine bad1 ?_ (by unfold f_Model_run; rw [if_neg h1, if_pos h2])
    unfold f_FaultRules_isStretch
    rw [isMinute_c, isMinute_c]
    simp only [Option.bind_some]
    by_cases y1 : (if nI x < 0 then (0 : Int32) else if 100000 < nI x then 0 else 1) = 0
    · rw [if_pos y1]
    · rw [if_neg y1]
      by_cases y2 : (if q < 0 then (0 : Int32) else if 100000 < q then 0 else 1) = 0
      · rw [if_pos y2]
      · rw [if_neg y2, if_pos h2]
  have h3 : ¬ q < 0 := by
    intro h
    rw [Int32.lt_iff_toInt_lt, nI_toInt hx] at h2
    rw [Int32.lt_iff_toInt_lt] at h
    have : (0 : Int32).toInt = 0 := rfl
    omega
  obtain ⟨y, hy, rfl⟩ := nI_of h3
  have hxy : x ≤ y := Nat.le_of_not_lt (fun h => h2 (nI_lt h hx))
  rcases Nat.lt_or_ge 100000 y with h4 | h4
  · have e3 : (100000 : Int32) < nI y := nI_lt (a := 100000) h4 hy
    refine bad1 ?_ (by unfold f_Model_run; rw [if_neg h1, if_neg h2, if_pos e3])
    unfold f_FaultRules_isStretch
    rw [isMinute_c, isMinute_c]
    simp only [Option.bind_some]
    by_cases y1 : (if nI x < 0 then (0 : Int32) else if 100000 < nI x then 0 else 1) = 0
    · rw [if_pos y1]
    · rw [if_neg y1, if_neg h3, if_pos e3]
      rfl
  have e3 : ¬ (100000 : Int32) < nI y := nI_nlt (a := 100000) h4 (by decide)
  have e4 : ¬ (100000 : Int32) < nI x := nI_nlt (a := 100000) (by omega) (by decide)
  have hst : f_FaultRules_isStretch (nI x) (nI y) 2000 = (if (2000 : Int32) ≤ nI (y - x) then (some 0) else (some 1)) := by
    unfold f_FaultRules_isStretch
    rw [isMinute_c, isMinute_c, if_neg h1, if_neg h3, if_neg e3, if_neg e4]
    simp only [Option.bind_some]
    rw [if_neg (by decide), if_neg (by decide), if_neg h2, pk_sub hxy]
  rcases Nat.lt_or_ge (y - x) 2000 with h5 | h5
  · have e5 : ¬ (2000 : Int32) ≤ nI (y - x) := nI_ge (b := 2000) h5 (by decide)
    have e6 : nI (y - x) ≤ (1999 : Int32) := nI_le (b := 1999) (by omega) (by decide)
    rw [if_neg e5] at hst
    have r1 := hR.1
    have hcc := hR.2.1
    have hmc := hR.2.2.1
    by_cases h6 : rc = 0
    · subst h6
      refine ⟨2, sn, isT, cnt, tot, fau, mh, sc, fR, fB, fE, fC, out, 0, ran, fts, la, be, hc, sk, mR, mB, mE, ord, ?_, ?_, fun h => absurd h (by decide), hIR⟩
      · unfold f_Law_run f_FaultRules_run
        rw [hst, hcc]
        rfl
      · unfold f_Model_run
        rw [if_neg h1, if_neg h2, if_neg e3, pk_sub hxy, if_pos e6, hmc, if_pos (by rfl)]
        unfold J_Model_run_42
        rw [if_neg (by decide)]
    · have e7 : ¬ nI rc = 0 := fun h => h6 ((nI_0iff (by omega)).mp h)
      obtain ⟨cnt', tot', fau', sn', la', be', mh', sc', fR', fB', fE', fC', hc', sk', mR', mB', mE', ord', a1, a2, a3⟩ := find_eq (x0 := x) (y := y) (isT := isT) (cnt := cnt) (tot := tot) (fau := fau) (th := th0) (ran := ran) (fts := fts) (sn := sn) (la := la) (be := be) (mh := mh) (sc := sc) (fR := fR) (fB := fB) (fE := fE) (fC := fC) (hc := hc) (sk := sk) (mR := mR) (mB := mB) (mE := mE) (ord := ord) hI hR hxy (by omega) h4 hfu
      refine ⟨0, sn', 1, cnt', tot', fau', mh', sc', fR', fB', fE', fC', vp_updL out 0 cnt'.toInt64, cnt', 1, cnt', la', be', hc', sk', mR', mB', mE', ord', ?_, ?_, fun _ => pk_uLs, a3⟩
      · unfold f_Law_run f_FaultRules_run
        rw [hst]
        simp only [Option.bind_some]
        rw [if_neg (by decide), if_neg (by rw [hcc]; exact e7), a1]
        simp only [Option.bind_some]
        rw [if_pos trivial, bd_01]
        rfl
      · unfold f_Model_run
        rw [if_neg h1, if_neg h2, if_neg e3, pk_sub hxy, if_pos e6, if_neg (by rw [hmc]; exact e7)]
        exact a2
  · have e5 : (2000 : Int32) ≤ nI (y - x) := nI_le (a := 2000) h5 (by omega)
    have e6 : ¬ nI (y - x) ≤ (1999 : Int32) := nI_ge (a := 1999) (by omega) (by omega)
    rw [if_pos e5] at hst
    exact bad1 hst (by unfold f_Model_run; rw [if_neg h1, if_neg h2, if_neg e3, pk_sub hxy, if_neg e6])
