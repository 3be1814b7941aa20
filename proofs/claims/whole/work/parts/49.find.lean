abbrev TC := Int32 × Int32 × Int32 × Int32 × (Nat → Int32) × (Nat → Int32) × (Nat → Int32) × (Nat → Int32) × (Nat → Int32) × (Nat → Int32) × (Nat → Int32)
abbrev TM := Int32 × Int32 × Int32 × Int32 × (Nat → Int32) × (Nat → Int32) × (Nat → Int32) × (Nat → Int32) × (Nat → Int32) × (Nat → Int32) × (Nat → Int32) × (Nat → Int32)
def MI (n rc j t : Nat) (M T W B : Nat → Nat) (Ok Jm : Nat → Prop) : Prop :=
  (∀ q, q < rc → T q = (if q < j then t + 1 else t)) ∧ (∀ q, q < rc → W q = rho M (T q) n) ∧ (∀ q, q < 6 → W q ≤ 120) ∧ (∀ q, q < rc → B q < T q → (q < j → Ok q) ∧ (j ≤ q → (∀ i, i < n → M i ≠ t) → ¬ Jm q → Ok q))
theorem MI_step {n rc j t B' : Nat} {M T W B : Nat → Nat} {Ok Jm : Nat → Prop} (h : MI n rc j t M T W B Ok Jm) (hn : n ≤ 120) (hj : j < rc) (hok : B' < t + 1 → Ok j) : MI n rc (j + 1) t M (nuf T j (t + 1)) (nuf W j (rho M (t + 1) n)) (nuf B j B') Ok Jm := by
  obtain ⟨h1, h2, h3, h4⟩ := h
  refine ⟨fun q hq => ?_, fun q hq => ?_, fun q hq => ?_, fun q hq => ?_⟩
  · by_cases e : q = j
    · subst e; rw [nuf_s, if_pos (by omega)]
    · rw [nuf_n e, h1 q hq]
      by_cases g : q < j
      · rw [if_pos g, if_pos (by omega)]
      · rw [if_neg g, if_neg (by omega)]
  · by_cases e : q = j
    · subst e; rw [nuf_s, nuf_s]
    · rw [nuf_n e, nuf_n e]; exact h2 q hq
  · by_cases e : q = j
    · subst e; rw [nuf_s]; have := rho_le (M := M) (t := t + 1) n; omega
    · rw [nuf_n e]; exact h3 q hq
  · by_cases e : q = j
    · subst e; rw [nuf_s, nuf_s]; exact fun g => ⟨fun _ => hok g, fun k => absurd k (by omega)⟩
    · rw [nuf_n e, nuf_n e]
      intro g
      obtain ⟨a, b⟩ := h4 q hq g
      exact ⟨fun k => a (by omega), fun k => b (by omega)⟩
theorem nuf_id {B : Nat → Nat} {j : Nat} : nuf B j (B j) = B := by
  funext q
  by_cases e : q = j
  · subst e; rw [nuf_s]
  · rw [nuf_n e]
theorem min_loop {n rc x0 t : Nat} {S σ P M : Nat → Nat} {mi va st : Nat → Int32} {rw cc mc : Int32} {rp rm rv : Nat → Int32} {nm mnm : Nat → Int64} {sn la be sp co si ki fi se nu mt mm mco so mf ms re mn : Nat → Int32} {fu : Nat} {c : Nat → Nat} {l4 m1 m2 : Int32} {k27 : (Int32) → (Int32) → (Int32) → (Nat → Int32) → (Nat → Int32) → (Nat → Int32) → (Nat → Int32) → (Nat → Int32) → (Nat → Int32) → Option TC} {k147 : (Int32) → (Nat → Int32) → (Nat → Int32) → (Nat → Int32) → (Nat → Int32) → (Nat → Int32) → Option TM}
    (hI : IRows n S σ P M mi va st rw rp rm rv) (hR : IRules rc cc nm sp co si ki fi se nu mc mnm mt mm mco so mf ms re mn) (ht : t ≤ 100000) (hS : Seen S σ M t c sn) (hSt : StAll n P M t la be) (hfu : 1000 ≤ fu) :
    ∀ (f j nF : Nat) (od kk B T W : Nat → Nat) (cnt tot fau fts : Int32) (mh sc fR fB fE fC hc sk mR mB mE : Nat → Int32), j ≤ rc → rc < f + j → RI rc x0 nF od kk B T W (JmpR mt so) cnt tot fau mh sc fR fB fE fC fts hc sk mR mB mE mco mnm → MI n rc j t M T W B (fun q => OkR rm rv mt so mf ms re mn la be q t) (JmpR mt so) →
    ∃ (nF' : Nat) (od' kk' B' T' W' : Nat → Nat) (cnt' tot' fau' fts' : Int32) (mh' sc' fR' fB' fE' fC' hc' sk' mR' mB' mE' : Nat → Int32),
      L_Run_find_27 fu cc nm sp co si ki fi se nu mi va st sn l4 (nI t) k27 f (nI j) cnt tot fau mh sc fR fB fE fC = k27 cnt' tot' fau' mh' sc' fR' fB' fE' fC' ∧
      L_Model_run_147 fu mc rm rv mt mm so mf ms re mn la be m1 m2 (nI t) k147 f (nI j) fts hc sk mR mB mE = k147 fts' hc' sk' mR' mB' mE' ∧
      RI rc x0 nF' od' kk' B' T' W' (JmpR mt so) cnt' tot' fau' mh' sc' fR' fB' fE' fC' fts' hc' sk' mR' mB' mE' mco mnm ∧ MI n rc rc t M T' W' B' (fun q => OkR rm rv mt so mf ms re mn la be q t) (JmpR mt so) := by
  have hn := hI.1
  have hR' := hR
  obtain ⟨r1, hcc, hmc, r4, r5⟩ := hR'
  intro f
  induction f with
  | zero => intro j nF od kk B T W cnt tot fau fts mh sc fR fB fE fC hc sk mR mB mE h1 h2; omega
  | succ f ih =>
    intro j nF od kk B T W cnt tot fau fts mh sc fR fB fE fC hc sk mR mB mE h1 h2 hRI hMI
    rw [L_Run_find_27, L_Model_run_147]
    rcases Nat.lt_or_ge j rc with h | h
    · have e1 : ¬ cc ≤ nI j := by rw [hcc]; exact nI_ge h (by omega)
      have e2 : ¬ mc ≤ nI j := by rw [hmc]; exact nI_ge h (by omega)
      obtain ⟨b, b1, b2, b3, b4, b5⟩ := rule_eq hI hR ht hS hSt h hfu
      rw [if_neg e1, if_neg e2, b2, b3]
      simp only [Option.bind_some]
      obtain ⟨q1, q2, q3, q4, ⟨s, q5, q6, q7⟩, -, z, z1, z2, z3, z4⟩ := r4 j h
      have m1' := hMI.1 j h
      rw [if_neg (Nat.lt_irrefl j)] at m1'
      have m2' := hMI.2.1 j h
      rw [m1'] at m2'
      have m3 := hMI.2.2.1
      have hk := hRI.2.2.1 j (by omega)
      have hq := hRI.2.2.2.1 j h
      have hmono := rho_mono (M := M) (show t ≤ t + 1 by omega) n
      have hle := rho_le (M := M) (t := t + 1) n
      have hsub : nI t - 1 = nI t - nI 1 := rfl
      rcases b1 with rfl | rfl
      · rw [if_pos rfl, if_pos rfl]
        obtain ⟨nF', od', kk', cnt', tot', fau', fR', fB', fE', fC', fts', mR', mB', mE', a1, a2, a3⟩ := close_step (fu := fu) (t := t) (t' := t + 1) (w := rho M (t + 1) n) (p3 := nI t - 1) (nmC := nm) (csC := co) (spC := sp) (sp := mm) hRI r1 r5 h m1' (by omega) (by omega) (fun g => by rw [hsub, pk_sub g]) (by rw [m2']; exact hmono) (fun g => by
            by_cases J : JmpR mt so j
            · have := hq.2.1 J (by rw [m1']; exact g)
              omega
            · by_cases row : ∃ i, i < n ∧ M i = t
              · obtain ⟨i, i1, i2⟩ := row
                have := rho_row i2 n i1
                omega
              · exact absurd ((hMI.2.2.2 j h (by rw [m1']; exact g)).2 (Nat.le_refl j) (fun i hi e => row ⟨i, hi, e⟩) J) (b5 rfl)) (fun q hq6 => by have := m3 q hq6; omega) (by omega) (fun q hq => (r4 q hq).1) q3 q2 q7 q5 q6 (by omega)
        rw [a1, a2]
        simp only [Option.bind_some]
        rw [nI_1]
        exact ih (j + 1) nF' od' kk' (nuf B j (t + 1)) (nuf T j (t + 1)) (nuf W j (rho M (t + 1) n)) cnt' tot' fau' fts' mh (upd sc j (-1)) fR' fB' fE' fC' hc (upd sk j 0) mR' mB' mE' (by omega) (by omega) a3 (MI_step hMI hn h (fun g => absurd g (by omega)))
      · rw [if_neg (by decide), if_neg (by decide)]
        obtain ⟨mh', sc', a1, a2⟩ := go_step (t := t) (w := rho M (t + 1) n) hRI r1 h m1' (by omega) (by rw [m2']; exact hmono) (fun J => by
          obtain ⟨k, k1, k2⟩ := J
          have hk' := k1
          rw [z3, nI_clamp (by omega)] at hk'
          obtain ⟨i, i1, i2⟩ := isSo_jump hI ht hSt (show 6 * j + k < 36 by omega) (z4 k hk') k2 (b4 rfl k k1)
          have := rho_row i2 n i1
          omega)
        have b6 : ∀ {α : Type} (z : Option α), bd (nI j) 6 z = z := fun z => bd_nI (by omega) (by decide)
        rw [a1, b6, b6, b6, b6, nI_clamp (show j < 2 ^ 31 by omega)]
        simp only [Option.bind_some]
        rw [nI_1]
        refine ih (j + 1) nF od kk B (nuf T j (t + 1)) (nuf W j (rho M (t + 1) n)) cnt tot fau fts mh' sc' fR fB fE fC (upd hc j (hc j + 1)) (upd sk j (sk j + 1)) mR mB mE (by omega) (by omega) a2 ?_
        have := MI_step (B' := B j) hMI hn h (fun _ => b4 rfl)
        rwa [nuf_id] at this
    · have ej : j = rc := by omega
      subst ej
      rw [if_pos (by rw [hcc]; exact nI_le (Nat.le_refl j) (by omega)), if_pos (by rw [hmc]; exact nI_le (Nat.le_refl j) (by omega))]
      exact ⟨nF, od, kk, B, T, W, cnt, tot, fau, fts, mh, sc, fR, fB, fE, fC, hc, sk, mR, mB, mE, rfl, rfl, hRI, hMI⟩
