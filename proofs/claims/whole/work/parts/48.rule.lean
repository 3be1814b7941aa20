-- a rule holds at a minute, and what a minute without rows leaves as it was
abbrev OkR (rm rv mt so mf ms re mn la be : Nat → Int32) (r t : Nat) : Prop := ∀ k, k < (mt r).toNatClampNeg → f_Model_isSo rm rv so mf ms re mn la be (nI (6 * r + k)) (nI t) = some 1
abbrev JmpR (mt so : Nat → Int32) (r : Nat) : Prop := ∃ k, k < (mt r).toNatClampNeg ∧ so (6 * r + k) = 3
theorem all0_loop {fu : Nat} {rm rv mt so mf ms re mn la be : Nat → Int32} {r z : Nat} {t : Int32} (hr : r < 6) (hz : z ≤ 6) (hmt : mt r = nI z) : ∀ (f k : Nat), k ≤ z → z < f + k → L_Model_areAll_8 fu rm rv mt so mf ms re mn la be (nI r) t f 0 (nI (6 * r + k)) = some 0 := by
  intro f
  induction f with
  | zero => intro k h1 h2; omega
  | succ f ih =>
    intro k h1 h2
    have e6 : (6 : Int32) * nI r = nI (6 * r) := pk_mul 6 r
    rw [L_Model_areAll_8, bd_nI (by omega) (by decide), nI_clamp (by omega), hmt, e6, nI_add]
    rcases Nat.lt_or_ge k z with h | h
    · rw [if_neg (nI_ge (by omega) (by omega)), if_pos rfl, nI_1]
      exact ih (k + 1) (by omega) (by omega)
    · rw [if_pos (nI_le (by omega) (by omega)), zb_0]
theorem rule_loop {n rc : Nat} {S σ P M : Nat → Nat} {mi va st : Nat → Int32} {rw : Int32} {rp rm rv : Nat → Int32} {sn la be si ki fi se nu mt so mf ms re mn : Nat → Int32} {fu r t z : Nat} {c : Nat → Nat} (hI : IRows n S σ P M mi va st rw rp rm rv) (ht : t ≤ 100000) (hS : Seen S σ M t c sn) (hSt : StAll n P M t la be) (hrc : rc ≤ 6) (hr : r < rc) (hz : z ≤ 6) (hmt : mt r = nI z) (hsi : si r = nI z) (hT : ∀ k, k < z → ITest (6 * r + k) ki fi se nu so mf ms re mn) :
    ∀ (f k : Nat), k ≤ z → z < f + k → ∃ b : Int32, (b = 0 ∨ b = 1) ∧ L_RuleSet_ruleHolds_3 fu si ki fi se nu mi va st sn (nI r) (nI t) f (nI k) = some b ∧ L_Model_areAll_8 fu rm rv mt so mf ms re mn la be (nI r) (nI t) f 1 (nI (6 * r + k)) = some b ∧ (b = 1 → ∀ l, k ≤ l → l < z → f_Model_isSo rm rv so mf ms re mn la be (nI (6 * r + l)) (nI t) = some 1) ∧ (b = 0 → ∃ l, l < z ∧ f_Model_isSo rm rv so mf ms re mn la be (nI (6 * r + l)) (nI t) = some 0) := by
  intro f
  induction f with
  | zero => intro k h1 h2; omega
  | succ f ih =>
    intro k h1 h2
    have e6 : (6 : Int32) * nI r = nI (6 * r) := pk_mul 6 r
    have e6' : nI r * 6 = nI (6 * r) := by rw [Nat.mul_comm]; exact pk_mul r 6
    rw [L_Model_areAll_8, L_RuleSet_ruleHolds_3, bd_nI (by omega) (by decide), bd_nI (by omega) (by decide), nI_clamp (by omega), hmt, hsi, e6, nI_add, e6', nI_add]
    rcases Nat.lt_or_ge k z with h | h
    · obtain ⟨b, b1, b2, b3⟩ := test_eq hI ht hS hSt (show 6 * r + k < 36 by omega) (hT k h)
      rw [if_neg (nI_ge (by omega) (by omega)), if_neg (nI_ge (by omega) (by omega)), if_neg (by decide), b2, b3]
      simp only [Option.bind_some]
      rw [nI_1, nI_1]
      rcases b1 with rfl | rfl
      · rw [if_pos rfl, if_pos rfl]
        exact ⟨0, Or.inl rfl, rfl, all0_loop (by omega) hz hmt f (k + 1) (by omega) (by omega), fun h => absurd h (by decide), fun _ => ⟨k, h, b3⟩⟩
      · rw [if_neg (by decide), if_neg (by decide)]
        obtain ⟨b, c1, c2, c3, c4, c5⟩ := ih (k + 1) (by omega) (by omega)
        refine ⟨b, c1, c2, c3, fun q l l1 l2 => ?_, c5⟩
        rcases Nat.eq_or_lt_of_le l1 with y | y
        · subst y; exact b3
        · exact c4 q l y l2
    · rw [if_pos (nI_le (by omega) (by omega)), if_pos (nI_le (by omega) (by omega)), zb_1]
      exact ⟨1, Or.inr rfl, rfl, rfl, fun _ l l1 l2 => absurd l1 (by omega), fun h => absurd h (by decide)⟩
theorem rule_eq {n rc : Nat} {S σ P M : Nat → Nat} {mi va st : Nat → Int32} {rw cc mc : Int32} {rp rm rv : Nat → Int32} {nm mnm : Nat → Int64} {sn la be sp co si ki fi se nu mt mm mco so mf ms re mn : Nat → Int32} {fu r t : Nat} {c : Nat → Nat} (hI : IRows n S σ P M mi va st rw rp rm rv) (hR : IRules rc cc nm sp co si ki fi se nu mc mnm mt mm mco so mf ms re mn) (ht : t ≤ 100000) (hS : Seen S σ M t c sn) (hSt : StAll n P M t la be) (hr : r < rc) (hfu : 1000 ≤ fu) :
    ∃ b : Int32, (b = 0 ∨ b = 1) ∧ f_RuleSet_ruleHolds fu si ki fi se nu mi va st sn (nI r) (nI t) = some b ∧ f_Model_areAll fu rm rv mt so mf ms re mn la be (nI r) (nI t) = some b ∧ (b = 1 → OkR rm rv mt so mf ms re mn la be r t) ∧ (b = 0 → ¬ OkR rm rv mt so mf ms re mn la be r t) := by
  obtain ⟨r1, -, -, r4, -⟩ := hR
  obtain ⟨-, -, -, q4, -, -, z, z1, z2, z3, z4⟩ := r4 r hr
  obtain ⟨b, b1, b2, b3, b4, b5⟩ := rule_loop (fu := fu) hI ht hS hSt r1 hr z2 z3 (q4.trans z3) z4 fu 0 (Nat.zero_le z) (by omega)
  have e6 : (6 : Int32) * nI r = nI (6 * r) := pk_mul 6 r
  refine ⟨b, b1, b2, ?_, fun h k hk => ?_, fun h ok => ?_⟩
  · unfold f_Model_areAll; rw [e6]; exact b3
  · rw [z3, nI_clamp (by omega)] at hk
    exact b4 h k (Nat.zero_le k) hk
  · obtain ⟨l, l1, l2⟩ := b5 h
    have := ok l (by rw [z3, nI_clamp (by omega)]; exact l1)
    rw [l2] at this
    exact absurd this (by decide)
-- a test that isn't a jump goes on holding while no row comes
theorem isSo_stay {n : Nat} {S σ P M : Nat → Nat} {mi va st : Nat → Int32} {rw : Int32} {rp rm rv : Nat → Int32} {t T : Nat} {la be ki fi se nu so mf ms re mn : Nat → Int32} (hI : IRows n S σ P M mi va st rw rp rm rv) (ht1 : 1 ≤ t) (ht : t ≤ 100000) (hSt : StAll n P M (t - 1) la be) (hT : T < 36) (hK : ITest T ki fi se nu so mf ms re mn) (h3 : ¬ so T = 3) (h : f_Model_isSo rm rv so mf ms re mn la be (nI T) (nI (t - 1)) = some 1) :
    f_Model_isSo rm rv so mf ms re mn la be (nI T) (nI t) = some 1 := by
  have hn := hI.1
  have hk := hI.2.2.2.2.2.2.2.1
  obtain ⟨p, hp, k1, k2, k3, k4⟩ := hK
  have b72 : ∀ {α : Type} (k : Option α), bd (nI T) 72 k = k := fun k => bd_nI (by omega) (by decide)
  have bp : ∀ {α : Type} (k : Option α), bd (nI p) 16 k = k := fun k => bd_nI (by omega) (by decide)
  have cT : (nI T).toNatClampNeg = T := nI_clamp (by omega)
  have cp : (nI p).toNatClampNeg = p := nI_clamp (by omega)
  have hl : la p = -1 ∨ ∃ i, i < n ∧ M i ≤ t - 1 ∧ la p = nI i := by
    rcases hSt p hp with ⟨g, -⟩ | ⟨i, g1, g2, -⟩
    · exact Or.inl g
    · exact Or.inr ⟨i, g2.1, g2.2.2, g1⟩
  have hm1 : ¬ 0 ≤ (-1 : Int32) := by decide
  have hm1' : (-1 : Int32) < 0 := by decide
  have n01 : ¬ (some (0 : Int32)) = some 1 := by decide
  unfold f_Model_isSo at h ⊢
  simp only [b72, cT, k2, bp, cp] at h ⊢
  rcases k4 with ⟨q1, q2⟩ | ⟨q1, q2, -⟩ | ⟨q1, q2⟩ | ⟨r, r1, r2, r3, r4⟩
  · rw [q2, if_neg (show ¬ (2 : Int32) = 4 by decide)] at h ⊢
    rcases hl with g | ⟨i, i1, i2, g⟩
    · rw [g, if_neg hm1] at h
      exact absurd h n01
    · obtain ⟨-, -, w3, w4, -⟩ := hk i i1
      rw [g, if_pos (nI_pos' (by omega)), if_pos rfl, bd_nI (by omega) (by decide), nI_clamp (by omega), w3, pk_sub (by omega)] at h ⊢
      by_cases y : nI (t - 1 - M i) < mn T
      · rw [if_pos y] at h; exact absurd h n01
      · rw [Int32.lt_iff_toInt_lt, nI_toInt (by omega)] at y
        refine if_neg (fun x => ?_)
        rw [Int32.lt_iff_toInt_lt, nI_toInt (by omega)] at x
        omega
  · exact absurd q2 h3
  · rw [q2, if_pos rfl] at h ⊢
    rcases hl with g | ⟨i, i1, i2, g⟩
    · rw [g, if_pos hm1']
    · obtain ⟨-, -, w3, w4, -⟩ := hk i i1
      rw [g, if_neg (nI_pos (by omega)), bd_nI (by omega) (by decide), nI_clamp (by omega), w3, pk_sub (by omega)] at h ⊢
      by_cases y : nI (t - 1 - M i) ≤ mn T
      · rw [if_pos y] at h; exact absurd h n01
      · rw [Int32.le_iff_toInt_le, nI_toInt (by omega)] at y
        refine if_neg (fun x => ?_)
        rw [Int32.le_iff_toInt_le, nI_toInt (by omega)] at x
        omega
  · have x4 : ¬ so T = 4 := by rcases r4 with ⟨-, r4⟩ | ⟨_, -, -, -, r4⟩ <;> (rw [r4]; decide)
    have x2 : ¬ so T = 2 := by rcases r4 with ⟨-, r4⟩ | ⟨_, -, -, -, r4⟩ <;> (rw [r4]; decide)
    simp only [if_neg x4, if_neg x2, if_neg h3] at h ⊢
    exact h
-- a jump holds at a row's minute alone
theorem isSo_jump {n : Nat} {S σ P M : Nat → Nat} {mi va st : Nat → Int32} {rw : Int32} {rp rm rv : Nat → Int32} {t T : Nat} {la be ki fi se nu so mf ms re mn : Nat → Int32} (hI : IRows n S σ P M mi va st rw rp rm rv) (ht : t ≤ 100000) (hSt : StAll n P M t la be) (hT : T < 36) (hK : ITest T ki fi se nu so mf ms re mn) (h3 : so T = 3) (h : f_Model_isSo rm rv so mf ms re mn la be (nI T) (nI t) = some 1) :
    ∃ i, i < n ∧ M i = t := by
  have hn := hI.1
  have hk := hI.2.2.2.2.2.2.2.1
  obtain ⟨p, hp, k1, k2, -⟩ := hK
  have b72 : ∀ {α : Type} (k : Option α), bd (nI T) 72 k = k := fun k => bd_nI (by omega) (by decide)
  have bp : ∀ {α : Type} (k : Option α), bd (nI p) 16 k = k := fun k => bd_nI (by omega) (by decide)
  have cT : (nI T).toNatClampNeg = T := nI_clamp (by omega)
  have cp : (nI p).toNatClampNeg = p := nI_clamp (by omega)
  have n01 : ¬ (some (0 : Int32)) = some 1 := by decide
  have hm1 : ¬ 0 ≤ (-1 : Int32) := by decide
  unfold f_Model_isSo at h
  simp only [b72, cT, k2, bp, cp] at h
  rw [h3, if_neg (show ¬ (3 : Int32) = 4 by decide)] at h
  rcases hSt p hp with ⟨g, -⟩ | ⟨i, g, g2, -⟩
  · rw [g, if_neg hm1] at h
    exact absurd h n01
  · obtain ⟨-, -, w3, w4, -⟩ := hk i g2.1
    have i120 : i < 120 := by have := g2.1; omega
    rw [g, if_pos (nI_pos' (by omega)), if_neg (show ¬ (3 : Int32) = 2 by decide), if_pos rfl, bd_nI (by omega) (by decide), nI_clamp (by omega), w3] at h
    by_cases y : be p < 0
    · rw [if_pos y] at h; exact absurd h n01
    · rw [if_neg y] at h
      by_cases x : nI (M i) = nI t
      · exact ⟨i, g2.1, (nI_eq (by omega) (by omega)).mp x⟩
      · rw [if_neg x] at h; exact absurd h n01
-- the reference's rows of a minute
theorem row_before {n : Nat} {S σ P M : Nat → Nat} {mi va st : Nat → Int32} {rw : Int32} {rp rm rv : Nat → Int32} {x i : Nat} (hI : IRows n S σ P M mi va st rw rp rm rv) (hx : x < n) (hi : i < n) (hp : P x = P i) (hM : M x < M i) : x < i := by
  obtain ⟨-, -, -, -, -, -, -, hk, -, h10, h11, -⟩ := hI
  obtain ⟨j, j1, j2, j3⟩ := h10 x hx
  obtain ⟨l, l1, l2, l3⟩ := h10 i hi
  have p16 := (hk i hi).2.1
  rw [hp] at j1 j2
  rcases Nat.lt_trichotomy j l with e | e | e
  · have := (h11 (P i) j l p16 j1 e l2).1
    rw [j3, l3] at this; exact this
  · subst e; rw [j3] at l3; subst l3; omega
  · have := (h11 (P i) l j p16 l1 e j2).2
    rw [j3, l3] at this; omega
theorem rows_loop {n : Nat} {S σ P M : Nat → Nat} {mi va st : Nat → Int32} {rw : Int32} {rp rm rv : Nat → Int32} {fu x0 t : Nat} {l2 : Int32} {k : (Nat → Int32) → (Nat → Int32) → Option (Int32 × Int32 × Int32 × Int32 × (Nat → Int32) × (Nat → Int32) × (Nat → Int32) × (Nat → Int32) × (Nat → Int32) × (Nat → Int32) × (Nat → Int32) × (Nat → Int32))} (hI : IRows n S σ P M mi va st rw rp rm rv) (hx : x0 < t) (ht : t ≤ 100000) :
    ∀ (f i : Nat) (la be : Nat → Int32), i ≤ n → n < f + i → (∀ p, p < 16 → St (fun x => x < n ∧ P x = p ∧ (M x ≤ t - 1 ∨ (M x = t ∧ x < i))) (la p) (be p)) → ∃ la' be', L_Model_run_107 fu rw rp rm (nI x0) l2 (nI t) k f (nI i) la be = k la' be' ∧ StAll n P M t la' be' ∧ ((∀ x, x < n → M x ≠ t) → la' = la ∧ be' = be) := by
  have hn := hI.1
  have hrw := hI.2.1
  have hk := hI.2.2.2.2.2.2.2.1
  intro f
  induction f with
  | zero => intro i la be h1 h2; omega
  | succ f ih =>
    intro i la be h1 h2 hs
    rw [L_Model_run_107, hrw]
    rcases Nat.lt_or_ge i n with h | h
    · obtain ⟨k1, k2, k3, k4, -⟩ := hk i h
      rw [if_neg (nI_ge h (by omega)), if_neg (nI_ge hx (by omega)), bd_nI (by omega) (by decide), nI_clamp (by omega), k3, nI_1]
      rw [hrw] at ih
      by_cases e : M i = t
      · rw [if_pos (by rw [e]), note_m hI h]
        simp only [Option.bind_some]
        obtain ⟨la', be', a1, a2, -⟩ := ih (i + 1) (upd la (P i) (nI i)) (upd be (P i) (la (P i))) (by omega) (by omega) (by
          refine StAll_upd (Q := fun p x => x < n ∧ P x = p ∧ (M x ≤ t - 1 ∨ (M x = t ∧ x < i))) (Q' := fun p x => x < n ∧ P x = p ∧ (M x ≤ t - 1 ∨ (M x = t ∧ x < i + 1))) hs ?_ ?_ ?_
          · intro p hp hne x
            constructor
            · intro q; exact ⟨q.1, q.2.1, by omega⟩
            · intro q
              refine ⟨q.1, q.2.1, ?_⟩
              rcases q.2.2 with y | y
              · exact Or.inl y
              · rcases Nat.lt_or_ge x i with z | z
                · exact Or.inr ⟨y.1, z⟩
                · have : x = i := by omega
                  subst this
                  exact absurd q.2.1.symm hne
          · intro x q
            rcases q.2.2 with y | y
            · exact row_before hI q.1 h q.2.1 (by omega)
            · exact y.2
          · intro x
            constructor
            · intro q
              rcases q.2.2 with y | y
              · exact Or.inl ⟨q.1, q.2.1, Or.inl y⟩
              · rcases Nat.lt_or_ge x i with z | z
                · exact Or.inl ⟨q.1, q.2.1, Or.inr ⟨y.1, z⟩⟩
                · exact Or.inr (by omega)
            · intro q
              rcases q with q | q
              · exact ⟨q.1, q.2.1, by omega⟩
              · subst q
                exact ⟨h, rfl, Or.inr ⟨e, by omega⟩⟩)
        exact ⟨la', be', a1, a2, fun q => absurd e (q i h)⟩
      · rw [if_neg (fun q => e ((nI_eq (by omega) (by omega)).mp q))]
        exact ih (i + 1) la be (by omega) (by omega) (fun p hp => St_congr (fun x => by
          constructor
          · intro q; exact ⟨q.1, q.2.1, by omega⟩
          · intro q
            refine ⟨q.1, q.2.1, ?_⟩
            rcases q.2.2 with y | y
            · exact Or.inl y
            · rcases Nat.lt_or_ge x i with z | z
              · exact Or.inr ⟨y.1, z⟩
              · have : x = i := by omega
                subst this
                exact absurd y.1 e) (hs p hp))
    · rw [if_pos (nI_le h (by omega))]
      refine ⟨la, be, rfl, fun p hp => St_congr (fun x => ?_) (hs p hp), fun _ => ⟨rfl, rfl⟩⟩
      constructor
      · intro q; exact ⟨q.1, q.2.1, by omega⟩
      · intro q
        have := q.1
        exact ⟨q.1, q.2.1, by have := q.2.2; omega⟩
theorem rows_min {n : Nat} {S σ P M : Nat → Nat} {mi va st : Nat → Int32} {rw : Int32} {rp rm rv la be : Nat → Int32} {fu x0 t : Nat} {l2 : Int32} {k : (Nat → Int32) → (Nat → Int32) → Option (Int32 × Int32 × Int32 × Int32 × (Nat → Int32) × (Nat → Int32) × (Nat → Int32) × (Nat → Int32) × (Nat → Int32) × (Nat → Int32) × (Nat → Int32) × (Nat → Int32))} (hI : IRows n S σ P M mi va st rw rp rm rv) (ht : t ≤ 100000) (hfu : 121 ≤ fu) (hSt : (t = x0 ∧ StAll n P M t la be) ∨ (x0 < t ∧ StAll n P M (t - 1) la be)) :
    ∃ la' be', L_Model_run_107 fu rw rp rm (nI x0) l2 (nI t) k fu 0 la be = k la' be' ∧ StAll n P M t la' be' ∧ (x0 < t → (∀ x, x < n → M x ≠ t) → la' = la ∧ be' = be) := by
  have hn := hI.1
  rcases hSt with ⟨h1, h2⟩ | ⟨h1, h2⟩
  · subst h1
    obtain ⟨g, rfl⟩ : ∃ g, fu = g + 1 := ⟨fu - 1, by omega⟩
    refine ⟨la, be, ?_, h2, fun h => absurd h (by omega)⟩
    rw [L_Model_run_107]
    by_cases y : rw ≤ 0
    · rw [if_pos y]
    · rw [if_neg y, if_pos (nI_le (Nat.le_refl t) (by omega))]
  · obtain ⟨la', be', a1, a2, a3⟩ := rows_loop (fu := fu) (l2 := l2) (k := k) hI h1 ht fu 0 la be (Nat.zero_le n) (by omega) (fun p hp => St_congr (fun x => by
      constructor
      · intro q; exact ⟨q.1, q.2.1, Or.inl q.2.2⟩
      · intro q; exact ⟨q.1, q.2.1, by omega⟩) (h2 p hp))
    exact ⟨la', be', a1, a2, fun _ => a3⟩
