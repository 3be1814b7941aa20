theorem mul_bd {x y : Int} {a b : Nat} (hx : x.natAbs ≤ a) (hy : y.natAbs ≤ b) : (x * y).natAbs ≤ a * b := by
  rw [Int.natAbs_mul]; exact Nat.mul_le_mul hx hy
theorem sq_nn (z : Int) : 0 ≤ z * z := by
  rcases Int.le_total 0 z with h | h
  · exact Int.mul_nonneg h h
  · exact Int.mul_nonneg_of_nonpos_of_nonpos h h
theorem l_add {a b : Int64} {x y : Int} (ha : a.toInt = x) (hb : b.toInt = y) (h : (x + y).natAbs < 2 ^ 62) : (a + b).toInt = x + y := by
  rw [Int64.toInt_add, ha, hb]
  apply Int.bmod_eq_of_le <;> omega
theorem l_sub {a b : Int64} {x y : Int} (ha : a.toInt = x) (hb : b.toInt = y) (h : (x - y).natAbs < 2 ^ 62) : (a - b).toInt = x - y := by
  rw [Int64.toInt_sub, ha, hb]
  apply Int.bmod_eq_of_le <;> omega
theorem l_mul {a b : Int64} {x y : Int} (ha : a.toInt = x) (hb : b.toInt = y) (h : (x * y).natAbs < 2 ^ 62) : (a * b).toInt = x * y := by
  rw [Int64.toInt_mul, ha, hb]
  generalize x * y = w at h
  apply Int.bmod_eq_of_le <;> omega
def Sums (d : Nat) (n sx sy xx xy : Int64) : Prop := ∃ (N : Nat) (X Y A B : Int), N ≤ d ∧ n.toInt = (N : Int) ∧ sx.toInt = X ∧ sy.toInt = Y ∧ xx.toInt = A ∧ xy.toInt = B ∧
  X.natAbs ≤ 1000000 * N ∧ Y.natAbs ≤ 1000000 * N ∧ A.natAbs ≤ 1000000000000 * N ∧ B.natAbs ≤ 1000000000000 * N ∧ X * X ≤ (N : Int) * A ∧ ∀ z : Int, 0 ≤ (N : Int) * (z * z) - 2 * (X * z) + A
theorem Sums_0 : Sums 0 0 0 0 0 0 := ⟨0, 0, 0, 0, 0, Nat.le_refl 0, rfl, rfl, rfl, rfl, rfl, by decide, by decide, by decide, by decide, by decide, fun z => by simp⟩
theorem Sums_keep {d : Nat} {n sx sy xx xy : Int64} (h : Sums d n sx sy xx xy) : Sums (d + 1) n sx sy xx xy := by
  obtain ⟨N, X, Y, A, B, h1, h2⟩ := h
  exact ⟨N, X, Y, A, B, by omega, h2⟩
theorem Sums_step {d : Nat} {n sx sy xx xy : Int64} {x y : Int32} (hd : d ≤ 60) (hx : -1000000 ≤ x.toInt ∧ x.toInt ≤ 1000000) (hy : -1000000 ≤ y.toInt ∧ y.toInt ≤ 1000000) (h : Sums d n sx sy xx xy) :
    Sums (d + 1) (n + 1) (sx + x.toInt64) (sy + y.toInt64) (xx + x.toInt64 * x.toInt64) (xy + x.toInt64 * y.toInt64) := by
  obtain ⟨N, X, Y, A, B, h1, h2, h3, h4, h5, h6, b1, b2, b3, b4, c1, c2⟩ := h
  have ex : x.toInt64.toInt = x.toInt := Int32.toInt_toInt64 x
  have ey : y.toInt64.toInt = y.toInt := Int32.toInt_toInt64 y
  generalize x.toInt = u at hx ex
  generalize y.toInt = v at hy ey
  have m1 := mul_bd (x := u) (y := u) (a := 1000000) (b := 1000000) (by omega) (by omega)
  have m2 := mul_bd (x := u) (y := v) (a := 1000000) (b := 1000000) (by omega) (by omega)
  have p1 := l_mul ex ex (by omega)
  have p2 := l_mul ex ey (by omega)
  refine ⟨N + 1, X + u, Y + v, A + u * u, B + u * v, by omega, ?_, l_add h3 ex (by omega), l_add h4 ey (by omega), l_add h5 p1 (by omega), l_add h6 p2 (by omega), by omega, by omega, by omega, by omega, ?_, ?_⟩
  · have := l_add (a := n) (b := 1) h2 (show (1 : Int64).toInt = 1 from rfl) (by omega)
    rw [this]; omega
  · have q := c2 u
    have e1 : (X + u) * (X + u) = X * X + 2 * (X * u) + u * u := by
      rw [Int.add_mul, Int.mul_add, Int.mul_add, Int.mul_comm u X]; omega
    have e2 : ((N + 1 : Nat) : Int) * (A + u * u) = (N : Int) * A + (N : Int) * (u * u) + A + u * u := by
      rw [Int.natCast_add, Int.add_mul, Int.mul_add]; omega
    rw [e1, e2]; omega
  · intro z
    have q := c2 z
    have s := sq_nn (z - u)
    have e0 : (z - u) * (z - u) = z * z - 2 * (u * z) + u * u := by
      rw [Int.sub_mul, Int.mul_sub, Int.mul_sub, Int.mul_comm z u]; omega
    have e1 : (X + u) * z = X * z + u * z := Int.add_mul X u z
    have e2 : ((N + 1 : Nat) : Int) * (z * z) = (N : Int) * (z * z) + z * z := by
      rw [Int.natCast_add, Int.add_mul]; omega
    rw [e1, e2]; omega
-- Euclid, on both sides
theorem gcd_st (a b : Nat) : Nat.gcd a b = Nat.gcd b (a % b) := by rw [Nat.gcd_comm a b, Nat.gcd_rec, Nat.gcd_comm]
theorem half (b r : Nat) (h : r < b) (h0 : 0 < r) : 2 * (b % r) < b := by
  have h1 := Nat.mod_lt b h0
  have h2 := Nat.mod_add_div b r
  have h3 : 1 ≤ b / r := (Nat.one_le_div_iff h0).mpr (Nat.le_of_lt h)
  have h4 : r * 1 ≤ r * (b / r) := Nat.mul_le_mul_left r h3
  omega
theorem lN_z {b : Nat} (hb : b < 2 ^ 63) : lg_cmp (lN b) 0 = 0 ↔ b = 0 := by
  constructor
  · intro h
    rcases Nat.eq_zero_or_pos b with z | z
    · exact z
    · have : (0 : Int64) < lN b := (pk_lLT (a := 0) (by decide) hb).mpr z
      have := lgg.mpr this
      rw [h] at this
      exact absurd this (by decide)
  · intro h; subst h; exact lg_eq rfl
theorem lN_zle {b : Nat} (hb : b < 2 ^ 63) : lg_cmp (lN b) 0 ≤ 0 ↔ b = 0 := by
  constructor
  · intro h
    rcases Nat.eq_zero_or_pos b with z | z
    · exact z
    · have : (0 : Int64) < lN b := (pk_lLT (a := 0) (by decide) hb).mpr z
      exact absurd h (Int32.not_le.mpr (lgg.mpr this))
  · intro h; subst h; rw [show lg_cmp (lN 0) 0 = 0 from lg_eq rfl]; decide
theorem nzL_ok {α : Type} {b : Nat} {k : Option α} (hb : b < 2 ^ 63) (h0 : 0 < b) : nzL (lN b) k = k := by
  unfold nzL
  exact if_neg (fun h => absurd ((pk_lEQ (b := 0) hb (by decide)).mp h) (by omega))
theorem gcd_c {fu : Nat} {k : Int64 → Option Int64} : ∀ (m f a b s : Nat), b < 2 ^ m → m ≤ 63 → s + 2 * m ≤ 128 → 2 * m < f → a < 2 ^ 63 → b < 2 ^ 63 →
    L_FaultRules_commonDivisor_9 fu k f (lN a) (lN b) (nI s) = k (lN (Nat.gcd a b)) := by
  intro m
  induction m with
  | zero =>
    intro f a b s h1 _ h2 h3 ha hb
    obtain ⟨f, rfl⟩ : ∃ g, f = g + 1 := ⟨f - 1, by omega⟩
    have hb0 : b = 0 := by omega
    subst hb0
    rw [L_FaultRules_commonDivisor_9, Nat.gcd_zero_right]
    by_cases e : (128 : Int32) ≤ nI s
    · rw [if_pos e]
    · rw [if_neg e, if_pos ((lN_z hb).mpr rfl)]
  | succ m ih =>
    intro f a b s h1 hm h2 h3 ha hb
    obtain ⟨f, rfl⟩ : ∃ g, f = g + 1 + 1 := ⟨f - 2, by omega⟩
    have e : ¬ (128 : Int32) ≤ nI s := nI_ge (b := 128) (by omega) (by decide)
    have e' : ¬ (128 : Int32) ≤ nI (s + 1) := nI_ge (b := 128) (by omega) (by decide)
    rw [L_FaultRules_commonDivisor_9, if_neg e]
    rcases Nat.eq_zero_or_pos b with z | z
    · subst z
      rw [if_pos ((lN_z hb).mpr rfl), Nat.gcd_zero_right]
    · rw [if_neg (fun h => absurd ((lN_z hb).mp h) (by omega)), nzL_ok hb z, pk_lRem ha z hb, nI_1, gcd_st]
      have hr := Nat.mod_lt a z
      rw [L_FaultRules_commonDivisor_9, if_neg e']
      rcases Nat.eq_zero_or_pos (a % b) with z2 | z2
      · rw [z2, if_pos ((lN_z (by decide)).mpr rfl), Nat.gcd_zero_right]
      · have hr' : a % b < 2 ^ 63 := by omega
        have hh := half b (a % b) hr z2
        rw [if_neg (fun h => absurd ((lN_z hr').mp h) (by omega)), nzL_ok hr' z2, pk_lRem hb z2 hr', nI_1, gcd_st]
        have hp : 2 ^ (m + 1) = 2 * 2 ^ m := by rw [Nat.pow_succ, Nat.mul_comm]
        exact ih f (a % b) (b % (a % b)) (s + 1 + 1) (by omega) (by omega) (by omega) (by omega) hr' (by omega)
theorem gcd_m {fu : Nat} : ∀ (m f a b : Nat), b < 2 ^ m → 2 * m < f → a < 2 ^ 63 → b < 2 ^ 63 →
    L_Model_common_17 fu f (lN a) (lN b) = some (lN (Nat.gcd a b)) := by
  intro m
  induction m with
  | zero =>
    intro f a b h1 h3 ha hb
    obtain ⟨f, rfl⟩ : ∃ g, f = g + 1 := ⟨f - 1, by omega⟩
    have hb0 : b = 0 := by omega
    subst hb0
    rw [L_Model_common_17, Nat.gcd_zero_right, if_pos ((lN_zle hb).mpr rfl)]
  | succ m ih =>
    intro f a b h1 h3 ha hb
    obtain ⟨f, rfl⟩ : ∃ g, f = g + 1 + 1 := ⟨f - 2, by omega⟩
    rw [L_Model_common_17]
    rcases Nat.eq_zero_or_pos b with z | z
    · subst z
      rw [if_pos ((lN_zle hb).mpr rfl), Nat.gcd_zero_right]
    · rw [if_neg (fun h => absurd ((lN_zle hb).mp h) (by omega)), nzL_ok hb z, pk_lRem ha z hb, gcd_st]
      have hr := Nat.mod_lt a z
      rw [L_Model_common_17]
      rcases Nat.eq_zero_or_pos (a % b) with z2 | z2
      · rw [z2, if_pos ((lN_zle (by decide)).mpr rfl), Nat.gcd_zero_right]
      · have hr' : a % b < 2 ^ 63 := by omega
        have hh := half b (a % b) hr z2
        rw [if_neg (fun h => absurd ((lN_zle hr').mp h) (by omega)), nzL_ok hr' z2, pk_lRem hb z2 hr', gcd_st]
        have hp : 2 ^ (m + 1) = 2 * 2 ^ m := by rw [Nat.pow_succ, Nat.mul_comm]
        exact ih f (a % b) (b % (a % b)) (by omega) (by omega) hr' (by omega)
theorem low_eq {fu : Nat} {up low : Int64} {part th : Int32} (hfu : 200 ≤ fu) (hl : 0 ≤ low.toInt) (hl2 : low.toInt.natAbs < 2 ^ 62) (hu : up.toInt.natAbs < 2 ^ 62) :
    ∃ v, f_FaultRules_lowest fu up low part = some v ∧ (if (lg_cmp low 0) = 0 then (some ((0 : Int64), th)) else ((f_Model_common fu up low).bind (fun t_19 => (if part = 0 then (nzL t_19 (some (up / t_19, th))) else (nzL t_19 (some (low / t_19, th))))))) = some (v, th) := by
  have z0 : (0 : Int64).toInt = 0 := rfl
  obtain ⟨L, hL, rfl⟩ := pk_lOf (x := low) (by rw [Int64.lt_iff_toInt_lt, z0]; omega)
  unfold f_FaultRules_lowest
  rcases Nat.eq_zero_or_pos L with z | z
  · subst z
    rw [if_neg (show ¬ 0 < lg_cmp (lN 0) 0 by rw [show lg_cmp (lN 0) 0 = 0 from lg_eq rfl]; decide), if_pos ((lN_z hL).mpr rfl)]
    exact ⟨0, rfl, rfl⟩
  · have hpos : 0 < lg_cmp (lN L) 0 := lgg.mpr ((pk_lLT (a := 0) (by decide) hL).mpr z)
    rw [if_pos hpos, if_neg (fun h => absurd ((lN_z hL).mp h) (by omega))]
    have habs : ∃ U, U < 2 ^ 63 ∧ (if 0 < up then up else -up) = lN U ∧ f_Model_common fu up (lN L) = L_Model_common_17 fu fu (lN U) (lN L) := by
      unfold f_Model_common J_Model_common_12
      have hneg : (-up).toInt = -up.toInt := by
        rw [Int64.toInt_neg]
        apply Int.bmod_eq_of_le <;> omega
      by_cases h : 0 < up
      · have h' : 0 ≤ lg_cmp up 0 := Int32.le_of_lt (lgg.mpr h)
        rw [if_pos h, if_pos h']
        rw [Int64.lt_iff_toInt_lt, z0] at h
        obtain ⟨U, hU, e⟩ := pk_lOf (x := up) (by rw [Int64.lt_iff_toInt_lt, z0]; omega)
        exact ⟨U, hU, e, by rw [e]⟩
      · rw [if_neg h]
        rw [Int64.lt_iff_toInt_lt, z0] at h
        obtain ⟨U, hU, e⟩ := pk_lOf (x := -up) (by rw [Int64.lt_iff_toInt_lt, z0, hneg]; omega)
        refine ⟨U, hU, e, ?_⟩
        by_cases h2 : 0 ≤ lg_cmp up 0
        · have h3 : up.toInt = 0 := by
            have : ¬ up < 0 := fun q => Int32.not_lt.mpr h2 (lgl.mpr q)
            rw [Int64.lt_iff_toInt_lt, z0] at this
            omega
          have h4 : up = 0 := Int64.toInt_inj.mp h3
          subst h4
          rw [if_pos h2, ← e]
          rfl
        · rw [if_neg h2, e]
    obtain ⟨U, hU, e1, e2⟩ := habs
    have hg : 0 < Nat.gcd L U := Nat.gcd_pos_of_pos_left U z
    have hg2 : Nat.gcd L U < 2 ^ 63 := Nat.lt_of_le_of_lt (Nat.gcd_le_left U z) hL
    have c1 : f_FaultRules_commonDivisor fu (lN L) (lN U) = some (lN (Nat.gcd L U)) := by
      unfold f_FaultRules_commonDivisor
      have := gcd_c (fu := fu) (k := fun (l4_9x4 : Int64) => (if (lg_cmp l4_9x4 0) = 0 then (some 1) else (some l4_9x4))) 63 fu L U 0 hU (by omega) (by omega) (by omega) hL hU
      refine Eq.trans this ?_
      rw [if_neg (fun h => absurd ((lN_z hg2).mp h) (by omega))]
    have c2 : L_Model_common_17 fu fu (lN U) (lN L) = some (lN (Nat.gcd L U)) := by
      rw [Nat.gcd_comm L U]
      exact gcd_m 63 fu U L hL (by omega) hU hL
    rw [e1, e2, c1, c2]
    simp only [Option.bind_some]
    by_cases hp : part = 0
    · rw [if_pos hp, if_pos hp, nzL_ok hg2 hg, nzL_ok hg2 hg]; exact ⟨_, rfl, rfl⟩
    · rw [if_neg hp, if_neg hp, nzL_ok hg2 hg, nzL_ok hg2 hg]; exact ⟨_, rfl, rfl⟩
theorem left_has {n fu : Nat} {cx cm v : Int32} {mi le : Nat → Int32} (hfu : 101 ≤ fu) (hI : ILeft n cx cm mi le) :
    (f_LeftOut_has fu cx mi v = some 1 ∧ ∃ j, j < n ∧ f_Model_leftAt fu cm le v = some (nI j)) ∨ (f_LeftOut_has fu cx mi v = some 0 ∧ f_Model_leftAt fu cm le v = some (nI n)) := by
  have hn := hI.1
  rcases left_loop (v := v) (fu1 := fu) (fu2 := fu) hI fu 0 (Nat.zero_le n) (by omega) with ⟨j, -, g2, g3, g4, g5⟩ | ⟨g1, g2, g3⟩
  · left
    have h4 : f_LeftOut_placeOf fu cx mi v = some (nI j) := g4
    refine ⟨?_, j, g2, g5⟩
    unfold f_LeftOut_has; rw [h4]; simp [nI_ne_m1 (show j < 2 ^ 31 by omega)]
  · right
    have h4 : f_LeftOut_placeOf fu cx mi v = some (-1) := g2
    refine ⟨?_, g3⟩
    unfold f_LeftOut_has; rw [h4]; simp
theorem Low_up {S σ M : Nat → Nat} {t t' : Nat} {c : Nat → Nat} {se : Nat → Int32} (h : Low S σ M t c se) (ht : t ≤ t') : Low S σ M t' c se :=
  fun q hq => ⟨(h q hq).1, (h q hq).2.1, fun j j1 j2 => Nat.le_trans ((h q hq).2.2 j j1 j2) ht⟩
theorem line_loop {n nL a b x0 y : Nat} {S σ P M : Nat → Nat} {mi va st : Nat → Int32} {rw cx cm p5 : Int32} {rp rm rv lm le : Nat → Int32} {fu : Nat} {kc : Int64 → Int64 → Int64 → Int64 → Int64 → (Nat → Int32) → Option (Nat × Int64 × (Nat → Int32))} {km : Int64 → Int64 → Int64 → Int64 → Int64 → Option (Int64 × Int32)}
    (hI : IRows n S σ P M mi va st rw rp rm rv) (hL : ILeft nL cx cm lm le) (hfu : 121 ≤ fu) (ha : a < 16) (hb : b < 16) (hy : y ≤ 100000) (hd : y < x0 + 60) :
    ∀ (f x : Nat) (N sx sy xx xy : Int64) (c : Nat → Nat) (se : Nat → Int32), x0 ≤ x → x ≤ y + 1 → y + 1 < f + x → Low S σ M x c se → Sums (x - x0) N sx sy xx xy →
    ∃ N' sx' sy' xx' xy' se', Sums 60 N' sx' sy' xx' xy' ∧ L_FaultRules_line_71 fu mi va st cx lm (nI a) (nI b) (nI y) p5 kc f N sx sy xx xy (nI x) se = kc N' sx' sy' xx' xy' se' ∧ L_Model_line_91 fu rw cm rp rm rv le (nI a) (nI b) (nI y) p5 km f N sx sy xy xx (nI x) = km N' sx' sy' xy' xx' := by
  have hn := hI.1
  have hk := hI.2.2.2.2.2.2.2.1
  intro f
  induction f with
  | zero => intro x N sx sy xx xy c se h1 h2 h3; omega
  | succ f ih =>
    intro x N sx sy xx xy c se h1 h2 h3 hLow hS
    rw [L_FaultRules_line_71, L_Model_line_91]
    rcases Nat.lt_or_ge y x with h | h
    · have e : nI y < nI x := nI_lt h (by omega)
      rw [if_pos e, if_pos e]
      have : x - x0 ≤ 60 := by omega
      obtain ⟨N0, X, Y, A, B, g1, g2⟩ := hS
      exact ⟨N, sx, sy, xx, xy, se, ⟨N0, X, Y, A, B, by omega, g2⟩, rfl, rfl⟩
    · have e : ¬ nI y < nI x := nI_nlt h (by omega)
      rw [if_neg e, if_neg e, nI_1]
      obtain ⟨c', se', a1, a2⟩ := adv_c hI (show x ≤ 100000 by omega) hfu hLow
      have hLow' := Low_up a2.1 (Nat.le_succ x)
      obtain ⟨va', ba', l1, l2⟩ := latest_m (fu := fu) hI ha (show x ≤ 100000 by omega) hfu
      obtain ⟨vb', bb', l3, l4⟩ := latest_m (fu := fu) hI hb (show x ≤ 100000 by omega) hfu
      have ea := look hI a2 ha l2
      have eb := look hI a2 hb l4
      rw [a1, l1, l3]
      simp only [Option.bind_some]
      have hd1 : x + 1 - x0 = x - x0 + 1 := by omega
      have keep := fun c se (hlow : Low S σ M (x + 1) c se) => ih (x + 1) N sx sy xx xy c se (by omega) (by omega) (by omega) hlow (by rw [hd1]; exact Sums_keep hS)
      rcases ea with ⟨u1, -, u3⟩ | ⟨i, i1, u1, -, -, u3, u4, -⟩
      · rw [u1, u3, if_pos (show (-1 : Int32) < 0 by decide)]
        exact keep c' se' hLow'
      · rw [u1, u3, if_neg (nI_pos (show i < 2 ^ 31 by omega))]
        simp only [Option.bind_some]
        rw [if_neg (show ¬ (1 : Int32) = 0 by decide)]
        rcases eb with ⟨w1, -, w3⟩ | ⟨j, j1, w1, -, -, w3, w4, -⟩
        · rw [w1, w3, if_pos (show (-1 : Int32) < 0 by decide)]
          exact keep c' se' hLow'
        · rw [w1, w3, if_neg (nI_pos (show j < 2 ^ 31 by omega))]
          simp only [Option.bind_some]
          rw [if_neg (show ¬ (1 : Int32) = 0 by decide)]
          have hnL := hL.1
          have hcm := hL.2.2.1
          rcases left_has (v := nI x) (show 101 ≤ fu by omega) hL with ⟨g1, z, z1, z2⟩ | ⟨g1, z2⟩
          · rw [g1, z2]
            simp only [Option.bind_some]
            rw [if_neg (show ¬ (1 : Int32) = 0 by decide), hcm, if_neg (nI_ge z1 (by omega))]
            have := keep c' se' hLow'
            rw [hcm] at this
            exact this
          · rw [g1, z2]
            simp only [Option.bind_some]
            rw [if_pos trivial, w4, u4]
            simp only [Option.bind_some]
            have hle : cm ≤ nI nL := by rw [hcm]; exact nI_le (Nat.le_refl nL) (by omega)
            rw [if_pos hle, bd_nI (show i < 120 by omega) (by decide), bd_nI (show j < 120 by omega) (by decide), nI_clamp (show i < 2 ^ 31 by omega), nI_clamp (show j < 2 ^ 31 by omega)]
            have ki := (hk i i1).2.2.2.2
            have kj := (hk j j1).2.2.2.2
            exact ih (x + 1) _ _ _ _ _ c' se' (by omega) (by omega) (by omega) hLow' (by rw [hd1]; exact Sums_step (by omega) kj ki hS)
