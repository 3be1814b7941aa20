theorem row_loop {n : Nat} {S σ P M : Nat → Nat} {mi va st : Nat → Int32} {rw : Int32} {rp rm rv : Nat → Int32} {fu p t : Nat} {v : Int32} {k : Int32 → Int32 → Option (Int32 × Int32 × Int32 × (Nat → Int32) × (Nat → Int32) × (Nat → Int32))} (hI : IRows n S σ P M mi va st rw rp rm rv) (hp : p < 16) (ht : t ≤ 100000) :
    ∀ (f i : Nat) (th : Int32), i ≤ n → n < f + i →
    ((∀ x, i ≤ x → x < n → P x = p → M x < t) → L_Model_row_66 fu rw rp rm (nI p) (nI t) v k f (nI (1 + cntP P p i)) (nI i) th = k (nI (1 + cntP P p n)) th) ∧
    (((∃ x, i ≤ x ∧ x < n ∧ P x = p ∧ t ≤ M x) ∨ th = 2) → L_Model_row_66 fu rw rp rm (nI p) (nI t) v k f (nI (1 + cntP P p i)) (nI i) th = k (nI (1 + cntP P p n)) 2) := by
  obtain ⟨hn, rfl, -, -, -, -, -, hk, -⟩ := hI
  intro f
  induction f with
  | zero => intro i th h1 h2; omega
  | succ f ih =>
    intro i th h1 h2
    rw [L_Model_row_66]
    rcases Nat.lt_or_ge i n with h | h
    · obtain ⟨k1, k2, k3, k4, -⟩ := hk i h
      rw [if_neg (nI_ge h (by omega)), bd_nI (by omega) (by decide), nI_clamp (by omega), k1, k3, nI_1, nI_1]
      by_cases e1 : P i = p
      · have hc : 1 + cntP P p i + 1 = 1 + cntP P p (i + 1) := by simp only [cntP, if_pos e1]; omega
        rw [if_pos (by rw [e1]), bd_nI (by omega) (by decide), hc]
        rcases Nat.lt_or_ge (M i) t with e2 | e2
        · rw [if_pos (nI_lt e2 (by omega))]
          obtain ⟨i1, i2⟩ := ih (i + 1) th (by omega) (by omega)
          refine ⟨fun q => i1 (fun x x1 x2 x3 => q x (by omega) x2 x3), fun q => i2 ?_⟩
          rcases q with ⟨x, x1, x2, x3, x4⟩ | q
          · refine Or.inl ⟨x, ?_, x2, x3, x4⟩
            rcases Nat.eq_or_lt_of_le x1 with z | z
            · subst z; omega
            · exact z
          · exact Or.inr q
        · rw [if_neg (nI_nlt e2 (by omega))]
          obtain ⟨i1, i2⟩ := ih (i + 1) 2 (by omega) (by omega)
          exact ⟨fun q => absurd (q i (Nat.le_refl i) h e1) (by omega), fun q => i2 (Or.inr rfl)⟩
      · have hc : cntP P p i = cntP P p (i + 1) := by simp only [cntP, if_neg e1]; omega
        rw [if_neg (fun q => e1 ((nI_eq (by omega) (by omega)).mp q)), hc]
        obtain ⟨i1, i2⟩ := ih (i + 1) th (by omega) (by omega)
        refine ⟨fun q => i1 (fun x x1 x2 x3 => q x (by omega) x2 x3), fun q => i2 ?_⟩
        rcases q with ⟨x, x1, x2, x3, x4⟩ | q
        · refine Or.inl ⟨x, ?_, x2, x3, x4⟩
          rcases Nat.eq_or_lt_of_le x1 with z | z
          · subst z; exact absurd x3 e1
          · exact z
        · exact Or.inr q
    · have : i = n := by omega
      subst this
      rw [if_pos (nI_le (Nat.le_refl i) (by omega))]
      refine ⟨fun _ => rfl, fun q => ?_⟩
      rcases q with ⟨x, x1, x2, -⟩ | q
      · omega
      · rw [q]
theorem starts_loop {fu : Nat} {l1 : Int32} {k : (Nat → Int32) → Option (Int32 × (Nat → Int32) × (Nat → Int32) × (Nat → Int32))} {S : Nat → Nat} {p : Nat} : ∀ (f i : Nat) (st : Nat → Int32), p < i → i ≤ 17 → 17 < f + i → (∀ q, q ≤ 16 → st q = nI (if p < q ∧ q < i then S q + 1 else S q)) →
    ∃ st', L_Rows_add_81 fu l1 k f (nI i) st = k st' ∧ ∀ q, q ≤ 16 → st' q = nI (if q ≤ p then S q else S q + 1) := by
  intro f
  induction f with
  | zero => intro i st h1 h2 h3; omega
  | succ f ih =>
    intro i st h1 h2 h3 hs
    rw [L_Rows_add_81]
    rcases Nat.lt_or_ge i 17 with h | h
    · have e : ¬ (16 : Int32) < nI i := fun q => absurd ((nI_ltI (a := 16) (by decide) (by omega)).mp q) (by omega)
      rw [if_neg e, bd_nI h (by decide), bd_nI h (by decide), nI_clamp (by omega), nI_1, hs i (by omega), nI_1]
      refine ih (i + 1) _ (by omega) (by omega) (by omega) (fun q hq => ?_)
      by_cases e2 : q = i
      · subst e2
        rw [pk_us, if_neg (by omega), if_pos (by omega)]
      · rw [pk_un e2, hs q hq]
        by_cases e3 : p < q ∧ q < i
        · rw [if_pos e3, if_pos (by omega)]
        · rw [if_neg e3, if_neg (by omega)]
    · have : i = 17 := by omega
      subst this
      rw [if_pos (by decide)]
      refine ⟨st, rfl, fun q hq => ?_⟩
      rw [hs q hq]
      by_cases e3 : q ≤ p
      · rw [if_pos e3, if_neg (by omega)]
      · rw [if_neg e3, if_pos (by omega)]
theorem cntP_congr {P P' : Nat → Nat} {p : Nat} : ∀ n, (∀ k, k < n → P k = P' k) → cntP P p n = cntP P' p n := by
  intro n
  induction n with
  | zero => intro _; rfl
  | succ n ih => intro h; simp only [cntP]; rw [ih (fun k hk => h k (by omega)), h n (by omega)]
-- the rows with one more
theorem rows_add {n : Nat} {S σ P M : Nat → Nat} {mi va st : Nat → Int32} {rw : Int32} {rp rm rv : Nat → Int32} {p t : Nat} {w : Int32} {st' : Nat → Int32} (hI : IRows n S σ P M mi va st rw rp rm rv) (hp : p < 16) (ht : t ≤ 100000) (hn1 : n < 120) (hw : -1000000 ≤ w.toInt ∧ w.toInt ≤ 1000000) (hbeh : ∀ x, x < n → P x = p → M x < t)
    (hst' : ∀ q, q ≤ 16 → st' q = nI (if q ≤ p then S q else S q + 1)) :
    IRows (n + 1) (fun q => if q ≤ p then S q else S q + 1) (fun j => if j < S (p + 1) then σ j else if j = S (p + 1) then n else σ (j - 1)) (fun k => if k = n then p else P k) (fun k => if k = n then t else M k)
      (upd (va_cpy mi mi (S (p + 1)) (S (p + 1) + 1) (n - S (p + 1))) (S (p + 1)) (nI t)) (upd (va_cpy va va (S (p + 1)) (S (p + 1) + 1) (n - S (p + 1))) (S (p + 1)) w) st' (nI (n + 1)) (upd rp n (nI p)) (upd rm n (nI t)) (upd rv n w) := by
  obtain ⟨hn, -, h0, h16, hm, hst, hσ, hk, hP, hsur, hinc, hcnt⟩ := hI
  have mo : ∀ {a b : Nat}, a ≤ b → b ≤ 16 → S a ≤ S b := fun h1 h2 => mono16' hm h1 h2
  have hSn : ∀ q, q ≤ 16 → S q ≤ n := fun q hq => by rw [← h16]; exact mo hq (by omega)
  have hpos := hSn (p + 1) (by omega)
  refine ⟨by omega, rfl, ?_, ?_, ?_, hst', ?_, ?_, ?_, ?_, ?_, ?_⟩
  · show (if 0 ≤ p then S 0 else S 0 + 1) = 0
    rw [if_pos (by omega), h0]
  · show (if 16 ≤ p then S 16 else S 16 + 1) = n + 1
    rw [if_neg (by omega), h16]
  · intro q hq
    show (if q ≤ p then S q else S q + 1) ≤ (if q + 1 ≤ p then S (q + 1) else S (q + 1) + 1)
    have := hm q hq
    split <;> split <;> omega
  · intro j hj
    by_cases e1 : j < S (p + 1)
    · obtain ⟨g1, g2, g3⟩ := hσ j (by omega)
      simp only [if_pos e1, if_neg (show ¬ σ j = n by omega)]
      rw [pk_un (by omega), pk_un (by omega), pk_un (by omega), pk_cpy_out (by omega), pk_cpy_out (by omega)]
      exact ⟨by omega, g2, g3⟩
    · by_cases e2 : j = S (p + 1)
      · subst e2
        simp only [if_neg e1, if_pos]
        rw [pk_us, pk_us, pk_us]
        exact ⟨by omega, rfl, rfl⟩
      · obtain ⟨g1, g2, g3⟩ := hσ (j - 1) (by omega)
        simp only [if_neg e1, if_neg e2, if_neg (show ¬ σ (j - 1) = n by omega)]
        rw [pk_un e2, pk_un e2, pk_un (by omega), pk_cpy_in (by omega) (by omega), pk_cpy_in (by omega) (by omega), show S (p + 1) + (j - (S (p + 1) + 1)) = j - 1 by omega]
        exact ⟨by omega, g2, g3⟩
  · intro k hk'
    by_cases e1 : k = n
    · subst e1
      simp only [if_pos]
      rw [pk_us, pk_us, pk_us]
      exact ⟨rfl, hp, rfl, ht, hw.1, hw.2⟩
    · simp only [if_neg e1]
      rw [pk_un e1, pk_un e1, pk_un e1]
      exact hk k (by omega)
  · intro q j hq
    show (if q ≤ p then S q else S q + 1) ≤ j → j < (if q + 1 ≤ p then S (q + 1) else S (q + 1) + 1) → _
    intro j1 j2
    rcases Nat.lt_trichotomy q p with e | e | e
    · rw [if_pos (by omega)] at j1 j2
      have m1 := mo (show q + 1 ≤ p by omega) (by omega)
      have m2 := hm p hp
      have m3 := hSn (q + 1) (by omega)
      have g := (hσ j (by omega)).1
      simp only [if_pos (show j < S (p + 1) by omega), if_neg (show ¬ σ j = n by omega)]
      exact hP q j hq j1 j2
    · subst e
      rw [if_pos (by omega)] at j1
      rw [if_neg (by omega)] at j2
      by_cases e1 : j < S (q + 1)
      · have g := (hσ j (by omega)).1
        simp only [if_pos e1, if_neg (show ¬ σ j = n by omega)]
        exact hP q j hq j1 e1
      · have e2 : j = S (q + 1) := by omega
        simp only [if_neg e1, if_pos e2, if_pos]
    · rw [if_neg (by omega)] at j1 j2
      have m1 := mo (show p + 1 ≤ q by omega) (by omega)
      have m3 := hSn (q + 1) (by omega)
      have g := (hσ (j - 1) (by omega)).1
      simp only [if_neg (show ¬ j < S (p + 1) by omega), if_neg (show ¬ j = S (p + 1) by omega), if_neg (show ¬ σ (j - 1) = n by omega)]
      exact hP q (j - 1) hq (by omega) (by omega)
  · intro k hk'
    by_cases e1 : k = n
    · subst e1
      refine ⟨S (p + 1), ?_, ?_, ?_⟩
      · show (if (if k = k then p else P k) ≤ p then S (if k = k then p else P k) else S (if k = k then p else P k) + 1) ≤ S (p + 1)
        rw [if_pos rfl, if_pos (Nat.le_refl p)]; exact hm p hp
      · show S (p + 1) < (if (if k = k then p else P k) + 1 ≤ p then S ((if k = k then p else P k) + 1) else S ((if k = k then p else P k) + 1) + 1)
        rw [if_pos rfl, if_neg (by omega)]; omega
      · show (if S (p + 1) < S (p + 1) then σ (S (p + 1)) else if S (p + 1) = S (p + 1) then k else σ (S (p + 1) - 1)) = k
        rw [if_neg (by omega), if_pos rfl]
    · obtain ⟨j, j1, j2, j3⟩ := hsur k (by omega)
      have hPk := (hk k (by omega)).2.1
      simp only [if_neg e1]
      rcases Nat.lt_or_ge p (P k) with e | e
      · have m1 := mo (show p + 1 ≤ P k by omega) (by omega)
        refine ⟨j + 1, ?_, ?_, ?_⟩
        · rw [if_neg (by omega)]; omega
        · rw [if_neg (by omega)]; omega
        · rw [if_neg (by omega), if_neg (by omega)]; exact j3
      · have m1 := mo (show P k + 1 ≤ p + 1 by omega) (by omega)
        refine ⟨j, ?_, ?_, ?_⟩
        · rw [if_pos e]; exact j1
        · split <;> omega
        · rw [if_pos (by omega)]; exact j3
  · intro q i j hq
    show (if q ≤ p then S q else S q + 1) ≤ i → i < j → j < (if q + 1 ≤ p then S (q + 1) else S (q + 1) + 1) → _
    intro i1 ij j2
    rcases Nat.lt_trichotomy q p with e | e | e
    · rw [if_pos (by omega)] at i1 j2
      have m1 := mo (show q + 1 ≤ p by omega) (by omega)
      have m2 := hm p hp
      have m3 := hSn (q + 1) (by omega)
      have g := (hσ j (by omega)).1
      have g' := (hσ i (by omega)).1
      simp only [if_pos (show j < S (p + 1) by omega), if_neg (show ¬ σ j = n by omega), if_pos (show i < S (p + 1) by omega), if_neg (show ¬ σ i = n by omega)]
      exact hinc q i j hq i1 ij j2
    · subst e
      rw [if_pos (by omega)] at i1
      rw [if_neg (by omega)] at j2
      have g' := (hσ i (by omega)).1
      simp only [if_pos (show i < S (q + 1) by omega), if_neg (show ¬ σ i = n by omega)]
      by_cases e1 : j < S (q + 1)
      · have g := (hσ j (by omega)).1
        simp only [if_pos e1, if_neg (show ¬ σ j = n by omega)]
        exact hinc q i j hq i1 ij e1
      · have e2 : j = S (q + 1) := by omega
        simp only [if_neg e1, if_pos e2, if_pos]
        exact ⟨g', hbeh (σ i) g' (hP q i hq i1 (by omega))⟩
    · rw [if_neg (by omega)] at i1 j2
      have m1 := mo (show p + 1 ≤ q by omega) (by omega)
      have m3 := hSn (q + 1) (by omega)
      have g := (hσ (j - 1) (by omega)).1
      have g' := (hσ (i - 1) (by omega)).1
      simp only [if_neg (show ¬ j < S (p + 1) by omega), if_neg (show ¬ j = S (p + 1) by omega), if_neg (show ¬ σ (j - 1) = n by omega), if_neg (show ¬ i < S (p + 1) by omega), if_neg (show ¬ i = S (p + 1) by omega), if_neg (show ¬ σ (i - 1) = n by omega)]
      exact hinc q (i - 1) (j - 1) hq (by omega) (by omega) (by omega)
  · intro q hq
    show cntP _ q n + (if (if n = n then p else P n) = q then 1 else 0) + (if q ≤ p then S q else S q + 1) = (if q + 1 ≤ p then S (q + 1) else S (q + 1) + 1)
    rw [if_pos rfl, ← cntP_congr (P := P) n (fun k hk' => by rw [if_neg (by omega)])]
    have := hcnt q hq
    rcases Nat.lt_trichotomy q p with e | e | e
    · rw [if_neg (by omega), if_pos (by omega), if_pos (by omega)]; omega
    · rw [if_pos (by omega), if_pos (by omega), if_neg (by omega)]; omega
    · rw [if_neg (by omega), if_neg (by omega), if_neg (by omega)]; omega
