-- rows: the class keeps them by points, the reference in order of coming
def cntP (P : Nat → Nat) (p : Nat) : Nat → Nat
  | 0 => 0
  | k + 1 => cntP P p k + (if P k = p then 1 else 0)
def IRows (n : Nat) (S σ P M : Nat → Nat) (mi va st : Nat → Int32) (rw : Int32) (rp rm rv : Nat → Int32) : Prop :=
  n ≤ 120 ∧ rw = nI n ∧ S 0 = 0 ∧ S 16 = n ∧ (∀ p, p < 16 → S p ≤ S (p + 1)) ∧ (∀ p, p ≤ 16 → st p = nI (S p)) ∧
  (∀ j, j < n → σ j < n ∧ mi j = nI (M (σ j)) ∧ va j = rv (σ j)) ∧
  (∀ k, k < n → rp k = nI (P k) ∧ P k < 16 ∧ rm k = nI (M k) ∧ M k ≤ 100000 ∧ -1000000 ≤ (rv k).toInt ∧ (rv k).toInt ≤ 1000000) ∧
  (∀ p j, p < 16 → S p ≤ j → j < S (p + 1) → P (σ j) = p) ∧
  (∀ k, k < n → ∃ j, S (P k) ≤ j ∧ j < S (P k + 1) ∧ σ j = k) ∧
  (∀ p i j, p < 16 → S p ≤ i → i < j → j < S (p + 1) → σ i < σ j ∧ M (σ i) < M (σ j)) ∧
  (∀ p, p < 16 → cntP P p n + S p = S (p + 1))
theorem mono16 {S : Nat → Nat} (h : ∀ p, p < 16 → S p ≤ S (p + 1)) : ∀ d p, p + d ≤ 16 → S p ≤ S (p + d) := by
  intro d
  induction d with
  | zero => intro p _; exact Nat.le_refl _
  | succ d ih => intro p hp; exact Nat.le_trans (ih p (by omega)) (h (p + d) (by omega))
theorem mono16' {S : Nat → Nat} (h : ∀ p, p < 16 → S p ≤ S (p + 1)) {a b : Nat} (hab : a ≤ b) (hb : b ≤ 16) : S a ≤ S b := by
  have := mono16 h (b - a) a (by omega)
  rwa [show a + (b - a) = b by omega] at this
-- the latest two of a set of rows
def St (Q : Nat → Prop) (v b : Int32) : Prop :=
  (v = -1 ∧ b = -1 ∧ ∀ i, ¬ Q i) ∨ (∃ i, v = nI i ∧ Q i ∧ (∀ i', Q i' → i' ≤ i) ∧ ((b = -1 ∧ ∀ i', Q i' → i' = i) ∨ (∃ h, h < i ∧ b = nI h ∧ Q h ∧ ∀ i', Q i' → i' = i ∨ i' ≤ h)))
theorem St_congr {Q Q' : Nat → Prop} {v b : Int32} (h : ∀ i, Q i ↔ Q' i) (hs : St Q v b) : St Q' v b := by
  have : Q = Q' := funext (fun i => propext (h i))
  rwa [← this]
theorem St_note {Q Q' : Nat → Prop} {v b : Int32} {k : Nat} (hs : St Q v b) (hk : ∀ i, Q i → i < k) (hQ : ∀ i, Q' i ↔ Q i ∨ i = k) : St Q' (nI k) v := by
  refine Or.inr ⟨k, rfl, (hQ k).mpr (Or.inr rfl), fun i' h => ?_, ?_⟩
  · rcases (hQ i').mp h with q | q
    · exact Nat.le_of_lt (hk i' q)
    · omega
  · rcases hs with ⟨h1, h2, h3⟩ | ⟨i, h1, h2, h3, h4⟩
    · refine Or.inl ⟨h1, fun i' h => ?_⟩
      rcases (hQ i').mp h with q | q
      · exact absurd q (h3 i')
      · exact q
    · refine Or.inr ⟨i, hk i h2, h1, (hQ i).mpr (Or.inl h2), fun i' h => ?_⟩
      rcases (hQ i').mp h with q | q
      · exact Or.inr (h3 i' q)
      · exact Or.inl q
-- rows of a point up to a minute
abbrev Qr (n : Nat) (P M : Nat → Nat) (p t : Nat) : Nat → Prop := fun i => i < n ∧ P i = p ∧ M i ≤ t
-- the reference's latest
theorem latest_loop {n : Nat} {S σ P M : Nat → Nat} {mi va st : Nat → Int32} {rw : Int32} {rp rm rv : Nat → Int32} {fu p t : Nat} (hI : IRows n S σ P M mi va st rw rp rm rv) (hp : p < 16) (ht : t ≤ 100000) :
    ∀ (f i : Nat) (v b : Int32), i ≤ n → n < f + i → St (fun x => Qr n P M p t x ∧ x < i) v b → ∃ v' b', L_Model_latest_5 fu rw rp rm (nI p) (nI t) f v (nI i) = some v' ∧ St (Qr n P M p t) v' b' := by
  obtain ⟨hn, rfl, -, -, -, -, -, hk, -⟩ := hI
  intro f
  induction f with
  | zero => intro i v b h1 h2; omega
  | succ f ih =>
    intro i v b h1 h2 hs
    rw [L_Model_latest_5]
    rcases Nat.lt_or_ge i n with h | h
    · obtain ⟨k1, k2, k3, k4, -⟩ := hk i h
      rw [if_neg (nI_ge h (by omega)), bd_nI (by omega) (by decide), nI_clamp (by omega), k1, k3, nI_1]
      have keep : ¬ (P i = p ∧ M i ≤ t) → St (fun x => Qr n P M p t x ∧ x < i + 1) v b := fun hx => St_congr (fun x => by
        constructor
        · intro q; exact ⟨q.1, by omega⟩
        · intro q
          refine ⟨q.1, ?_⟩
          rcases Nat.lt_or_ge x i with z | z
          · exact z
          · have : x = i := by omega
            subst this; exact absurd ⟨q.1.2.1, q.1.2.2⟩ hx) hs
      by_cases e1 : P i = p
      · rw [if_pos (by rw [e1]), bd_nI (by omega) (by decide)]
        rcases Nat.lt_or_ge t (M i) with e2 | e2
        · rw [if_pos (nI_lt e2 (by omega))]
          exact ih (i + 1) v b (by omega) (by omega) (keep (by omega))
        · rw [if_neg (nI_nlt e2 (by omega))]
          refine ih (i + 1) (nI i) v (by omega) (by omega) (St_note hs (fun x q => q.2) (fun x => ?_))
          constructor
          · intro q
            rcases Nat.lt_or_ge x i with z | z
            · exact Or.inl ⟨q.1, z⟩
            · exact Or.inr (by omega)
          · intro q
            rcases q with q | q
            · exact ⟨q.1, by omega⟩
            · subst q; exact ⟨⟨h, e1, e2⟩, by omega⟩
      · rw [if_neg (fun q => e1 ((nI_eq (by omega) (by omega)).mp q))]
        exact ih (i + 1) v b (by omega) (by omega) (keep (fun q => e1 q.1))
    · have : i = n := by omega
      subst this
      rw [if_pos (nI_le (Nat.le_refl i) (by omega))]
      exact ⟨v, b, rfl, St_congr (fun x => ⟨fun q => q.1, fun q => ⟨q, q.1⟩⟩) hs⟩
theorem latest_m {n : Nat} {S σ P M : Nat → Nat} {mi va st : Nat → Int32} {rw : Int32} {rp rm rv : Nat → Int32} {fu p t : Nat} (hI : IRows n S σ P M mi va st rw rp rm rv) (hp : p < 16) (ht : t ≤ 100000) (hfu : 121 ≤ fu) :
    ∃ v b, f_Model_latest fu rw rp rm (nI p) (nI t) = some v ∧ St (Qr n P M p t) v b := by
  have hn := hI.1
  exact latest_loop hI hp ht fu 0 (-1) (-1) (Nat.zero_le n) (by omega) (Or.inl ⟨rfl, rfl, fun i q => absurd q.2 (Nat.not_lt_zero i)⟩)
-- the reference's stand
abbrev StAll (n : Nat) (P M : Nat → Nat) (t : Nat) (la be : Nat → Int32) : Prop := ∀ p, p < 16 → St (Qr n P M p t) (la p) (be p)
theorem note_m {n : Nat} {S σ P M : Nat → Nat} {mi va st : Nat → Int32} {rw : Int32} {rp rm rv la be : Nat → Int32} {i : Nat} (hI : IRows n S σ P M mi va st rw rp rm rv) (hi : i < n) :
    f_Model_note rp la be (nI i) = some (upd la (P i) (nI i), upd be (P i) (la (P i))) := by
  obtain ⟨hn, -, -, -, -, -, -, hk, -⟩ := hI
  obtain ⟨k1, k2, -⟩ := hk i hi
  unfold f_Model_note
  rw [nI_clamp (by omega), k1, nI_clamp (by omega)]
  simp only [bd_nI (show i < 120 by omega) (show 120 < 2 ^ 31 by decide), bd_nI (show P i < 16 by omega) (show 16 < 2 ^ 31 by decide)]
theorem StAll_upd {Q Q' : Nat → Nat → Prop} {la be : Nat → Int32} {i q0 : Nat} (hq : ∀ p, p < 16 → St (Q p) (la p) (be p)) (h1 : ∀ p, p < 16 → p ≠ q0 → ∀ x, Q p x ↔ Q' p x) (h2 : ∀ x, Q q0 x → x < i) (h3 : ∀ x, Q' q0 x ↔ Q q0 x ∨ x = i) :
    ∀ p, p < 16 → St (Q' p) (upd la q0 (nI i) p) (upd be q0 (la q0) p) := by
  intro p hp
  by_cases e : p = q0
  · subst e
    rw [pk_us, pk_us]
    exact St_note (hq p hp) h2 h3
  · rw [pk_un e, pk_un e]
    exact St_congr (h1 p hp e) (hq p hp)
theorem stand_loop {n : Nat} {S σ P M : Nat → Nat} {mi va st : Nat → Int32} {rw : Int32} {rp rm rv : Nat → Int32} {fu t : Nat} (hI : IRows n S σ P M mi va st rw rp rm rv) (ht : t ≤ 100000) :
    ∀ (f i : Nat) (la be : Nat → Int32), i ≤ n → n < f + i → (∀ p, p < 16 → St (fun x => Qr n P M p t x ∧ x < i) (la p) (be p)) → ∃ la' be', L_Model_stand_30 fu rw rp rm (nI t) f (nI i) la be = some (la', be') ∧ StAll n P M t la' be' := by
  have hnote := fun i la be hi => note_m (la := la) (be := be) (i := i) hI hi
  obtain ⟨hn, rfl, -, -, -, -, -, hk, -⟩ := hI
  intro f
  induction f with
  | zero => intro i la be h1 h2; omega
  | succ f ih =>
    intro i la be h1 h2 hs
    rw [L_Model_stand_30]
    rcases Nat.lt_or_ge i n with h | h
    · obtain ⟨k1, k2, k3, k4, -⟩ := hk i h
      rw [if_neg (nI_ge h (by omega)), bd_nI (by omega) (by decide), nI_clamp (by omega), k3, nI_1]
      rcases Nat.lt_or_ge t (M i) with e2 | e2
      · rw [if_pos (nI_lt e2 (by omega))]
        refine ih (i + 1) la be (by omega) (by omega) (fun p hp => St_congr (fun x => ?_) (hs p hp))
        constructor
        · intro q; exact ⟨q.1, by omega⟩
        · intro q
          refine ⟨q.1, ?_⟩
          rcases Nat.lt_or_ge x i with z | z
          · exact z
          · have : x = i := by omega
            subst this; exact absurd q.1.2.2 (by omega)
      · rw [if_neg (nI_nlt e2 (by omega)), hnote i la be h]
        simp only [Option.bind_some]
        refine ih (i + 1) _ _ (by omega) (by omega) (StAll_upd hs (fun p hp hne x => ?_) (fun x q => q.2) (fun x => ?_))
        · constructor
          · intro q; exact ⟨q.1, by omega⟩
          · intro q
            refine ⟨q.1, ?_⟩
            rcases Nat.lt_or_ge x i with z | z
            · exact z
            · have : x = i := by omega
              subst this; exact absurd q.1.2.1.symm hne
        · constructor
          · intro q
            rcases Nat.lt_or_ge x i with z | z
            · exact Or.inl ⟨q.1, z⟩
            · exact Or.inr (by omega)
          · intro q
            rcases q with q | q
            · exact ⟨q.1, by omega⟩
            · subst q; exact ⟨⟨h, rfl, e2⟩, by omega⟩
    · have : i = n := by omega
      subst this
      rw [if_pos (nI_le (Nat.le_refl i) (by omega))]
      exact ⟨la, be, rfl, fun p hp => St_congr (fun x => ⟨fun q => q.1, fun q => ⟨q, q.1⟩⟩) (hs p hp)⟩
theorem stand0_loop {fu : Nat} {t : Int32} {k : (Nat → Int32) → (Nat → Int32) → Option ((Nat → Int32) × (Nat → Int32))} : ∀ (f i : Nat) (la be : Nat → Int32), i ≤ 16 → 16 < f + i → (∀ p, p < i → la p = -1 ∧ be p = -1) →
    ∃ la' be', L_Model_stand_2 fu t k f (nI i) la be = k la' be' ∧ ∀ p, p < 16 → la' p = -1 ∧ be' p = -1 := by
  intro f
  induction f with
  | zero => intro i la be h1 h2; omega
  | succ f ih =>
    intro i la be h1 h2 hs
    rw [L_Model_stand_2]
    rcases Nat.lt_or_ge i 16 with h | h
    · have e : ¬ (16 : Int32) ≤ nI i := nI_ge (b := 16) h (by decide)
      rw [if_neg e, bd_nI h (by decide), bd_nI h (by decide), nI_clamp (by omega), nI_1]
      refine ih (i + 1) _ _ (by omega) (by omega) (fun p hp => ?_)
      by_cases e2 : p = i
      · subst e2; rw [pk_us, pk_us]; exact ⟨rfl, rfl⟩
      · rw [pk_un e2, pk_un e2]; exact hs p (by omega)
    · have : i = 16 := by omega
      subst this
      rw [if_pos (by decide)]
      exact ⟨la, be, rfl, hs⟩
theorem stand_m {n : Nat} {S σ P M : Nat → Nat} {mi va st : Nat → Int32} {rw : Int32} {rp rm rv la be : Nat → Int32} {fu t : Nat} (hI : IRows n S σ P M mi va st rw rp rm rv) (ht : t ≤ 100000) (hfu : 121 ≤ fu) :
    ∃ la' be', f_Model_stand fu rw rp rm la be (nI t) = some (la', be') ∧ StAll n P M t la' be' := by
  have hn := hI.1
  obtain ⟨la0, be0, h1, h2⟩ := stand0_loop (fu := fu) (t := nI t) (k := fun (a : Nat → Int32) (b : Nat → Int32) => (L_Model_stand_30 fu rw rp rm (nI t) fu 0 a b)) fu 0 la be (by omega) (by omega) (fun p hp => absurd hp (Nat.not_lt_zero p))
  obtain ⟨la', be', h3, h4⟩ := stand_loop (fu := fu) hI ht fu 0 la0 be0 (Nat.zero_le n) (by omega) (fun p hp => Or.inl ⟨(h2 p hp).1, (h2 p hp).2, fun i q => absurd q.2 (Nat.not_lt_zero i)⟩)
  exact ⟨la', be', Eq.trans h1 h3, h4⟩
-- the class's look
def Low (S σ M : Nat → Nat) (t : Nat) (c : Nat → Nat) (se : Nat → Int32) : Prop := ∀ q, q < 16 → se q = nI (c q) ∧ S q + c q ≤ S (q + 1) ∧ ∀ j, S q ≤ j → j < S q + c q → M (σ j) ≤ t
def Seen (S σ M : Nat → Nat) (t : Nat) (c : Nat → Nat) (se : Nat → Int32) : Prop := Low S σ M t c se ∧ ∀ q, q < 16 → ∀ j, S q + c q ≤ j → j < S (q + 1) → t < M (σ j)
theorem adv_in {n : Nat} {S σ P M : Nat → Nat} {mi va st : Nat → Int32} {rw : Int32} {rp rm rv : Nat → Int32} {fu p t : Nat} {k : Int32 → Option (Nat → Int32)} (hI : IRows n S σ P M mi va st rw rp rm rv) (hp : p < 16) (ht : t ≤ 100000) :
    ∀ (f x : Nat), S p ≤ x → x ≤ S (p + 1) → S (p + 1) < f + x → (∀ j, S p ≤ j → j < x → M (σ j) ≤ t) →
    ∃ y, S p ≤ y ∧ y ≤ S (p + 1) ∧ (∀ j, S p ≤ j → j < y → M (σ j) ≤ t) ∧ (∀ j, y ≤ j → j < S (p + 1) → t < M (σ j)) ∧ L_Rows_advance_22 fu mi st (nI t) (nI p) k f (nI x) = k (nI y) := by
  obtain ⟨hn, -, h0, h16, hm, hst, hσ, hk, -, -, hinc, -⟩ := hI
  have hSn : S (p + 1) ≤ n := by rw [← h16]; exact mono16' hm (by omega) (by omega)
  intro f
  induction f with
  | zero => intro x h1 h2 h3; omega
  | succ f ih =>
    intro x h1 h2 h3 hlow
    rw [L_Rows_advance_22, nI_1, bd_nI (show p + 1 < 17 by omega) (by decide), nI_clamp (show p + 1 < 2 ^ 31 by omega), hst (p + 1) (by omega)]
    rcases Nat.lt_or_ge x (S (p + 1)) with h | h
    · obtain ⟨s1, s2, -⟩ := hσ x (by omega)
      obtain ⟨-, -, -, k4, -⟩ := hk (σ x) s1
      rw [if_neg (nI_ge h (by omega)), bd_nI (by omega) (by decide), nI_clamp (by omega), s2]
      rcases Nat.lt_or_ge t (M (σ x)) with e | e
      · rw [if_pos (nI_lt e (by omega))]
        refine ⟨x, h1, h2, hlow, fun j j1 j2 => ?_, rfl⟩
        rcases Nat.eq_or_lt_of_le j1 with q | q
        · subst q; exact e
        · exact Nat.lt_trans e (hinc p x j hp h1 q j2).2
      · rw [if_neg (nI_nlt e (by omega)), nI_1]
        refine ih (x + 1) (by omega) (by omega) (by omega) (fun j j1 j2 => ?_)
        rcases Nat.lt_or_ge j x with q | q
        · exact hlow j j1 q
        · have : j = x := by omega
          subst this; exact e
    · rw [if_pos (nI_le h (by omega))]
      exact ⟨x, h1, h2, hlow, fun j j1 j2 => absurd j2 (by omega), rfl⟩
theorem adv_out {n : Nat} {S σ P M : Nat → Nat} {mi va st : Nat → Int32} {rw : Int32} {rp rm rv : Nat → Int32} {fu t : Nat} (hI : IRows n S σ P M mi va st rw rp rm rv) (ht : t ≤ 100000) (hfu : 121 ≤ fu) :
    ∀ (f p : Nat) (c : Nat → Nat) (se : Nat → Int32), p ≤ 16 → 16 < f + p → Low S σ M t c se → (∀ q, q < p → ∀ j, S q + c q ≤ j → j < S (q + 1) → t < M (σ j)) →
    ∃ c' se', L_Rows_advance_2 fu mi st (nI t) f (nI p) se = some se' ∧ Seen S σ M t c' se' := by
  have hI' := hI
  obtain ⟨hn, -, h0, h16, hm, hst, -⟩ := hI
  have hSn : ∀ p, p ≤ 16 → S p ≤ n := fun p hp => by rw [← h16]; exact mono16' hm hp (by omega)
  intro f
  induction f with
  | zero => intro p c se h1 h2; omega
  | succ f ih =>
    intro p c se h1 h2 hL hH
    rw [L_Rows_advance_2]
    rcases Nat.lt_or_ge p 16 with h | h
    · have e : ¬ (16 : Int32) ≤ nI p := nI_ge (b := 16) h (by decide)
      obtain ⟨l1, l2, l3⟩ := hL p h
      have hSp := hSn p (by omega)
      have hSp1 := hSn (p + 1) (by omega)
      rw [if_neg e, bd_nI (by omega) (by decide), bd_nI h (by decide), nI_clamp (by omega), hst p (by omega), l1, nI_add]
      obtain ⟨y, y1, y2, y3, y4, y5⟩ := adv_in (fu := fu) (k := fun (l3_22x8 : Int32) => (bd (nI p) 17 (bd (nI p) 16 ((L_Rows_advance_2 fu mi st (nI t) f) (nI p + 1) (upd se p (l3_22x8 - nI (S p))))))) hI' h ht fu (S p + c p) (by omega) l2 (by omega) l3
      rw [y5]
      rw [bd_nI (by omega) (by decide), bd_nI h (by decide), nI_1, pk_sub y1]
      refine ih (p + 1) (fun q => if q = p then y - S p else c q) _ (by omega) (by omega) (fun q hq => ?_) (fun q hq => ?_)
      · by_cases e2 : q = p
        · subst e2
          simp only [if_pos]
          rw [pk_us]
          refine ⟨rfl, by omega, fun j j1 j2 => y3 j j1 (by omega)⟩
        · rw [pk_un e2]; simp only [if_neg e2]; exact hL q hq
      · by_cases e2 : q = p
        · subst e2
          simp only [if_pos]
          intro j j1 j2
          exact y4 j (by omega) j2
        · simp only [if_neg e2]; exact hH q (by omega)
    · have : p = 16 := by omega
      subst this
      rw [if_pos (by decide)]
      exact ⟨c, se, rfl, hL, hH⟩
theorem adv_c {n : Nat} {S σ P M : Nat → Nat} {mi va st : Nat → Int32} {rw : Int32} {rp rm rv : Nat → Int32} {fu t : Nat} {c : Nat → Nat} {se : Nat → Int32} (hI : IRows n S σ P M mi va st rw rp rm rv) (ht : t ≤ 100000) (hfu : 121 ≤ fu) (hL : Low S σ M t c se) :
    ∃ c' se', f_Rows_advance fu mi st se (nI t) = some se' ∧ Seen S σ M t c' se' := adv_out hI ht hfu fu 0 c se (by omega) (by omega) hL (fun q hq => absurd hq (Nat.not_lt_zero q))
theorem fill_loop {fu N : Nat} {x : Int32} (hN : N < 2 ^ 31) : ∀ (f i : Nat) (g : Nat → Int32), i ≤ N → N < f + i → (∀ j, j < i → g j = x) → ∃ g', L_java_util_Arrays_fill_5 fu N x (nI N) f (nI i) g = some g' ∧ ∀ j, j < N → g' j = x := by
  intro f
  induction f with
  | zero => intro i g h1 h2; omega
  | succ f ih =>
    intro i g h1 h2 hs
    rw [L_java_util_Arrays_fill_5]
    rcases Nat.lt_or_ge i N with h | h
    · rw [if_neg (nI_ge h (by omega)), bd_nI h hN, nI_clamp (by omega), nI_1]
      refine ih (i + 1) _ (by omega) (by omega) (fun p hp => ?_)
      by_cases e2 : p = i
      · subst e2; rw [pk_us]
      · rw [pk_un e2]; exact hs p (by omega)
    · have : i = N := by omega
      subst this
      rw [if_pos (nI_le (Nat.le_refl i) (by omega))]
      exact ⟨g, rfl, hs⟩
theorem rew_c {S σ M : Nat → Nat} {se : Nat → Int32} {fu t : Nat} (hm : ∀ p, p < 16 → S p ≤ S (p + 1)) (hfu : 121 ≤ fu) : ∃ se', f_Rows_rewind fu se = some se' ∧ Low S σ M t (fun _ => 0) se' := by
  obtain ⟨g, h1, h2⟩ := fill_loop (fu := fu) (N := 16) (x := 0) (by decide) fu 0 se (by omega) (by omega) (fun j hj => absurd hj (Nat.not_lt_zero j))
  refine ⟨g, ?_, fun q hq => ⟨h2 q hq, hm q hq, fun j j1 j2 => absurd (show j < S q + 0 from j2) (by omega)⟩⟩
  unfold f_Rows_rewind f_java_util_Arrays_fill
  have h3 : L_java_util_Arrays_fill_5 fu 16 0 (Int32.ofNat 16) fu 0 se = some g := h1
  rw [h3]
  rfl
