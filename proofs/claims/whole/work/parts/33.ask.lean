-- what a run left behind, class and reference
def costN (cs mR mB mE : Nat → Int32) (k : Nat) : Int32 := ((mE k - mB k) + 1) * cs (mR k).toNatClampNeg
def sumN (g : Nat → Int32) : Nat → Int32
  | 0 => 0
  | n + 1 => sumN g n + g n
def orN (mR : Nat → Int32) : Nat → Int32
  | 0 => 0
  | n + 1 => orN mR n ||| ((1 : Int32) <<< (mR n &&& 31))
abbrev IRun (rc : Nat) (isT cnt tot fau : Int32) (mh fR fB fE fC : Nat → Int32) (ran fts : Int32) (cs hc mR mB mE od : Nat → Int32) : Prop :=
  (isT = 0 ∧ ran = 0) ∨ (isT = 1 ∧ ran = 1 ∧ ∃ nF : Nat, nF ≤ 726 ∧ cnt = nI nF ∧ fts = nI nF ∧ (∀ r, r < rc → mh r = hc r) ∧ (∀ k, k < nF → ∃ r, r < rc ∧ mR k = nI r) ∧
    (∀ k, k < nF → ∃ i, i < nF ∧ od k = nI i ∧ fR k = mR i ∧ fB k = mB i ∧ fE k = mE i ∧ fC k = costN cs mR mB mE i) ∧ tot = sumN (costN cs mR mB mE) nF ∧ fau = orN mR nF)
theorem st_held {rc : Nat} {isT cnt tot fau ran fts cx cm th0 p : Int32} {mh fR fB fE fC cs hc mR mB mE od : Nat → Int32} {out : Nat → Int64} (hrc : rc ≤ 6) (hcx : cx = nI rc) (hcm : cm = nI rc) (hI : IRun rc isT cnt tot fau mh fR fB fE fC ran fts cs hc mR mB mE od) :
    ∃ (k : Int32) (out' : Nat → Int64) (b : Int32), f_Law_held 1 isT mh cx out p = some (k, out') ∧ f_Model_held th0 cm ran hc p = some (b, k) ∧ (k = 0 → out' 0 = b.toInt64) := by
  subst hcx; subst hcm
  by_cases h1 : p < 0
  · refine ⟨1, out, 0, ?_, ?_, fun h => absurd h (by decide)⟩
    · simp [f_Law_held, f_FaultRules_held, h1]
    · simp [f_Model_held, h1]
  · obtain ⟨j, hj, rfl⟩ := nI_of h1
    rcases Nat.lt_or_ge j rc with h2 | h2
    · have h3 : nI j < nI rc := (nI_ltI hj (by omega)).mpr h2
      rcases hI with ⟨rfl, rfl⟩ | ⟨rfl, rfl, nF, -, -, -, hh, -⟩
      · refine ⟨2, out, 0, ?_, ?_, fun h => absurd h (by decide)⟩
        · simp [f_Law_held, f_FaultRules_held, h1, h3]
        · simp [f_Model_held, h1, h3]
      · refine ⟨0, vp_updL out 0 (mh j).toInt64, hc j, ?_, ?_, fun _ => ?_⟩
        · simp [f_Law_held, f_FaultRules_held, h1, h3]
          rw [bd_nI (by omega) (by decide), nI_clamp hj]
          simp [bd_01]
        · simp [f_Model_held, h1, h3]
          rw [bd_nI (by omega) (by decide), nI_clamp hj]
        · rw [← hh j h2]; exact pk_uLs
    · have h3 : ¬ nI j < nI rc := fun h => absurd ((nI_ltI hj (by omega)).mp h) (by omega)
      refine ⟨1, out, 0, ?_, ?_, fun h => absurd h (by decide)⟩
      · simp [f_Law_held, f_FaultRules_held, h1, h3]
      · simp [f_Model_held, h1, h3]
theorem costOf_ok {cs mR mB mE : Nat → Int32} {i r : Nat} (hi : i < 6000) (hr : r < 12) (h : mR i = nI r) : f_Model_costOf cs mR mB mE (nI i) = some (costN cs mR mB mE i) := by
  unfold f_Model_costOf f_Model_span costN
  rw [bd_nI hi (by decide), bd_nI hi (by decide)]
  simp only [Option.bind_some]
  rw [bd_nI hi (by decide), nI_clamp (by omega), h, bd_nI hr (by decide)]
theorem money_loop {fu : Nat} {th : Int32} {cs mR mB mE : Nat → Int32} {nF rc : Nat} (hn : nF ≤ 726) (hrc : rc ≤ 6) (hr : ∀ k, k < nF → ∃ r, r < rc ∧ mR k = nI r) : ∀ (f i : Nat), i ≤ nF → nF < f + i → L_Model_money_20 fu th 1 (nI nF) cs mR mB mE f (sumN (costN cs mR mB mE) i) (nI i) = some (sumN (costN cs mR mB mE) nF, th) := by
  intro f
  induction f with
  | zero => intro i h1 h2; omega
  | succ f ih =>
    intro i h1 h2
    show (if nI nF ≤ nI i then (some (sumN (costN cs mR mB mE) i, th)) else (if (1 : Int32) = 0 then (some (sumN (costN cs mR mB mE) i, th)) else ((f_Model_costOf cs mR mB mE (nI i)).bind (fun t_3 => (L_Model_money_20 fu th 1 (nI nF) cs mR mB mE f (sumN (costN cs mR mB mE) i + t_3) (nI i + 1)))))) = _
    rcases Nat.lt_or_ge i nF with h | h
    · have h3 : ¬ nI nF ≤ nI i := fun q => absurd ((nI_leI (by omega) (by omega)).mp q) (by omega)
      obtain ⟨r, g1, g2⟩ := hr i h
      rw [if_neg h3, if_neg (by decide), costOf_ok (by omega) (by omega) g2]
      simp only [Option.bind_some]
      rw [nI_1]
      exact ih (i + 1) (by omega) (by omega)
    · have : i = nF := by omega
      subst this
      rw [if_pos (nI_le (Nat.le_refl i) (by omega))]
theorem st_money {fu rc : Nat} {isT cnt tot fau ran fts th0 : Int32} {mh fR fB fE fC cs hc mR mB mE od : Nat → Int32} {out : Nat → Int64} (hfu : 1000 ≤ fu) (hrc : rc ≤ 6) (hI : IRun rc isT cnt tot fau mh fR fB fE fC ran fts cs hc mR mB mE od) :
    ∃ (k : Int32) (out' : Nat → Int64) (b : Int32), f_Law_money 1 isT tot out = some (k, out') ∧ f_Model_money fu th0 ran fts cs mR mB mE = some (b, k) ∧ (k = 0 → out' 0 = b.toInt64) := by
  rcases hI with ⟨rfl, rfl⟩ | ⟨rfl, rfl, nF, hn, rfl, rfl, -, hr, -, rfl, -⟩
  · refine ⟨1, out, 0, ?_, ?_, fun h => absurd h (by decide)⟩
    · simp [f_Law_money, f_FaultRules_money]
    · obtain ⟨f, rfl⟩ : ∃ f, fu = f + 1 := ⟨fu - 1, by omega⟩
      unfold f_Model_money J_Model_money_13
      rw [if_pos rfl]
      show (if fts ≤ 0 then (some (0, 1)) else (if (0 : Int32) = 0 then (some (0, 1)) else _)) = _
      by_cases h : fts ≤ 0
      · rw [if_pos h]
      · rw [if_neg h, if_pos rfl]
  · refine ⟨0, vp_updL out 0 (sumN (costN cs mR mB mE) nF).toInt64, sumN (costN cs mR mB mE) nF, ?_, ?_, fun _ => pk_uLs⟩
    · simp [f_Law_money, f_FaultRules_money, bd_01]
    · unfold f_Model_money J_Model_money_13
      rw [if_neg (by decide)]
      exact money_loop hn hrc hr fu 0 (Nat.zero_le nF) (by omega)
theorem st_fault {rc : Nat} {isT cnt tot fau ran fts th0 p q : Int32} {mh fR fB fE fC cs hc mR mB mE od : Nat → Int32} {out : Nat → Int64} (hrc : rc ≤ 6) (hI : IRun rc isT cnt tot fau mh fR fB fE fC ran fts cs hc mR mB mE od) :
    ∃ (k : Int32) (out' : Nat → Int64) (b : Int32), f_Law_fault 1 isT cnt fR fB fE fC out p q = some (k, out') ∧ f_Model_fault th0 ran fts cs mR mB mE od p q = some (b, k) ∧ (k = 0 → out' 0 = b.toInt64) := by
  by_cases h1 : p < 0
  · refine ⟨1, out, 0, ?_, ?_, fun h => absurd h (by decide)⟩
    · simp [f_Law_fault, f_FaultRules_fault, h1]
    · simp [f_Model_fault, h1, J_Model_fault_30]
  by_cases h2 : q < 0
  · refine ⟨1, out, 0, ?_, ?_, fun h => absurd h (by decide)⟩
    · simp [f_Law_fault, f_FaultRules_fault, h1, h2]
    · simp [f_Model_fault, h1, h2, J_Model_fault_30]
  by_cases h3 : q ≤ 3
  · rcases hI with ⟨rfl, rfl⟩ | ⟨rfl, rfl, nF, hn, rfl, rfl, -, hr, ho, -, -⟩
    · refine ⟨2, out, 0, ?_, ?_, fun h => absurd h (by decide)⟩
      · simp [f_Law_fault, f_FaultRules_fault, h1, h2, h3]
      · simp [f_Model_fault, h1, h2, h3, J_Model_fault_30]
    · obtain ⟨j, hj, rfl⟩ := nI_of h1
      rcases Nat.lt_or_ge j nF with h4 | h4
      · have h5 : ¬ nI nF ≤ nI j := fun h => absurd ((nI_leI (by omega) (by omega)).mp h) (by omega)
        have h6 : nI j < nI nF := (nI_ltI hj (by omega)).mpr h4
        obtain ⟨i, g1, g2, g3, g4, g5, g6⟩ := ho j h4
        obtain ⟨r, r1, r2⟩ := hr i g1
        have hcost := costOf_ok (cs := cs) (mB := mB) (mE := mE) (show i < 6000 by omega) (show r < 12 by omega) r2
        have ans : ∃ v : Int32, f_Run_part fR fB fE fC (nI j) q = some v ∧ J_Model_fault_30 0 (nI nF) cs mR mB mE od (nI j) q 0 = some (v, 0) := by
          unfold f_Run_part J_Model_fault_30
          rw [if_pos (show (0 : Int32) ≤ 0 by decide), if_pos h6, bd_nI (show j < 6000 by omega) (by decide), nI_clamp hj, g2]
          simp only [bd_nI (show j < 726 by omega) (show 726 < 2 ^ 31 by decide), bd_nI (show i < 6000 by omega) (show 6000 < 2 ^ 31 by decide), nI_clamp (show i < 2 ^ 31 by omega), hcost, Option.bind_some]
          by_cases q0 : q = 0
          · rw [if_pos q0, if_pos q0, g3]; exact ⟨_, rfl, rfl⟩
          · rw [if_neg q0, if_neg q0]
            by_cases q1 : q = 1
            · rw [if_pos q1, if_pos q1, g4]; exact ⟨_, rfl, rfl⟩
            · rw [if_neg q1, if_neg q1]
              by_cases q2 : q = 2
              · rw [if_pos q2, if_pos q2, g5]; exact ⟨_, rfl, rfl⟩
              · rw [if_neg q2, if_neg q2, g6]; exact ⟨_, rfl, rfl⟩
        obtain ⟨v, a1, a2⟩ := ans
        refine ⟨0, vp_updL out 0 v.toInt64, v, ?_, ?_, fun _ => pk_uLs⟩
        · simp [f_Law_fault, f_FaultRules_fault, h1, h2, h3, h5, a1, bd_01]
        · unfold f_Model_fault
          rw [if_neg h1, if_neg h2, if_pos h3, if_neg (by decide)]
          exact a2
      · have h5 : nI nF ≤ nI j := (nI_leI (by omega) hj).mpr h4
        have h6 : ¬ nI j < nI nF := fun h => absurd ((nI_ltI hj (by omega)).mp h) (by omega)
        refine ⟨0, vp_updL out 0 (-1 : Int32).toInt64, -1, ?_, ?_, fun _ => pk_uLs⟩
        · simp [f_Law_fault, f_FaultRules_fault, h1, h2, h3, h5, bd_01]
        · simp [f_Model_fault, h1, h2, h3, J_Model_fault_30, h6]
  · refine ⟨1, out, 0, ?_, ?_, fun h => absurd h (by decide)⟩
    · simp [f_Law_fault, f_FaultRules_fault, h1, h2, h3]
    · simp [f_Model_fault, h1, h2, h3, J_Model_fault_30]
