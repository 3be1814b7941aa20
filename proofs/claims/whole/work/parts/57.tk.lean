-- what the class's reader does with a word
theorem ot_eq {q k : Nat} {si : Nat → Int32} (hq : q < 6) (hs : si q = nI k) : f_RuleSet_openTest (nI q) si = some (nI (6 * q + k)) := by
  have e : nI q * 6 = nI (6 * q) := by rw [Nat.mul_comm]; exact pk_mul q 6
  unfold f_RuleSet_openTest
  rw [bd_nI hq (by decide), nI_clamp (by omega), hs, e, nI_add]
theorem tk2p {fu q k : Nat} {neg am : Int32} {le : Int64} {nm : Nat → Int64} {sp co si ki fi se nu : Nat → Int32} (hq : q < 6) (hs : si q = nI k) (hk : k < 6) : f_Reader_takes fu 2 neg 4 am le (nI q) nm sp co si ki fi se nu = some (1, 3, 0, nI q, nm, sp, co, si, ki, upd fi (6 * q + k) am, upd se (6 * q + k) (-1), nu) := by
  have b36 : ∀ {α : Type} (z : Option α), bd (nI (6 * q + k)) 36 z = z := fun z => bd_nI (by omega) (by decide)
  have ct : (nI (6 * q + k)).toNatClampNeg = 6 * q + k := nI_clamp (by omega)
  have b6 : ∀ {α : Type} (z : Option α), bd (nI q) 6 z = z := fun z => bd_nI (by omega) (by decide)
  have cq : (nI q).toNatClampNeg = q := nI_clamp (by omega)
  simp [f_Reader_takes, f_Reader_makeDue, zb_1, zb_0, f_Reader_takesTest, ot_eq hq hs, b36, ct]
theorem tk2w {fu q k : Nat} {neg kd am : Int32} {le : Int64} {nm : Nat → Int64} {sp co si ki fi se nu : Nat → Int32} (hq : q < 6) (hs : si q = nI k) (hk : k < 6) (h : kd = 16 ∨ kd = 17 ∨ kd = 18) : f_Reader_takes fu 2 neg kd am le (nI q) nm sp co si ki fi se nu = some (1, 8, 0, nI q, nm, sp, co, si, upd ki (6 * q + k) kd, fi, upd se (6 * q + k) (-1), nu) := by
  have b36 : ∀ {α : Type} (z : Option α), bd (nI (6 * q + k)) 36 z = z := fun z => bd_nI (by omega) (by decide)
  have ct : (nI (6 * q + k)).toNatClampNeg = 6 * q + k := nI_clamp (by omega)
  have b6 : ∀ {α : Type} (z : Option α), bd (nI q) 6 z = z := fun z => bd_nI (by omega) (by decide)
  have cq : (nI q).toNatClampNeg = q := nI_clamp (by omega)
  rcases h with rfl | rfl | rfl <;> simp [f_Reader_takes, f_Reader_makeDue, zb_1, zb_0, f_Reader_takesTest, ot_eq hq hs, b36, ct]
theorem tk2n {fu q k : Nat} {neg kd am : Int32} {le : Int64} {nm : Nat → Int64} {sp co si ki fi se nu : Nat → Int32} (hq : q < 6) (hs : si q = nI k) (hk : k < 6) (h4 : ¬ kd = 4) (h16 : ¬ kd = 16) (h17 : ¬ kd = 17) (h18 : ¬ kd = 18) : ∃ t, f_Reader_takes fu 2 neg kd am le (nI q) nm sp co si ki fi se nu = some (0, t) := by
  have b36 : ∀ {α : Type} (z : Option α), bd (nI (6 * q + k)) 36 z = z := fun z => bd_nI (by omega) (by decide)
  have ct : (nI (6 * q + k)).toNatClampNeg = 6 * q + k := nI_clamp (by omega)
  have b6 : ∀ {α : Type} (z : Option α), bd (nI q) 6 z = z := fun z => bd_nI (by omega) (by decide)
  have cq : (nI q).toNatClampNeg = q := nI_clamp (by omega)
  simp [f_Reader_takes, f_Reader_makeDue, zb_1, zb_0, f_Reader_takesTest, ot_eq hq hs, b36, ct, h4, h16, h17, h18]
theorem tk3m {fu q : Nat} {neg am : Int32} {le : Int64} {nm : Nat → Int64} {sp co si ki fi se nu : Nat → Int32} : f_Reader_takes fu 3 neg 8 am le (nI q) nm sp co si ki fi se nu = some (1, 4, neg, nI q, nm, sp, co, si, ki, fi, se, nu) := by
  simp [f_Reader_takes, f_Reader_makeDue, zb_1, zb_0]
theorem tk3r {fu q k : Nat} {neg kd am : Int32} {le : Int64} {nm : Nat → Int64} {sp co si ki fi se nu : Nat → Int32} (hq : q < 6) (hs : si q = nI k) (hk : k < 6) {r : Nat} (hr : r < 5) (h : kd = nI (11 + r)) : f_Reader_takes fu 3 neg kd am le (nI q) nm sp co si ki fi se nu = some (1, 6, neg, nI q, nm, sp, co, si, upd ki (6 * q + k) kd, fi, se, nu) := by
  have b36 : ∀ {α : Type} (z : Option α), bd (nI (6 * q + k)) 36 z = z := fun z => bd_nI (by omega) (by decide)
  have ct : (nI (6 * q + k)).toNatClampNeg = 6 * q + k := nI_clamp (by omega)
  have b6 : ∀ {α : Type} (z : Option α), bd (nI q) 6 z = z := fun z => bd_nI (by omega) (by decide)
  have cq : (nI q).toNatClampNeg = q := nI_clamp (by omega)
  have x1 : ¬ kd < 11 := by rw [h]; exact nI_nlt (b := 11) (by omega) (by omega)
  have x2 : ¬ 15 < kd := by rw [h]; exact nI_nlt (a := 15) (by omega) (by decide)
  have x3 : ¬ kd = 8 := by rw [h]; exact fun q => absurd ((nI_eq (b := 8) (by omega) (by decide)).mp q) (by omega)
  simp [f_Reader_takes, f_Reader_makeDue, zb_1, zb_0, f_Reader_takesRelation, ot_eq hq hs, b36, ct, x1, x2, x3]
theorem tk3n {fu q k : Nat} {neg kd am : Int32} {le : Int64} {nm : Nat → Int64} {sp co si ki fi se nu : Nat → Int32} (hq : q < 6) (hs : si q = nI k) (hk : k < 6) (h8 : ¬ kd = 8) (h : kd < 11 ∨ 15 < kd) : ∃ t, f_Reader_takes fu 3 neg kd am le (nI q) nm sp co si ki fi se nu = some (0, t) := by
  have b36 : ∀ {α : Type} (z : Option α), bd (nI (6 * q + k)) 36 z = z := fun z => bd_nI (by omega) (by decide)
  have ct : (nI (6 * q + k)).toNatClampNeg = 6 * q + k := nI_clamp (by omega)
  have b6 : ∀ {α : Type} (z : Option α), bd (nI q) 6 z = z := fun z => bd_nI (by omega) (by decide)
  have cq : (nI q).toNatClampNeg = q := nI_clamp (by omega)
  by_cases x1 : kd < 11
  · simp [f_Reader_takes, f_Reader_makeDue, zb_1, zb_0, f_Reader_takesRelation, ot_eq hq hs, b36, ct, x1, h8]
  · have x2 : 15 < kd := h.resolve_left x1
    simp [f_Reader_takes, f_Reader_makeDue, zb_1, zb_0, f_Reader_takesRelation, ot_eq hq hs, b36, ct, x1, x2, h8]
theorem tk5r {fu q k : Nat} {neg kd am : Int32} {le : Int64} {nm : Nat → Int64} {sp co si ki fi se nu : Nat → Int32} (hq : q < 6) (hs : si q = nI k) (hk : k < 6) {r : Nat} (hr : r < 5) (h : kd = nI (11 + r)) : f_Reader_takes fu 5 neg kd am le (nI q) nm sp co si ki fi se nu = some (1, 6, neg, nI q, nm, sp, co, si, upd ki (6 * q + k) kd, fi, se, nu) := by
  have b36 : ∀ {α : Type} (z : Option α), bd (nI (6 * q + k)) 36 z = z := fun z => bd_nI (by omega) (by decide)
  have ct : (nI (6 * q + k)).toNatClampNeg = 6 * q + k := nI_clamp (by omega)
  have b6 : ∀ {α : Type} (z : Option α), bd (nI q) 6 z = z := fun z => bd_nI (by omega) (by decide)
  have cq : (nI q).toNatClampNeg = q := nI_clamp (by omega)
  have x1 : ¬ kd < 11 := by rw [h]; exact nI_nlt (b := 11) (by omega) (by omega)
  have x2 : ¬ 15 < kd := by rw [h]; exact nI_nlt (a := 15) (by omega) (by decide)
  have x3 : ¬ kd = 8 := by rw [h]; exact fun q => absurd ((nI_eq (b := 8) (by omega) (by decide)).mp q) (by omega)
  simp [f_Reader_takes, f_Reader_makeDue, zb_1, zb_0, f_Reader_takesRelation, ot_eq hq hs, b36, ct, x1, x2, x3]
theorem tk5n {fu q k : Nat} {neg kd am : Int32} {le : Int64} {nm : Nat → Int64} {sp co si ki fi se nu : Nat → Int32} (hq : q < 6) (hs : si q = nI k) (hk : k < 6) (h8 : ¬ kd = 8) (h : kd < 11 ∨ 15 < kd) : ∃ t, f_Reader_takes fu 5 neg kd am le (nI q) nm sp co si ki fi se nu = some (0, t) := by
  have b36 : ∀ {α : Type} (z : Option α), bd (nI (6 * q + k)) 36 z = z := fun z => bd_nI (by omega) (by decide)
  have ct : (nI (6 * q + k)).toNatClampNeg = 6 * q + k := nI_clamp (by omega)
  have b6 : ∀ {α : Type} (z : Option α), bd (nI q) 6 z = z := fun z => bd_nI (by omega) (by decide)
  have cq : (nI q).toNatClampNeg = q := nI_clamp (by omega)
  by_cases x1 : kd < 11
  · simp [f_Reader_takes, f_Reader_makeDue, zb_1, zb_0, f_Reader_takesRelation, ot_eq hq hs, b36, ct, x1, h8]
  · have x2 : 15 < kd := h.resolve_left x1
    simp [f_Reader_takes, f_Reader_makeDue, zb_1, zb_0, f_Reader_takesRelation, ot_eq hq hs, b36, ct, x1, x2, h8]
theorem tk5n8 {fu q k : Nat} {neg am : Int32} {le : Int64} {nm : Nat → Int64} {sp co si ki fi se nu : Nat → Int32} (hq : q < 6) (hs : si q = nI k) (hk : k < 6) : ∃ t, f_Reader_takes fu 5 neg 8 am le (nI q) nm sp co si ki fi se nu = some (0, t) := by
  have b36 : ∀ {α : Type} (z : Option α), bd (nI (6 * q + k)) 36 z = z := fun z => bd_nI (by omega) (by decide)
  have ct : (nI (6 * q + k)).toNatClampNeg = 6 * q + k := nI_clamp (by omega)
  have b6 : ∀ {α : Type} (z : Option α), bd (nI q) 6 z = z := fun z => bd_nI (by omega) (by decide)
  have cq : (nI q).toNatClampNeg = q := nI_clamp (by omega)
  simp [f_Reader_takes, f_Reader_makeDue, zb_1, zb_0, f_Reader_takesRelation, ot_eq hq hs, b36, ct]
theorem tk4p {fu q k : Nat} {neg am : Int32} {le : Int64} {nm : Nat → Int64} {sp co si ki fi se nu : Nat → Int32} (hq : q < 6) (hs : si q = nI k) (hk : k < 6) : f_Reader_takes fu 4 neg 4 am le (nI q) nm sp co si ki fi se nu = some (1, 5, neg, nI q, nm, sp, co, si, ki, fi, upd se (6 * q + k) am, nu) := by
  have b36 : ∀ {α : Type} (z : Option α), bd (nI (6 * q + k)) 36 z = z := fun z => bd_nI (by omega) (by decide)
  have ct : (nI (6 * q + k)).toNatClampNeg = 6 * q + k := nI_clamp (by omega)
  have b6 : ∀ {α : Type} (z : Option α), bd (nI q) 6 z = z := fun z => bd_nI (by omega) (by decide)
  have cq : (nI q).toNatClampNeg = q := nI_clamp (by omega)
  simp [f_Reader_takes, f_Reader_makeDue, zb_1, zb_0, f_Reader_takesSecondPoint, ot_eq hq hs, b36, ct]
theorem tk4n {fu q k : Nat} {neg kd am : Int32} {le : Int64} {nm : Nat → Int64} {sp co si ki fi se nu : Nat → Int32} (hq : q < 6) (hs : si q = nI k) (hk : k < 6) (h4 : ¬ kd = 4) : ∃ t, f_Reader_takes fu 4 neg kd am le (nI q) nm sp co si ki fi se nu = some (0, t) := by
  have b36 : ∀ {α : Type} (z : Option α), bd (nI (6 * q + k)) 36 z = z := fun z => bd_nI (by omega) (by decide)
  have ct : (nI (6 * q + k)).toNatClampNeg = 6 * q + k := nI_clamp (by omega)
  have b6 : ∀ {α : Type} (z : Option α), bd (nI q) 6 z = z := fun z => bd_nI (by omega) (by decide)
  have cq : (nI q).toNatClampNeg = q := nI_clamp (by omega)
  simp [f_Reader_takes, f_Reader_makeDue, zb_1, zb_0, f_Reader_takesSecondPoint, ot_eq hq hs, b36, ct, h4]
theorem tk6m {fu q : Nat} {neg am : Int32} {le : Int64} {nm : Nat → Int64} {sp co si ki fi se nu : Nat → Int32} : f_Reader_takes fu 6 neg 8 am le (nI q) nm sp co si ki fi se nu = some (1, 7, 1, nI q, nm, sp, co, si, ki, fi, se, nu) := by
  simp [f_Reader_takes, f_Reader_makeDue, zb_1, zb_0, f_Reader_takesMinus]
theorem tk63 {fu q k : Nat} {am : Int32} {le : Int64} {nm : Nat → Int64} {sp co si ki fi se nu : Nat → Int32} (hq : q < 6) (hs : si q = nI k) (hk : k < 6) : f_Reader_takes fu 6 0 3 am le (nI q) nm sp co si ki fi se nu = some (1, 9, 0, nI q, nm, sp, co, upd si q (nI (k + 1)), ki, fi, se, upd nu (6 * q + k) am) := by
  have b36 : ∀ {α : Type} (z : Option α), bd (nI (6 * q + k)) 36 z = z := fun z => bd_nI (by omega) (by decide)
  have ct : (nI (6 * q + k)).toNatClampNeg = 6 * q + k := nI_clamp (by omega)
  have b6 : ∀ {α : Type} (z : Option α), bd (nI q) 6 z = z := fun z => bd_nI (by omega) (by decide)
  have cq : (nI q).toNatClampNeg = q := nI_clamp (by omega)
  simp [f_Reader_takes, f_Reader_makeDue, zb_1, zb_0, f_Reader_takesNumber, J_Reader_takesNumber_37, ot_eq hq hs, b36, ct, b6, cq, hs, nI_1]
theorem tk6n {fu q k : Nat} {neg kd am : Int32} {le : Int64} {nm : Nat → Int64} {sp co si ki fi se nu : Nat → Int32} (hq : q < 6) (hs : si q = nI k) (hk : k < 6) (h8 : ¬ kd = 8) (h3 : ¬ kd = 3) : ∃ t, f_Reader_takes fu 6 neg kd am le (nI q) nm sp co si ki fi se nu = some (0, t) := by
  have b36 : ∀ {α : Type} (z : Option α), bd (nI (6 * q + k)) 36 z = z := fun z => bd_nI (by omega) (by decide)
  have ct : (nI (6 * q + k)).toNatClampNeg = 6 * q + k := nI_clamp (by omega)
  have b6 : ∀ {α : Type} (z : Option α), bd (nI q) 6 z = z := fun z => bd_nI (by omega) (by decide)
  have cq : (nI q).toNatClampNeg = q := nI_clamp (by omega)
  simp [f_Reader_takes, f_Reader_makeDue, zb_1, zb_0, f_Reader_takesNumber, ot_eq hq hs, b36, ct, b6, cq, h8, h3]
theorem tk73 {fu q k : Nat} {am : Int32} {le : Int64} {nm : Nat → Int64} {sp co si ki fi se nu : Nat → Int32} (hq : q < 6) (hs : si q = nI k) (hk : k < 6) : f_Reader_takes fu 7 0 3 am le (nI q) nm sp co si ki fi se nu = some (1, 9, 0, nI q, nm, sp, co, upd si q (nI (k + 1)), ki, fi, se, upd nu (6 * q + k) am) := by
  have b36 : ∀ {α : Type} (z : Option α), bd (nI (6 * q + k)) 36 z = z := fun z => bd_nI (by omega) (by decide)
  have ct : (nI (6 * q + k)).toNatClampNeg = 6 * q + k := nI_clamp (by omega)
  have b6 : ∀ {α : Type} (z : Option α), bd (nI q) 6 z = z := fun z => bd_nI (by omega) (by decide)
  have cq : (nI q).toNatClampNeg = q := nI_clamp (by omega)
  simp [f_Reader_takes, f_Reader_makeDue, zb_1, zb_0, f_Reader_takesNumber, J_Reader_takesNumber_37, ot_eq hq hs, b36, ct, b6, cq, hs, nI_1]
theorem tk7n {fu q k : Nat} {neg kd am : Int32} {le : Int64} {nm : Nat → Int64} {sp co si ki fi se nu : Nat → Int32} (hq : q < 6) (hs : si q = nI k) (hk : k < 6) (h8 : ¬ kd = 8) (h3 : ¬ kd = 3) : ∃ t, f_Reader_takes fu 7 neg kd am le (nI q) nm sp co si ki fi se nu = some (0, t) := by
  have b36 : ∀ {α : Type} (z : Option α), bd (nI (6 * q + k)) 36 z = z := fun z => bd_nI (by omega) (by decide)
  have ct : (nI (6 * q + k)).toNatClampNeg = 6 * q + k := nI_clamp (by omega)
  have b6 : ∀ {α : Type} (z : Option α), bd (nI q) 6 z = z := fun z => bd_nI (by omega) (by decide)
  have cq : (nI q).toNatClampNeg = q := nI_clamp (by omega)
  simp [f_Reader_takes, f_Reader_makeDue, zb_1, zb_0, f_Reader_takesNumber, ot_eq hq hs, b36, ct, b6, cq, h8, h3]
theorem tk73m {fu q k : Nat} {am : Int32} {le : Int64} {nm : Nat → Int64} {sp co si ki fi se nu : Nat → Int32} (hq : q < 6) (hs : si q = nI k) (hk : k < 6) : f_Reader_takes fu 7 1 3 am le (nI q) nm sp co si ki fi se nu = some (1, 9, 1, nI q, nm, sp, co, upd si q (nI (k + 1)), ki, fi, se, upd nu (6 * q + k) (-am)) := by
  have b36 : ∀ {α : Type} (z : Option α), bd (nI (6 * q + k)) 36 z = z := fun z => bd_nI (by omega) (by decide)
  have ct : (nI (6 * q + k)).toNatClampNeg = 6 * q + k := nI_clamp (by omega)
  have b6 : ∀ {α : Type} (z : Option α), bd (nI q) 6 z = z := fun z => bd_nI (by omega) (by decide)
  have cq : (nI q).toNatClampNeg = q := nI_clamp (by omega)
  simp [f_Reader_takes, f_Reader_makeDue, zb_1, zb_0, f_Reader_takesNumber, J_Reader_takesNumber_37, ot_eq hq hs, b36, ct, b6, cq, hs, nI_1]
theorem tk7n8 {fu q k : Nat} {neg am : Int32} {le : Int64} {nm : Nat → Int64} {sp co si ki fi se nu : Nat → Int32} (hq : q < 6) (hs : si q = nI k) (hk : k < 6) : ∃ t, f_Reader_takes fu 7 neg 8 am le (nI q) nm sp co si ki fi se nu = some (0, t) := by
  have b36 : ∀ {α : Type} (z : Option α), bd (nI (6 * q + k)) 36 z = z := fun z => bd_nI (by omega) (by decide)
  have ct : (nI (6 * q + k)).toNatClampNeg = 6 * q + k := nI_clamp (by omega)
  have b6 : ∀ {α : Type} (z : Option α), bd (nI q) 6 z = z := fun z => bd_nI (by omega) (by decide)
  have cq : (nI q).toNatClampNeg = q := nI_clamp (by omega)
  simp [f_Reader_takes, f_Reader_makeDue, zb_1, zb_0, f_Reader_takesNumber, ot_eq hq hs, b36, ct, b6, cq]
theorem tk8p {fu q k : Nat} {neg am : Int32} {le : Int64} {nm : Nat → Int64} {sp co si ki fi se nu : Nat → Int32} (hq : q < 6) (hs : si q = nI k) (hk : k < 6) : f_Reader_takes fu 8 neg 4 am le (nI q) nm sp co si ki fi se nu = some (1, 7, neg, nI q, nm, sp, co, si, ki, upd fi (6 * q + k) am, se, nu) := by
  have b36 : ∀ {α : Type} (z : Option α), bd (nI (6 * q + k)) 36 z = z := fun z => bd_nI (by omega) (by decide)
  have ct : (nI (6 * q + k)).toNatClampNeg = 6 * q + k := nI_clamp (by omega)
  have b6 : ∀ {α : Type} (z : Option α), bd (nI q) 6 z = z := fun z => bd_nI (by omega) (by decide)
  have cq : (nI q).toNatClampNeg = q := nI_clamp (by omega)
  simp [f_Reader_takes, f_Reader_makeDue, zb_1, zb_0, f_Reader_takesWatchedPoint, ot_eq hq hs, b36, ct]
theorem tk8n {fu q k : Nat} {neg kd am : Int32} {le : Int64} {nm : Nat → Int64} {sp co si ki fi se nu : Nat → Int32} (hq : q < 6) (hs : si q = nI k) (hk : k < 6) (h4 : ¬ kd = 4) : ∃ t, f_Reader_takes fu 8 neg kd am le (nI q) nm sp co si ki fi se nu = some (0, t) := by
  have b36 : ∀ {α : Type} (z : Option α), bd (nI (6 * q + k)) 36 z = z := fun z => bd_nI (by omega) (by decide)
  have ct : (nI (6 * q + k)).toNatClampNeg = 6 * q + k := nI_clamp (by omega)
  have b6 : ∀ {α : Type} (z : Option α), bd (nI q) 6 z = z := fun z => bd_nI (by omega) (by decide)
  have cq : (nI q).toNatClampNeg = q := nI_clamp (by omega)
  simp [f_Reader_takes, f_Reader_makeDue, zb_1, zb_0, f_Reader_takesWatchedPoint, ot_eq hq hs, b36, ct, h4]
theorem tk9a {fu q k : Nat} {neg am : Int32} {le : Int64} {nm : Nat → Int64} {sp co si ki fi se nu : Nat → Int32} (hq : q < 6) (hs : si q = nI k) (hk : k < 6) : f_Reader_takes fu 9 neg 6 am le (nI q) nm sp co si ki fi se nu = some (1, 2, neg, nI q, nm, sp, co, si, ki, fi, se, nu) := by
  have b36 : ∀ {α : Type} (z : Option α), bd (nI (6 * q + k)) 36 z = z := fun z => bd_nI (by omega) (by decide)
  have ct : (nI (6 * q + k)).toNatClampNeg = 6 * q + k := nI_clamp (by omega)
  have b6 : ∀ {α : Type} (z : Option α), bd (nI q) 6 z = z := fun z => bd_nI (by omega) (by decide)
  have cq : (nI q).toNatClampNeg = q := nI_clamp (by omega)
  have x : ¬ (6 : Int32) ≤ nI k := nI_ge (b := 6) hk (by decide)
  simp [f_Reader_takes, f_Reader_makeDue, zb_1, zb_0, f_Reader_takesAndOrFor, b6, cq, hs, x]
theorem tk9f {fu q : Nat} {neg am : Int32} {le : Int64} {nm : Nat → Int64} {sp co si ki fi se nu : Nat → Int32} : f_Reader_takes fu 9 neg 9 am le (nI q) nm sp co si ki fi se nu = some (1, 10, neg, nI q, nm, sp, co, si, ki, fi, se, nu) := by
  simp [f_Reader_takes, f_Reader_makeDue, zb_1, zb_0, f_Reader_takesAndOrFor]
theorem tk9n {fu q : Nat} {neg kd am : Int32} {le : Int64} {nm : Nat → Int64} {sp co si ki fi se nu : Nat → Int32} (hq : q < 6) (h9 : ¬ kd = 9) (h6 : kd = 6 → si q = 6) : ∃ t, f_Reader_takes fu 9 neg kd am le (nI q) nm sp co si ki fi se nu = some (0, t) := by
  have b6 : ∀ {α : Type} (z : Option α), bd (nI q) 6 z = z := fun z => bd_nI (by omega) (by decide)
  have cq : (nI q).toNatClampNeg = q := nI_clamp (by omega)
  by_cases x : kd = 6
  · simp [f_Reader_takes, f_Reader_makeDue, zb_1, zb_0, f_Reader_takesAndOrFor, b6, cq, x, h6 x]
  · simp [f_Reader_takes, f_Reader_makeDue, zb_1, zb_0, f_Reader_takesAndOrFor, x, h9]
theorem tk10 {fu q : Nat} {neg kd am : Int32} {le : Int64} {nm : Nat → Int64} {sp co si ki fi se nu : Nat → Int32} (hq : q < 6) (h : f_Reader_isRuleNumber kd am = some 1) : f_Reader_takes fu 10 neg kd am le (nI q) nm sp co si ki fi se nu = some (1, 11, neg, nI q, nm, upd sp q am, co, si, ki, fi, se, nu) := by
  have b6 : ∀ {α : Type} (z : Option α), bd (nI q) 6 z = z := fun z => bd_nI (by omega) (by decide)
  have cq : (nI q).toNatClampNeg = q := nI_clamp (by omega)
  simp [f_Reader_takes, f_Reader_makeDue, zb_1, zb_0, f_Reader_takesSpan, b6, cq, h]
theorem tk10n {fu q : Nat} {neg kd am : Int32} {le : Int64} {nm : Nat → Int64} {sp co si ki fi se nu : Nat → Int32} (hq : q < 6) (h : f_Reader_isRuleNumber kd am = some 0) : ∃ t, f_Reader_takes fu 10 neg kd am le (nI q) nm sp co si ki fi se nu = some (0, t) := by
  have b6 : ∀ {α : Type} (z : Option α), bd (nI q) 6 z = z := fun z => bd_nI (by omega) (by decide)
  have cq : (nI q).toNatClampNeg = q := nI_clamp (by omega)
  simp [f_Reader_takes, f_Reader_makeDue, zb_1, zb_0, f_Reader_takesSpan, b6, cq, h]
theorem tk11 {fu q : Nat} {neg am : Int32} {le : Int64} {nm : Nat → Int64} {sp co si ki fi se nu : Nat → Int32} : f_Reader_takes fu 11 neg 10 am le (nI q) nm sp co si ki fi se nu = some (1, 12, neg, nI q, nm, sp, co, si, ki, fi, se, nu) := by
  simp [f_Reader_takes, f_Reader_makeDue, zb_1, zb_0]
theorem tk11n {fu q : Nat} {neg kd am : Int32} {le : Int64} {nm : Nat → Int64} {sp co si ki fi se nu : Nat → Int32} (h : ¬ kd = 10) : ∃ t, f_Reader_takes fu 11 neg kd am le (nI q) nm sp co si ki fi se nu = some (0, t) := by
  simp [f_Reader_takes, f_Reader_makeDue, zb_1, zb_0, h]
theorem tk12 {fu q : Nat} {neg kd am : Int32} {le : Int64} {nm : Nat → Int64} {sp co si ki fi se nu : Nat → Int32} (hq : q < 6) (h : f_Reader_isRuleNumber kd am = some 1) : f_Reader_takes fu 12 neg kd am le (nI q) nm sp co si ki fi se nu = some (1, 13, neg, nI q, nm, sp, upd co q am, si, ki, fi, se, nu) := by
  have b6 : ∀ {α : Type} (z : Option α), bd (nI q) 6 z = z := fun z => bd_nI (by omega) (by decide)
  have cq : (nI q).toNatClampNeg = q := nI_clamp (by omega)
  simp [f_Reader_takes, f_Reader_makeDue, zb_1, zb_0, f_Reader_takesCost, b6, cq, h]
theorem tk12n {fu q : Nat} {neg kd am : Int32} {le : Int64} {nm : Nat → Int64} {sp co si ki fi se nu : Nat → Int32} (hq : q < 6) (h : f_Reader_isRuleNumber kd am = some 0) : ∃ t, f_Reader_takes fu 12 neg kd am le (nI q) nm sp co si ki fi se nu = some (0, t) := by
  have b6 : ∀ {α : Type} (z : Option α), bd (nI q) 6 z = z := fun z => bd_nI (by omega) (by decide)
  have cq : (nI q).toNatClampNeg = q := nI_clamp (by omega)
  simp [f_Reader_takes, f_Reader_makeDue, zb_1, zb_0, f_Reader_takesCost, b6, cq, h]
theorem tk13 {fu q : Nat} {neg am : Int32} {le : Int64} {nm : Nat → Int64} {sp co si ki fi se nu : Nat → Int32} : f_Reader_takes fu 13 neg 7 am le (nI q) nm sp co si ki fi se nu = some (1, 0, neg, nI (q + 1), nm, sp, co, si, ki, fi, se, nu) := by
  simp [f_Reader_takes, f_Reader_makeDue, zb_1, zb_0, f_Reader_takesSemicolon, nI_1]
theorem tk13n {fu q : Nat} {neg kd am : Int32} {le : Int64} {nm : Nat → Int64} {sp co si ki fi se nu : Nat → Int32} (h : ¬ kd = 7) : ∃ t, f_Reader_takes fu 13 neg kd am le (nI q) nm sp co si ki fi se nu = some (0, t) := by
  simp [f_Reader_takes, f_Reader_makeDue, zb_1, zb_0, f_Reader_takesSemicolon, h]
theorem tk1 {fu q : Nat} {neg am : Int32} {le : Int64} {nm : Nat → Int64} {sp co si ki fi se nu : Nat → Int32} : f_Reader_takes fu 1 neg 5 am le (nI q) nm sp co si ki fi se nu = some (1, 2, neg, nI q, nm, sp, co, si, ki, fi, se, nu) := by
  simp [f_Reader_takes, f_Reader_makeDue, zb_1, zb_0]
theorem tk1n {fu q : Nat} {neg kd am : Int32} {le : Int64} {nm : Nat → Int64} {sp co si ki fi se nu : Nat → Int32} (h : ¬ kd = 5) : ∃ t, f_Reader_takes fu 1 neg kd am le (nI q) nm sp co si ki fi se nu = some (0, t) := by
  simp [f_Reader_takes, f_Reader_makeDue, zb_1, zb_0, h]
theorem tk0 {fu q : Nat} {neg am : Int32} {le : Int64} {nm : Nat → Int64} {sp co si ki fi se nu : Nat → Int32} (hq : q < 6) (h : f_RuleSet_hasName fu (nI q) nm le = some 0) : f_Reader_takes fu 0 neg 2 am le (nI q) nm sp co si ki fi se nu = some (1, 1, neg, nI q, vp_updL nm q le, sp, co, upd si q 0, ki, fi, se, nu) := by
  have b6 : ∀ {α : Type} (z : Option α), bd (nI q) 6 z = z := fun z => bd_nI (by omega) (by decide)
  have cq : (nI q).toNatClampNeg = q := nI_clamp (by omega)
  have x : ¬ (6 : Int32) ≤ nI q := nI_ge (b := 6) hq (by decide)
  simp [f_Reader_takes, f_Reader_makeDue, zb_1, zb_0, f_Reader_takesName, b6, cq, h, x]
theorem tk0n {fu q : Nat} {neg kd am : Int32} {le : Int64} {nm : Nat → Int64} {sp co si ki fi se nu : Nat → Int32} (h : ¬ kd = 2) : ∃ t, f_Reader_takes fu 0 neg kd am le (nI q) nm sp co si ki fi se nu = some (0, t) := by
  simp [f_Reader_takes, f_Reader_makeDue, zb_1, zb_0, f_Reader_takesName, h]
theorem tk0h {fu q : Nat} {neg am : Int32} {le : Int64} {nm : Nat → Int64} {sp co si ki fi se nu : Nat → Int32} (h : f_RuleSet_hasName fu (nI q) nm le = some 1) : ∃ t, f_Reader_takes fu 0 neg 2 am le (nI q) nm sp co si ki fi se nu = some (0, t) := by
  by_cases x : (6 : Int32) ≤ nI q
  · simp [f_Reader_takes, f_Reader_makeDue, zb_1, zb_0, f_Reader_takesName, x]
  · simp [f_Reader_takes, f_Reader_makeDue, zb_1, zb_0, f_Reader_takesName, x, h]
theorem tk06 {fu q : Nat} {neg kd am : Int32} {le : Int64} {nm : Nat → Int64} {sp co si ki fi se nu : Nat → Int32} : ∃ t, f_Reader_takes fu 0 neg kd am le 6 nm sp co si ki fi se nu = some (0, t) := by
  by_cases x : kd = 2
  · simp [f_Reader_takes, f_Reader_makeDue, zb_1, zb_0, f_Reader_takesName, x]
  · simp [f_Reader_takes, f_Reader_makeDue, zb_1, zb_0, f_Reader_takesName, x]
