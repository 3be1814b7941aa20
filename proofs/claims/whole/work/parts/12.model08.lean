def f_Model_note (v_rowPoint : Nat → Int32) (v_last : Nat → Int32) (v_before : Nat → Int32) (p1 : Int32) : Option ((Nat → Int32) × (Nat → Int32)) :=
  (bd p1 120 (bd p1 120 (bd (v_rowPoint (p1 : Int32).toNatClampNeg) 16 (bd (v_rowPoint (p1 : Int32).toNatClampNeg) 16 (bd p1 120 (bd (v_rowPoint (p1 : Int32).toNatClampNeg) 16 (some (upd v_last (v_rowPoint (p1 : Int32).toNatClampNeg : Int32).toNatClampNeg p1, upd v_before (v_rowPoint (p1 : Int32).toNatClampNeg : Int32).toNatClampNeg (v_last (v_rowPoint (p1 : Int32).toNatClampNeg : Int32).toNatClampNeg)))))))))
theorem f_Model_note_u {v_rowPoint : Nat → Int32} {v_last : Nat → Int32} {v_before : Nat → Int32} {p1 : Int32} {t : (Nat → Int32) × (Nat → Int32)} (h : f_Model_note v_rowPoint v_last v_before p1 = some t) : (bd p1 120 (bd p1 120 (bd (v_rowPoint (p1 : Int32).toNatClampNeg) 16 (bd (v_rowPoint (p1 : Int32).toNatClampNeg) 16 (bd p1 120 (bd (v_rowPoint (p1 : Int32).toNatClampNeg) 16 (some (upd v_last (v_rowPoint (p1 : Int32).toNatClampNeg : Int32).toNatClampNeg p1, upd v_before (v_rowPoint (p1 : Int32).toNatClampNeg : Int32).toNatClampNeg (v_last (v_rowPoint (p1 : Int32).toNatClampNeg : Int32).toNatClampNeg))))))))) = some t := h
def L_Model_stand_2 (fu : Nat) (l1_2 : Int32) (k_28 : (Nat → Int32) → (Nat → Int32) → Option ((Nat → Int32) × (Nat → Int32))) : Nat → Int32 → (Nat → Int32) → (Nat → Int32) → Option ((Nat → Int32) × (Nat → Int32))
  | 0, _, _, _ => none
  | n + 1, l2_2, v_last_2, v_before_2 => (if 16 ≤ l2_2 then (k_28 v_last_2 v_before_2) else (bd l2_2 16 (bd l2_2 16 ((L_Model_stand_2 fu l1_2 k_28 n) (l2_2 + 1) (upd v_last_2 (l2_2 : Int32).toNatClampNeg ((-1))) (upd v_before_2 (l2_2 : Int32).toNatClampNeg ((-1)))))))
theorem L_Model_stand_2_z {fu : Nat} {l1_2 : Int32} {k_28 : (Nat → Int32) → (Nat → Int32) → Option ((Nat → Int32) × (Nat → Int32))} {l2_2 : Int32} {v_last_2 : Nat → Int32} {v_before_2 : Nat → Int32} {t : (Nat → Int32) × (Nat → Int32)} (h : L_Model_stand_2 fu l1_2 k_28 0 l2_2 v_last_2 v_before_2 = some t) : False := by cases (show (none : Option ((Nat → Int32) × (Nat → Int32))) = some t from h)
theorem L_Model_stand_2_u {fu : Nat} {l1_2 : Int32} {k_28 : (Nat → Int32) → (Nat → Int32) → Option ((Nat → Int32) × (Nat → Int32))} {n : Nat} {l2_2 : Int32} {v_last_2 : Nat → Int32} {v_before_2 : Nat → Int32} {t : (Nat → Int32) × (Nat → Int32)} (h : L_Model_stand_2 fu l1_2 k_28 (n + 1) l2_2 v_last_2 v_before_2 = some t) : (if 16 ≤ l2_2 then (k_28 v_last_2 v_before_2) else (bd l2_2 16 (bd l2_2 16 ((L_Model_stand_2 fu l1_2 k_28 n) (l2_2 + 1) (upd v_last_2 (l2_2 : Int32).toNatClampNeg ((-1))) (upd v_before_2 (l2_2 : Int32).toNatClampNeg ((-1))))))) = some t := h
def L_Model_stand_30 (fu : Nat) (v_rows : Int32) (v_rowPoint : Nat → Int32) (v_rowMinute : Nat → Int32) (l1_30 : Int32) : Nat → Int32 → (Nat → Int32) → (Nat → Int32) → Option ((Nat → Int32) × (Nat → Int32))
  | 0, _, _, _ => none
  | n + 1, l2_30, v_last_30, v_before_30 => (if v_rows ≤ l2_30 then (some (v_last_30, v_before_30)) else (bd l2_30 120 (if l1_30 < (v_rowMinute (l2_30 : Int32).toNatClampNeg) then ((L_Model_stand_30 fu v_rows v_rowPoint v_rowMinute l1_30 n) (l2_30 + 1) v_last_30 v_before_30) else ((f_Model_note v_rowPoint v_last_30 v_before_30 l2_30).bind (fun t_9 => ((L_Model_stand_30 fu v_rows v_rowPoint v_rowMinute l1_30 n) (l2_30 + 1) t_9.1 t_9.2))))))
theorem L_Model_stand_30_z {fu : Nat} {v_rows : Int32} {v_rowPoint : Nat → Int32} {v_rowMinute : Nat → Int32} {l1_30 : Int32} {l2_30 : Int32} {v_last_30 : Nat → Int32} {v_before_30 : Nat → Int32} {t : (Nat → Int32) × (Nat → Int32)} (h : L_Model_stand_30 fu v_rows v_rowPoint v_rowMinute l1_30 0 l2_30 v_last_30 v_before_30 = some t) : False := by cases (show (none : Option ((Nat → Int32) × (Nat → Int32))) = some t from h)
theorem L_Model_stand_30_u {fu : Nat} {v_rows : Int32} {v_rowPoint : Nat → Int32} {v_rowMinute : Nat → Int32} {l1_30 : Int32} {n : Nat} {l2_30 : Int32} {v_last_30 : Nat → Int32} {v_before_30 : Nat → Int32} {t : (Nat → Int32) × (Nat → Int32)} (h : L_Model_stand_30 fu v_rows v_rowPoint v_rowMinute l1_30 (n + 1) l2_30 v_last_30 v_before_30 = some t) : (if v_rows ≤ l2_30 then (some (v_last_30, v_before_30)) else (bd l2_30 120 (if l1_30 < (v_rowMinute (l2_30 : Int32).toNatClampNeg) then ((L_Model_stand_30 fu v_rows v_rowPoint v_rowMinute l1_30 n) (l2_30 + 1) v_last_30 v_before_30) else ((f_Model_note v_rowPoint v_last_30 v_before_30 l2_30).bind (fun t_9 => ((L_Model_stand_30 fu v_rows v_rowPoint v_rowMinute l1_30 n) (l2_30 + 1) t_9.1 t_9.2)))))) = some t := h
def f_Model_stand (fu : Nat) (v_rows : Int32) (v_rowPoint : Nat → Int32) (v_rowMinute : Nat → Int32) (v_last : Nat → Int32) (v_before : Nat → Int32) (p1 : Int32) : Option ((Nat → Int32) × (Nat → Int32)) :=
  (L_Model_stand_2 fu p1 (fun (v_last_2x4 : Nat → Int32) (v_before_2x5 : Nat → Int32) => (L_Model_stand_30 fu v_rows v_rowPoint v_rowMinute p1 fu 0 v_last_2x4 v_before_2x5)) fu 0 v_last v_before)
theorem f_Model_stand_u {fu : Nat} {v_rows : Int32} {v_rowPoint : Nat → Int32} {v_rowMinute : Nat → Int32} {v_last : Nat → Int32} {v_before : Nat → Int32} {p1 : Int32} {t : (Nat → Int32) × (Nat → Int32)} (h : f_Model_stand fu v_rows v_rowPoint v_rowMinute v_last v_before p1 = some t) : (L_Model_stand_2 fu p1 (fun (v_last_2x4 : Nat → Int32) (v_before_2x5 : Nat → Int32) => (L_Model_stand_30 fu v_rows v_rowPoint v_rowMinute p1 fu 0 v_last_2x4 v_before_2x5)) fu 0 v_last v_before) = some t := h
def f_Model_relates (p1 : Int32) (p2 : Int32) (p3 : Int32) : Option (Int32) :=
  (if p2 = 0 then (if p3 ≤ p1 then (some 0) else (some 1)) else (if p2 = 1 then (if p3 < p1 then (some 0) else (some 1)) else (if p2 = 2 then (if p1 = p3 then (some 1) else (some 0)) else (if p2 = 3 then (if p1 < p3 then (some 0) else (some 1)) else (if p1 ≤ p3 then (some 0) else (some 1))))))
theorem f_Model_relates_u {p1 : Int32} {p2 : Int32} {p3 : Int32} {t : Int32} (h : f_Model_relates p1 p2 p3 = some t) : (if p2 = 0 then (if p3 ≤ p1 then (some 0) else (some 1)) else (if p2 = 1 then (if p3 < p1 then (some 0) else (some 1)) else (if p2 = 2 then (if p1 = p3 then (some 1) else (some 0)) else (if p2 = 3 then (if p1 < p3 then (some 0) else (some 1)) else (if p1 ≤ p3 then (some 0) else (some 1)))))) = some t := h
def f_Model_isSo (v_rowMinute : Nat → Int32) (v_rowValue : Nat → Int32) (v_sorts : Nat → Int32) (v_firsts : Nat → Int32) (v_seconds : Nat → Int32) (v_relations : Nat → Int32) (v_numbers : Nat → Int32) (v_last : Nat → Int32) (v_before : Nat → Int32) (p1 : Int32) (p2 : Int32) : Option (Int32) :=
  (bd p1 72 (bd (v_firsts (p1 : Int32).toNatClampNeg) 16 (bd p1 72 (if (v_sorts (p1 : Int32).toNatClampNeg) = 4 then (if (v_last (v_firsts (p1 : Int32).toNatClampNeg : Int32).toNatClampNeg) < 0 then (some 1) else (bd (v_last (v_firsts (p1 : Int32).toNatClampNeg : Int32).toNatClampNeg) 120 (bd p1 72 (if (p2 - (v_rowMinute (v_last (v_firsts (p1 : Int32).toNatClampNeg : Int32).toNatClampNeg : Int32).toNatClampNeg)) ≤ (v_numbers (p1 : Int32).toNatClampNeg) then (some 0) else (some 1))))) else (if 0 ≤ (v_last (v_firsts (p1 : Int32).toNatClampNeg : Int32).toNatClampNeg) then (bd p1 72 (if (v_sorts (p1 : Int32).toNatClampNeg) = 2 then (bd (v_last (v_firsts (p1 : Int32).toNatClampNeg : Int32).toNatClampNeg) 120 (bd p1 72 (if (p2 - (v_rowMinute (v_last (v_firsts (p1 : Int32).toNatClampNeg : Int32).toNatClampNeg : Int32).toNatClampNeg)) < (v_numbers (p1 : Int32).toNatClampNeg) then (some 0) else (some 1)))) else (bd p1 72 (if (v_sorts (p1 : Int32).toNatClampNeg) = 3 then (bd p1 72 (bd (v_firsts (p1 : Int32).toNatClampNeg) 16 (if (v_before (v_firsts (p1 : Int32).toNatClampNeg : Int32).toNatClampNeg) < 0 then (some 0) else (bd (v_last (v_firsts (p1 : Int32).toNatClampNeg : Int32).toNatClampNeg) 120 (if (v_rowMinute (v_last (v_firsts (p1 : Int32).toNatClampNeg : Int32).toNatClampNeg : Int32).toNatClampNeg) = p2 then (bd (v_last (v_firsts (p1 : Int32).toNatClampNeg : Int32).toNatClampNeg) 120 (bd (v_before (v_firsts (p1 : Int32).toNatClampNeg : Int32).toNatClampNeg) 120 (bd p1 72 (if (v_numbers (p1 : Int32).toNatClampNeg) < ((v_rowValue (v_last (v_firsts (p1 : Int32).toNatClampNeg : Int32).toNatClampNeg : Int32).toNatClampNeg) - (v_rowValue (v_before (v_firsts (p1 : Int32).toNatClampNeg : Int32).toNatClampNeg : Int32).toNatClampNeg)) then (some 1) else (bd p1 72 (if (-((v_rowValue (v_last (v_firsts (p1 : Int32).toNatClampNeg : Int32).toNatClampNeg : Int32).toNatClampNeg) - (v_rowValue (v_before (v_firsts (p1 : Int32).toNatClampNeg : Int32).toNatClampNeg : Int32).toNatClampNeg))) ≤ (v_numbers (p1 : Int32).toNatClampNeg) then (some 0) else (some 1))))))) else (some 0)))))) else (bd (v_last (v_firsts (p1 : Int32).toNatClampNeg : Int32).toNatClampNeg) 120 (bd p1 72 (if (v_sorts (p1 : Int32).toNatClampNeg) = 1 then (bd p1 72 (bd (v_seconds (p1 : Int32).toNatClampNeg) 16 (if 0 ≤ (v_last (v_seconds (p1 : Int32).toNatClampNeg : Int32).toNatClampNeg) then (bd p1 72 (bd (v_seconds (p1 : Int32).toNatClampNeg) 16 (bd (v_last (v_seconds (p1 : Int32).toNatClampNeg : Int32).toNatClampNeg) 120 (bd p1 72 (bd p1 72 ((f_Model_relates ((v_rowValue (v_last (v_firsts (p1 : Int32).toNatClampNeg : Int32).toNatClampNeg : Int32).toNatClampNeg) - (v_rowValue (v_last (v_seconds (p1 : Int32).toNatClampNeg : Int32).toNatClampNeg : Int32).toNatClampNeg)) (v_relations (p1 : Int32).toNatClampNeg) (v_numbers (p1 : Int32).toNatClampNeg)).bind (fun t_25 => (zb t_25 (some t_25))))))))) else (some 0)))) else (bd p1 72 (bd p1 72 ((f_Model_relates (v_rowValue (v_last (v_firsts (p1 : Int32).toNatClampNeg : Int32).toNatClampNeg : Int32).toNatClampNeg) (v_relations (p1 : Int32).toNatClampNeg) (v_numbers (p1 : Int32).toNatClampNeg)).bind (fun t_15 => (zb t_15 (some t_15))))))))))))) else (some 0))))))
theorem f_Model_isSo_u {v_rowMinute : Nat → Int32} {v_rowValue : Nat → Int32} {v_sorts : Nat → Int32} {v_firsts : Nat → Int32} {v_seconds : Nat → Int32} {v_relations : Nat → Int32} {v_numbers : Nat → Int32} {v_last : Nat → Int32} {v_before : Nat → Int32} {p1 : Int32} {p2 : Int32} {t : Int32} (h : f_Model_isSo v_rowMinute v_rowValue v_sorts v_firsts v_seconds v_relations v_numbers v_last v_before p1 p2 = some t) : (bd p1 72 (bd (v_firsts (p1 : Int32).toNatClampNeg) 16 (bd p1 72 (if (v_sorts (p1 : Int32).toNatClampNeg) = 4 then (if (v_last (v_firsts (p1 : Int32).toNatClampNeg : Int32).toNatClampNeg) < 0 then (some 1) else (bd (v_last (v_firsts (p1 : Int32).toNatClampNeg : Int32).toNatClampNeg) 120 (bd p1 72 (if (p2 - (v_rowMinute (v_last (v_firsts (p1 : Int32).toNatClampNeg : Int32).toNatClampNeg : Int32).toNatClampNeg)) ≤ (v_numbers (p1 : Int32).toNatClampNeg) then (some 0) else (some 1))))) else (if 0 ≤ (v_last (v_firsts (p1 : Int32).toNatClampNeg : Int32).toNatClampNeg) then (bd p1 72 (if (v_sorts (p1 : Int32).toNatClampNeg) = 2 then (bd (v_last (v_firsts (p1 : Int32).toNatClampNeg : Int32).toNatClampNeg) 120 (bd p1 72 (if (p2 - (v_rowMinute (v_last (v_firsts (p1 : Int32).toNatClampNeg : Int32).toNatClampNeg : Int32).toNatClampNeg)) < (v_numbers (p1 : Int32).toNatClampNeg) then (some 0) else (some 1)))) else (bd p1 72 (if (v_sorts (p1 : Int32).toNatClampNeg) = 3 then (bd p1 72 (bd (v_firsts (p1 : Int32).toNatClampNeg) 16 (if (v_before (v_firsts (p1 : Int32).toNatClampNeg : Int32).toNatClampNeg) < 0 then (some 0) else (bd (v_last (v_firsts (p1 : Int32).toNatClampNeg : Int32).toNatClampNeg) 120 (if (v_rowMinute (v_last (v_firsts (p1 : Int32).toNatClampNeg : Int32).toNatClampNeg : Int32).toNatClampNeg) = p2 then (bd (v_last (v_firsts (p1 : Int32).toNatClampNeg : Int32).toNatClampNeg) 120 (bd (v_before (v_firsts (p1 : Int32).toNatClampNeg : Int32).toNatClampNeg) 120 (bd p1 72 (if (v_numbers (p1 : Int32).toNatClampNeg) < ((v_rowValue (v_last (v_firsts (p1 : Int32).toNatClampNeg : Int32).toNatClampNeg : Int32).toNatClampNeg) - (v_rowValue (v_before (v_firsts (p1 : Int32).toNatClampNeg : Int32).toNatClampNeg : Int32).toNatClampNeg)) then (some 1) else (bd p1 72 (if (-((v_rowValue (v_last (v_firsts (p1 : Int32).toNatClampNeg : Int32).toNatClampNeg : Int32).toNatClampNeg) - (v_rowValue (v_before (v_firsts (p1 : Int32).toNatClampNeg : Int32).toNatClampNeg : Int32).toNatClampNeg))) ≤ (v_numbers (p1 : Int32).toNatClampNeg) then (some 0) else (some 1))))))) else (some 0)))))) else (bd (v_last (v_firsts (p1 : Int32).toNatClampNeg : Int32).toNatClampNeg) 120 (bd p1 72 (if (v_sorts (p1 : Int32).toNatClampNeg) = 1 then (bd p1 72 (bd (v_seconds (p1 : Int32).toNatClampNeg) 16 (if 0 ≤ (v_last (v_seconds (p1 : Int32).toNatClampNeg : Int32).toNatClampNeg) then (bd p1 72 (bd (v_seconds (p1 : Int32).toNatClampNeg) 16 (bd (v_last (v_seconds (p1 : Int32).toNatClampNeg : Int32).toNatClampNeg) 120 (bd p1 72 (bd p1 72 ((f_Model_relates ((v_rowValue (v_last (v_firsts (p1 : Int32).toNatClampNeg : Int32).toNatClampNeg : Int32).toNatClampNeg) - (v_rowValue (v_last (v_seconds (p1 : Int32).toNatClampNeg : Int32).toNatClampNeg : Int32).toNatClampNeg)) (v_relations (p1 : Int32).toNatClampNeg) (v_numbers (p1 : Int32).toNatClampNeg)).bind (fun t_25 => (zb t_25 (some t_25))))))))) else (some 0)))) else (bd p1 72 (bd p1 72 ((f_Model_relates (v_rowValue (v_last (v_firsts (p1 : Int32).toNatClampNeg : Int32).toNatClampNeg : Int32).toNatClampNeg) (v_relations (p1 : Int32).toNatClampNeg) (v_numbers (p1 : Int32).toNatClampNeg)).bind (fun t_15 => (zb t_15 (some t_15))))))))))))) else (some 0)))))) = some t := h
def L_Model_areAll_8 (fu : Nat) (v_rowMinute : Nat → Int32) (v_rowValue : Nat → Int32) (v_testCounts : Nat → Int32) (v_sorts : Nat → Int32) (v_firsts : Nat → Int32) (v_seconds : Nat → Int32) (v_relations : Nat → Int32) (v_numbers : Nat → Int32) (v_last : Nat → Int32) (v_before : Nat → Int32) (l1_8 : Int32) (l2_8 : Int32) : Nat → Int32 → Int32 → Option (Int32)
  | 0, _, _ => none
  | n + 1, l3_8, l4_8 => (bd l1_8 12 (if ((6 * l1_8) + (v_testCounts (l1_8 : Int32).toNatClampNeg)) ≤ l4_8 then (zb l3_8 (some l3_8)) else (if l3_8 = 0 then ((L_Model_areAll_8 fu v_rowMinute v_rowValue v_testCounts v_sorts v_firsts v_seconds v_relations v_numbers v_last v_before l1_8 l2_8 n) 0 (l4_8 + 1)) else ((f_Model_isSo v_rowMinute v_rowValue v_sorts v_firsts v_seconds v_relations v_numbers v_last v_before l4_8 l2_8).bind (fun t_5 => (if t_5 = 0 then ((L_Model_areAll_8 fu v_rowMinute v_rowValue v_testCounts v_sorts v_firsts v_seconds v_relations v_numbers v_last v_before l1_8 l2_8 n) 0 (l4_8 + 1)) else ((L_Model_areAll_8 fu v_rowMinute v_rowValue v_testCounts v_sorts v_firsts v_seconds v_relations v_numbers v_last v_before l1_8 l2_8 n) 1 (l4_8 + 1))))))))
theorem L_Model_areAll_8_z {fu : Nat} {v_rowMinute : Nat → Int32} {v_rowValue : Nat → Int32} {v_testCounts : Nat → Int32} {v_sorts : Nat → Int32} {v_firsts : Nat → Int32} {v_seconds : Nat → Int32} {v_relations : Nat → Int32} {v_numbers : Nat → Int32} {v_last : Nat → Int32} {v_before : Nat → Int32} {l1_8 : Int32} {l2_8 : Int32} {l3_8 : Int32} {l4_8 : Int32} {t : Int32} (h : L_Model_areAll_8 fu v_rowMinute v_rowValue v_testCounts v_sorts v_firsts v_seconds v_relations v_numbers v_last v_before l1_8 l2_8 0 l3_8 l4_8 = some t) : False := by cases (show (none : Option (Int32)) = some t from h)
theorem L_Model_areAll_8_u {fu : Nat} {v_rowMinute : Nat → Int32} {v_rowValue : Nat → Int32} {v_testCounts : Nat → Int32} {v_sorts : Nat → Int32} {v_firsts : Nat → Int32} {v_seconds : Nat → Int32} {v_relations : Nat → Int32} {v_numbers : Nat → Int32} {v_last : Nat → Int32} {v_before : Nat → Int32} {l1_8 : Int32} {l2_8 : Int32} {n : Nat} {l3_8 : Int32} {l4_8 : Int32} {t : Int32} (h : L_Model_areAll_8 fu v_rowMinute v_rowValue v_testCounts v_sorts v_firsts v_seconds v_relations v_numbers v_last v_before l1_8 l2_8 (n + 1) l3_8 l4_8 = some t) : (bd l1_8 12 (if ((6 * l1_8) + (v_testCounts (l1_8 : Int32).toNatClampNeg)) ≤ l4_8 then (zb l3_8 (some l3_8)) else (if l3_8 = 0 then ((L_Model_areAll_8 fu v_rowMinute v_rowValue v_testCounts v_sorts v_firsts v_seconds v_relations v_numbers v_last v_before l1_8 l2_8 n) 0 (l4_8 + 1)) else ((f_Model_isSo v_rowMinute v_rowValue v_sorts v_firsts v_seconds v_relations v_numbers v_last v_before l4_8 l2_8).bind (fun t_5 => (if t_5 = 0 then ((L_Model_areAll_8 fu v_rowMinute v_rowValue v_testCounts v_sorts v_firsts v_seconds v_relations v_numbers v_last v_before l1_8 l2_8 n) 0 (l4_8 + 1)) else ((L_Model_areAll_8 fu v_rowMinute v_rowValue v_testCounts v_sorts v_firsts v_seconds v_relations v_numbers v_last v_before l1_8 l2_8 n) 1 (l4_8 + 1)))))))) = some t := h
def f_Model_areAll (fu : Nat) (v_rowMinute : Nat → Int32) (v_rowValue : Nat → Int32) (v_testCounts : Nat → Int32) (v_sorts : Nat → Int32) (v_firsts : Nat → Int32) (v_seconds : Nat → Int32) (v_relations : Nat → Int32) (v_numbers : Nat → Int32) (v_last : Nat → Int32) (v_before : Nat → Int32) (p1 : Int32) (p2 : Int32) : Option (Int32) :=
  (L_Model_areAll_8 fu v_rowMinute v_rowValue v_testCounts v_sorts v_firsts v_seconds v_relations v_numbers v_last v_before p1 p2 fu 1 (6 * p1))
theorem f_Model_areAll_u {fu : Nat} {v_rowMinute : Nat → Int32} {v_rowValue : Nat → Int32} {v_testCounts : Nat → Int32} {v_sorts : Nat → Int32} {v_firsts : Nat → Int32} {v_seconds : Nat → Int32} {v_relations : Nat → Int32} {v_numbers : Nat → Int32} {v_last : Nat → Int32} {v_before : Nat → Int32} {p1 : Int32} {p2 : Int32} {t : Int32} (h : f_Model_areAll fu v_rowMinute v_rowValue v_testCounts v_sorts v_firsts v_seconds v_relations v_numbers v_last v_before p1 p2 = some t) : (L_Model_areAll_8 fu v_rowMinute v_rowValue v_testCounts v_sorts v_firsts v_seconds v_relations v_numbers v_last v_before p1 p2 fu 1 (6 * p1)) = some t := h
def J_Model_holds_39 (fu : Nat) (v_thrown : Int32) (v_rows : Int32) (v_rowPoint : Nat → Int32) (v_rowMinute : Nat → Int32) (v_rowValue : Nat → Int32) (v_sorts : Nat → Int32) (v_firsts : Nat → Int32) (v_seconds : Nat → Int32) (v_relations : Nat → Int32) (v_numbers : Nat → Int32) (v_last : Nat → Int32) (v_before : Nat → Int32) (l1_j39 : Int32) (l2_j39 : Int32) (l3_j39 : Int32) (s1_j39 : Int32) : Option (Int32 × Int32 × (Nat → Int32) × (Nat → Int32)) :=
  (if s1_j39 ≤ 0 then ((f_Model_stand fu v_rows v_rowPoint v_rowMinute v_last v_before l3_j39).bind (fun t_2 => ((f_Model_isSo v_rowMinute v_rowValue v_sorts v_firsts v_seconds v_relations v_numbers t_2.1 t_2.2 ((6 * l1_j39) + l2_j39) l3_j39).bind (fun t_3 => (zb t_3 (some (t_3, s1_j39, t_2.1, t_2.2))))))) else (some (0, s1_j39, v_last, v_before)))
theorem J_Model_holds_39_u {fu : Nat} {v_thrown : Int32} {v_rows : Int32} {v_rowPoint : Nat → Int32} {v_rowMinute : Nat → Int32} {v_rowValue : Nat → Int32} {v_sorts : Nat → Int32} {v_firsts : Nat → Int32} {v_seconds : Nat → Int32} {v_relations : Nat → Int32} {v_numbers : Nat → Int32} {v_last : Nat → Int32} {v_before : Nat → Int32} {l1_j39 : Int32} {l2_j39 : Int32} {l3_j39 : Int32} {s1_j39 : Int32} {t : Int32 × Int32 × (Nat → Int32) × (Nat → Int32)} (h : J_Model_holds_39 fu v_thrown v_rows v_rowPoint v_rowMinute v_rowValue v_sorts v_firsts v_seconds v_relations v_numbers v_last v_before l1_j39 l2_j39 l3_j39 s1_j39 = some t) : (if s1_j39 ≤ 0 then ((f_Model_stand fu v_rows v_rowPoint v_rowMinute v_last v_before l3_j39).bind (fun t_2 => ((f_Model_isSo v_rowMinute v_rowValue v_sorts v_firsts v_seconds v_relations v_numbers t_2.1 t_2.2 ((6 * l1_j39) + l2_j39) l3_j39).bind (fun t_3 => (zb t_3 (some (t_3, s1_j39, t_2.1, t_2.2))))))) else (some (0, s1_j39, v_last, v_before))) = some t := h
def f_Model_holds (fu : Nat) (v_thrown : Int32) (v_rows : Int32) (v_ruleCount : Int32) (v_rowPoint : Nat → Int32) (v_rowMinute : Nat → Int32) (v_rowValue : Nat → Int32) (v_testCounts : Nat → Int32) (v_sorts : Nat → Int32) (v_firsts : Nat → Int32) (v_seconds : Nat → Int32) (v_relations : Nat → Int32) (v_numbers : Nat → Int32) (v_last : Nat → Int32) (v_before : Nat → Int32) (p1 : Int32) (p2 : Int32) (p3 : Int32) : Option (Int32 × Int32 × (Nat → Int32) × (Nat → Int32)) :=
  (if p1 < 0 then (J_Model_holds_39 fu v_thrown v_rows v_rowPoint v_rowMinute v_rowValue v_sorts v_firsts v_seconds v_relations v_numbers v_last v_before p1 p2 p3 1) else (if v_ruleCount ≤ p1 then (J_Model_holds_39 fu v_thrown v_rows v_rowPoint v_rowMinute v_rowValue v_sorts v_firsts v_seconds v_relations v_numbers v_last v_before p1 p2 p3 1) else (if p2 < 0 then (J_Model_holds_39 fu v_thrown v_rows v_rowPoint v_rowMinute v_rowValue v_sorts v_firsts v_seconds v_relations v_numbers v_last v_before p1 p2 p3 1) else (bd p1 12 (if (v_testCounts (p1 : Int32).toNatClampNeg) ≤ p2 then (J_Model_holds_39 fu v_thrown v_rows v_rowPoint v_rowMinute v_rowValue v_sorts v_firsts v_seconds v_relations v_numbers v_last v_before p1 p2 p3 1) else ((f_Model_isMinute p3).bind (fun t_10 => (if t_10 = 0 then (J_Model_holds_39 fu v_thrown v_rows v_rowPoint v_rowMinute v_rowValue v_sorts v_firsts v_seconds v_relations v_numbers v_last v_before p1 p2 p3 1) else (J_Model_holds_39 fu v_thrown v_rows v_rowPoint v_rowMinute v_rowValue v_sorts v_firsts v_seconds v_relations v_numbers v_last v_before p1 p2 p3 0)))))))))
theorem f_Model_holds_u {fu : Nat} {v_thrown : Int32} {v_rows : Int32} {v_ruleCount : Int32} {v_rowPoint : Nat → Int32} {v_rowMinute : Nat → Int32} {v_rowValue : Nat → Int32} {v_testCounts : Nat → Int32} {v_sorts : Nat → Int32} {v_firsts : Nat → Int32} {v_seconds : Nat → Int32} {v_relations : Nat → Int32} {v_numbers : Nat → Int32} {v_last : Nat → Int32} {v_before : Nat → Int32} {p1 : Int32} {p2 : Int32} {p3 : Int32} {t : Int32 × Int32 × (Nat → Int32) × (Nat → Int32)} (h : f_Model_holds fu v_thrown v_rows v_ruleCount v_rowPoint v_rowMinute v_rowValue v_testCounts v_sorts v_firsts v_seconds v_relations v_numbers v_last v_before p1 p2 p3 = some t) : (if p1 < 0 then (J_Model_holds_39 fu v_thrown v_rows v_rowPoint v_rowMinute v_rowValue v_sorts v_firsts v_seconds v_relations v_numbers v_last v_before p1 p2 p3 1) else (if v_ruleCount ≤ p1 then (J_Model_holds_39 fu v_thrown v_rows v_rowPoint v_rowMinute v_rowValue v_sorts v_firsts v_seconds v_relations v_numbers v_last v_before p1 p2 p3 1) else (if p2 < 0 then (J_Model_holds_39 fu v_thrown v_rows v_rowPoint v_rowMinute v_rowValue v_sorts v_firsts v_seconds v_relations v_numbers v_last v_before p1 p2 p3 1) else (bd p1 12 (if (v_testCounts (p1 : Int32).toNatClampNeg) ≤ p2 then (J_Model_holds_39 fu v_thrown v_rows v_rowPoint v_rowMinute v_rowValue v_sorts v_firsts v_seconds v_relations v_numbers v_last v_before p1 p2 p3 1) else ((f_Model_isMinute p3).bind (fun t_10 => (if t_10 = 0 then (J_Model_holds_39 fu v_thrown v_rows v_rowPoint v_rowMinute v_rowValue v_sorts v_firsts v_seconds v_relations v_numbers v_last v_before p1 p2 p3 1) else (J_Model_holds_39 fu v_thrown v_rows v_rowPoint v_rowMinute v_rowValue v_sorts v_firsts v_seconds v_relations v_numbers v_last v_before p1 p2 p3 0))))))))) = some t := h
def rm_Model_note : Room := { frames := 0, cells := 0, slots := 0, locals := 0 }
set_option maxHeartbeats 4000000 in
set_option maxRecDepth 100000 in
theorem c_Model_note (l : Launch) (dC : Nat → ClassId) (dI : Nat → Nat → Nat) (cI cL cC : ClassId) (h_this h_rowPoint h_rowMinute h_rowValue h_text h_kinds h_values h_names h_testCounts h_minutes h_costs h_sorts h_firsts h_seconds h_relations h_numbers h_last h_before h_heldCounts h_streaks h_faultRule h_faultBegin h_faultEnd h_order h_left h_brings : Nat) (sz : Nat) (v_thrown : Int32) (v_rows : Int32) (v_size : Int32) (v_words : Int32) (v_at : Int32) (v_ruleCount : Int32) (v_ran : Int32) (v_faults : Int32) (v_leftCount : Int32) (v_rowPoint : Nat → Int32) (v_last : Nat → Int32) (v_before : Nat → Int32) (p1 : Int32) (t : (Nat → Int32) × (Nat → Int32)) (hf : f_Model_note v_rowPoint v_last v_before p1 = some t) : Met l y_Model_note (Cond.code y_Model_note prog_9_method_31_code 2 none :: xT) rm_Model_note (va_Pc [.ref h_this, .int p1] (xP (dC, dI) (xTy cI cL cC) [(h_this, .inr (7, [.int v_thrown, .int v_rows, .ref h_rowPoint, .ref h_rowMinute, .ref h_rowValue, .ref h_text, .int v_size, .ref h_kinds, .ref h_values, .int v_words, .int v_at, .ref h_names, .ref h_testCounts, .ref h_minutes, .ref h_costs, .ref h_sorts, .ref h_firsts, .ref h_seconds, .ref h_relations, .ref h_numbers, .int v_ruleCount, .ref h_last, .ref h_before, .int v_ran, .ref h_heldCounts, .ref h_streaks, .int v_faults, .ref h_faultRule, .ref h_faultBegin, .ref h_faultEnd, .ref h_order, .ref h_left, .int v_leftCount, .ref h_brings])), (h_rowPoint, .inl (cI, 120, .inl v_rowPoint)), (h_last, .inl (cI, 16, .inl v_last)), (h_before, .inl (cI, 16, .inl v_before))] sz)) (xQ (dC, dI) [(h_this, .inr (7, [.int v_thrown, .int v_rows, .ref h_rowPoint, .ref h_rowMinute, .ref h_rowValue, .ref h_text, .int v_size, .ref h_kinds, .ref h_values, .int v_words, .int v_at, .ref h_names, .ref h_testCounts, .ref h_minutes, .ref h_costs, .ref h_sorts, .ref h_firsts, .ref h_seconds, .ref h_relations, .ref h_numbers, .int v_ruleCount, .ref h_last, .ref h_before, .int v_ran, .ref h_heldCounts, .ref h_streaks, .int v_faults, .ref h_faultRule, .ref h_faultBegin, .ref h_faultEnd, .ref h_order, .ref h_left, .int v_leftCount, .ref h_brings])), (h_rowPoint, .inl (cI, 120, .inl v_rowPoint)), (h_last, .inl (cI, 16, .inl t.1)), (h_before, .inl (cI, 16, .inl t.2))] (va_A [(h_this, .inr (7, [.int v_thrown, .int v_rows, .ref h_rowPoint, .ref h_rowMinute, .ref h_rowValue, .ref h_text, .int v_size, .ref h_kinds, .ref h_values, .int v_words, .int v_at, .ref h_names, .ref h_testCounts, .ref h_minutes, .ref h_costs, .ref h_sorts, .ref h_firsts, .ref h_seconds, .ref h_relations, .ref h_numbers, .int v_ruleCount, .ref h_last, .ref h_before, .int v_ran, .ref h_heldCounts, .ref h_streaks, .int v_faults, .ref h_faultRule, .ref h_faultBegin, .ref h_faultEnd, .ref h_order, .ref h_left, .int v_leftCount, .ref h_brings])), (h_rowPoint, .inl (cI, 120, .inl v_rowPoint)), (h_last, .inl (cI, 16, .inl v_last)), (h_before, .inl (cI, 16, .inl v_before))] sz) (none)) 0 0 (va_A [(h_this, .inr (7, [.int v_thrown, .int v_rows, .ref h_rowPoint, .ref h_rowMinute, .ref h_rowValue, .ref h_text, .int v_size, .ref h_kinds, .ref h_values, .int v_words, .int v_at, .ref h_names, .ref h_testCounts, .ref h_minutes, .ref h_costs, .ref h_sorts, .ref h_firsts, .ref h_seconds, .ref h_relations, .ref h_numbers, .int v_ruleCount, .ref h_last, .ref h_before, .int v_ran, .ref h_heldCounts, .ref h_streaks, .int v_faults, .ref h_faultRule, .ref h_faultBegin, .ref h_faultEnd, .ref h_order, .ref h_left, .int v_leftCount, .ref h_brings])), (h_rowPoint, .inl (cI, 120, .inl v_rowPoint)), (h_last, .inl (cI, 16, .inl v_last)), (h_before, .inl (cI, 16, .inl v_before))] sz) := by
  refine Met.ofW (cc := prog_9_method_31_code) (maxL := 2) (ret := none) (by decide) rfl ?_
  intro p e s m args below meth c s₁ B hml hv
  obtain ⟨hargs, hsz, hP, hK, hN, hD0⟩ := hv
  have hx := B.exec
  have hb := B.bytes
  have hr := B.returns
  have hT : ∀ w ∈ xT, w.before args s = true := fun w hw => atoms_spec (ws := Cond.code y_Model_note prog_9_method_31_code 2 none :: xT) B.pre w (List.mem_cons_of_mem _ hw)
  have hown : s.vm.findClass R_Model = some m.cls := findClass_of_methodNamed B.named
  have hlocks := B.notSynchronized
  subst hsz
  have hD := hD0.self (sz := s.heap.size)
  generalize hAe : va_A [(h_this, .inr (7, [.int v_thrown, .int v_rows, .ref h_rowPoint, .ref h_rowMinute, .ref h_rowValue, .ref h_text, .int v_size, .ref h_kinds, .ref h_values, .int v_words, .int v_at, .ref h_names, .ref h_testCounts, .ref h_minutes, .ref h_costs, .ref h_sorts, .ref h_firsts, .ref h_seconds, .ref h_relations, .ref h_numbers, .int v_ruleCount, .ref h_last, .ref h_before, .int v_ran, .ref h_heldCounts, .ref h_streaks, .int v_faults, .ref h_faultRule, .ref h_faultBegin, .ref h_faultEnd, .ref h_order, .ref h_left, .int v_leftCount, .ref h_brings])), (h_rowPoint, .inl (cI, 120, .inl v_rowPoint)), (h_last, .inl (cI, 16, .inl v_last)), (h_before, .inl (cI, 16, .inl v_before))] s.heap.size = A at hD ⊢
  have hA : ∀ q : Nat, s.heap.size ≤ q → A q := fun q h => by rw [← hAe]; exact Or.inr h
  have hS : va_S A s.heap s.heap [] := va_S.rf
  have hP : va_P (dC, dI) vwCl [(h_this, .inr (7, [.int v_thrown, .int v_rows, .ref h_rowPoint, .ref h_rowMinute, .ref h_rowValue, .ref h_text, .int v_size, .ref h_kinds, .ref h_values, .int v_words, .int v_at, .ref h_names, .ref h_testCounts, .ref h_minutes, .ref h_costs, .ref h_sorts, .ref h_firsts, .ref h_seconds, .ref h_relations, .ref h_numbers, .int v_ruleCount, .ref h_last, .ref h_before, .int v_ran, .ref h_heldCounts, .ref h_streaks, .int v_faults, .ref h_faultRule, .ref h_faultBegin, .ref h_faultEnd, .ref h_order, .ref h_left, .int v_leftCount, .ref h_brings])), (h_rowPoint, .inl (cI, 120, .inl v_rowPoint)), (h_last, .inl (cI, 16, .inl v_last)), (h_before, .inl (cI, 16, .inl v_before))] s.heap := hP
  have hl := lv_entry ([.ref h_this, .int p1]) (n := 2) (Nat.le_of_ble_eq_true rfl)
  rw [show entryFrame m args 2 = entryFrame m ([.ref h_this, .int p1] : List Value).toArray 2 from by rw [hargs], lg_entry_eq]
  generalize (lg_sl ([.ref h_this, .int p1]) ++ List.replicate (2 - (lg_sl ([.ref h_this, .int p1])).length) Slot.unset).toArray = ls at hl ⊢
  have hl : lv_has ls 2 [(0, .ref h_this), (1, .int p1)] := hl
  obtain ⟨Q, hQ⟩ : ∃ Q, Q = MQ below (xQ (dC, dI) [(h_this, .inr (7, [.int v_thrown, .int v_rows, .ref h_rowPoint, .ref h_rowMinute, .ref h_rowValue, .ref h_text, .int v_size, .ref h_kinds, .ref h_values, .int v_words, .int v_at, .ref h_names, .ref h_testCounts, .ref h_minutes, .ref h_costs, .ref h_sorts, .ref h_firsts, .ref h_seconds, .ref h_relations, .ref h_numbers, .int v_ruleCount, .ref h_last, .ref h_before, .int v_ran, .ref h_heldCounts, .ref h_streaks, .int v_faults, .ref h_faultRule, .ref h_faultBegin, .ref h_faultEnd, .ref h_order, .ref h_left, .int v_leftCount, .ref h_brings])), (h_rowPoint, .inl (cI, 120, .inl v_rowPoint)), (h_last, .inl (cI, 16, .inl t.1)), (h_before, .inl (cI, 16, .inl t.2))] A (none)) args s 0 0 A := ⟨_, rfl⟩
  rw [← hQ]
  show W p l e rm_Model_note s m args below meth c s.heap [] 0 0 Q _
  obtain ⟨H, hH⟩ : ∃ H, H = s.heap := ⟨_, rfl⟩
  obtain ⟨locs, hlocs⟩ : ∃ L : List Loc, L = [] := ⟨_, rfl⟩
  rw [← hlocs] at hS ⊢
  have hS : va_S A s.heap H locs := by rw [hH]; exact hS
  rw [← hH] at hP ⊢
  replace hf := f_Model_note_u hf
  refine lv_aload_n hx hb d_Model_note_0 rfl (lv_at hl 0 rfl) ?_
  refine va_get (D := (dC, dI)) (ci := 7) (v := .ref h_before) (C := R_Model) (T := T_Model) (N := 34) hx hb hT i_Model hown hK hP 0 rfl rfl 22 (by decide) (hT _ kF_Model_59) (fun _ h9 => h9) rfl d_Model_note_1 ?_
  refine lv_aload_n hx hb d_Model_note_4 rfl (lv_at hl 0 rfl) ?_
  refine va_get (D := (dC, dI)) (ci := 7) (v := .ref h_rowPoint) (C := R_Model) (T := T_Model) (N := 34) hx hb hT i_Model hown hK hP 0 rfl rfl 2 (by decide) (hT _ kF_Model_7) (fun _ h9 => h9) rfl d_Model_note_5 ?_
  refine lv_iload_n hx hb d_Model_note_8 rfl (lv_at hl 1 rfl) ?_
  obtain ⟨hi_1, hf⟩ := o_in hf
  refine va_iald hx hb hK hP 1 0 rfl rfl hi_1 d_Model_note_9 ?_
  refine lv_aload_n hx hb d_Model_note_10 rfl (lv_at hl 0 rfl) ?_
  refine va_get (D := (dC, dI)) (ci := 7) (v := .ref h_last) (C := R_Model) (T := T_Model) (N := 34) hx hb hT i_Model hown hK hP 0 rfl rfl 21 (by decide) (hT _ kF_Model_56) (fun _ h9 => h9) rfl d_Model_note_11 ?_
  refine lv_aload_n hx hb d_Model_note_14 rfl (lv_at hl 0 rfl) ?_
  refine va_get (D := (dC, dI)) (ci := 7) (v := .ref h_rowPoint) (C := R_Model) (T := T_Model) (N := 34) hx hb hT i_Model hown hK hP 0 rfl rfl 2 (by decide) (hT _ kF_Model_7) (fun _ h9 => h9) rfl d_Model_note_15 ?_
  refine lv_iload_n hx hb d_Model_note_18 rfl (lv_at hl 1 rfl) ?_
  obtain ⟨hi_2, hf⟩ := o_in hf
  refine va_iald hx hb hK hP 1 0 rfl rfl hi_2 d_Model_note_19 ?_
  obtain ⟨hi_3, hf⟩ := o_in hf
  refine va_iald hx hb hK hP 2 0 rfl rfl hi_3 d_Model_note_20 ?_
  obtain ⟨hi_4, hf⟩ := o_in hf
  refine va_iast hx hb hK hP hD hS 3 0 rfl rfl hi_4 d_Model_note_21 (fun H locs hP hD hS => ?_)
  have hP : va_P (dC, dI) vwCl [(h_this, .inr (7, [.int v_thrown, .int v_rows, .ref h_rowPoint, .ref h_rowMinute, .ref h_rowValue, .ref h_text, .int v_size, .ref h_kinds, .ref h_values, .int v_words, .int v_at, .ref h_names, .ref h_testCounts, .ref h_minutes, .ref h_costs, .ref h_sorts, .ref h_firsts, .ref h_seconds, .ref h_relations, .ref h_numbers, .int v_ruleCount, .ref h_last, .ref h_before, .int v_ran, .ref h_heldCounts, .ref h_streaks, .int v_faults, .ref h_faultRule, .ref h_faultBegin, .ref h_faultEnd, .ref h_order, .ref h_left, .int v_leftCount, .ref h_brings])), (h_rowPoint, .inl (cI, 120, .inl v_rowPoint)), (h_last, .inl (cI, 16, .inl v_last)), (h_before, .inl (cI, 16, .inl (upd v_before (v_rowPoint (p1 : Int32).toNatClampNeg : Int32).toNatClampNeg (v_last (v_rowPoint (p1 : Int32).toNatClampNeg : Int32).toNatClampNeg))))] H := hP
  have hD : va_D A [(h_this, .inr (7, [.int v_thrown, .int v_rows, .ref h_rowPoint, .ref h_rowMinute, .ref h_rowValue, .ref h_text, .int v_size, .ref h_kinds, .ref h_values, .int v_words, .int v_at, .ref h_names, .ref h_testCounts, .ref h_minutes, .ref h_costs, .ref h_sorts, .ref h_firsts, .ref h_seconds, .ref h_relations, .ref h_numbers, .int v_ruleCount, .ref h_last, .ref h_before, .int v_ran, .ref h_heldCounts, .ref h_streaks, .int v_faults, .ref h_faultRule, .ref h_faultBegin, .ref h_faultEnd, .ref h_order, .ref h_left, .int v_leftCount, .ref h_brings])), (h_rowPoint, .inl (cI, 120, .inl v_rowPoint)), (h_last, .inl (cI, 16, .inl v_last)), (h_before, .inl (cI, 16, .inl (upd v_before (v_rowPoint (p1 : Int32).toNatClampNeg : Int32).toNatClampNeg (v_last (v_rowPoint (p1 : Int32).toNatClampNeg : Int32).toNatClampNeg))))] := hD
  refine lv_aload_n hx hb d_Model_note_22 rfl (lv_at hl 0 rfl) ?_
  refine va_get (D := (dC, dI)) (ci := 7) (v := .ref h_last) (C := R_Model) (T := T_Model) (N := 34) hx hb hT i_Model hown hK hP 0 rfl rfl 21 (by decide) (hT _ kF_Model_56) (fun _ h9 => h9) rfl d_Model_note_23 ?_
  refine lv_aload_n hx hb d_Model_note_26 rfl (lv_at hl 0 rfl) ?_
  refine va_get (D := (dC, dI)) (ci := 7) (v := .ref h_rowPoint) (C := R_Model) (T := T_Model) (N := 34) hx hb hT i_Model hown hK hP 0 rfl rfl 2 (by decide) (hT _ kF_Model_7) (fun _ h9 => h9) rfl d_Model_note_27 ?_
  refine lv_iload_n hx hb d_Model_note_30 rfl (lv_at hl 1 rfl) ?_
  obtain ⟨hi_5, hf⟩ := o_in hf
  refine va_iald hx hb hK hP 1 0 rfl rfl hi_5 d_Model_note_31 ?_
  refine lv_iload_n hx hb d_Model_note_32 rfl (lv_at hl 1 rfl) ?_
  obtain ⟨hi_6, hf⟩ := o_in hf
  refine va_iast hx hb hK hP hD hS 2 0 rfl rfl hi_6 d_Model_note_33 (fun H locs hP hD hS => ?_)
  have hP : va_P (dC, dI) vwCl [(h_this, .inr (7, [.int v_thrown, .int v_rows, .ref h_rowPoint, .ref h_rowMinute, .ref h_rowValue, .ref h_text, .int v_size, .ref h_kinds, .ref h_values, .int v_words, .int v_at, .ref h_names, .ref h_testCounts, .ref h_minutes, .ref h_costs, .ref h_sorts, .ref h_firsts, .ref h_seconds, .ref h_relations, .ref h_numbers, .int v_ruleCount, .ref h_last, .ref h_before, .int v_ran, .ref h_heldCounts, .ref h_streaks, .int v_faults, .ref h_faultRule, .ref h_faultBegin, .ref h_faultEnd, .ref h_order, .ref h_left, .int v_leftCount, .ref h_brings])), (h_rowPoint, .inl (cI, 120, .inl v_rowPoint)), (h_last, .inl (cI, 16, .inl (upd v_last (v_rowPoint (p1 : Int32).toNatClampNeg : Int32).toNatClampNeg p1))), (h_before, .inl (cI, 16, .inl (upd v_before (v_rowPoint (p1 : Int32).toNatClampNeg : Int32).toNatClampNeg (v_last (v_rowPoint (p1 : Int32).toNatClampNeg : Int32).toNatClampNeg))))] H := hP
  have hD : va_D A [(h_this, .inr (7, [.int v_thrown, .int v_rows, .ref h_rowPoint, .ref h_rowMinute, .ref h_rowValue, .ref h_text, .int v_size, .ref h_kinds, .ref h_values, .int v_words, .int v_at, .ref h_names, .ref h_testCounts, .ref h_minutes, .ref h_costs, .ref h_sorts, .ref h_firsts, .ref h_seconds, .ref h_relations, .ref h_numbers, .int v_ruleCount, .ref h_last, .ref h_before, .int v_ran, .ref h_heldCounts, .ref h_streaks, .int v_faults, .ref h_faultRule, .ref h_faultBegin, .ref h_faultEnd, .ref h_order, .ref h_left, .int v_leftCount, .ref h_brings])), (h_rowPoint, .inl (cI, 120, .inl v_rowPoint)), (h_last, .inl (cI, 16, .inl (upd v_last (v_rowPoint (p1 : Int32).toNatClampNeg : Int32).toNatClampNeg p1))), (h_before, .inl (cI, 16, .inl (upd v_before (v_rowPoint (p1 : Int32).toNatClampNeg : Int32).toNatClampNeg (v_last (v_rowPoint (p1 : Int32).toNatClampNeg : Int32).toNatClampNeg))))] := hD
  rw [hQ, ← Option.some.inj hf]
  exact W.vret hx hb hr (fun t9 ht9 hW9 => ⟨rfl, by rw [ht9]; exact hP, hS.F ht9⟩) hS.2.2 d_Model_note_34
def rm_Model_stand : Room := { frames := 1, cells := 0, slots := 0, locals := 21 }
set_option maxHeartbeats 4000000 in
set_option maxRecDepth 100000 in
theorem c_Model_stand (l : Launch) (dC : Nat → ClassId) (dI : Nat → Nat → Nat) (cI cL cC : ClassId) (h_this h_rowPoint h_rowMinute h_rowValue h_text h_kinds h_values h_names h_testCounts h_minutes h_costs h_sorts h_firsts h_seconds h_relations h_numbers h_last h_before h_heldCounts h_streaks h_faultRule h_faultBegin h_faultEnd h_order h_left h_brings : Nat) (sz : Nat) (fu : Nat) (v_thrown : Int32) (v_rows : Int32) (v_size : Int32) (v_words : Int32) (v_at : Int32) (v_ruleCount : Int32) (v_ran : Int32) (v_faults : Int32) (v_leftCount : Int32) (v_rowPoint : Nat → Int32) (v_rowMinute : Nat → Int32) (v_last : Nat → Int32) (v_before : Nat → Int32) (p1 : Int32) (t : (Nat → Int32) × (Nat → Int32)) (hf : f_Model_stand fu v_rows v_rowPoint v_rowMinute v_last v_before p1 = some t) : Met l y_Model_stand (Cond.code y_Model_stand prog_9_method_30_code 3 none :: xT) rm_Model_stand (va_Pc [.ref h_this, .int p1] (xP (dC, dI) (xTy cI cL cC) [(h_this, .inr (7, [.int v_thrown, .int v_rows, .ref h_rowPoint, .ref h_rowMinute, .ref h_rowValue, .ref h_text, .int v_size, .ref h_kinds, .ref h_values, .int v_words, .int v_at, .ref h_names, .ref h_testCounts, .ref h_minutes, .ref h_costs, .ref h_sorts, .ref h_firsts, .ref h_seconds, .ref h_relations, .ref h_numbers, .int v_ruleCount, .ref h_last, .ref h_before, .int v_ran, .ref h_heldCounts, .ref h_streaks, .int v_faults, .ref h_faultRule, .ref h_faultBegin, .ref h_faultEnd, .ref h_order, .ref h_left, .int v_leftCount, .ref h_brings])), (h_rowPoint, .inl (cI, 120, .inl v_rowPoint)), (h_rowMinute, .inl (cI, 120, .inl v_rowMinute)), (h_last, .inl (cI, 16, .inl v_last)), (h_before, .inl (cI, 16, .inl v_before))] sz)) (xQ (dC, dI) [(h_this, .inr (7, [.int v_thrown, .int v_rows, .ref h_rowPoint, .ref h_rowMinute, .ref h_rowValue, .ref h_text, .int v_size, .ref h_kinds, .ref h_values, .int v_words, .int v_at, .ref h_names, .ref h_testCounts, .ref h_minutes, .ref h_costs, .ref h_sorts, .ref h_firsts, .ref h_seconds, .ref h_relations, .ref h_numbers, .int v_ruleCount, .ref h_last, .ref h_before, .int v_ran, .ref h_heldCounts, .ref h_streaks, .int v_faults, .ref h_faultRule, .ref h_faultBegin, .ref h_faultEnd, .ref h_order, .ref h_left, .int v_leftCount, .ref h_brings])), (h_rowPoint, .inl (cI, 120, .inl v_rowPoint)), (h_rowMinute, .inl (cI, 120, .inl v_rowMinute)), (h_last, .inl (cI, 16, .inl t.1)), (h_before, .inl (cI, 16, .inl t.2))] (va_A [(h_this, .inr (7, [.int v_thrown, .int v_rows, .ref h_rowPoint, .ref h_rowMinute, .ref h_rowValue, .ref h_text, .int v_size, .ref h_kinds, .ref h_values, .int v_words, .int v_at, .ref h_names, .ref h_testCounts, .ref h_minutes, .ref h_costs, .ref h_sorts, .ref h_firsts, .ref h_seconds, .ref h_relations, .ref h_numbers, .int v_ruleCount, .ref h_last, .ref h_before, .int v_ran, .ref h_heldCounts, .ref h_streaks, .int v_faults, .ref h_faultRule, .ref h_faultBegin, .ref h_faultEnd, .ref h_order, .ref h_left, .int v_leftCount, .ref h_brings])), (h_rowPoint, .inl (cI, 120, .inl v_rowPoint)), (h_rowMinute, .inl (cI, 120, .inl v_rowMinute)), (h_last, .inl (cI, 16, .inl v_last)), (h_before, .inl (cI, 16, .inl v_before))] sz) (none)) 0 0 (va_A [(h_this, .inr (7, [.int v_thrown, .int v_rows, .ref h_rowPoint, .ref h_rowMinute, .ref h_rowValue, .ref h_text, .int v_size, .ref h_kinds, .ref h_values, .int v_words, .int v_at, .ref h_names, .ref h_testCounts, .ref h_minutes, .ref h_costs, .ref h_sorts, .ref h_firsts, .ref h_seconds, .ref h_relations, .ref h_numbers, .int v_ruleCount, .ref h_last, .ref h_before, .int v_ran, .ref h_heldCounts, .ref h_streaks, .int v_faults, .ref h_faultRule, .ref h_faultBegin, .ref h_faultEnd, .ref h_order, .ref h_left, .int v_leftCount, .ref h_brings])), (h_rowPoint, .inl (cI, 120, .inl v_rowPoint)), (h_rowMinute, .inl (cI, 120, .inl v_rowMinute)), (h_last, .inl (cI, 16, .inl v_last)), (h_before, .inl (cI, 16, .inl v_before))] sz) := by
  refine Met.ofW (cc := prog_9_method_30_code) (maxL := 3) (ret := none) (by decide) rfl ?_
  intro p e s m args below meth c s₁ B hml hv
  obtain ⟨hargs, hsz, hP, hK, hN, hD0⟩ := hv
  have hx := B.exec
  have hb := B.bytes
  have hr := B.returns
  have hT : ∀ w ∈ xT, w.before args s = true := fun w hw => atoms_spec (ws := Cond.code y_Model_stand prog_9_method_30_code 3 none :: xT) B.pre w (List.mem_cons_of_mem _ hw)
  have hown : s.vm.findClass R_Model = some m.cls := findClass_of_methodNamed B.named
  have hlocks := B.notSynchronized
  subst hsz
  have hD := hD0.self (sz := s.heap.size)
  generalize hAe : va_A [(h_this, .inr (7, [.int v_thrown, .int v_rows, .ref h_rowPoint, .ref h_rowMinute, .ref h_rowValue, .ref h_text, .int v_size, .ref h_kinds, .ref h_values, .int v_words, .int v_at, .ref h_names, .ref h_testCounts, .ref h_minutes, .ref h_costs, .ref h_sorts, .ref h_firsts, .ref h_seconds, .ref h_relations, .ref h_numbers, .int v_ruleCount, .ref h_last, .ref h_before, .int v_ran, .ref h_heldCounts, .ref h_streaks, .int v_faults, .ref h_faultRule, .ref h_faultBegin, .ref h_faultEnd, .ref h_order, .ref h_left, .int v_leftCount, .ref h_brings])), (h_rowPoint, .inl (cI, 120, .inl v_rowPoint)), (h_rowMinute, .inl (cI, 120, .inl v_rowMinute)), (h_last, .inl (cI, 16, .inl v_last)), (h_before, .inl (cI, 16, .inl v_before))] s.heap.size = A at hD ⊢
  have hA : ∀ q : Nat, s.heap.size ≤ q → A q := fun q h => by rw [← hAe]; exact Or.inr h
  have hS : va_S A s.heap s.heap [] := va_S.rf
  have hP : va_P (dC, dI) vwCl [(h_this, .inr (7, [.int v_thrown, .int v_rows, .ref h_rowPoint, .ref h_rowMinute, .ref h_rowValue, .ref h_text, .int v_size, .ref h_kinds, .ref h_values, .int v_words, .int v_at, .ref h_names, .ref h_testCounts, .ref h_minutes, .ref h_costs, .ref h_sorts, .ref h_firsts, .ref h_seconds, .ref h_relations, .ref h_numbers, .int v_ruleCount, .ref h_last, .ref h_before, .int v_ran, .ref h_heldCounts, .ref h_streaks, .int v_faults, .ref h_faultRule, .ref h_faultBegin, .ref h_faultEnd, .ref h_order, .ref h_left, .int v_leftCount, .ref h_brings])), (h_rowPoint, .inl (cI, 120, .inl v_rowPoint)), (h_rowMinute, .inl (cI, 120, .inl v_rowMinute)), (h_last, .inl (cI, 16, .inl v_last)), (h_before, .inl (cI, 16, .inl v_before))] s.heap := hP
  have hl := lv_entry ([.ref h_this, .int p1]) (n := 3) (Nat.le_of_ble_eq_true rfl)
  rw [show entryFrame m args 3 = entryFrame m ([.ref h_this, .int p1] : List Value).toArray 3 from by rw [hargs], lg_entry_eq]
  generalize (lg_sl ([.ref h_this, .int p1]) ++ List.replicate (3 - (lg_sl ([.ref h_this, .int p1])).length) Slot.unset).toArray = ls at hl ⊢
  have hl : lv_has ls 3 [(0, .ref h_this), (1, .int p1)] := hl
  obtain ⟨Q, hQ⟩ : ∃ Q, Q = MQ below (xQ (dC, dI) [(h_this, .inr (7, [.int v_thrown, .int v_rows, .ref h_rowPoint, .ref h_rowMinute, .ref h_rowValue, .ref h_text, .int v_size, .ref h_kinds, .ref h_values, .int v_words, .int v_at, .ref h_names, .ref h_testCounts, .ref h_minutes, .ref h_costs, .ref h_sorts, .ref h_firsts, .ref h_seconds, .ref h_relations, .ref h_numbers, .int v_ruleCount, .ref h_last, .ref h_before, .int v_ran, .ref h_heldCounts, .ref h_streaks, .int v_faults, .ref h_faultRule, .ref h_faultBegin, .ref h_faultEnd, .ref h_order, .ref h_left, .int v_leftCount, .ref h_brings])), (h_rowPoint, .inl (cI, 120, .inl v_rowPoint)), (h_rowMinute, .inl (cI, 120, .inl v_rowMinute)), (h_last, .inl (cI, 16, .inl t.1)), (h_before, .inl (cI, 16, .inl t.2))] A (none)) args s 0 0 A := ⟨_, rfl⟩
  rw [← hQ]
  show W p l e rm_Model_stand s m args below meth c s.heap [] 0 0 Q _
  obtain ⟨H, hH⟩ : ∃ H, H = s.heap := ⟨_, rfl⟩
  obtain ⟨locs, hlocs⟩ : ∃ L : List Loc, L = [] := ⟨_, rfl⟩
  rw [← hlocs] at hS ⊢
  have hS : va_S A s.heap H locs := by rw [hH]; exact hS
  rw [← hH] at hP ⊢
  replace hf := f_Model_stand_u hf
  refine lv_iconst (v := 0) hx hb d_Model_stand_0 (by decide) ?_
  refine lv_istore_n (lv' := [(2, .int 0), (0, .ref h_this), (1, .int p1)]) hx hb d_Model_stand_1 rfl hl (by decide) rfl (fun ls hl => ?_)
  have lp_2 : ∀ (k_28 : (Nat → Int32) → (Nat → Int32) → Option ((Nat → Int32) × (Nat → Int32))) (hk_28 : ∀ (v_last_2e : Nat → Int32) (v_before_2e : Nat → Int32) (H : Heap) (locs : List Loc) (ls : Array Slot), k_28 v_last_2e v_before_2e = some t → va_P (dC, dI) vwCl [(h_this, .inr (7, [.int v_thrown, .int v_rows, .ref h_rowPoint, .ref h_rowMinute, .ref h_rowValue, .ref h_text, .int v_size, .ref h_kinds, .ref h_values, .int v_words, .int v_at, .ref h_names, .ref h_testCounts, .ref h_minutes, .ref h_costs, .ref h_sorts, .ref h_firsts, .ref h_seconds, .ref h_relations, .ref h_numbers, .int v_ruleCount, .ref h_last, .ref h_before, .int v_ran, .ref h_heldCounts, .ref h_streaks, .int v_faults, .ref h_faultRule, .ref h_faultBegin, .ref h_faultEnd, .ref h_order, .ref h_left, .int v_leftCount, .ref h_brings])), (h_rowPoint, .inl (cI, 120, .inl v_rowPoint)), (h_rowMinute, .inl (cI, 120, .inl v_rowMinute)), (h_last, .inl (cI, 16, .inl v_last_2e)), (h_before, .inl (cI, 16, .inl v_before_2e))] H → va_D A [(h_this, .inr (7, [.int v_thrown, .int v_rows, .ref h_rowPoint, .ref h_rowMinute, .ref h_rowValue, .ref h_text, .int v_size, .ref h_kinds, .ref h_values, .int v_words, .int v_at, .ref h_names, .ref h_testCounts, .ref h_minutes, .ref h_costs, .ref h_sorts, .ref h_firsts, .ref h_seconds, .ref h_relations, .ref h_numbers, .int v_ruleCount, .ref h_last, .ref h_before, .int v_ran, .ref h_heldCounts, .ref h_streaks, .int v_faults, .ref h_faultRule, .ref h_faultBegin, .ref h_faultEnd, .ref h_order, .ref h_left, .int v_leftCount, .ref h_brings])), (h_rowPoint, .inl (cI, 120, .inl v_rowPoint)), (h_rowMinute, .inl (cI, 120, .inl v_rowMinute)), (h_last, .inl (cI, 16, .inl v_last_2e)), (h_before, .inl (cI, 16, .inl v_before_2e))] → va_S A s.heap H locs → lv_has ls 3 [(0, .ref h_this), (1, .int p1)] → W p l e rm_Model_stand s m args below meth c H locs 0 0 Q (F0 m 28 ls [])), ∀ (n : Nat) (l2_2 : Int32) (v_last_2 : Nat → Int32) (v_before_2 : Nat → Int32) (H : Heap) (locs : List Loc) (ls : Array Slot), L_Model_stand_2 fu p1 k_28 n l2_2 v_last_2 v_before_2 = some t → va_P (dC, dI) vwCl [(h_this, .inr (7, [.int v_thrown, .int v_rows, .ref h_rowPoint, .ref h_rowMinute, .ref h_rowValue, .ref h_text, .int v_size, .ref h_kinds, .ref h_values, .int v_words, .int v_at, .ref h_names, .ref h_testCounts, .ref h_minutes, .ref h_costs, .ref h_sorts, .ref h_firsts, .ref h_seconds, .ref h_relations, .ref h_numbers, .int v_ruleCount, .ref h_last, .ref h_before, .int v_ran, .ref h_heldCounts, .ref h_streaks, .int v_faults, .ref h_faultRule, .ref h_faultBegin, .ref h_faultEnd, .ref h_order, .ref h_left, .int v_leftCount, .ref h_brings])), (h_rowPoint, .inl (cI, 120, .inl v_rowPoint)), (h_rowMinute, .inl (cI, 120, .inl v_rowMinute)), (h_last, .inl (cI, 16, .inl v_last_2)), (h_before, .inl (cI, 16, .inl v_before_2))] H → va_D A [(h_this, .inr (7, [.int v_thrown, .int v_rows, .ref h_rowPoint, .ref h_rowMinute, .ref h_rowValue, .ref h_text, .int v_size, .ref h_kinds, .ref h_values, .int v_words, .int v_at, .ref h_names, .ref h_testCounts, .ref h_minutes, .ref h_costs, .ref h_sorts, .ref h_firsts, .ref h_seconds, .ref h_relations, .ref h_numbers, .int v_ruleCount, .ref h_last, .ref h_before, .int v_ran, .ref h_heldCounts, .ref h_streaks, .int v_faults, .ref h_faultRule, .ref h_faultBegin, .ref h_faultEnd, .ref h_order, .ref h_left, .int v_leftCount, .ref h_brings])), (h_rowPoint, .inl (cI, 120, .inl v_rowPoint)), (h_rowMinute, .inl (cI, 120, .inl v_rowMinute)), (h_last, .inl (cI, 16, .inl v_last_2)), (h_before, .inl (cI, 16, .inl v_before_2))] → va_S A s.heap H locs → lv_has ls 3 [(0, .ref h_this), (1, .int p1), (2, .int l2_2)] → W p l e rm_Model_stand s m args below meth c H locs 0 0 Q (F0 m 2 ls []) := by
    intro k_28 hk_28 n
    induction n with
    | zero => intro l2_2 v_last_2 v_before_2 H locs ls hf; exact (L_Model_stand_2_z hf).elim
    | succ n ih =>
      intro l2_2 v_last_2 v_before_2 H locs ls hf hP hD hS hl
      replace hf := L_Model_stand_2_u hf
      refine lv_iload_n hx hb d_Model_stand_2 rfl (lv_at hl 2 rfl) ?_
      refine lv_bipush (v := 16) hx hb d_Model_stand_3 (by decide) ?_
      refine lv_icmp_ge (tgt := 28) hx hb d_Model_stand_5 (by decide) (fun c_1 => ?_) (fun c_1 => ?_)
      · replace hf := o_pos c_1 hf
        exact hk_28 v_last_2 v_before_2 H locs ls hf hP hD hS (lv_sub hl [0, 1] rfl)
      · replace hf := o_neg c_1 hf
        refine lv_aload_n hx hb d_Model_stand_8 rfl (lv_at hl 0 rfl) ?_
        refine va_get (D := (dC, dI)) (ci := 7) (v := .ref h_last) (C := R_Model) (T := T_Model) (N := 34) hx hb hT i_Model hown hK hP 0 rfl rfl 21 (by decide) (hT _ kF_Model_56) (fun _ h9 => h9) rfl d_Model_stand_9 ?_
        refine lv_iload_n hx hb d_Model_stand_12 rfl (lv_at hl 2 rfl) ?_
        refine lv_iconst (v := (-1)) hx hb d_Model_stand_13 (by decide) ?_
        obtain ⟨hi_2, hf⟩ := o_in hf
        refine va_iast hx hb hK hP hD hS 3 0 rfl rfl hi_2 d_Model_stand_14 (fun H locs hP hD hS => ?_)
        have hP : va_P (dC, dI) vwCl [(h_this, .inr (7, [.int v_thrown, .int v_rows, .ref h_rowPoint, .ref h_rowMinute, .ref h_rowValue, .ref h_text, .int v_size, .ref h_kinds, .ref h_values, .int v_words, .int v_at, .ref h_names, .ref h_testCounts, .ref h_minutes, .ref h_costs, .ref h_sorts, .ref h_firsts, .ref h_seconds, .ref h_relations, .ref h_numbers, .int v_ruleCount, .ref h_last, .ref h_before, .int v_ran, .ref h_heldCounts, .ref h_streaks, .int v_faults, .ref h_faultRule, .ref h_faultBegin, .ref h_faultEnd, .ref h_order, .ref h_left, .int v_leftCount, .ref h_brings])), (h_rowPoint, .inl (cI, 120, .inl v_rowPoint)), (h_rowMinute, .inl (cI, 120, .inl v_rowMinute)), (h_last, .inl (cI, 16, .inl (upd v_last_2 (l2_2 : Int32).toNatClampNeg ((-1))))), (h_before, .inl (cI, 16, .inl v_before_2))] H := hP
        have hD : va_D A [(h_this, .inr (7, [.int v_thrown, .int v_rows, .ref h_rowPoint, .ref h_rowMinute, .ref h_rowValue, .ref h_text, .int v_size, .ref h_kinds, .ref h_values, .int v_words, .int v_at, .ref h_names, .ref h_testCounts, .ref h_minutes, .ref h_costs, .ref h_sorts, .ref h_firsts, .ref h_seconds, .ref h_relations, .ref h_numbers, .int v_ruleCount, .ref h_last, .ref h_before, .int v_ran, .ref h_heldCounts, .ref h_streaks, .int v_faults, .ref h_faultRule, .ref h_faultBegin, .ref h_faultEnd, .ref h_order, .ref h_left, .int v_leftCount, .ref h_brings])), (h_rowPoint, .inl (cI, 120, .inl v_rowPoint)), (h_rowMinute, .inl (cI, 120, .inl v_rowMinute)), (h_last, .inl (cI, 16, .inl (upd v_last_2 (l2_2 : Int32).toNatClampNeg ((-1))))), (h_before, .inl (cI, 16, .inl v_before_2))] := hD
        refine lv_aload_n hx hb d_Model_stand_15 rfl (lv_at hl 0 rfl) ?_
        refine va_get (D := (dC, dI)) (ci := 7) (v := .ref h_before) (C := R_Model) (T := T_Model) (N := 34) hx hb hT i_Model hown hK hP 0 rfl rfl 22 (by decide) (hT _ kF_Model_59) (fun _ h9 => h9) rfl d_Model_stand_16 ?_
        refine lv_iload_n hx hb d_Model_stand_19 rfl (lv_at hl 2 rfl) ?_
        refine lv_iconst (v := (-1)) hx hb d_Model_stand_20 (by decide) ?_
        obtain ⟨hi_3, hf⟩ := o_in hf
        refine va_iast hx hb hK hP hD hS 4 0 rfl rfl hi_3 d_Model_stand_21 (fun H locs hP hD hS => ?_)
        have hP : va_P (dC, dI) vwCl [(h_this, .inr (7, [.int v_thrown, .int v_rows, .ref h_rowPoint, .ref h_rowMinute, .ref h_rowValue, .ref h_text, .int v_size, .ref h_kinds, .ref h_values, .int v_words, .int v_at, .ref h_names, .ref h_testCounts, .ref h_minutes, .ref h_costs, .ref h_sorts, .ref h_firsts, .ref h_seconds, .ref h_relations, .ref h_numbers, .int v_ruleCount, .ref h_last, .ref h_before, .int v_ran, .ref h_heldCounts, .ref h_streaks, .int v_faults, .ref h_faultRule, .ref h_faultBegin, .ref h_faultEnd, .ref h_order, .ref h_left, .int v_leftCount, .ref h_brings])), (h_rowPoint, .inl (cI, 120, .inl v_rowPoint)), (h_rowMinute, .inl (cI, 120, .inl v_rowMinute)), (h_last, .inl (cI, 16, .inl (upd v_last_2 (l2_2 : Int32).toNatClampNeg ((-1))))), (h_before, .inl (cI, 16, .inl (upd v_before_2 (l2_2 : Int32).toNatClampNeg ((-1)))))] H := hP
        have hD : va_D A [(h_this, .inr (7, [.int v_thrown, .int v_rows, .ref h_rowPoint, .ref h_rowMinute, .ref h_rowValue, .ref h_text, .int v_size, .ref h_kinds, .ref h_values, .int v_words, .int v_at, .ref h_names, .ref h_testCounts, .ref h_minutes, .ref h_costs, .ref h_sorts, .ref h_firsts, .ref h_seconds, .ref h_relations, .ref h_numbers, .int v_ruleCount, .ref h_last, .ref h_before, .int v_ran, .ref h_heldCounts, .ref h_streaks, .int v_faults, .ref h_faultRule, .ref h_faultBegin, .ref h_faultEnd, .ref h_order, .ref h_left, .int v_leftCount, .ref h_brings])), (h_rowPoint, .inl (cI, 120, .inl v_rowPoint)), (h_rowMinute, .inl (cI, 120, .inl v_rowMinute)), (h_last, .inl (cI, 16, .inl (upd v_last_2 (l2_2 : Int32).toNatClampNeg ((-1))))), (h_before, .inl (cI, 16, .inl (upd v_before_2 (l2_2 : Int32).toNatClampNeg ((-1)))))] := hD
        refine lv_iinc (v := l2_2 + 1) (lv' := [(2, .int (l2_2 + 1)), (0, .ref h_this), (1, .int p1)]) hx hb d_Model_stand_22 hl (k := 2) rfl rfl (by decide) rfl (fun ls hl => ?_)
        refine lv_goto (tgt := 2) hx hb d_Model_stand_25 (by decide) ?_
        exact ih (l2_2 + 1) (upd v_last_2 (l2_2 : Int32).toNatClampNeg ((-1))) (upd v_before_2 (l2_2 : Int32).toNatClampNeg ((-1))) H locs ls hf hP hD hS (lv_sub hl [1, 2, 0] rfl)
  refine lp_2 _ (fun v_last_2e v_before_2e H locs ls hf hP hD hS hl => ?_) fu 0 v_last v_before H locs ls hf hP hD hS (lv_sub hl [1, 2, 0] rfl)
  refine lv_iconst (v := 0) hx hb d_Model_stand_28 (by decide) ?_
  refine lv_istore_n (lv' := [(2, .int 0), (0, .ref h_this), (1, .int p1)]) hx hb d_Model_stand_29 rfl hl (by decide) rfl (fun ls hl => ?_)
  have lp_30 : ∀ (n : Nat) (l2_30 : Int32) (v_last_30 : Nat → Int32) (v_before_30 : Nat → Int32) (H : Heap) (locs : List Loc) (ls : Array Slot), L_Model_stand_30 fu v_rows v_rowPoint v_rowMinute p1 n l2_30 v_last_30 v_before_30 = some t → va_P (dC, dI) vwCl [(h_this, .inr (7, [.int v_thrown, .int v_rows, .ref h_rowPoint, .ref h_rowMinute, .ref h_rowValue, .ref h_text, .int v_size, .ref h_kinds, .ref h_values, .int v_words, .int v_at, .ref h_names, .ref h_testCounts, .ref h_minutes, .ref h_costs, .ref h_sorts, .ref h_firsts, .ref h_seconds, .ref h_relations, .ref h_numbers, .int v_ruleCount, .ref h_last, .ref h_before, .int v_ran, .ref h_heldCounts, .ref h_streaks, .int v_faults, .ref h_faultRule, .ref h_faultBegin, .ref h_faultEnd, .ref h_order, .ref h_left, .int v_leftCount, .ref h_brings])), (h_rowPoint, .inl (cI, 120, .inl v_rowPoint)), (h_rowMinute, .inl (cI, 120, .inl v_rowMinute)), (h_last, .inl (cI, 16, .inl v_last_30)), (h_before, .inl (cI, 16, .inl v_before_30))] H → va_D A [(h_this, .inr (7, [.int v_thrown, .int v_rows, .ref h_rowPoint, .ref h_rowMinute, .ref h_rowValue, .ref h_text, .int v_size, .ref h_kinds, .ref h_values, .int v_words, .int v_at, .ref h_names, .ref h_testCounts, .ref h_minutes, .ref h_costs, .ref h_sorts, .ref h_firsts, .ref h_seconds, .ref h_relations, .ref h_numbers, .int v_ruleCount, .ref h_last, .ref h_before, .int v_ran, .ref h_heldCounts, .ref h_streaks, .int v_faults, .ref h_faultRule, .ref h_faultBegin, .ref h_faultEnd, .ref h_order, .ref h_left, .int v_leftCount, .ref h_brings])), (h_rowPoint, .inl (cI, 120, .inl v_rowPoint)), (h_rowMinute, .inl (cI, 120, .inl v_rowMinute)), (h_last, .inl (cI, 16, .inl v_last_30)), (h_before, .inl (cI, 16, .inl v_before_30))] → va_S A s.heap H locs → lv_has ls 3 [(0, .ref h_this), (1, .int p1), (2, .int l2_30)] → W p l e rm_Model_stand s m args below meth c H locs 0 0 Q (F0 m 30 ls []) := by
    intro  n
    induction n with
    | zero => intro l2_30 v_last_30 v_before_30 H locs ls hf; exact (L_Model_stand_30_z hf).elim
    | succ n ih =>
      intro l2_30 v_last_30 v_before_30 H locs ls hf hP hD hS hl
      replace hf := L_Model_stand_30_u hf
      refine lv_iload_n hx hb d_Model_stand_30 rfl (lv_at hl 2 rfl) ?_
      refine lv_aload_n hx hb d_Model_stand_31 rfl (lv_at hl 0 rfl) ?_
      refine va_get (D := (dC, dI)) (ci := 7) (v := .int v_rows) (C := R_Model) (T := T_Model) (N := 34) hx hb hT i_Model hown hK hP 0 rfl rfl 1 (by decide) (hT _ kF_Model_98) (fun _ h9 => h9) rfl d_Model_stand_32 ?_
      refine lv_icmp_ge (tgt := 59) hx hb d_Model_stand_35 (by decide) (fun c_4 => ?_) (fun c_4 => ?_)
      · replace hf := o_pos c_4 hf
        rw [hQ, ← Option.some.inj hf]
        exact W.vret hx hb hr (fun t9 ht9 hW9 => ⟨rfl, by rw [ht9]; exact hP, hS.F ht9⟩) hS.2.2 d_Model_stand_59
      · replace hf := o_neg c_4 hf
        refine lv_aload_n hx hb d_Model_stand_38 rfl (lv_at hl 0 rfl) ?_
        refine va_get (D := (dC, dI)) (ci := 7) (v := .ref h_rowMinute) (C := R_Model) (T := T_Model) (N := 34) hx hb hT i_Model hown hK hP 0 rfl rfl 3 (by decide) (hT _ kF_Model_13) (fun _ h9 => h9) rfl d_Model_stand_39 ?_
        refine lv_iload_n hx hb d_Model_stand_42 rfl (lv_at hl 2 rfl) ?_
        obtain ⟨hi_5, hf⟩ := o_in hf
        refine va_iald hx hb hK hP 2 0 rfl rfl hi_5 d_Model_stand_43 ?_
        refine lv_iload_n hx hb d_Model_stand_44 rfl (lv_at hl 1 rfl) ?_
        refine lv_icmp_gt (tgt := 53) hx hb d_Model_stand_45 (by decide) (fun c_6 => ?_) (fun c_6 => ?_)
        · replace hf := o_pos c_6 hf
          refine lv_iinc (v := l2_30 + 1) (lv' := [(2, .int (l2_30 + 1)), (0, .ref h_this), (1, .int p1)]) hx hb d_Model_stand_53 hl (k := 2) rfl rfl (by decide) rfl (fun ls hl => ?_)
          refine lv_goto (tgt := 30) hx hb d_Model_stand_56 (by decide) ?_
          exact ih (l2_30 + 1) v_last_30 v_before_30 H locs ls hf hP hD hS (lv_sub hl [1, 2, 0] rfl)
        · replace hf := o_neg c_6 hf
          refine lv_aload_n hx hb d_Model_stand_48 rfl (lv_at hl 0 rfl) ?_
          refine lv_iload_n hx hb d_Model_stand_49 rfl (lv_at hl 2 rfl) ?_
          obtain ⟨t_7, hg_7, hf⟩ := o_bind hf
          refine x_virt (w' := [(h_this, .inr (7, [.int v_thrown, .int v_rows, .ref h_rowPoint, .ref h_rowMinute, .ref h_rowValue, .ref h_text, .int v_size, .ref h_kinds, .ref h_values, .int v_words, .int v_at, .ref h_names, .ref h_testCounts, .ref h_minutes, .ref h_costs, .ref h_sorts, .ref h_firsts, .ref h_seconds, .ref h_relations, .ref h_numbers, .int v_ruleCount, .ref h_last, .ref h_before, .int v_ran, .ref h_heldCounts, .ref h_streaks, .int v_faults, .ref h_faultRule, .ref h_faultBegin, .ref h_faultEnd, .ref h_order, .ref h_left, .int v_leftCount, .ref h_brings])), (h_rowPoint, .inl (cI, 120, .inl v_rowPoint)), (h_rowMinute, .inl (cI, 120, .inl v_rowMinute)), (h_last, .inl (cI, 16, .inl t_7.1)), (h_before, .inl (cI, 16, .inl t_7.2))]) (As := [.int l2_30]) (rest := []) hx hb hml hl.1 hown hT hK hN hP hD hS hA (c_Model_note l dC dI cI cL cC h_this h_rowPoint h_rowMinute h_rowValue h_text h_kinds h_values h_names h_testCounts h_minutes h_costs h_sorts h_firsts h_seconds h_relations h_numbers h_last h_before h_heldCounts h_streaks h_faultRule h_faultBegin h_faultEnd h_order h_left h_brings H.size v_thrown v_rows v_size v_words v_at v_ruleCount v_ran v_faults v_leftCount v_rowPoint v_last_30 v_before_30 l2_30 t_7 hg_7) kM_Model_240 kI_Model_note kS_512 kN_Model kC_Model_note hd_Model_note rfl 0 rfl rfl rfl ⟨Nat.le_of_ble_eq_true rfl, Nat.le_of_ble_eq_true rfl⟩ rfl rfl ⟨Nat.zero_le _, Nat.zero_le _⟩ rfl (Nat.le_of_ble_eq_true rfl) d_Model_stand_50 [0, 1, 3, 4] rfl rfl [.inr 0, .inr 1, .inl 2, .inr 2, .inr 3] rfl rfl rfl (fun H locs hP hD hS => ?_)
          refine lv_iinc (v := l2_30 + 1) (lv' := [(2, .int (l2_30 + 1)), (0, .ref h_this), (1, .int p1)]) hx hb d_Model_stand_53 hl (k := 2) rfl rfl (by decide) rfl (fun ls hl => ?_)
          refine lv_goto (tgt := 30) hx hb d_Model_stand_56 (by decide) ?_
          exact ih (l2_30 + 1) t_7.1 t_7.2 H locs ls hf hP hD hS (lv_sub hl [1, 2, 0] rfl)
  refine lp_30  fu 0 v_last_2e v_before_2e H locs ls hf hP hD hS (lv_sub hl [1, 2, 0] rfl)
def rm_Model_relates : Room := { frames := 0, cells := 0, slots := 0, locals := 0 }
set_option maxHeartbeats 4000000 in
set_option maxRecDepth 100000 in
theorem c_Model_relates (l : Launch) (dC : Nat → ClassId) (dI : Nat → Nat → Nat) (cI cL cC : ClassId) (sz : Nat) (p1 : Int32) (p2 : Int32) (p3 : Int32) (t : Int32) (hf : f_Model_relates p1 p2 p3 = some t) : Met l y_Model_relates (Cond.code y_Model_relates prog_9_method_32_code 3 (some .boolean) :: xT) rm_Model_relates (va_Pc [.int p1, .int p2, .int p3] (xP (dC, dI) (xTy cI cL cC) [] sz)) (xQ (dC, dI) [] (va_A [] sz) (some (.int t))) 0 0 (va_A [] sz) := by
  refine Met.ofW (cc := prog_9_method_32_code) (maxL := 3) (ret := (some .boolean)) (by decide) rfl ?_
  intro p e s m args below meth c s₁ B hml hv
  obtain ⟨hargs, hsz, hP, hK, hN, hD0⟩ := hv
  have hx := B.exec
  have hb := B.bytes
  have hr := B.returns
  have hT : ∀ w ∈ xT, w.before args s = true := fun w hw => atoms_spec (ws := Cond.code y_Model_relates prog_9_method_32_code 3 (some .boolean) :: xT) B.pre w (List.mem_cons_of_mem _ hw)
  have hown : s.vm.findClass R_Model = some m.cls := findClass_of_methodNamed B.named
  have hlocks := B.notSynchronized
  subst hsz
  have hD := hD0.self (sz := s.heap.size)
  generalize hAe : va_A [] s.heap.size = A at hD ⊢
  have hA : ∀ q : Nat, s.heap.size ≤ q → A q := fun q h => by rw [← hAe]; exact Or.inr h
  have hS : va_S A s.heap s.heap [] := va_S.rf
  have hP : va_P (dC, dI) vwCl [] s.heap := hP
  have hl := lv_entry ([.int p1, .int p2, .int p3]) (n := 3) (Nat.le_of_ble_eq_true rfl)
  rw [show entryFrame m args 3 = entryFrame m ([.int p1, .int p2, .int p3] : List Value).toArray 3 from by rw [hargs], lg_entry_eq]
  generalize (lg_sl ([.int p1, .int p2, .int p3]) ++ List.replicate (3 - (lg_sl ([.int p1, .int p2, .int p3])).length) Slot.unset).toArray = ls at hl ⊢
  have hl : lv_has ls 3 [(0, .int p1), (1, .int p2), (2, .int p3)] := hl
  obtain ⟨Q, hQ⟩ : ∃ Q, Q = MQ below (xQ (dC, dI) [] A (some (.int t))) args s 0 0 A := ⟨_, rfl⟩
  rw [← hQ]
  show W p l e rm_Model_relates s m args below meth c s.heap [] 0 0 Q _
  obtain ⟨H, hH⟩ : ∃ H, H = s.heap := ⟨_, rfl⟩
  obtain ⟨locs, hlocs⟩ : ∃ L : List Loc, L = [] := ⟨_, rfl⟩
  rw [← hlocs] at hS ⊢
  have hS : va_S A s.heap H locs := by rw [hH]; exact hS
  rw [← hH] at hP ⊢
  replace hf := f_Model_relates_u hf
  refine lv_iload_n hx hb d_Model_relates_0 rfl (lv_at hl 1 rfl) ?_
  refine lv_if_ne (tgt := 17) hx hb d_Model_relates_1 (by decide) (fun c_1 => ?_) (fun c_1 => ?_)
  · replace hf := o_neg c_1 hf
    refine lv_iload_n hx hb d_Model_relates_17 rfl (lv_at hl 1 rfl) ?_
    refine lv_iconst (v := 1) hx hb d_Model_relates_18 (by decide) ?_
    refine lv_icmp_ne (tgt := 35) hx hb d_Model_relates_19 (by decide) (fun c_2 => ?_) (fun c_2 => ?_)
    · replace hf := o_neg c_2 hf
      refine lv_iload_n hx hb d_Model_relates_35 rfl (lv_at hl 1 rfl) ?_
      refine lv_iconst (v := 2) hx hb d_Model_relates_36 (by decide) ?_
      refine lv_icmp_ne (tgt := 53) hx hb d_Model_relates_37 (by decide) (fun c_3 => ?_) (fun c_3 => ?_)
      · replace hf := o_neg c_3 hf
        refine lv_iload_n hx hb d_Model_relates_53 rfl (lv_at hl 1 rfl) ?_
        refine lv_iconst (v := 3) hx hb d_Model_relates_54 (by decide) ?_
        refine lv_icmp_ne (tgt := 71) hx hb d_Model_relates_55 (by decide) (fun c_4 => ?_) (fun c_4 => ?_)
        · replace hf := o_neg c_4 hf
          refine lv_iload_n hx hb d_Model_relates_71 rfl (lv_at hl 0 rfl) ?_
          refine lv_iload_n hx hb d_Model_relates_72 rfl (lv_at hl 2 rfl) ?_
          refine lv_icmp_le (tgt := 80) hx hb d_Model_relates_73 (by decide) (fun c_5 => ?_) (fun c_5 => ?_)
          · replace hf := o_pos c_5 hf
            refine lv_iconst (v := 0) hx hb d_Model_relates_80 (by decide) ?_
            rw [hQ, ← Option.some.inj hf]
            exact W.zret (ty := .boolean) hx hb hr rfl (fun t9 ht9 hW9 => ⟨rfl, by rw [ht9]; exact hP, hS.F ht9⟩) hS.2.2 d_Model_relates_81
          · replace hf := o_neg c_5 hf
            refine lv_iconst (v := 1) hx hb d_Model_relates_76 (by decide) ?_
            refine lv_goto (tgt := 81) hx hb d_Model_relates_77 (by decide) ?_
            rw [hQ, ← Option.some.inj hf]
            exact W.zret (ty := .boolean) hx hb hr rfl (fun t9 ht9 hW9 => ⟨rfl, by rw [ht9]; exact hP, hS.F ht9⟩) hS.2.2 d_Model_relates_81
        · replace hf := o_pos c_4 hf
          refine lv_iload_n hx hb d_Model_relates_58 rfl (lv_at hl 0 rfl) ?_
          refine lv_iload_n hx hb d_Model_relates_59 rfl (lv_at hl 2 rfl) ?_
          refine lv_icmp_lt (tgt := 67) hx hb d_Model_relates_60 (by decide) (fun c_6 => ?_) (fun c_6 => ?_)
          · replace hf := o_pos c_6 hf
            refine lv_iconst (v := 0) hx hb d_Model_relates_67 (by decide) ?_
            refine lv_goto (tgt := 81) hx hb d_Model_relates_68 (by decide) ?_
            rw [hQ, ← Option.some.inj hf]
            exact W.zret (ty := .boolean) hx hb hr rfl (fun t9 ht9 hW9 => ⟨rfl, by rw [ht9]; exact hP, hS.F ht9⟩) hS.2.2 d_Model_relates_81
          · replace hf := o_neg c_6 hf
            refine lv_iconst (v := 1) hx hb d_Model_relates_63 (by decide) ?_
            refine lv_goto (tgt := 81) hx hb d_Model_relates_64 (by decide) ?_
            rw [hQ, ← Option.some.inj hf]
            exact W.zret (ty := .boolean) hx hb hr rfl (fun t9 ht9 hW9 => ⟨rfl, by rw [ht9]; exact hP, hS.F ht9⟩) hS.2.2 d_Model_relates_81
      · replace hf := o_pos c_3 hf
        refine lv_iload_n hx hb d_Model_relates_40 rfl (lv_at hl 0 rfl) ?_
        refine lv_iload_n hx hb d_Model_relates_41 rfl (lv_at hl 2 rfl) ?_
        refine lv_icmp_ne (tgt := 49) hx hb d_Model_relates_42 (by decide) (fun c_7 => ?_) (fun c_7 => ?_)
        · replace hf := o_neg c_7 hf
          refine lv_iconst (v := 0) hx hb d_Model_relates_49 (by decide) ?_
          refine lv_goto (tgt := 81) hx hb d_Model_relates_50 (by decide) ?_
          rw [hQ, ← Option.some.inj hf]
          exact W.zret (ty := .boolean) hx hb hr rfl (fun t9 ht9 hW9 => ⟨rfl, by rw [ht9]; exact hP, hS.F ht9⟩) hS.2.2 d_Model_relates_81
        · replace hf := o_pos c_7 hf
          refine lv_iconst (v := 1) hx hb d_Model_relates_45 (by decide) ?_
          refine lv_goto (tgt := 81) hx hb d_Model_relates_46 (by decide) ?_
          rw [hQ, ← Option.some.inj hf]
          exact W.zret (ty := .boolean) hx hb hr rfl (fun t9 ht9 hW9 => ⟨rfl, by rw [ht9]; exact hP, hS.F ht9⟩) hS.2.2 d_Model_relates_81
    · replace hf := o_pos c_2 hf
      refine lv_iload_n hx hb d_Model_relates_22 rfl (lv_at hl 0 rfl) ?_
      refine lv_iload_n hx hb d_Model_relates_23 rfl (lv_at hl 2 rfl) ?_
      refine lv_icmp_gt (tgt := 31) hx hb d_Model_relates_24 (by decide) (fun c_8 => ?_) (fun c_8 => ?_)
      · replace hf := o_pos c_8 hf
        refine lv_iconst (v := 0) hx hb d_Model_relates_31 (by decide) ?_
        refine lv_goto (tgt := 81) hx hb d_Model_relates_32 (by decide) ?_
        rw [hQ, ← Option.some.inj hf]
        exact W.zret (ty := .boolean) hx hb hr rfl (fun t9 ht9 hW9 => ⟨rfl, by rw [ht9]; exact hP, hS.F ht9⟩) hS.2.2 d_Model_relates_81
      · replace hf := o_neg c_8 hf
        refine lv_iconst (v := 1) hx hb d_Model_relates_27 (by decide) ?_
        refine lv_goto (tgt := 81) hx hb d_Model_relates_28 (by decide) ?_
        rw [hQ, ← Option.some.inj hf]
        exact W.zret (ty := .boolean) hx hb hr rfl (fun t9 ht9 hW9 => ⟨rfl, by rw [ht9]; exact hP, hS.F ht9⟩) hS.2.2 d_Model_relates_81
  · replace hf := o_pos c_1 hf
    refine lv_iload_n hx hb d_Model_relates_4 rfl (lv_at hl 0 rfl) ?_
    refine lv_iload_n hx hb d_Model_relates_5 rfl (lv_at hl 2 rfl) ?_
    refine lv_icmp_ge (tgt := 13) hx hb d_Model_relates_6 (by decide) (fun c_9 => ?_) (fun c_9 => ?_)
    · replace hf := o_pos c_9 hf
      refine lv_iconst (v := 0) hx hb d_Model_relates_13 (by decide) ?_
      refine lv_goto (tgt := 81) hx hb d_Model_relates_14 (by decide) ?_
      rw [hQ, ← Option.some.inj hf]
      exact W.zret (ty := .boolean) hx hb hr rfl (fun t9 ht9 hW9 => ⟨rfl, by rw [ht9]; exact hP, hS.F ht9⟩) hS.2.2 d_Model_relates_81
    · replace hf := o_neg c_9 hf
      refine lv_iconst (v := 1) hx hb d_Model_relates_9 (by decide) ?_
      refine lv_goto (tgt := 81) hx hb d_Model_relates_10 (by decide) ?_
      rw [hQ, ← Option.some.inj hf]
      exact W.zret (ty := .boolean) hx hb hr rfl (fun t9 ht9 hW9 => ⟨rfl, by rw [ht9]; exact hP, hS.F ht9⟩) hS.2.2 d_Model_relates_81
def rm_Model_isSo : Room := { frames := 1, cells := 0, slots := 0, locals := 22 }
set_option maxHeartbeats 4000000 in
set_option maxRecDepth 100000 in
theorem c_Model_isSo (l : Launch) (dC : Nat → ClassId) (dI : Nat → Nat → Nat) (cI cL cC : ClassId) (h_this h_rowPoint h_rowMinute h_rowValue h_text h_kinds h_values h_names h_testCounts h_minutes h_costs h_sorts h_firsts h_seconds h_relations h_numbers h_last h_before h_heldCounts h_streaks h_faultRule h_faultBegin h_faultEnd h_order h_left h_brings : Nat) (sz : Nat) (v_thrown : Int32) (v_rows : Int32) (v_size : Int32) (v_words : Int32) (v_at : Int32) (v_ruleCount : Int32) (v_ran : Int32) (v_faults : Int32) (v_leftCount : Int32) (v_rowMinute : Nat → Int32) (v_rowValue : Nat → Int32) (v_sorts : Nat → Int32) (v_firsts : Nat → Int32) (v_seconds : Nat → Int32) (v_relations : Nat → Int32) (v_numbers : Nat → Int32) (v_last : Nat → Int32) (v_before : Nat → Int32) (p1 : Int32) (p2 : Int32) (t : Int32) (hf : f_Model_isSo v_rowMinute v_rowValue v_sorts v_firsts v_seconds v_relations v_numbers v_last v_before p1 p2 = some t) : Met l y_Model_isSo (Cond.code y_Model_isSo prog_9_method_33_code 6 (some .boolean) :: xT) rm_Model_isSo (va_Pc [.ref h_this, .int p1, .int p2] (xP (dC, dI) (xTy cI cL cC) [(h_this, .inr (7, [.int v_thrown, .int v_rows, .ref h_rowPoint, .ref h_rowMinute, .ref h_rowValue, .ref h_text, .int v_size, .ref h_kinds, .ref h_values, .int v_words, .int v_at, .ref h_names, .ref h_testCounts, .ref h_minutes, .ref h_costs, .ref h_sorts, .ref h_firsts, .ref h_seconds, .ref h_relations, .ref h_numbers, .int v_ruleCount, .ref h_last, .ref h_before, .int v_ran, .ref h_heldCounts, .ref h_streaks, .int v_faults, .ref h_faultRule, .ref h_faultBegin, .ref h_faultEnd, .ref h_order, .ref h_left, .int v_leftCount, .ref h_brings])), (h_rowMinute, .inl (cI, 120, .inl v_rowMinute)), (h_rowValue, .inl (cI, 120, .inl v_rowValue)), (h_sorts, .inl (cI, 72, .inl v_sorts)), (h_firsts, .inl (cI, 72, .inl v_firsts)), (h_seconds, .inl (cI, 72, .inl v_seconds)), (h_relations, .inl (cI, 72, .inl v_relations)), (h_numbers, .inl (cI, 72, .inl v_numbers)), (h_last, .inl (cI, 16, .inl v_last)), (h_before, .inl (cI, 16, .inl v_before))] sz)) (xQ (dC, dI) [(h_this, .inr (7, [.int v_thrown, .int v_rows, .ref h_rowPoint, .ref h_rowMinute, .ref h_rowValue, .ref h_text, .int v_size, .ref h_kinds, .ref h_values, .int v_words, .int v_at, .ref h_names, .ref h_testCounts, .ref h_minutes, .ref h_costs, .ref h_sorts, .ref h_firsts, .ref h_seconds, .ref h_relations, .ref h_numbers, .int v_ruleCount, .ref h_last, .ref h_before, .int v_ran, .ref h_heldCounts, .ref h_streaks, .int v_faults, .ref h_faultRule, .ref h_faultBegin, .ref h_faultEnd, .ref h_order, .ref h_left, .int v_leftCount, .ref h_brings])), (h_rowMinute, .inl (cI, 120, .inl v_rowMinute)), (h_rowValue, .inl (cI, 120, .inl v_rowValue)), (h_sorts, .inl (cI, 72, .inl v_sorts)), (h_firsts, .inl (cI, 72, .inl v_firsts)), (h_seconds, .inl (cI, 72, .inl v_seconds)), (h_relations, .inl (cI, 72, .inl v_relations)), (h_numbers, .inl (cI, 72, .inl v_numbers)), (h_last, .inl (cI, 16, .inl v_last)), (h_before, .inl (cI, 16, .inl v_before))] (va_A [(h_this, .inr (7, [.int v_thrown, .int v_rows, .ref h_rowPoint, .ref h_rowMinute, .ref h_rowValue, .ref h_text, .int v_size, .ref h_kinds, .ref h_values, .int v_words, .int v_at, .ref h_names, .ref h_testCounts, .ref h_minutes, .ref h_costs, .ref h_sorts, .ref h_firsts, .ref h_seconds, .ref h_relations, .ref h_numbers, .int v_ruleCount, .ref h_last, .ref h_before, .int v_ran, .ref h_heldCounts, .ref h_streaks, .int v_faults, .ref h_faultRule, .ref h_faultBegin, .ref h_faultEnd, .ref h_order, .ref h_left, .int v_leftCount, .ref h_brings])), (h_rowMinute, .inl (cI, 120, .inl v_rowMinute)), (h_rowValue, .inl (cI, 120, .inl v_rowValue)), (h_sorts, .inl (cI, 72, .inl v_sorts)), (h_firsts, .inl (cI, 72, .inl v_firsts)), (h_seconds, .inl (cI, 72, .inl v_seconds)), (h_relations, .inl (cI, 72, .inl v_relations)), (h_numbers, .inl (cI, 72, .inl v_numbers)), (h_last, .inl (cI, 16, .inl v_last)), (h_before, .inl (cI, 16, .inl v_before))] sz) (some (.int t))) 0 0 (va_A [(h_this, .inr (7, [.int v_thrown, .int v_rows, .ref h_rowPoint, .ref h_rowMinute, .ref h_rowValue, .ref h_text, .int v_size, .ref h_kinds, .ref h_values, .int v_words, .int v_at, .ref h_names, .ref h_testCounts, .ref h_minutes, .ref h_costs, .ref h_sorts, .ref h_firsts, .ref h_seconds, .ref h_relations, .ref h_numbers, .int v_ruleCount, .ref h_last, .ref h_before, .int v_ran, .ref h_heldCounts, .ref h_streaks, .int v_faults, .ref h_faultRule, .ref h_faultBegin, .ref h_faultEnd, .ref h_order, .ref h_left, .int v_leftCount, .ref h_brings])), (h_rowMinute, .inl (cI, 120, .inl v_rowMinute)), (h_rowValue, .inl (cI, 120, .inl v_rowValue)), (h_sorts, .inl (cI, 72, .inl v_sorts)), (h_firsts, .inl (cI, 72, .inl v_firsts)), (h_seconds, .inl (cI, 72, .inl v_seconds)), (h_relations, .inl (cI, 72, .inl v_relations)), (h_numbers, .inl (cI, 72, .inl v_numbers)), (h_last, .inl (cI, 16, .inl v_last)), (h_before, .inl (cI, 16, .inl v_before))] sz) := by
  refine Met.ofW (cc := prog_9_method_33_code) (maxL := 6) (ret := (some .boolean)) (by decide) rfl ?_
  intro p e s m args below meth c s₁ B hml hv
  obtain ⟨hargs, hsz, hP, hK, hN, hD0⟩ := hv
  have hx := B.exec
  have hb := B.bytes
  have hr := B.returns
  have hT : ∀ w ∈ xT, w.before args s = true := fun w hw => atoms_spec (ws := Cond.code y_Model_isSo prog_9_method_33_code 6 (some .boolean) :: xT) B.pre w (List.mem_cons_of_mem _ hw)
  have hown : s.vm.findClass R_Model = some m.cls := findClass_of_methodNamed B.named
  have hlocks := B.notSynchronized
  subst hsz
  have hD := hD0.self (sz := s.heap.size)
  generalize hAe : va_A [(h_this, .inr (7, [.int v_thrown, .int v_rows, .ref h_rowPoint, .ref h_rowMinute, .ref h_rowValue, .ref h_text, .int v_size, .ref h_kinds, .ref h_values, .int v_words, .int v_at, .ref h_names, .ref h_testCounts, .ref h_minutes, .ref h_costs, .ref h_sorts, .ref h_firsts, .ref h_seconds, .ref h_relations, .ref h_numbers, .int v_ruleCount, .ref h_last, .ref h_before, .int v_ran, .ref h_heldCounts, .ref h_streaks, .int v_faults, .ref h_faultRule, .ref h_faultBegin, .ref h_faultEnd, .ref h_order, .ref h_left, .int v_leftCount, .ref h_brings])), (h_rowMinute, .inl (cI, 120, .inl v_rowMinute)), (h_rowValue, .inl (cI, 120, .inl v_rowValue)), (h_sorts, .inl (cI, 72, .inl v_sorts)), (h_firsts, .inl (cI, 72, .inl v_firsts)), (h_seconds, .inl (cI, 72, .inl v_seconds)), (h_relations, .inl (cI, 72, .inl v_relations)), (h_numbers, .inl (cI, 72, .inl v_numbers)), (h_last, .inl (cI, 16, .inl v_last)), (h_before, .inl (cI, 16, .inl v_before))] s.heap.size = A at hD ⊢
  have hA : ∀ q : Nat, s.heap.size ≤ q → A q := fun q h => by rw [← hAe]; exact Or.inr h
  have hS : va_S A s.heap s.heap [] := va_S.rf
  have hP : va_P (dC, dI) vwCl [(h_this, .inr (7, [.int v_thrown, .int v_rows, .ref h_rowPoint, .ref h_rowMinute, .ref h_rowValue, .ref h_text, .int v_size, .ref h_kinds, .ref h_values, .int v_words, .int v_at, .ref h_names, .ref h_testCounts, .ref h_minutes, .ref h_costs, .ref h_sorts, .ref h_firsts, .ref h_seconds, .ref h_relations, .ref h_numbers, .int v_ruleCount, .ref h_last, .ref h_before, .int v_ran, .ref h_heldCounts, .ref h_streaks, .int v_faults, .ref h_faultRule, .ref h_faultBegin, .ref h_faultEnd, .ref h_order, .ref h_left, .int v_leftCount, .ref h_brings])), (h_rowMinute, .inl (cI, 120, .inl v_rowMinute)), (h_rowValue, .inl (cI, 120, .inl v_rowValue)), (h_sorts, .inl (cI, 72, .inl v_sorts)), (h_firsts, .inl (cI, 72, .inl v_firsts)), (h_seconds, .inl (cI, 72, .inl v_seconds)), (h_relations, .inl (cI, 72, .inl v_relations)), (h_numbers, .inl (cI, 72, .inl v_numbers)), (h_last, .inl (cI, 16, .inl v_last)), (h_before, .inl (cI, 16, .inl v_before))] s.heap := hP
  have hl := lv_entry ([.ref h_this, .int p1, .int p2]) (n := 6) (Nat.le_of_ble_eq_true rfl)
  rw [show entryFrame m args 6 = entryFrame m ([.ref h_this, .int p1, .int p2] : List Value).toArray 6 from by rw [hargs], lg_entry_eq]
  generalize (lg_sl ([.ref h_this, .int p1, .int p2]) ++ List.replicate (6 - (lg_sl ([.ref h_this, .int p1, .int p2])).length) Slot.unset).toArray = ls at hl ⊢
  have hl : lv_has ls 6 [(0, .ref h_this), (1, .int p1), (2, .int p2)] := hl
  obtain ⟨Q, hQ⟩ : ∃ Q, Q = MQ below (xQ (dC, dI) [(h_this, .inr (7, [.int v_thrown, .int v_rows, .ref h_rowPoint, .ref h_rowMinute, .ref h_rowValue, .ref h_text, .int v_size, .ref h_kinds, .ref h_values, .int v_words, .int v_at, .ref h_names, .ref h_testCounts, .ref h_minutes, .ref h_costs, .ref h_sorts, .ref h_firsts, .ref h_seconds, .ref h_relations, .ref h_numbers, .int v_ruleCount, .ref h_last, .ref h_before, .int v_ran, .ref h_heldCounts, .ref h_streaks, .int v_faults, .ref h_faultRule, .ref h_faultBegin, .ref h_faultEnd, .ref h_order, .ref h_left, .int v_leftCount, .ref h_brings])), (h_rowMinute, .inl (cI, 120, .inl v_rowMinute)), (h_rowValue, .inl (cI, 120, .inl v_rowValue)), (h_sorts, .inl (cI, 72, .inl v_sorts)), (h_firsts, .inl (cI, 72, .inl v_firsts)), (h_seconds, .inl (cI, 72, .inl v_seconds)), (h_relations, .inl (cI, 72, .inl v_relations)), (h_numbers, .inl (cI, 72, .inl v_numbers)), (h_last, .inl (cI, 16, .inl v_last)), (h_before, .inl (cI, 16, .inl v_before))] A (some (.int t))) args s 0 0 A := ⟨_, rfl⟩
  rw [← hQ]
  show W p l e rm_Model_isSo s m args below meth c s.heap [] 0 0 Q _
  obtain ⟨H, hH⟩ : ∃ H, H = s.heap := ⟨_, rfl⟩
  obtain ⟨locs, hlocs⟩ : ∃ L : List Loc, L = [] := ⟨_, rfl⟩
  rw [← hlocs] at hS ⊢
  have hS : va_S A s.heap H locs := by rw [hH]; exact hS
  rw [← hH] at hP ⊢
  replace hf := f_Model_isSo_u hf
  refine lv_aload_n hx hb d_Model_isSo_0 rfl (lv_at hl 0 rfl) ?_
  refine va_get (D := (dC, dI)) (ci := 7) (v := .ref h_last) (C := R_Model) (T := T_Model) (N := 34) hx hb hT i_Model hown hK hP 0 rfl rfl 21 (by decide) (hT _ kF_Model_56) (fun _ h9 => h9) rfl d_Model_isSo_1 ?_
  refine lv_aload_n hx hb d_Model_isSo_4 rfl (lv_at hl 0 rfl) ?_
  refine va_get (D := (dC, dI)) (ci := 7) (v := .ref h_firsts) (C := R_Model) (T := T_Model) (N := 34) hx hb hT i_Model hown hK hP 0 rfl rfl 16 (by decide) (hT _ kF_Model_44) (fun _ h9 => h9) rfl d_Model_isSo_5 ?_
  refine lv_iload_n hx hb d_Model_isSo_8 rfl (lv_at hl 1 rfl) ?_
  obtain ⟨hi_1, hf⟩ := o_in hf
  refine va_iald hx hb hK hP 4 0 rfl rfl hi_1 d_Model_isSo_9 ?_
  obtain ⟨hi_2, hf⟩ := o_in hf
  refine va_iald hx hb hK hP 8 0 rfl rfl hi_2 d_Model_isSo_10 ?_
  refine lv_istore_n (lv' := [(3, .int (v_last (v_firsts (p1 : Int32).toNatClampNeg : Int32).toNatClampNeg)), (0, .ref h_this), (1, .int p1), (2, .int p2)]) hx hb d_Model_isSo_11 rfl hl (by decide) rfl (fun ls hl => ?_)
  refine lv_aload_n hx hb d_Model_isSo_12 rfl (lv_at hl 1 rfl) ?_
  refine va_get (D := (dC, dI)) (ci := 7) (v := .ref h_sorts) (C := R_Model) (T := T_Model) (N := 34) hx hb hT i_Model hown hK hP 0 rfl rfl 15 (by decide) (hT _ kF_Model_41) (fun _ h9 => h9) rfl d_Model_isSo_13 ?_
  refine lv_iload_n hx hb d_Model_isSo_16 rfl (lv_at hl 2 rfl) ?_
  obtain ⟨hi_3, hf⟩ := o_in hf
  refine va_iald hx hb hK hP 3 0 rfl rfl hi_3 d_Model_isSo_17 ?_
  refine lv_iconst (v := 4) hx hb d_Model_isSo_18 (by decide) ?_
  refine lv_icmp_ne (tgt := 49) hx hb d_Model_isSo_19 (by decide) (fun c_4 => ?_) (fun c_4 => ?_)
  · replace hf := o_neg c_4 hf
    refine lv_iload_n hx hb d_Model_isSo_49 rfl (lv_at hl 0 rfl) ?_
    refine lv_if_ge (tgt := 55) hx hb d_Model_isSo_50 (by decide) (fun c_5 => ?_) (fun c_5 => ?_)
    · replace hf := o_pos c_5 hf
      refine lv_aload_n hx hb d_Model_isSo_55 rfl (lv_at hl 1 rfl) ?_
      refine va_get (D := (dC, dI)) (ci := 7) (v := .ref h_sorts) (C := R_Model) (T := T_Model) (N := 34) hx hb hT i_Model hown hK hP 0 rfl rfl 15 (by decide) (hT _ kF_Model_41) (fun _ h9 => h9) rfl d_Model_isSo_56 ?_
      refine lv_iload_n hx hb d_Model_isSo_59 rfl (lv_at hl 2 rfl) ?_
      obtain ⟨hi_6, hf⟩ := o_in hf
      refine va_iald hx hb hK hP 3 0 rfl rfl hi_6 d_Model_isSo_60 ?_
      refine lv_iconst (v := 2) hx hb d_Model_isSo_61 (by decide) ?_
      refine lv_icmp_ne (tgt := 88) hx hb d_Model_isSo_62 (by decide) (fun c_7 => ?_) (fun c_7 => ?_)
      · replace hf := o_neg c_7 hf
        refine lv_aload_n hx hb d_Model_isSo_88 rfl (lv_at hl 1 rfl) ?_
        refine va_get (D := (dC, dI)) (ci := 7) (v := .ref h_sorts) (C := R_Model) (T := T_Model) (N := 34) hx hb hT i_Model hown hK hP 0 rfl rfl 15 (by decide) (hT _ kF_Model_41) (fun _ h9 => h9) rfl d_Model_isSo_89 ?_
        refine lv_iload_n hx hb d_Model_isSo_92 rfl (lv_at hl 2 rfl) ?_
        obtain ⟨hi_8, hf⟩ := o_in hf
        refine va_iald hx hb hK hP 3 0 rfl rfl hi_8 d_Model_isSo_93 ?_
        refine lv_iconst (v := 3) hx hb d_Model_isSo_94 (by decide) ?_
        refine lv_icmp_ne (tgt := 173) hx hb d_Model_isSo_95 (by decide) (fun c_9 => ?_) (fun c_9 => ?_)
        · replace hf := o_neg c_9 hf
          refine lv_aload_n hx hb d_Model_isSo_173 rfl (lv_at hl 1 rfl) ?_
          refine va_get (D := (dC, dI)) (ci := 7) (v := .ref h_rowValue) (C := R_Model) (T := T_Model) (N := 34) hx hb hT i_Model hown hK hP 0 rfl rfl 4 (by decide) (hT _ kF_Model_16) (fun _ h9 => h9) rfl d_Model_isSo_174 ?_
          refine lv_iload_n hx hb d_Model_isSo_177 rfl (lv_at hl 0 rfl) ?_
          obtain ⟨hi_10, hf⟩ := o_in hf
          refine va_iald hx hb hK hP 2 0 rfl rfl hi_10 d_Model_isSo_178 ?_
          refine lv_istore (lv' := [(4, .int (v_rowValue (v_last (v_firsts (p1 : Int32).toNatClampNeg : Int32).toNatClampNeg : Int32).toNatClampNeg)), (3, .int (v_last (v_firsts (p1 : Int32).toNatClampNeg : Int32).toNatClampNeg)), (0, .ref h_this), (1, .int p1), (2, .int p2)]) hx hb d_Model_isSo_179 hl (by decide) rfl (fun ls hl => ?_)
          refine lv_aload_n hx hb d_Model_isSo_181 rfl (lv_at hl 2 rfl) ?_
          refine va_get (D := (dC, dI)) (ci := 7) (v := .ref h_sorts) (C := R_Model) (T := T_Model) (N := 34) hx hb hT i_Model hown hK hP 0 rfl rfl 15 (by decide) (hT _ kF_Model_41) (fun _ h9 => h9) rfl d_Model_isSo_182 ?_
          refine lv_iload_n hx hb d_Model_isSo_185 rfl (lv_at hl 3 rfl) ?_
          obtain ⟨hi_11, hf⟩ := o_in hf
          refine va_iald hx hb hK hP 3 0 rfl rfl hi_11 d_Model_isSo_186 ?_
          refine lv_iconst (v := 1) hx hb d_Model_isSo_187 (by decide) ?_
          refine lv_icmp_ne (tgt := 228) hx hb d_Model_isSo_188 (by decide) (fun c_12 => ?_) (fun c_12 => ?_)
          · replace hf := o_neg c_12 hf
            refine lv_iload hx hb d_Model_isSo_228 (lv_at hl 0 rfl) ?_
            refine lv_aload_n hx hb d_Model_isSo_230 rfl (lv_at hl 2 rfl) ?_
            refine va_get (D := (dC, dI)) (ci := 7) (v := .ref h_relations) (C := R_Model) (T := T_Model) (N := 34) hx hb hT i_Model hown hK hP 0 rfl rfl 18 (by decide) (hT _ kF_Model_50) (fun _ h9 => h9) rfl d_Model_isSo_231 ?_
            refine lv_iload_n hx hb d_Model_isSo_234 rfl (lv_at hl 3 rfl) ?_
            obtain ⟨hi_13, hf⟩ := o_in hf
            refine va_iald hx hb hK hP 6 0 rfl rfl hi_13 d_Model_isSo_235 ?_
            refine lv_aload_n hx hb d_Model_isSo_236 rfl (lv_at hl 2 rfl) ?_
            refine va_get (D := (dC, dI)) (ci := 7) (v := .ref h_numbers) (C := R_Model) (T := T_Model) (N := 34) hx hb hT i_Model hown hK hP 0 rfl rfl 19 (by decide) (hT _ kF_Model_53) (fun _ h9 => h9) rfl d_Model_isSo_237 ?_
            refine lv_iload_n hx hb d_Model_isSo_240 rfl (lv_at hl 3 rfl) ?_
            obtain ⟨hi_14, hf⟩ := o_in hf
            refine va_iald hx hb hK hP 7 0 rfl rfl hi_14 d_Model_isSo_241 ?_
            obtain ⟨t_15, hg_15, hf⟩ := o_bind hf
            refine x_stat (w' := [(h_this, .inr (7, [.int v_thrown, .int v_rows, .ref h_rowPoint, .ref h_rowMinute, .ref h_rowValue, .ref h_text, .int v_size, .ref h_kinds, .ref h_values, .int v_words, .int v_at, .ref h_names, .ref h_testCounts, .ref h_minutes, .ref h_costs, .ref h_sorts, .ref h_firsts, .ref h_seconds, .ref h_relations, .ref h_numbers, .int v_ruleCount, .ref h_last, .ref h_before, .int v_ran, .ref h_heldCounts, .ref h_streaks, .int v_faults, .ref h_faultRule, .ref h_faultBegin, .ref h_faultEnd, .ref h_order, .ref h_left, .int v_leftCount, .ref h_brings])), (h_rowMinute, .inl (cI, 120, .inl v_rowMinute)), (h_rowValue, .inl (cI, 120, .inl v_rowValue)), (h_sorts, .inl (cI, 72, .inl v_sorts)), (h_firsts, .inl (cI, 72, .inl v_firsts)), (h_seconds, .inl (cI, 72, .inl v_seconds)), (h_relations, .inl (cI, 72, .inl v_relations)), (h_numbers, .inl (cI, 72, .inl v_numbers)), (h_last, .inl (cI, 16, .inl v_last)), (h_before, .inl (cI, 16, .inl v_before))]) (As := [.int (v_rowValue (v_last (v_firsts (p1 : Int32).toNatClampNeg : Int32).toNatClampNeg : Int32).toNatClampNeg), .int (v_relations (p1 : Int32).toNatClampNeg), .int (v_numbers (p1 : Int32).toNatClampNeg)]) (rest := []) hx hb hml hl.1 hown hT hK hN hP hD hS hA (c_Model_relates l dC dI cI cL cC H.size (v_rowValue (v_last (v_firsts (p1 : Int32).toNatClampNeg : Int32).toNatClampNeg : Int32).toNatClampNeg) (v_relations (p1 : Int32).toNatClampNeg) (v_numbers (p1 : Int32).toNatClampNeg) t_15 hg_15) kM_Model_244 kT_Model_relates kN_Model kC_Model_relates hd_Model_relates rfl ⟨Nat.le_of_ble_eq_true rfl, Nat.le_of_ble_eq_true rfl⟩ rfl rfl ⟨Nat.zero_le _, Nat.zero_le _⟩ rfl (Nat.le_of_ble_eq_true rfl) d_Model_isSo_242 [] rfl rfl [.inl 0, .inl 1, .inl 2, .inl 3, .inl 4, .inl 5, .inl 6, .inl 7, .inl 8, .inl 9] rfl rfl rfl (fun H locs hP hD hS => ?_)
            obtain ⟨hz_16, hf⟩ := o_zb hf
            rw [hQ, ← Option.some.inj hf]
            exact W.zret (ty := .boolean) hx hb hr hz_16 (fun t9 ht9 hW9 => ⟨rfl, by rw [ht9]; exact hP, hS.F ht9⟩) hS.2.2 d_Model_isSo_245
          · replace hf := o_pos c_12 hf
            refine lv_aload_n hx hb d_Model_isSo_191 rfl (lv_at hl 2 rfl) ?_
            refine va_get (D := (dC, dI)) (ci := 7) (v := .ref h_last) (C := R_Model) (T := T_Model) (N := 34) hx hb hT i_Model hown hK hP 0 rfl rfl 21 (by decide) (hT _ kF_Model_56) (fun _ h9 => h9) rfl d_Model_isSo_192 ?_
            refine lv_aload_n hx hb d_Model_isSo_195 rfl (lv_at hl 2 rfl) ?_
            refine va_get (D := (dC, dI)) (ci := 7) (v := .ref h_seconds) (C := R_Model) (T := T_Model) (N := 34) hx hb hT i_Model hown hK hP 0 rfl rfl 17 (by decide) (hT _ kF_Model_47) (fun _ h9 => h9) rfl d_Model_isSo_196 ?_
            refine lv_iload_n hx hb d_Model_isSo_199 rfl (lv_at hl 3 rfl) ?_
            obtain ⟨hi_17, hf⟩ := o_in hf
            refine va_iald hx hb hK hP 5 0 rfl rfl hi_17 d_Model_isSo_200 ?_
            obtain ⟨hi_18, hf⟩ := o_in hf
            refine va_iald hx hb hK hP 8 0 rfl rfl hi_18 d_Model_isSo_201 ?_
            refine lv_if_ge (tgt := 207) hx hb d_Model_isSo_202 (by decide) (fun c_19 => ?_) (fun c_19 => ?_)
            · replace hf := o_pos c_19 hf
              refine lv_iload hx hb d_Model_isSo_207 (lv_at hl 0 rfl) ?_
              refine lv_aload_n hx hb d_Model_isSo_209 rfl (lv_at hl 2 rfl) ?_
              refine va_get (D := (dC, dI)) (ci := 7) (v := .ref h_rowValue) (C := R_Model) (T := T_Model) (N := 34) hx hb hT i_Model hown hK hP 0 rfl rfl 4 (by decide) (hT _ kF_Model_16) (fun _ h9 => h9) rfl d_Model_isSo_210 ?_
              refine lv_aload_n hx hb d_Model_isSo_213 rfl (lv_at hl 2 rfl) ?_
              refine va_get (D := (dC, dI)) (ci := 7) (v := .ref h_last) (C := R_Model) (T := T_Model) (N := 34) hx hb hT i_Model hown hK hP 0 rfl rfl 21 (by decide) (hT _ kF_Model_56) (fun _ h9 => h9) rfl d_Model_isSo_214 ?_
              refine lv_aload_n hx hb d_Model_isSo_217 rfl (lv_at hl 2 rfl) ?_
              refine va_get (D := (dC, dI)) (ci := 7) (v := .ref h_seconds) (C := R_Model) (T := T_Model) (N := 34) hx hb hT i_Model hown hK hP 0 rfl rfl 17 (by decide) (hT _ kF_Model_47) (fun _ h9 => h9) rfl d_Model_isSo_218 ?_
              refine lv_iload_n hx hb d_Model_isSo_221 rfl (lv_at hl 3 rfl) ?_
              obtain ⟨hi_20, hf⟩ := o_in hf
              refine va_iald hx hb hK hP 5 0 rfl rfl hi_20 d_Model_isSo_222 ?_
              obtain ⟨hi_21, hf⟩ := o_in hf
              refine va_iald hx hb hK hP 8 0 rfl rfl hi_21 d_Model_isSo_223 ?_
              obtain ⟨hi_22, hf⟩ := o_in hf
              refine va_iald hx hb hK hP 2 0 rfl rfl hi_22 d_Model_isSo_224 ?_
              refine lv_isub hx hb d_Model_isSo_225 ?_
              refine lv_istore (lv' := [(4, .int ((v_rowValue (v_last (v_firsts (p1 : Int32).toNatClampNeg : Int32).toNatClampNeg : Int32).toNatClampNeg) - (v_rowValue (v_last (v_seconds (p1 : Int32).toNatClampNeg : Int32).toNatClampNeg : Int32).toNatClampNeg))), (3, .int (v_last (v_firsts (p1 : Int32).toNatClampNeg : Int32).toNatClampNeg)), (0, .ref h_this), (1, .int p1), (2, .int p2)]) hx hb d_Model_isSo_226 hl (by decide) rfl (fun ls hl => ?_)
              refine lv_iload hx hb d_Model_isSo_228 (lv_at hl 0 rfl) ?_
              refine lv_aload_n hx hb d_Model_isSo_230 rfl (lv_at hl 2 rfl) ?_
              refine va_get (D := (dC, dI)) (ci := 7) (v := .ref h_relations) (C := R_Model) (T := T_Model) (N := 34) hx hb hT i_Model hown hK hP 0 rfl rfl 18 (by decide) (hT _ kF_Model_50) (fun _ h9 => h9) rfl d_Model_isSo_231 ?_
              refine lv_iload_n hx hb d_Model_isSo_234 rfl (lv_at hl 3 rfl) ?_
              obtain ⟨hi_23, hf⟩ := o_in hf
              refine va_iald hx hb hK hP 6 0 rfl rfl hi_23 d_Model_isSo_235 ?_
              refine lv_aload_n hx hb d_Model_isSo_236 rfl (lv_at hl 2 rfl) ?_
              refine va_get (D := (dC, dI)) (ci := 7) (v := .ref h_numbers) (C := R_Model) (T := T_Model) (N := 34) hx hb hT i_Model hown hK hP 0 rfl rfl 19 (by decide) (hT _ kF_Model_53) (fun _ h9 => h9) rfl d_Model_isSo_237 ?_
              refine lv_iload_n hx hb d_Model_isSo_240 rfl (lv_at hl 3 rfl) ?_
              obtain ⟨hi_24, hf⟩ := o_in hf
              refine va_iald hx hb hK hP 7 0 rfl rfl hi_24 d_Model_isSo_241 ?_
              obtain ⟨t_25, hg_25, hf⟩ := o_bind hf
              refine x_stat (w' := [(h_this, .inr (7, [.int v_thrown, .int v_rows, .ref h_rowPoint, .ref h_rowMinute, .ref h_rowValue, .ref h_text, .int v_size, .ref h_kinds, .ref h_values, .int v_words, .int v_at, .ref h_names, .ref h_testCounts, .ref h_minutes, .ref h_costs, .ref h_sorts, .ref h_firsts, .ref h_seconds, .ref h_relations, .ref h_numbers, .int v_ruleCount, .ref h_last, .ref h_before, .int v_ran, .ref h_heldCounts, .ref h_streaks, .int v_faults, .ref h_faultRule, .ref h_faultBegin, .ref h_faultEnd, .ref h_order, .ref h_left, .int v_leftCount, .ref h_brings])), (h_rowMinute, .inl (cI, 120, .inl v_rowMinute)), (h_rowValue, .inl (cI, 120, .inl v_rowValue)), (h_sorts, .inl (cI, 72, .inl v_sorts)), (h_firsts, .inl (cI, 72, .inl v_firsts)), (h_seconds, .inl (cI, 72, .inl v_seconds)), (h_relations, .inl (cI, 72, .inl v_relations)), (h_numbers, .inl (cI, 72, .inl v_numbers)), (h_last, .inl (cI, 16, .inl v_last)), (h_before, .inl (cI, 16, .inl v_before))]) (As := [.int ((v_rowValue (v_last (v_firsts (p1 : Int32).toNatClampNeg : Int32).toNatClampNeg : Int32).toNatClampNeg) - (v_rowValue (v_last (v_seconds (p1 : Int32).toNatClampNeg : Int32).toNatClampNeg : Int32).toNatClampNeg)), .int (v_relations (p1 : Int32).toNatClampNeg), .int (v_numbers (p1 : Int32).toNatClampNeg)]) (rest := []) hx hb hml hl.1 hown hT hK hN hP hD hS hA (c_Model_relates l dC dI cI cL cC H.size ((v_rowValue (v_last (v_firsts (p1 : Int32).toNatClampNeg : Int32).toNatClampNeg : Int32).toNatClampNeg) - (v_rowValue (v_last (v_seconds (p1 : Int32).toNatClampNeg : Int32).toNatClampNeg : Int32).toNatClampNeg)) (v_relations (p1 : Int32).toNatClampNeg) (v_numbers (p1 : Int32).toNatClampNeg) t_25 hg_25) kM_Model_244 kT_Model_relates kN_Model kC_Model_relates hd_Model_relates rfl ⟨Nat.le_of_ble_eq_true rfl, Nat.le_of_ble_eq_true rfl⟩ rfl rfl ⟨Nat.zero_le _, Nat.zero_le _⟩ rfl (Nat.le_of_ble_eq_true rfl) d_Model_isSo_242 [] rfl rfl [.inl 0, .inl 1, .inl 2, .inl 3, .inl 4, .inl 5, .inl 6, .inl 7, .inl 8, .inl 9] rfl rfl rfl (fun H locs hP hD hS => ?_)
              obtain ⟨hz_26, hf⟩ := o_zb hf
              rw [hQ, ← Option.some.inj hf]
              exact W.zret (ty := .boolean) hx hb hr hz_26 (fun t9 ht9 hW9 => ⟨rfl, by rw [ht9]; exact hP, hS.F ht9⟩) hS.2.2 d_Model_isSo_245
            · replace hf := o_neg c_19 hf
              refine lv_iconst (v := 0) hx hb d_Model_isSo_205 (by decide) ?_
              rw [hQ, ← Option.some.inj hf]
              exact W.zret (ty := .boolean) hx hb hr rfl (fun t9 ht9 hW9 => ⟨rfl, by rw [ht9]; exact hP, hS.F ht9⟩) hS.2.2 d_Model_isSo_206
        · replace hf := o_pos c_9 hf
          refine lv_aload_n hx hb d_Model_isSo_98 rfl (lv_at hl 1 rfl) ?_
          refine va_get (D := (dC, dI)) (ci := 7) (v := .ref h_before) (C := R_Model) (T := T_Model) (N := 34) hx hb hT i_Model hown hK hP 0 rfl rfl 22 (by decide) (hT _ kF_Model_59) (fun _ h9 => h9) rfl d_Model_isSo_99 ?_
          refine lv_aload_n hx hb d_Model_isSo_102 rfl (lv_at hl 1 rfl) ?_
          refine va_get (D := (dC, dI)) (ci := 7) (v := .ref h_firsts) (C := R_Model) (T := T_Model) (N := 34) hx hb hT i_Model hown hK hP 0 rfl rfl 16 (by decide) (hT _ kF_Model_44) (fun _ h9 => h9) rfl d_Model_isSo_103 ?_
          refine lv_iload_n hx hb d_Model_isSo_106 rfl (lv_at hl 2 rfl) ?_
          obtain ⟨hi_27, hf⟩ := o_in hf
          refine va_iald hx hb hK hP 4 0 rfl rfl hi_27 d_Model_isSo_107 ?_
          obtain ⟨hi_28, hf⟩ := o_in hf
          refine va_iald hx hb hK hP 9 0 rfl rfl hi_28 d_Model_isSo_108 ?_
          refine lv_istore (lv' := [(4, .int (v_before (v_firsts (p1 : Int32).toNatClampNeg : Int32).toNatClampNeg)), (3, .int (v_last (v_firsts (p1 : Int32).toNatClampNeg : Int32).toNatClampNeg)), (0, .ref h_this), (1, .int p1), (2, .int p2)]) hx hb d_Model_isSo_109 hl (by decide) rfl (fun ls hl => ?_)
          refine lv_iload hx hb d_Model_isSo_111 (lv_at hl 0 rfl) ?_
          refine lv_if_lt (tgt := 126) hx hb d_Model_isSo_113 (by decide) (fun c_29 => ?_) (fun c_29 => ?_)
          · replace hf := o_pos c_29 hf
            refine lv_iconst (v := 0) hx hb d_Model_isSo_126 (by decide) ?_
            rw [hQ, ← Option.some.inj hf]
            exact W.zret (ty := .boolean) hx hb hr rfl (fun t9 ht9 hW9 => ⟨rfl, by rw [ht9]; exact hP, hS.F ht9⟩) hS.2.2 d_Model_isSo_127
          · replace hf := o_neg c_29 hf
            refine lv_aload_n hx hb d_Model_isSo_116 rfl (lv_at hl 2 rfl) ?_
            refine va_get (D := (dC, dI)) (ci := 7) (v := .ref h_rowMinute) (C := R_Model) (T := T_Model) (N := 34) hx hb hT i_Model hown hK hP 0 rfl rfl 3 (by decide) (hT _ kF_Model_13) (fun _ h9 => h9) rfl d_Model_isSo_117 ?_
            refine lv_iload_n hx hb d_Model_isSo_120 rfl (lv_at hl 1 rfl) ?_
            obtain ⟨hi_30, hf⟩ := o_in hf
            refine va_iald hx hb hK hP 1 0 rfl rfl hi_30 d_Model_isSo_121 ?_
            refine lv_iload_n hx hb d_Model_isSo_122 rfl (lv_at hl 4 rfl) ?_
            refine lv_icmp_eq (tgt := 128) hx hb d_Model_isSo_123 (by decide) (fun c_31 => ?_) (fun c_31 => ?_)
            · replace hf := o_pos c_31 hf
              refine lv_aload_n hx hb d_Model_isSo_128 rfl (lv_at hl 2 rfl) ?_
              refine va_get (D := (dC, dI)) (ci := 7) (v := .ref h_rowValue) (C := R_Model) (T := T_Model) (N := 34) hx hb hT i_Model hown hK hP 0 rfl rfl 4 (by decide) (hT _ kF_Model_16) (fun _ h9 => h9) rfl d_Model_isSo_129 ?_
              refine lv_iload_n hx hb d_Model_isSo_132 rfl (lv_at hl 1 rfl) ?_
              obtain ⟨hi_32, hf⟩ := o_in hf
              refine va_iald hx hb hK hP 2 0 rfl rfl hi_32 d_Model_isSo_133 ?_
              refine lv_aload_n hx hb d_Model_isSo_134 rfl (lv_at hl 2 rfl) ?_
              refine va_get (D := (dC, dI)) (ci := 7) (v := .ref h_rowValue) (C := R_Model) (T := T_Model) (N := 34) hx hb hT i_Model hown hK hP 0 rfl rfl 4 (by decide) (hT _ kF_Model_16) (fun _ h9 => h9) rfl d_Model_isSo_135 ?_
              refine lv_iload hx hb d_Model_isSo_138 (lv_at hl 0 rfl) ?_
              obtain ⟨hi_33, hf⟩ := o_in hf
              refine va_iald hx hb hK hP 2 0 rfl rfl hi_33 d_Model_isSo_140 ?_
              refine lv_isub hx hb d_Model_isSo_141 ?_
              refine lv_istore (lv' := [(5, .int ((v_rowValue (v_last (v_firsts (p1 : Int32).toNatClampNeg : Int32).toNatClampNeg : Int32).toNatClampNeg) - (v_rowValue (v_before (v_firsts (p1 : Int32).toNatClampNeg : Int32).toNatClampNeg : Int32).toNatClampNeg))), (4, .int (v_before (v_firsts (p1 : Int32).toNatClampNeg : Int32).toNatClampNeg)), (3, .int (v_last (v_firsts (p1 : Int32).toNatClampNeg : Int32).toNatClampNeg)), (0, .ref h_this), (1, .int p1), (2, .int p2)]) hx hb d_Model_isSo_142 hl (by decide) rfl (fun ls hl => ?_)
              refine lv_iload hx hb d_Model_isSo_144 (lv_at hl 0 rfl) ?_
              refine lv_aload_n hx hb d_Model_isSo_146 rfl (lv_at hl 3 rfl) ?_
              refine va_get (D := (dC, dI)) (ci := 7) (v := .ref h_numbers) (C := R_Model) (T := T_Model) (N := 34) hx hb hT i_Model hown hK hP 0 rfl rfl 19 (by decide) (hT _ kF_Model_53) (fun _ h9 => h9) rfl d_Model_isSo_147 ?_
              refine lv_iload_n hx hb d_Model_isSo_150 rfl (lv_at hl 4 rfl) ?_
              obtain ⟨hi_34, hf⟩ := o_in hf
              refine va_iald hx hb hK hP 7 0 rfl rfl hi_34 d_Model_isSo_151 ?_
              refine lv_icmp_gt (tgt := 167) hx hb d_Model_isSo_152 (by decide) (fun c_35 => ?_) (fun c_35 => ?_)
              · replace hf := o_pos c_35 hf
                refine lv_iconst (v := 1) hx hb d_Model_isSo_167 (by decide) ?_
                refine lv_goto (tgt := 172) hx hb d_Model_isSo_168 (by decide) ?_
                rw [hQ, ← Option.some.inj hf]
                exact W.zret (ty := .boolean) hx hb hr rfl (fun t9 ht9 hW9 => ⟨rfl, by rw [ht9]; exact hP, hS.F ht9⟩) hS.2.2 d_Model_isSo_172
              · replace hf := o_neg c_35 hf
                refine lv_iload hx hb d_Model_isSo_155 (lv_at hl 0 rfl) ?_
                refine lv_ineg hx hb d_Model_isSo_157 ?_
                refine lv_aload_n hx hb d_Model_isSo_158 rfl (lv_at hl 3 rfl) ?_
                refine va_get (D := (dC, dI)) (ci := 7) (v := .ref h_numbers) (C := R_Model) (T := T_Model) (N := 34) hx hb hT i_Model hown hK hP 0 rfl rfl 19 (by decide) (hT _ kF_Model_53) (fun _ h9 => h9) rfl d_Model_isSo_159 ?_
                refine lv_iload_n hx hb d_Model_isSo_162 rfl (lv_at hl 4 rfl) ?_
                obtain ⟨hi_36, hf⟩ := o_in hf
                refine va_iald hx hb hK hP 7 0 rfl rfl hi_36 d_Model_isSo_163 ?_
                refine lv_icmp_le (tgt := 171) hx hb d_Model_isSo_164 (by decide) (fun c_37 => ?_) (fun c_37 => ?_)
                · replace hf := o_pos c_37 hf
                  refine lv_iconst (v := 0) hx hb d_Model_isSo_171 (by decide) ?_
                  rw [hQ, ← Option.some.inj hf]
                  exact W.zret (ty := .boolean) hx hb hr rfl (fun t9 ht9 hW9 => ⟨rfl, by rw [ht9]; exact hP, hS.F ht9⟩) hS.2.2 d_Model_isSo_172
                · replace hf := o_neg c_37 hf
                  refine lv_iconst (v := 1) hx hb d_Model_isSo_167 (by decide) ?_
                  refine lv_goto (tgt := 172) hx hb d_Model_isSo_168 (by decide) ?_
                  rw [hQ, ← Option.some.inj hf]
                  exact W.zret (ty := .boolean) hx hb hr rfl (fun t9 ht9 hW9 => ⟨rfl, by rw [ht9]; exact hP, hS.F ht9⟩) hS.2.2 d_Model_isSo_172
            · replace hf := o_neg c_31 hf
              refine lv_iconst (v := 0) hx hb d_Model_isSo_126 (by decide) ?_
              rw [hQ, ← Option.some.inj hf]
              exact W.zret (ty := .boolean) hx hb hr rfl (fun t9 ht9 hW9 => ⟨rfl, by rw [ht9]; exact hP, hS.F ht9⟩) hS.2.2 d_Model_isSo_127
      · replace hf := o_pos c_7 hf
        refine lv_iload_n hx hb d_Model_isSo_65 rfl (lv_at hl 3 rfl) ?_
        refine lv_aload_n hx hb d_Model_isSo_66 rfl (lv_at hl 1 rfl) ?_
        refine va_get (D := (dC, dI)) (ci := 7) (v := .ref h_rowMinute) (C := R_Model) (T := T_Model) (N := 34) hx hb hT i_Model hown hK hP 0 rfl rfl 3 (by decide) (hT _ kF_Model_13) (fun _ h9 => h9) rfl d_Model_isSo_67 ?_
        refine lv_iload_n hx hb d_Model_isSo_70 rfl (lv_at hl 0 rfl) ?_
        obtain ⟨hi_38, hf⟩ := o_in hf
        refine va_iald hx hb hK hP 1 0 rfl rfl hi_38 d_Model_isSo_71 ?_
        refine lv_isub hx hb d_Model_isSo_72 ?_
        refine lv_aload_n hx hb d_Model_isSo_73 rfl (lv_at hl 1 rfl) ?_
        refine va_get (D := (dC, dI)) (ci := 7) (v := .ref h_numbers) (C := R_Model) (T := T_Model) (N := 34) hx hb hT i_Model hown hK hP 0 rfl rfl 19 (by decide) (hT _ kF_Model_53) (fun _ h9 => h9) rfl d_Model_isSo_74 ?_
        refine lv_iload_n hx hb d_Model_isSo_77 rfl (lv_at hl 2 rfl) ?_
        obtain ⟨hi_39, hf⟩ := o_in hf
        refine va_iald hx hb hK hP 7 0 rfl rfl hi_39 d_Model_isSo_78 ?_
        refine lv_icmp_lt (tgt := 86) hx hb d_Model_isSo_79 (by decide) (fun c_40 => ?_) (fun c_40 => ?_)
        · replace hf := o_pos c_40 hf
          refine lv_iconst (v := 0) hx hb d_Model_isSo_86 (by decide) ?_
          rw [hQ, ← Option.some.inj hf]
          exact W.zret (ty := .boolean) hx hb hr rfl (fun t9 ht9 hW9 => ⟨rfl, by rw [ht9]; exact hP, hS.F ht9⟩) hS.2.2 d_Model_isSo_87
        · replace hf := o_neg c_40 hf
          refine lv_iconst (v := 1) hx hb d_Model_isSo_82 (by decide) ?_
          refine lv_goto (tgt := 87) hx hb d_Model_isSo_83 (by decide) ?_
          rw [hQ, ← Option.some.inj hf]
          exact W.zret (ty := .boolean) hx hb hr rfl (fun t9 ht9 hW9 => ⟨rfl, by rw [ht9]; exact hP, hS.F ht9⟩) hS.2.2 d_Model_isSo_87
    · replace hf := o_neg c_5 hf
      refine lv_iconst (v := 0) hx hb d_Model_isSo_53 (by decide) ?_
      rw [hQ, ← Option.some.inj hf]
      exact W.zret (ty := .boolean) hx hb hr rfl (fun t9 ht9 hW9 => ⟨rfl, by rw [ht9]; exact hP, hS.F ht9⟩) hS.2.2 d_Model_isSo_54
  · replace hf := o_pos c_4 hf
    refine lv_iload_n hx hb d_Model_isSo_22 rfl (lv_at hl 0 rfl) ?_
    refine lv_if_lt (tgt := 43) hx hb d_Model_isSo_23 (by decide) (fun c_41 => ?_) (fun c_41 => ?_)
    · replace hf := o_pos c_41 hf
      refine lv_iconst (v := 1) hx hb d_Model_isSo_43 (by decide) ?_
      refine lv_goto (tgt := 48) hx hb d_Model_isSo_44 (by decide) ?_
      rw [hQ, ← Option.some.inj hf]
      exact W.zret (ty := .boolean) hx hb hr rfl (fun t9 ht9 hW9 => ⟨rfl, by rw [ht9]; exact hP, hS.F ht9⟩) hS.2.2 d_Model_isSo_48
    · replace hf := o_neg c_41 hf
      refine lv_iload_n hx hb d_Model_isSo_26 rfl (lv_at hl 3 rfl) ?_
      refine lv_aload_n hx hb d_Model_isSo_27 rfl (lv_at hl 1 rfl) ?_
      refine va_get (D := (dC, dI)) (ci := 7) (v := .ref h_rowMinute) (C := R_Model) (T := T_Model) (N := 34) hx hb hT i_Model hown hK hP 0 rfl rfl 3 (by decide) (hT _ kF_Model_13) (fun _ h9 => h9) rfl d_Model_isSo_28 ?_
      refine lv_iload_n hx hb d_Model_isSo_31 rfl (lv_at hl 0 rfl) ?_
      obtain ⟨hi_42, hf⟩ := o_in hf
      refine va_iald hx hb hK hP 1 0 rfl rfl hi_42 d_Model_isSo_32 ?_
      refine lv_isub hx hb d_Model_isSo_33 ?_
      refine lv_aload_n hx hb d_Model_isSo_34 rfl (lv_at hl 1 rfl) ?_
      refine va_get (D := (dC, dI)) (ci := 7) (v := .ref h_numbers) (C := R_Model) (T := T_Model) (N := 34) hx hb hT i_Model hown hK hP 0 rfl rfl 19 (by decide) (hT _ kF_Model_53) (fun _ h9 => h9) rfl d_Model_isSo_35 ?_
      refine lv_iload_n hx hb d_Model_isSo_38 rfl (lv_at hl 2 rfl) ?_
      obtain ⟨hi_43, hf⟩ := o_in hf
      refine va_iald hx hb hK hP 7 0 rfl rfl hi_43 d_Model_isSo_39 ?_
      refine lv_icmp_le (tgt := 47) hx hb d_Model_isSo_40 (by decide) (fun c_44 => ?_) (fun c_44 => ?_)
      · replace hf := o_pos c_44 hf
        refine lv_iconst (v := 0) hx hb d_Model_isSo_47 (by decide) ?_
        rw [hQ, ← Option.some.inj hf]
        exact W.zret (ty := .boolean) hx hb hr rfl (fun t9 ht9 hW9 => ⟨rfl, by rw [ht9]; exact hP, hS.F ht9⟩) hS.2.2 d_Model_isSo_48
      · replace hf := o_neg c_44 hf
        refine lv_iconst (v := 1) hx hb d_Model_isSo_43 (by decide) ?_
        refine lv_goto (tgt := 48) hx hb d_Model_isSo_44 (by decide) ?_
        rw [hQ, ← Option.some.inj hf]
        exact W.zret (ty := .boolean) hx hb hr rfl (fun t9 ht9 hW9 => ⟨rfl, by rw [ht9]; exact hP, hS.F ht9⟩) hS.2.2 d_Model_isSo_48
def rm_Model_areAll : Room := { frames := 2, cells := 0, slots := 0, locals := 47 }
set_option maxHeartbeats 4000000 in
set_option maxRecDepth 100000 in
theorem c_Model_areAll (l : Launch) (dC : Nat → ClassId) (dI : Nat → Nat → Nat) (cI cL cC : ClassId) (h_this h_rowPoint h_rowMinute h_rowValue h_text h_kinds h_values h_names h_testCounts h_minutes h_costs h_sorts h_firsts h_seconds h_relations h_numbers h_last h_before h_heldCounts h_streaks h_faultRule h_faultBegin h_faultEnd h_order h_left h_brings : Nat) (sz : Nat) (fu : Nat) (v_thrown : Int32) (v_rows : Int32) (v_size : Int32) (v_words : Int32) (v_at : Int32) (v_ruleCount : Int32) (v_ran : Int32) (v_faults : Int32) (v_leftCount : Int32) (v_rowMinute : Nat → Int32) (v_rowValue : Nat → Int32) (v_testCounts : Nat → Int32) (v_sorts : Nat → Int32) (v_firsts : Nat → Int32) (v_seconds : Nat → Int32) (v_relations : Nat → Int32) (v_numbers : Nat → Int32) (v_last : Nat → Int32) (v_before : Nat → Int32) (p1 : Int32) (p2 : Int32) (t : Int32) (hf : f_Model_areAll fu v_rowMinute v_rowValue v_testCounts v_sorts v_firsts v_seconds v_relations v_numbers v_last v_before p1 p2 = some t) : Met l y_Model_areAll (Cond.code y_Model_areAll prog_9_method_34_code 5 (some .boolean) :: xT) rm_Model_areAll (va_Pc [.ref h_this, .int p1, .int p2] (xP (dC, dI) (xTy cI cL cC) [(h_this, .inr (7, [.int v_thrown, .int v_rows, .ref h_rowPoint, .ref h_rowMinute, .ref h_rowValue, .ref h_text, .int v_size, .ref h_kinds, .ref h_values, .int v_words, .int v_at, .ref h_names, .ref h_testCounts, .ref h_minutes, .ref h_costs, .ref h_sorts, .ref h_firsts, .ref h_seconds, .ref h_relations, .ref h_numbers, .int v_ruleCount, .ref h_last, .ref h_before, .int v_ran, .ref h_heldCounts, .ref h_streaks, .int v_faults, .ref h_faultRule, .ref h_faultBegin, .ref h_faultEnd, .ref h_order, .ref h_left, .int v_leftCount, .ref h_brings])), (h_rowMinute, .inl (cI, 120, .inl v_rowMinute)), (h_rowValue, .inl (cI, 120, .inl v_rowValue)), (h_testCounts, .inl (cI, 12, .inl v_testCounts)), (h_sorts, .inl (cI, 72, .inl v_sorts)), (h_firsts, .inl (cI, 72, .inl v_firsts)), (h_seconds, .inl (cI, 72, .inl v_seconds)), (h_relations, .inl (cI, 72, .inl v_relations)), (h_numbers, .inl (cI, 72, .inl v_numbers)), (h_last, .inl (cI, 16, .inl v_last)), (h_before, .inl (cI, 16, .inl v_before))] sz)) (xQ (dC, dI) [(h_this, .inr (7, [.int v_thrown, .int v_rows, .ref h_rowPoint, .ref h_rowMinute, .ref h_rowValue, .ref h_text, .int v_size, .ref h_kinds, .ref h_values, .int v_words, .int v_at, .ref h_names, .ref h_testCounts, .ref h_minutes, .ref h_costs, .ref h_sorts, .ref h_firsts, .ref h_seconds, .ref h_relations, .ref h_numbers, .int v_ruleCount, .ref h_last, .ref h_before, .int v_ran, .ref h_heldCounts, .ref h_streaks, .int v_faults, .ref h_faultRule, .ref h_faultBegin, .ref h_faultEnd, .ref h_order, .ref h_left, .int v_leftCount, .ref h_brings])), (h_rowMinute, .inl (cI, 120, .inl v_rowMinute)), (h_rowValue, .inl (cI, 120, .inl v_rowValue)), (h_testCounts, .inl (cI, 12, .inl v_testCounts)), (h_sorts, .inl (cI, 72, .inl v_sorts)), (h_firsts, .inl (cI, 72, .inl v_firsts)), (h_seconds, .inl (cI, 72, .inl v_seconds)), (h_relations, .inl (cI, 72, .inl v_relations)), (h_numbers, .inl (cI, 72, .inl v_numbers)), (h_last, .inl (cI, 16, .inl v_last)), (h_before, .inl (cI, 16, .inl v_before))] (va_A [(h_this, .inr (7, [.int v_thrown, .int v_rows, .ref h_rowPoint, .ref h_rowMinute, .ref h_rowValue, .ref h_text, .int v_size, .ref h_kinds, .ref h_values, .int v_words, .int v_at, .ref h_names, .ref h_testCounts, .ref h_minutes, .ref h_costs, .ref h_sorts, .ref h_firsts, .ref h_seconds, .ref h_relations, .ref h_numbers, .int v_ruleCount, .ref h_last, .ref h_before, .int v_ran, .ref h_heldCounts, .ref h_streaks, .int v_faults, .ref h_faultRule, .ref h_faultBegin, .ref h_faultEnd, .ref h_order, .ref h_left, .int v_leftCount, .ref h_brings])), (h_rowMinute, .inl (cI, 120, .inl v_rowMinute)), (h_rowValue, .inl (cI, 120, .inl v_rowValue)), (h_testCounts, .inl (cI, 12, .inl v_testCounts)), (h_sorts, .inl (cI, 72, .inl v_sorts)), (h_firsts, .inl (cI, 72, .inl v_firsts)), (h_seconds, .inl (cI, 72, .inl v_seconds)), (h_relations, .inl (cI, 72, .inl v_relations)), (h_numbers, .inl (cI, 72, .inl v_numbers)), (h_last, .inl (cI, 16, .inl v_last)), (h_before, .inl (cI, 16, .inl v_before))] sz) (some (.int t))) 0 0 (va_A [(h_this, .inr (7, [.int v_thrown, .int v_rows, .ref h_rowPoint, .ref h_rowMinute, .ref h_rowValue, .ref h_text, .int v_size, .ref h_kinds, .ref h_values, .int v_words, .int v_at, .ref h_names, .ref h_testCounts, .ref h_minutes, .ref h_costs, .ref h_sorts, .ref h_firsts, .ref h_seconds, .ref h_relations, .ref h_numbers, .int v_ruleCount, .ref h_last, .ref h_before, .int v_ran, .ref h_heldCounts, .ref h_streaks, .int v_faults, .ref h_faultRule, .ref h_faultBegin, .ref h_faultEnd, .ref h_order, .ref h_left, .int v_leftCount, .ref h_brings])), (h_rowMinute, .inl (cI, 120, .inl v_rowMinute)), (h_rowValue, .inl (cI, 120, .inl v_rowValue)), (h_testCounts, .inl (cI, 12, .inl v_testCounts)), (h_sorts, .inl (cI, 72, .inl v_sorts)), (h_firsts, .inl (cI, 72, .inl v_firsts)), (h_seconds, .inl (cI, 72, .inl v_seconds)), (h_relations, .inl (cI, 72, .inl v_relations)), (h_numbers, .inl (cI, 72, .inl v_numbers)), (h_last, .inl (cI, 16, .inl v_last)), (h_before, .inl (cI, 16, .inl v_before))] sz) := by
  refine Met.ofW (cc := prog_9_method_34_code) (maxL := 5) (ret := (some .boolean)) (by decide) rfl ?_
  intro p e s m args below meth c s₁ B hml hv
  obtain ⟨hargs, hsz, hP, hK, hN, hD0⟩ := hv
  have hx := B.exec
  have hb := B.bytes
  have hr := B.returns
  have hT : ∀ w ∈ xT, w.before args s = true := fun w hw => atoms_spec (ws := Cond.code y_Model_areAll prog_9_method_34_code 5 (some .boolean) :: xT) B.pre w (List.mem_cons_of_mem _ hw)
  have hown : s.vm.findClass R_Model = some m.cls := findClass_of_methodNamed B.named
  have hlocks := B.notSynchronized
  subst hsz
  have hD := hD0.self (sz := s.heap.size)
  generalize hAe : va_A [(h_this, .inr (7, [.int v_thrown, .int v_rows, .ref h_rowPoint, .ref h_rowMinute, .ref h_rowValue, .ref h_text, .int v_size, .ref h_kinds, .ref h_values, .int v_words, .int v_at, .ref h_names, .ref h_testCounts, .ref h_minutes, .ref h_costs, .ref h_sorts, .ref h_firsts, .ref h_seconds, .ref h_relations, .ref h_numbers, .int v_ruleCount, .ref h_last, .ref h_before, .int v_ran, .ref h_heldCounts, .ref h_streaks, .int v_faults, .ref h_faultRule, .ref h_faultBegin, .ref h_faultEnd, .ref h_order, .ref h_left, .int v_leftCount, .ref h_brings])), (h_rowMinute, .inl (cI, 120, .inl v_rowMinute)), (h_rowValue, .inl (cI, 120, .inl v_rowValue)), (h_testCounts, .inl (cI, 12, .inl v_testCounts)), (h_sorts, .inl (cI, 72, .inl v_sorts)), (h_firsts, .inl (cI, 72, .inl v_firsts)), (h_seconds, .inl (cI, 72, .inl v_seconds)), (h_relations, .inl (cI, 72, .inl v_relations)), (h_numbers, .inl (cI, 72, .inl v_numbers)), (h_last, .inl (cI, 16, .inl v_last)), (h_before, .inl (cI, 16, .inl v_before))] s.heap.size = A at hD ⊢
  have hA : ∀ q : Nat, s.heap.size ≤ q → A q := fun q h => by rw [← hAe]; exact Or.inr h
  have hS : va_S A s.heap s.heap [] := va_S.rf
  have hP : va_P (dC, dI) vwCl [(h_this, .inr (7, [.int v_thrown, .int v_rows, .ref h_rowPoint, .ref h_rowMinute, .ref h_rowValue, .ref h_text, .int v_size, .ref h_kinds, .ref h_values, .int v_words, .int v_at, .ref h_names, .ref h_testCounts, .ref h_minutes, .ref h_costs, .ref h_sorts, .ref h_firsts, .ref h_seconds, .ref h_relations, .ref h_numbers, .int v_ruleCount, .ref h_last, .ref h_before, .int v_ran, .ref h_heldCounts, .ref h_streaks, .int v_faults, .ref h_faultRule, .ref h_faultBegin, .ref h_faultEnd, .ref h_order, .ref h_left, .int v_leftCount, .ref h_brings])), (h_rowMinute, .inl (cI, 120, .inl v_rowMinute)), (h_rowValue, .inl (cI, 120, .inl v_rowValue)), (h_testCounts, .inl (cI, 12, .inl v_testCounts)), (h_sorts, .inl (cI, 72, .inl v_sorts)), (h_firsts, .inl (cI, 72, .inl v_firsts)), (h_seconds, .inl (cI, 72, .inl v_seconds)), (h_relations, .inl (cI, 72, .inl v_relations)), (h_numbers, .inl (cI, 72, .inl v_numbers)), (h_last, .inl (cI, 16, .inl v_last)), (h_before, .inl (cI, 16, .inl v_before))] s.heap := hP
  have hl := lv_entry ([.ref h_this, .int p1, .int p2]) (n := 5) (Nat.le_of_ble_eq_true rfl)
  rw [show entryFrame m args 5 = entryFrame m ([.ref h_this, .int p1, .int p2] : List Value).toArray 5 from by rw [hargs], lg_entry_eq]
  generalize (lg_sl ([.ref h_this, .int p1, .int p2]) ++ List.replicate (5 - (lg_sl ([.ref h_this, .int p1, .int p2])).length) Slot.unset).toArray = ls at hl ⊢
  have hl : lv_has ls 5 [(0, .ref h_this), (1, .int p1), (2, .int p2)] := hl
  obtain ⟨Q, hQ⟩ : ∃ Q, Q = MQ below (xQ (dC, dI) [(h_this, .inr (7, [.int v_thrown, .int v_rows, .ref h_rowPoint, .ref h_rowMinute, .ref h_rowValue, .ref h_text, .int v_size, .ref h_kinds, .ref h_values, .int v_words, .int v_at, .ref h_names, .ref h_testCounts, .ref h_minutes, .ref h_costs, .ref h_sorts, .ref h_firsts, .ref h_seconds, .ref h_relations, .ref h_numbers, .int v_ruleCount, .ref h_last, .ref h_before, .int v_ran, .ref h_heldCounts, .ref h_streaks, .int v_faults, .ref h_faultRule, .ref h_faultBegin, .ref h_faultEnd, .ref h_order, .ref h_left, .int v_leftCount, .ref h_brings])), (h_rowMinute, .inl (cI, 120, .inl v_rowMinute)), (h_rowValue, .inl (cI, 120, .inl v_rowValue)), (h_testCounts, .inl (cI, 12, .inl v_testCounts)), (h_sorts, .inl (cI, 72, .inl v_sorts)), (h_firsts, .inl (cI, 72, .inl v_firsts)), (h_seconds, .inl (cI, 72, .inl v_seconds)), (h_relations, .inl (cI, 72, .inl v_relations)), (h_numbers, .inl (cI, 72, .inl v_numbers)), (h_last, .inl (cI, 16, .inl v_last)), (h_before, .inl (cI, 16, .inl v_before))] A (some (.int t))) args s 0 0 A := ⟨_, rfl⟩
  rw [← hQ]
  show W p l e rm_Model_areAll s m args below meth c s.heap [] 0 0 Q _
  obtain ⟨H, hH⟩ : ∃ H, H = s.heap := ⟨_, rfl⟩
  obtain ⟨locs, hlocs⟩ : ∃ L : List Loc, L = [] := ⟨_, rfl⟩
  rw [← hlocs] at hS ⊢
  have hS : va_S A s.heap H locs := by rw [hH]; exact hS
  rw [← hH] at hP ⊢
  replace hf := f_Model_areAll_u hf
  refine lv_iconst (v := 1) hx hb d_Model_areAll_0 (by decide) ?_
  refine lv_istore_n (lv' := [(3, .int 1), (0, .ref h_this), (1, .int p1), (2, .int p2)]) hx hb d_Model_areAll_1 rfl hl (by decide) rfl (fun ls hl => ?_)
  refine lv_bipush (v := 6) hx hb d_Model_areAll_2 (by decide) ?_
  refine lv_iload_n hx hb d_Model_areAll_4 rfl (lv_at hl 2 rfl) ?_
  refine lv_imul hx hb d_Model_areAll_5 ?_
  refine lv_istore (lv' := [(4, .int (6 * p1)), (3, .int 1), (0, .ref h_this), (1, .int p1), (2, .int p2)]) hx hb d_Model_areAll_6 hl (by decide) rfl (fun ls hl => ?_)
  have lp_8 : ∀ (n : Nat) (l3_8 : Int32) (l4_8 : Int32) (H : Heap) (locs : List Loc) (ls : Array Slot), L_Model_areAll_8 fu v_rowMinute v_rowValue v_testCounts v_sorts v_firsts v_seconds v_relations v_numbers v_last v_before p1 p2 n l3_8 l4_8 = some t → va_P (dC, dI) vwCl [(h_this, .inr (7, [.int v_thrown, .int v_rows, .ref h_rowPoint, .ref h_rowMinute, .ref h_rowValue, .ref h_text, .int v_size, .ref h_kinds, .ref h_values, .int v_words, .int v_at, .ref h_names, .ref h_testCounts, .ref h_minutes, .ref h_costs, .ref h_sorts, .ref h_firsts, .ref h_seconds, .ref h_relations, .ref h_numbers, .int v_ruleCount, .ref h_last, .ref h_before, .int v_ran, .ref h_heldCounts, .ref h_streaks, .int v_faults, .ref h_faultRule, .ref h_faultBegin, .ref h_faultEnd, .ref h_order, .ref h_left, .int v_leftCount, .ref h_brings])), (h_rowMinute, .inl (cI, 120, .inl v_rowMinute)), (h_rowValue, .inl (cI, 120, .inl v_rowValue)), (h_testCounts, .inl (cI, 12, .inl v_testCounts)), (h_sorts, .inl (cI, 72, .inl v_sorts)), (h_firsts, .inl (cI, 72, .inl v_firsts)), (h_seconds, .inl (cI, 72, .inl v_seconds)), (h_relations, .inl (cI, 72, .inl v_relations)), (h_numbers, .inl (cI, 72, .inl v_numbers)), (h_last, .inl (cI, 16, .inl v_last)), (h_before, .inl (cI, 16, .inl v_before))] H → va_D A [(h_this, .inr (7, [.int v_thrown, .int v_rows, .ref h_rowPoint, .ref h_rowMinute, .ref h_rowValue, .ref h_text, .int v_size, .ref h_kinds, .ref h_values, .int v_words, .int v_at, .ref h_names, .ref h_testCounts, .ref h_minutes, .ref h_costs, .ref h_sorts, .ref h_firsts, .ref h_seconds, .ref h_relations, .ref h_numbers, .int v_ruleCount, .ref h_last, .ref h_before, .int v_ran, .ref h_heldCounts, .ref h_streaks, .int v_faults, .ref h_faultRule, .ref h_faultBegin, .ref h_faultEnd, .ref h_order, .ref h_left, .int v_leftCount, .ref h_brings])), (h_rowMinute, .inl (cI, 120, .inl v_rowMinute)), (h_rowValue, .inl (cI, 120, .inl v_rowValue)), (h_testCounts, .inl (cI, 12, .inl v_testCounts)), (h_sorts, .inl (cI, 72, .inl v_sorts)), (h_firsts, .inl (cI, 72, .inl v_firsts)), (h_seconds, .inl (cI, 72, .inl v_seconds)), (h_relations, .inl (cI, 72, .inl v_relations)), (h_numbers, .inl (cI, 72, .inl v_numbers)), (h_last, .inl (cI, 16, .inl v_last)), (h_before, .inl (cI, 16, .inl v_before))] → va_S A s.heap H locs → lv_has ls 5 [(0, .ref h_this), (1, .int p1), (2, .int p2), (3, .int l3_8), (4, .int l4_8)] → W p l e rm_Model_areAll s m args below meth c H locs 0 0 Q (F0 m 8 ls []) := by
    intro  n
    induction n with
    | zero => intro l3_8 l4_8 H locs ls hf; exact (L_Model_areAll_8_z hf).elim
    | succ n ih =>
      intro l3_8 l4_8 H locs ls hf hP hD hS hl
      replace hf := L_Model_areAll_8_u hf
      refine lv_iload hx hb d_Model_areAll_8 (lv_at hl 4 rfl) ?_
      refine lv_bipush (v := 6) hx hb d_Model_areAll_10 (by decide) ?_
      refine lv_iload_n hx hb d_Model_areAll_12 rfl (lv_at hl 1 rfl) ?_
      refine lv_imul hx hb d_Model_areAll_13 ?_
      refine lv_aload_n hx hb d_Model_areAll_14 rfl (lv_at hl 0 rfl) ?_
      refine va_get (D := (dC, dI)) (ci := 7) (v := .ref h_testCounts) (C := R_Model) (T := T_Model) (N := 34) hx hb hT i_Model hown hK hP 0 rfl rfl 12 (by decide) (hT _ kF_Model_32) (fun _ h9 => h9) rfl d_Model_areAll_15 ?_
      refine lv_iload_n hx hb d_Model_areAll_18 rfl (lv_at hl 1 rfl) ?_
      obtain ⟨hi_1, hf⟩ := o_in hf
      refine va_iald hx hb hK hP 3 0 rfl rfl hi_1 d_Model_areAll_19 ?_
      refine lv_iadd hx hb d_Model_areAll_20 ?_
      refine lv_icmp_ge (tgt := 50) hx hb d_Model_areAll_21 (by decide) (fun c_2 => ?_) (fun c_2 => ?_)
      · replace hf := o_pos c_2 hf
        refine lv_iload_n hx hb d_Model_areAll_50 rfl (lv_at hl 3 rfl) ?_
        obtain ⟨hz_3, hf⟩ := o_zb hf
        rw [hQ, ← Option.some.inj hf]
        exact W.zret (ty := .boolean) hx hb hr hz_3 (fun t9 ht9 hW9 => ⟨rfl, by rw [ht9]; exact hP, hS.F ht9⟩) hS.2.2 d_Model_areAll_51
      · replace hf := o_neg c_2 hf
        refine lv_iload_n hx hb d_Model_areAll_24 rfl (lv_at hl 3 rfl) ?_
        refine lv_if_eq (tgt := 42) hx hb d_Model_areAll_25 (by decide) (fun c_4 => ?_) (fun c_4 => ?_)
        · replace hf := o_pos c_4 hf
          refine lv_iconst (v := 0) hx hb d_Model_areAll_42 (by decide) ?_
          refine lv_istore_n (lv' := [(3, .int 0), (0, .ref h_this), (1, .int p1), (2, .int p2), (4, .int l4_8)]) hx hb d_Model_areAll_43 rfl hl (by decide) rfl (fun ls hl => ?_)
          refine lv_iinc (v := l4_8 + 1) (lv' := [(4, .int (l4_8 + 1)), (3, .int 0), (0, .ref h_this), (1, .int p1), (2, .int p2)]) hx hb d_Model_areAll_44 hl (k := 4) rfl rfl (by decide) rfl (fun ls hl => ?_)
          refine lv_goto (tgt := 8) hx hb d_Model_areAll_47 (by decide) ?_
          exact ih 0 (l4_8 + 1) H locs ls hf hP hD hS (lv_sub hl [2, 3, 4, 1, 0] rfl)
        · replace hf := o_neg c_4 hf
          refine lv_aload_n hx hb d_Model_areAll_28 rfl (lv_at hl 0 rfl) ?_
          refine lv_iload hx hb d_Model_areAll_29 (lv_at hl 4 rfl) ?_
          refine lv_iload_n hx hb d_Model_areAll_31 rfl (lv_at hl 2 rfl) ?_
          obtain ⟨t_5, hg_5, hf⟩ := o_bind hf
          refine x_virt (w' := [(h_this, .inr (7, [.int v_thrown, .int v_rows, .ref h_rowPoint, .ref h_rowMinute, .ref h_rowValue, .ref h_text, .int v_size, .ref h_kinds, .ref h_values, .int v_words, .int v_at, .ref h_names, .ref h_testCounts, .ref h_minutes, .ref h_costs, .ref h_sorts, .ref h_firsts, .ref h_seconds, .ref h_relations, .ref h_numbers, .int v_ruleCount, .ref h_last, .ref h_before, .int v_ran, .ref h_heldCounts, .ref h_streaks, .int v_faults, .ref h_faultRule, .ref h_faultBegin, .ref h_faultEnd, .ref h_order, .ref h_left, .int v_leftCount, .ref h_brings])), (h_rowMinute, .inl (cI, 120, .inl v_rowMinute)), (h_rowValue, .inl (cI, 120, .inl v_rowValue)), (h_testCounts, .inl (cI, 12, .inl v_testCounts)), (h_sorts, .inl (cI, 72, .inl v_sorts)), (h_firsts, .inl (cI, 72, .inl v_firsts)), (h_seconds, .inl (cI, 72, .inl v_seconds)), (h_relations, .inl (cI, 72, .inl v_relations)), (h_numbers, .inl (cI, 72, .inl v_numbers)), (h_last, .inl (cI, 16, .inl v_last)), (h_before, .inl (cI, 16, .inl v_before))]) (As := [.int l4_8, .int p2]) (rest := []) hx hb hml hl.1 hown hT hK hN hP hD hS hA (c_Model_isSo l dC dI cI cL cC h_this h_rowPoint h_rowMinute h_rowValue h_text h_kinds h_values h_names h_testCounts h_minutes h_costs h_sorts h_firsts h_seconds h_relations h_numbers h_last h_before h_heldCounts h_streaks h_faultRule h_faultBegin h_faultEnd h_order h_left h_brings H.size v_thrown v_rows v_size v_words v_at v_ruleCount v_ran v_faults v_leftCount v_rowMinute v_rowValue v_sorts v_firsts v_seconds v_relations v_numbers v_last v_before l4_8 p2 t_5 hg_5) kM_Model_248 kI_Model_isSo kS_520 kN_Model kC_Model_isSo hd_Model_isSo rfl 0 rfl rfl rfl ⟨Nat.le_of_ble_eq_true rfl, Nat.le_of_ble_eq_true rfl⟩ rfl rfl ⟨Nat.zero_le _, Nat.zero_le _⟩ rfl (Nat.le_of_ble_eq_true rfl) d_Model_areAll_32 [0, 1, 2, 4, 5, 6, 7, 8, 9, 10] rfl rfl [.inr 0, .inr 1, .inr 2, .inl 3, .inr 3, .inr 4, .inr 5, .inr 6, .inr 7, .inr 8, .inr 9] rfl rfl rfl (fun H locs hP hD hS => ?_)
          refine lv_if_eq (tgt := 42) hx hb d_Model_areAll_35 (by decide) (fun c_6 => ?_) (fun c_6 => ?_)
          · replace hf := o_pos c_6 hf
            refine lv_iconst (v := 0) hx hb d_Model_areAll_42 (by decide) ?_
            refine lv_istore_n (lv' := [(3, .int 0), (0, .ref h_this), (1, .int p1), (2, .int p2), (4, .int l4_8)]) hx hb d_Model_areAll_43 rfl hl (by decide) rfl (fun ls hl => ?_)
            refine lv_iinc (v := l4_8 + 1) (lv' := [(4, .int (l4_8 + 1)), (3, .int 0), (0, .ref h_this), (1, .int p1), (2, .int p2)]) hx hb d_Model_areAll_44 hl (k := 4) rfl rfl (by decide) rfl (fun ls hl => ?_)
            refine lv_goto (tgt := 8) hx hb d_Model_areAll_47 (by decide) ?_
            exact ih 0 (l4_8 + 1) H locs ls hf hP hD hS (lv_sub hl [2, 3, 4, 1, 0] rfl)
          · replace hf := o_neg c_6 hf
            refine lv_iconst (v := 1) hx hb d_Model_areAll_38 (by decide) ?_
            refine lv_goto (tgt := 43) hx hb d_Model_areAll_39 (by decide) ?_
            refine lv_istore_n (lv' := [(3, .int 1), (0, .ref h_this), (1, .int p1), (2, .int p2), (4, .int l4_8)]) hx hb d_Model_areAll_43 rfl hl (by decide) rfl (fun ls hl => ?_)
            refine lv_iinc (v := l4_8 + 1) (lv' := [(4, .int (l4_8 + 1)), (3, .int 1), (0, .ref h_this), (1, .int p1), (2, .int p2)]) hx hb d_Model_areAll_44 hl (k := 4) rfl rfl (by decide) rfl (fun ls hl => ?_)
            refine lv_goto (tgt := 8) hx hb d_Model_areAll_47 (by decide) ?_
            exact ih 1 (l4_8 + 1) H locs ls hf hP hD hS (lv_sub hl [2, 3, 4, 1, 0] rfl)
  refine lp_8  fu 1 (6 * p1) H locs ls hf hP hD hS (lv_sub hl [2, 3, 4, 1, 0] rfl)
def rm_Model_holds : Room := { frames := 2, cells := 0, slots := 0, locals := 47 }
set_option maxHeartbeats 4000000 in
set_option maxRecDepth 100000 in
theorem c_Model_holds (l : Launch) (dC : Nat → ClassId) (dI : Nat → Nat → Nat) (cI cL cC : ClassId) (h_this h_rowPoint h_rowMinute h_rowValue h_text h_kinds h_values h_names h_testCounts h_minutes h_costs h_sorts h_firsts h_seconds h_relations h_numbers h_last h_before h_heldCounts h_streaks h_faultRule h_faultBegin h_faultEnd h_order h_left h_brings : Nat) (sz : Nat) (fu : Nat) (v_thrown : Int32) (v_rows : Int32) (v_size : Int32) (v_words : Int32) (v_at : Int32) (v_ruleCount : Int32) (v_ran : Int32) (v_faults : Int32) (v_leftCount : Int32) (v_rowPoint : Nat → Int32) (v_rowMinute : Nat → Int32) (v_rowValue : Nat → Int32) (v_testCounts : Nat → Int32) (v_sorts : Nat → Int32) (v_firsts : Nat → Int32) (v_seconds : Nat → Int32) (v_relations : Nat → Int32) (v_numbers : Nat → Int32) (v_last : Nat → Int32) (v_before : Nat → Int32) (p1 : Int32) (p2 : Int32) (p3 : Int32) (t : Int32 × Int32 × (Nat → Int32) × (Nat → Int32)) (hf : f_Model_holds fu v_thrown v_rows v_ruleCount v_rowPoint v_rowMinute v_rowValue v_testCounts v_sorts v_firsts v_seconds v_relations v_numbers v_last v_before p1 p2 p3 = some t) : Met l y_Model_holds (Cond.code y_Model_holds prog_9_method_35_code 4 (some .boolean) :: xT) rm_Model_holds (va_Pc [.ref h_this, .int p1, .int p2, .int p3] (xP (dC, dI) (xTy cI cL cC) [(h_this, .inr (7, [.int v_thrown, .int v_rows, .ref h_rowPoint, .ref h_rowMinute, .ref h_rowValue, .ref h_text, .int v_size, .ref h_kinds, .ref h_values, .int v_words, .int v_at, .ref h_names, .ref h_testCounts, .ref h_minutes, .ref h_costs, .ref h_sorts, .ref h_firsts, .ref h_seconds, .ref h_relations, .ref h_numbers, .int v_ruleCount, .ref h_last, .ref h_before, .int v_ran, .ref h_heldCounts, .ref h_streaks, .int v_faults, .ref h_faultRule, .ref h_faultBegin, .ref h_faultEnd, .ref h_order, .ref h_left, .int v_leftCount, .ref h_brings])), (h_rowPoint, .inl (cI, 120, .inl v_rowPoint)), (h_rowMinute, .inl (cI, 120, .inl v_rowMinute)), (h_rowValue, .inl (cI, 120, .inl v_rowValue)), (h_testCounts, .inl (cI, 12, .inl v_testCounts)), (h_sorts, .inl (cI, 72, .inl v_sorts)), (h_firsts, .inl (cI, 72, .inl v_firsts)), (h_seconds, .inl (cI, 72, .inl v_seconds)), (h_relations, .inl (cI, 72, .inl v_relations)), (h_numbers, .inl (cI, 72, .inl v_numbers)), (h_last, .inl (cI, 16, .inl v_last)), (h_before, .inl (cI, 16, .inl v_before))] sz)) (xQ (dC, dI) [(h_this, .inr (7, [.int t.2.1, .int v_rows, .ref h_rowPoint, .ref h_rowMinute, .ref h_rowValue, .ref h_text, .int v_size, .ref h_kinds, .ref h_values, .int v_words, .int v_at, .ref h_names, .ref h_testCounts, .ref h_minutes, .ref h_costs, .ref h_sorts, .ref h_firsts, .ref h_seconds, .ref h_relations, .ref h_numbers, .int v_ruleCount, .ref h_last, .ref h_before, .int v_ran, .ref h_heldCounts, .ref h_streaks, .int v_faults, .ref h_faultRule, .ref h_faultBegin, .ref h_faultEnd, .ref h_order, .ref h_left, .int v_leftCount, .ref h_brings])), (h_rowPoint, .inl (cI, 120, .inl v_rowPoint)), (h_rowMinute, .inl (cI, 120, .inl v_rowMinute)), (h_rowValue, .inl (cI, 120, .inl v_rowValue)), (h_testCounts, .inl (cI, 12, .inl v_testCounts)), (h_sorts, .inl (cI, 72, .inl v_sorts)), (h_firsts, .inl (cI, 72, .inl v_firsts)), (h_seconds, .inl (cI, 72, .inl v_seconds)), (h_relations, .inl (cI, 72, .inl v_relations)), (h_numbers, .inl (cI, 72, .inl v_numbers)), (h_last, .inl (cI, 16, .inl t.2.2.1)), (h_before, .inl (cI, 16, .inl t.2.2.2))] (va_A [(h_this, .inr (7, [.int v_thrown, .int v_rows, .ref h_rowPoint, .ref h_rowMinute, .ref h_rowValue, .ref h_text, .int v_size, .ref h_kinds, .ref h_values, .int v_words, .int v_at, .ref h_names, .ref h_testCounts, .ref h_minutes, .ref h_costs, .ref h_sorts, .ref h_firsts, .ref h_seconds, .ref h_relations, .ref h_numbers, .int v_ruleCount, .ref h_last, .ref h_before, .int v_ran, .ref h_heldCounts, .ref h_streaks, .int v_faults, .ref h_faultRule, .ref h_faultBegin, .ref h_faultEnd, .ref h_order, .ref h_left, .int v_leftCount, .ref h_brings])), (h_rowPoint, .inl (cI, 120, .inl v_rowPoint)), (h_rowMinute, .inl (cI, 120, .inl v_rowMinute)), (h_rowValue, .inl (cI, 120, .inl v_rowValue)), (h_testCounts, .inl (cI, 12, .inl v_testCounts)), (h_sorts, .inl (cI, 72, .inl v_sorts)), (h_firsts, .inl (cI, 72, .inl v_firsts)), (h_seconds, .inl (cI, 72, .inl v_seconds)), (h_relations, .inl (cI, 72, .inl v_relations)), (h_numbers, .inl (cI, 72, .inl v_numbers)), (h_last, .inl (cI, 16, .inl v_last)), (h_before, .inl (cI, 16, .inl v_before))] sz) (some (.int t.1))) 0 0 (va_A [(h_this, .inr (7, [.int v_thrown, .int v_rows, .ref h_rowPoint, .ref h_rowMinute, .ref h_rowValue, .ref h_text, .int v_size, .ref h_kinds, .ref h_values, .int v_words, .int v_at, .ref h_names, .ref h_testCounts, .ref h_minutes, .ref h_costs, .ref h_sorts, .ref h_firsts, .ref h_seconds, .ref h_relations, .ref h_numbers, .int v_ruleCount, .ref h_last, .ref h_before, .int v_ran, .ref h_heldCounts, .ref h_streaks, .int v_faults, .ref h_faultRule, .ref h_faultBegin, .ref h_faultEnd, .ref h_order, .ref h_left, .int v_leftCount, .ref h_brings])), (h_rowPoint, .inl (cI, 120, .inl v_rowPoint)), (h_rowMinute, .inl (cI, 120, .inl v_rowMinute)), (h_rowValue, .inl (cI, 120, .inl v_rowValue)), (h_testCounts, .inl (cI, 12, .inl v_testCounts)), (h_sorts, .inl (cI, 72, .inl v_sorts)), (h_firsts, .inl (cI, 72, .inl v_firsts)), (h_seconds, .inl (cI, 72, .inl v_seconds)), (h_relations, .inl (cI, 72, .inl v_relations)), (h_numbers, .inl (cI, 72, .inl v_numbers)), (h_last, .inl (cI, 16, .inl v_last)), (h_before, .inl (cI, 16, .inl v_before))] sz) := by
  refine Met.ofW (cc := prog_9_method_35_code) (maxL := 4) (ret := (some .boolean)) (by decide) rfl ?_
  intro p e s m args below meth c s₁ B hml hv
  obtain ⟨hargs, hsz, hP, hK, hN, hD0⟩ := hv
  have hx := B.exec
  have hb := B.bytes
  have hr := B.returns
  have hT : ∀ w ∈ xT, w.before args s = true := fun w hw => atoms_spec (ws := Cond.code y_Model_holds prog_9_method_35_code 4 (some .boolean) :: xT) B.pre w (List.mem_cons_of_mem _ hw)
  have hown : s.vm.findClass R_Model = some m.cls := findClass_of_methodNamed B.named
  have hlocks := B.notSynchronized
  subst hsz
  have hD := hD0.self (sz := s.heap.size)
  generalize hAe : va_A [(h_this, .inr (7, [.int v_thrown, .int v_rows, .ref h_rowPoint, .ref h_rowMinute, .ref h_rowValue, .ref h_text, .int v_size, .ref h_kinds, .ref h_values, .int v_words, .int v_at, .ref h_names, .ref h_testCounts, .ref h_minutes, .ref h_costs, .ref h_sorts, .ref h_firsts, .ref h_seconds, .ref h_relations, .ref h_numbers, .int v_ruleCount, .ref h_last, .ref h_before, .int v_ran, .ref h_heldCounts, .ref h_streaks, .int v_faults, .ref h_faultRule, .ref h_faultBegin, .ref h_faultEnd, .ref h_order, .ref h_left, .int v_leftCount, .ref h_brings])), (h_rowPoint, .inl (cI, 120, .inl v_rowPoint)), (h_rowMinute, .inl (cI, 120, .inl v_rowMinute)), (h_rowValue, .inl (cI, 120, .inl v_rowValue)), (h_testCounts, .inl (cI, 12, .inl v_testCounts)), (h_sorts, .inl (cI, 72, .inl v_sorts)), (h_firsts, .inl (cI, 72, .inl v_firsts)), (h_seconds, .inl (cI, 72, .inl v_seconds)), (h_relations, .inl (cI, 72, .inl v_relations)), (h_numbers, .inl (cI, 72, .inl v_numbers)), (h_last, .inl (cI, 16, .inl v_last)), (h_before, .inl (cI, 16, .inl v_before))] s.heap.size = A at hD ⊢
  have hA : ∀ q : Nat, s.heap.size ≤ q → A q := fun q h => by rw [← hAe]; exact Or.inr h
  have hS : va_S A s.heap s.heap [] := va_S.rf
  have hP : va_P (dC, dI) vwCl [(h_this, .inr (7, [.int v_thrown, .int v_rows, .ref h_rowPoint, .ref h_rowMinute, .ref h_rowValue, .ref h_text, .int v_size, .ref h_kinds, .ref h_values, .int v_words, .int v_at, .ref h_names, .ref h_testCounts, .ref h_minutes, .ref h_costs, .ref h_sorts, .ref h_firsts, .ref h_seconds, .ref h_relations, .ref h_numbers, .int v_ruleCount, .ref h_last, .ref h_before, .int v_ran, .ref h_heldCounts, .ref h_streaks, .int v_faults, .ref h_faultRule, .ref h_faultBegin, .ref h_faultEnd, .ref h_order, .ref h_left, .int v_leftCount, .ref h_brings])), (h_rowPoint, .inl (cI, 120, .inl v_rowPoint)), (h_rowMinute, .inl (cI, 120, .inl v_rowMinute)), (h_rowValue, .inl (cI, 120, .inl v_rowValue)), (h_testCounts, .inl (cI, 12, .inl v_testCounts)), (h_sorts, .inl (cI, 72, .inl v_sorts)), (h_firsts, .inl (cI, 72, .inl v_firsts)), (h_seconds, .inl (cI, 72, .inl v_seconds)), (h_relations, .inl (cI, 72, .inl v_relations)), (h_numbers, .inl (cI, 72, .inl v_numbers)), (h_last, .inl (cI, 16, .inl v_last)), (h_before, .inl (cI, 16, .inl v_before))] s.heap := hP
  have hl := lv_entry ([.ref h_this, .int p1, .int p2, .int p3]) (n := 4) (Nat.le_of_ble_eq_true rfl)
  rw [show entryFrame m args 4 = entryFrame m ([.ref h_this, .int p1, .int p2, .int p3] : List Value).toArray 4 from by rw [hargs], lg_entry_eq]
  generalize (lg_sl ([.ref h_this, .int p1, .int p2, .int p3]) ++ List.replicate (4 - (lg_sl ([.ref h_this, .int p1, .int p2, .int p3])).length) Slot.unset).toArray = ls at hl ⊢
  have hl : lv_has ls 4 [(0, .ref h_this), (1, .int p1), (2, .int p2), (3, .int p3)] := hl
  obtain ⟨Q, hQ⟩ : ∃ Q, Q = MQ below (xQ (dC, dI) [(h_this, .inr (7, [.int t.2.1, .int v_rows, .ref h_rowPoint, .ref h_rowMinute, .ref h_rowValue, .ref h_text, .int v_size, .ref h_kinds, .ref h_values, .int v_words, .int v_at, .ref h_names, .ref h_testCounts, .ref h_minutes, .ref h_costs, .ref h_sorts, .ref h_firsts, .ref h_seconds, .ref h_relations, .ref h_numbers, .int v_ruleCount, .ref h_last, .ref h_before, .int v_ran, .ref h_heldCounts, .ref h_streaks, .int v_faults, .ref h_faultRule, .ref h_faultBegin, .ref h_faultEnd, .ref h_order, .ref h_left, .int v_leftCount, .ref h_brings])), (h_rowPoint, .inl (cI, 120, .inl v_rowPoint)), (h_rowMinute, .inl (cI, 120, .inl v_rowMinute)), (h_rowValue, .inl (cI, 120, .inl v_rowValue)), (h_testCounts, .inl (cI, 12, .inl v_testCounts)), (h_sorts, .inl (cI, 72, .inl v_sorts)), (h_firsts, .inl (cI, 72, .inl v_firsts)), (h_seconds, .inl (cI, 72, .inl v_seconds)), (h_relations, .inl (cI, 72, .inl v_relations)), (h_numbers, .inl (cI, 72, .inl v_numbers)), (h_last, .inl (cI, 16, .inl t.2.2.1)), (h_before, .inl (cI, 16, .inl t.2.2.2))] A (some (.int t.1))) args s 0 0 A := ⟨_, rfl⟩
  rw [← hQ]
  show W p l e rm_Model_holds s m args below meth c s.heap [] 0 0 Q _
  obtain ⟨H, hH⟩ : ∃ H, H = s.heap := ⟨_, rfl⟩
  obtain ⟨locs, hlocs⟩ : ∃ L : List Loc, L = [] := ⟨_, rfl⟩
  rw [← hlocs] at hS ⊢
  have hS : va_S A s.heap H locs := by rw [hH]; exact hS
  rw [← hH] at hP ⊢
  replace hf := f_Model_holds_u hf
  refine lv_aload_n hx hb d_Model_holds_0 rfl (lv_at hl 0 rfl) ?_
  refine lv_iload_n hx hb d_Model_holds_1 rfl (lv_at hl 1 rfl) ?_
  have jn_39 : ∀ (s1_j39 : Int32) (H : Heap) (locs : List Loc) (ls : Array Slot), J_Model_holds_39 fu v_thrown v_rows v_rowPoint v_rowMinute v_rowValue v_sorts v_firsts v_seconds v_relations v_numbers v_last v_before p1 p2 p3 s1_j39 = some t → va_P (dC, dI) vwCl [(h_this, .inr (7, [.int v_thrown, .int v_rows, .ref h_rowPoint, .ref h_rowMinute, .ref h_rowValue, .ref h_text, .int v_size, .ref h_kinds, .ref h_values, .int v_words, .int v_at, .ref h_names, .ref h_testCounts, .ref h_minutes, .ref h_costs, .ref h_sorts, .ref h_firsts, .ref h_seconds, .ref h_relations, .ref h_numbers, .int v_ruleCount, .ref h_last, .ref h_before, .int v_ran, .ref h_heldCounts, .ref h_streaks, .int v_faults, .ref h_faultRule, .ref h_faultBegin, .ref h_faultEnd, .ref h_order, .ref h_left, .int v_leftCount, .ref h_brings])), (h_rowPoint, .inl (cI, 120, .inl v_rowPoint)), (h_rowMinute, .inl (cI, 120, .inl v_rowMinute)), (h_rowValue, .inl (cI, 120, .inl v_rowValue)), (h_testCounts, .inl (cI, 12, .inl v_testCounts)), (h_sorts, .inl (cI, 72, .inl v_sorts)), (h_firsts, .inl (cI, 72, .inl v_firsts)), (h_seconds, .inl (cI, 72, .inl v_seconds)), (h_relations, .inl (cI, 72, .inl v_relations)), (h_numbers, .inl (cI, 72, .inl v_numbers)), (h_last, .inl (cI, 16, .inl v_last)), (h_before, .inl (cI, 16, .inl v_before))] H → va_D A [(h_this, .inr (7, [.int v_thrown, .int v_rows, .ref h_rowPoint, .ref h_rowMinute, .ref h_rowValue, .ref h_text, .int v_size, .ref h_kinds, .ref h_values, .int v_words, .int v_at, .ref h_names, .ref h_testCounts, .ref h_minutes, .ref h_costs, .ref h_sorts, .ref h_firsts, .ref h_seconds, .ref h_relations, .ref h_numbers, .int v_ruleCount, .ref h_last, .ref h_before, .int v_ran, .ref h_heldCounts, .ref h_streaks, .int v_faults, .ref h_faultRule, .ref h_faultBegin, .ref h_faultEnd, .ref h_order, .ref h_left, .int v_leftCount, .ref h_brings])), (h_rowPoint, .inl (cI, 120, .inl v_rowPoint)), (h_rowMinute, .inl (cI, 120, .inl v_rowMinute)), (h_rowValue, .inl (cI, 120, .inl v_rowValue)), (h_testCounts, .inl (cI, 12, .inl v_testCounts)), (h_sorts, .inl (cI, 72, .inl v_sorts)), (h_firsts, .inl (cI, 72, .inl v_firsts)), (h_seconds, .inl (cI, 72, .inl v_seconds)), (h_relations, .inl (cI, 72, .inl v_relations)), (h_numbers, .inl (cI, 72, .inl v_numbers)), (h_last, .inl (cI, 16, .inl v_last)), (h_before, .inl (cI, 16, .inl v_before))] → va_S A s.heap H locs → lv_has ls 4 [(0, .ref h_this), (1, .int p1), (2, .int p2), (3, .int p3)] → W p l e rm_Model_holds s m args below meth c H locs 0 0 Q (F0 m 39 ls [.int s1_j39, .ref h_this]) := by
    intro s1_j39 H locs ls hf hP hD hS hl
    replace hf := J_Model_holds_39_u hf
    refine va_put (D := (dC, dI)) (ci := 7) (v := .int s1_j39) (ty := .int) (C := R_Model) (T := T_Model) (N := 34) hx hb hT i_Model ty_Model ty_Model_ok n_Model hown hK hP hD hS 0 rfl rfl 0 (by decide) (hT _ kF_Model_86) (fun _ h9 => h9) rfl (by decide +kernel) rfl rfl (Nat.le_of_ble_eq_true rfl) d_Model_holds_39 (fun H locs hP hD hS => ?_)
    have hP : va_P (dC, dI) vwCl [(h_this, .inr (7, [.int s1_j39, .int v_rows, .ref h_rowPoint, .ref h_rowMinute, .ref h_rowValue, .ref h_text, .int v_size, .ref h_kinds, .ref h_values, .int v_words, .int v_at, .ref h_names, .ref h_testCounts, .ref h_minutes, .ref h_costs, .ref h_sorts, .ref h_firsts, .ref h_seconds, .ref h_relations, .ref h_numbers, .int v_ruleCount, .ref h_last, .ref h_before, .int v_ran, .ref h_heldCounts, .ref h_streaks, .int v_faults, .ref h_faultRule, .ref h_faultBegin, .ref h_faultEnd, .ref h_order, .ref h_left, .int v_leftCount, .ref h_brings])), (h_rowPoint, .inl (cI, 120, .inl v_rowPoint)), (h_rowMinute, .inl (cI, 120, .inl v_rowMinute)), (h_rowValue, .inl (cI, 120, .inl v_rowValue)), (h_testCounts, .inl (cI, 12, .inl v_testCounts)), (h_sorts, .inl (cI, 72, .inl v_sorts)), (h_firsts, .inl (cI, 72, .inl v_firsts)), (h_seconds, .inl (cI, 72, .inl v_seconds)), (h_relations, .inl (cI, 72, .inl v_relations)), (h_numbers, .inl (cI, 72, .inl v_numbers)), (h_last, .inl (cI, 16, .inl v_last)), (h_before, .inl (cI, 16, .inl v_before))] H := hP
    have hD : va_D A [(h_this, .inr (7, [.int s1_j39, .int v_rows, .ref h_rowPoint, .ref h_rowMinute, .ref h_rowValue, .ref h_text, .int v_size, .ref h_kinds, .ref h_values, .int v_words, .int v_at, .ref h_names, .ref h_testCounts, .ref h_minutes, .ref h_costs, .ref h_sorts, .ref h_firsts, .ref h_seconds, .ref h_relations, .ref h_numbers, .int v_ruleCount, .ref h_last, .ref h_before, .int v_ran, .ref h_heldCounts, .ref h_streaks, .int v_faults, .ref h_faultRule, .ref h_faultBegin, .ref h_faultEnd, .ref h_order, .ref h_left, .int v_leftCount, .ref h_brings])), (h_rowPoint, .inl (cI, 120, .inl v_rowPoint)), (h_rowMinute, .inl (cI, 120, .inl v_rowMinute)), (h_rowValue, .inl (cI, 120, .inl v_rowValue)), (h_testCounts, .inl (cI, 12, .inl v_testCounts)), (h_sorts, .inl (cI, 72, .inl v_sorts)), (h_firsts, .inl (cI, 72, .inl v_firsts)), (h_seconds, .inl (cI, 72, .inl v_seconds)), (h_relations, .inl (cI, 72, .inl v_relations)), (h_numbers, .inl (cI, 72, .inl v_numbers)), (h_last, .inl (cI, 16, .inl v_last)), (h_before, .inl (cI, 16, .inl v_before))] := hD
    refine lv_aload_n hx hb d_Model_holds_42 rfl (lv_at hl 0 rfl) ?_
    refine va_get (D := (dC, dI)) (ci := 7) (v := .int s1_j39) (C := R_Model) (T := T_Model) (N := 34) hx hb hT i_Model hown hK hP 0 rfl rfl 0 (by decide) (hT _ kF_Model_86) (fun _ h9 => h9) rfl d_Model_holds_43 ?_
    refine lv_if_le (tgt := 51) hx hb d_Model_holds_46 (by decide) (fun c_1 => ?_) (fun c_1 => ?_)
    · replace hf := o_pos c_1 hf
      refine lv_aload_n hx hb d_Model_holds_51 rfl (lv_at hl 0 rfl) ?_
      refine lv_iload_n hx hb d_Model_holds_52 rfl (lv_at hl 3 rfl) ?_
      obtain ⟨t_2, hg_2, hf⟩ := o_bind hf
      refine x_virt (w' := [(h_this, .inr (7, [.int s1_j39, .int v_rows, .ref h_rowPoint, .ref h_rowMinute, .ref h_rowValue, .ref h_text, .int v_size, .ref h_kinds, .ref h_values, .int v_words, .int v_at, .ref h_names, .ref h_testCounts, .ref h_minutes, .ref h_costs, .ref h_sorts, .ref h_firsts, .ref h_seconds, .ref h_relations, .ref h_numbers, .int v_ruleCount, .ref h_last, .ref h_before, .int v_ran, .ref h_heldCounts, .ref h_streaks, .int v_faults, .ref h_faultRule, .ref h_faultBegin, .ref h_faultEnd, .ref h_order, .ref h_left, .int v_leftCount, .ref h_brings])), (h_rowPoint, .inl (cI, 120, .inl v_rowPoint)), (h_rowMinute, .inl (cI, 120, .inl v_rowMinute)), (h_rowValue, .inl (cI, 120, .inl v_rowValue)), (h_testCounts, .inl (cI, 12, .inl v_testCounts)), (h_sorts, .inl (cI, 72, .inl v_sorts)), (h_firsts, .inl (cI, 72, .inl v_firsts)), (h_seconds, .inl (cI, 72, .inl v_seconds)), (h_relations, .inl (cI, 72, .inl v_relations)), (h_numbers, .inl (cI, 72, .inl v_numbers)), (h_last, .inl (cI, 16, .inl t_2.1)), (h_before, .inl (cI, 16, .inl t_2.2))]) (As := [.int p3]) (rest := []) hx hb hml hl.1 hown hT hK hN hP hD hS hA (c_Model_stand l dC dI cI cL cC h_this h_rowPoint h_rowMinute h_rowValue h_text h_kinds h_values h_names h_testCounts h_minutes h_costs h_sorts h_firsts h_seconds h_relations h_numbers h_last h_before h_heldCounts h_streaks h_faultRule h_faultBegin h_faultEnd h_order h_left h_brings H.size fu s1_j39 v_rows v_size v_words v_at v_ruleCount v_ran v_faults v_leftCount v_rowPoint v_rowMinute v_last v_before p3 t_2 hg_2) kM_Model_251 kI_Model_stand kS_524 kN_Model kC_Model_stand hd_Model_stand rfl 0 rfl rfl rfl ⟨Nat.le_of_ble_eq_true rfl, Nat.le_of_ble_eq_true rfl⟩ rfl rfl ⟨Nat.zero_le _, Nat.zero_le _⟩ rfl (Nat.le_of_ble_eq_true rfl) d_Model_holds_53 [0, 1, 2, 10, 11] rfl rfl [.inr 0, .inr 1, .inr 2, .inl 3, .inl 4, .inl 5, .inl 6, .inl 7, .inl 8, .inl 9, .inr 3, .inr 4] rfl rfl rfl (fun H locs hP hD hS => ?_)
      refine lv_aload_n hx hb d_Model_holds_56 rfl (lv_at hl 0 rfl) ?_
      refine lv_bipush (v := 6) hx hb d_Model_holds_57 (by decide) ?_
      refine lv_iload_n hx hb d_Model_holds_59 rfl (lv_at hl 1 rfl) ?_
      refine lv_imul hx hb d_Model_holds_60 ?_
      refine lv_iload_n hx hb d_Model_holds_61 rfl (lv_at hl 2 rfl) ?_
      refine lv_iadd hx hb d_Model_holds_62 ?_
      refine lv_iload_n hx hb d_Model_holds_63 rfl (lv_at hl 3 rfl) ?_
      obtain ⟨t_3, hg_3, hf⟩ := o_bind hf
      refine x_virt (w' := [(h_this, .inr (7, [.int s1_j39, .int v_rows, .ref h_rowPoint, .ref h_rowMinute, .ref h_rowValue, .ref h_text, .int v_size, .ref h_kinds, .ref h_values, .int v_words, .int v_at, .ref h_names, .ref h_testCounts, .ref h_minutes, .ref h_costs, .ref h_sorts, .ref h_firsts, .ref h_seconds, .ref h_relations, .ref h_numbers, .int v_ruleCount, .ref h_last, .ref h_before, .int v_ran, .ref h_heldCounts, .ref h_streaks, .int v_faults, .ref h_faultRule, .ref h_faultBegin, .ref h_faultEnd, .ref h_order, .ref h_left, .int v_leftCount, .ref h_brings])), (h_rowPoint, .inl (cI, 120, .inl v_rowPoint)), (h_rowMinute, .inl (cI, 120, .inl v_rowMinute)), (h_rowValue, .inl (cI, 120, .inl v_rowValue)), (h_testCounts, .inl (cI, 12, .inl v_testCounts)), (h_sorts, .inl (cI, 72, .inl v_sorts)), (h_firsts, .inl (cI, 72, .inl v_firsts)), (h_seconds, .inl (cI, 72, .inl v_seconds)), (h_relations, .inl (cI, 72, .inl v_relations)), (h_numbers, .inl (cI, 72, .inl v_numbers)), (h_last, .inl (cI, 16, .inl t_2.1)), (h_before, .inl (cI, 16, .inl t_2.2))]) (As := [.int ((6 * p1) + p2), .int p3]) (rest := []) hx hb hml hl.1 hown hT hK hN hP hD hS hA (c_Model_isSo l dC dI cI cL cC h_this h_rowPoint h_rowMinute h_rowValue h_text h_kinds h_values h_names h_testCounts h_minutes h_costs h_sorts h_firsts h_seconds h_relations h_numbers h_last h_before h_heldCounts h_streaks h_faultRule h_faultBegin h_faultEnd h_order h_left h_brings H.size s1_j39 v_rows v_size v_words v_at v_ruleCount v_ran v_faults v_leftCount v_rowMinute v_rowValue v_sorts v_firsts v_seconds v_relations v_numbers t_2.1 t_2.2 ((6 * p1) + p2) p3 t_3 hg_3) kM_Model_248 kI_Model_isSo kS_520 kN_Model kC_Model_isSo hd_Model_isSo rfl 0 rfl rfl rfl ⟨Nat.le_of_ble_eq_true rfl, Nat.le_of_ble_eq_true rfl⟩ rfl rfl ⟨Nat.zero_le _, Nat.zero_le _⟩ rfl (Nat.le_of_ble_eq_true rfl) d_Model_holds_64 [0, 2, 3, 5, 6, 7, 8, 9, 10, 11] rfl rfl [.inr 0, .inl 1, .inr 1, .inr 2, .inl 4, .inr 3, .inr 4, .inr 5, .inr 6, .inr 7, .inr 8, .inr 9] rfl rfl rfl (fun H locs hP hD hS => ?_)
      obtain ⟨hz_4, hf⟩ := o_zb hf
      rw [hQ, ← Option.some.inj hf]
      exact W.zret (ty := .boolean) hx hb hr hz_4 (fun t9 ht9 hW9 => ⟨rfl, by rw [ht9]; exact hP, hS.F ht9⟩) hS.2.2 d_Model_holds_67
    · replace hf := o_neg c_1 hf
      refine lv_iconst (v := 0) hx hb d_Model_holds_49 (by decide) ?_
      rw [hQ, ← Option.some.inj hf]
      exact W.zret (ty := .boolean) hx hb hr rfl (fun t9 ht9 hW9 => ⟨rfl, by rw [ht9]; exact hP, hS.F ht9⟩) hS.2.2 d_Model_holds_50
  refine lv_if_lt (tgt := 34) hx hb d_Model_holds_2 (by decide) (fun c_5 => ?_) (fun c_5 => ?_)
  · replace hf := o_pos c_5 hf
    refine lv_iconst (v := 1) hx hb d_Model_holds_34 (by decide) ?_
    refine lv_goto (tgt := 39) hx hb d_Model_holds_35 (by decide) ?_
    exact jn_39 1 H locs ls hf hP hD hS (lv_sub hl [0, 1, 2, 3] rfl)
  · replace hf := o_neg c_5 hf
    refine lv_iload_n hx hb d_Model_holds_5 rfl (lv_at hl 1 rfl) ?_
    refine lv_aload_n hx hb d_Model_holds_6 rfl (lv_at hl 0 rfl) ?_
    refine va_get (D := (dC, dI)) (ci := 7) (v := .int v_ruleCount) (C := R_Model) (T := T_Model) (N := 34) hx hb hT i_Model hown hK hP 0 rfl rfl 20 (by decide) (hT _ kF_Model_233) (fun _ h9 => h9) rfl d_Model_holds_7 ?_
    refine lv_icmp_ge (tgt := 34) hx hb d_Model_holds_10 (by decide) (fun c_6 => ?_) (fun c_6 => ?_)
    · replace hf := o_pos c_6 hf
      refine lv_iconst (v := 1) hx hb d_Model_holds_34 (by decide) ?_
      refine lv_goto (tgt := 39) hx hb d_Model_holds_35 (by decide) ?_
      exact jn_39 1 H locs ls hf hP hD hS (lv_sub hl [0, 1, 2, 3] rfl)
    · replace hf := o_neg c_6 hf
      refine lv_iload_n hx hb d_Model_holds_13 rfl (lv_at hl 2 rfl) ?_
      refine lv_if_lt (tgt := 34) hx hb d_Model_holds_14 (by decide) (fun c_7 => ?_) (fun c_7 => ?_)
      · replace hf := o_pos c_7 hf
        refine lv_iconst (v := 1) hx hb d_Model_holds_34 (by decide) ?_
        refine lv_goto (tgt := 39) hx hb d_Model_holds_35 (by decide) ?_
        exact jn_39 1 H locs ls hf hP hD hS (lv_sub hl [0, 1, 2, 3] rfl)
      · replace hf := o_neg c_7 hf
        refine lv_iload_n hx hb d_Model_holds_17 rfl (lv_at hl 2 rfl) ?_
        refine lv_aload_n hx hb d_Model_holds_18 rfl (lv_at hl 0 rfl) ?_
        refine va_get (D := (dC, dI)) (ci := 7) (v := .ref h_testCounts) (C := R_Model) (T := T_Model) (N := 34) hx hb hT i_Model hown hK hP 0 rfl rfl 12 (by decide) (hT _ kF_Model_32) (fun _ h9 => h9) rfl d_Model_holds_19 ?_
        refine lv_iload_n hx hb d_Model_holds_22 rfl (lv_at hl 1 rfl) ?_
        obtain ⟨hi_8, hf⟩ := o_in hf
        refine va_iald hx hb hK hP 4 0 rfl rfl hi_8 d_Model_holds_23 ?_
        refine lv_icmp_ge (tgt := 34) hx hb d_Model_holds_24 (by decide) (fun c_9 => ?_) (fun c_9 => ?_)
        · replace hf := o_pos c_9 hf
          refine lv_iconst (v := 1) hx hb d_Model_holds_34 (by decide) ?_
          refine lv_goto (tgt := 39) hx hb d_Model_holds_35 (by decide) ?_
          exact jn_39 1 H locs ls hf hP hD hS (lv_sub hl [0, 1, 2, 3] rfl)
        · replace hf := o_neg c_9 hf
          refine lv_iload_n hx hb d_Model_holds_27 rfl (lv_at hl 3 rfl) ?_
          obtain ⟨t_10, hg_10, hf⟩ := o_bind hf
          refine x_stat (w' := [(h_this, .inr (7, [.int v_thrown, .int v_rows, .ref h_rowPoint, .ref h_rowMinute, .ref h_rowValue, .ref h_text, .int v_size, .ref h_kinds, .ref h_values, .int v_words, .int v_at, .ref h_names, .ref h_testCounts, .ref h_minutes, .ref h_costs, .ref h_sorts, .ref h_firsts, .ref h_seconds, .ref h_relations, .ref h_numbers, .int v_ruleCount, .ref h_last, .ref h_before, .int v_ran, .ref h_heldCounts, .ref h_streaks, .int v_faults, .ref h_faultRule, .ref h_faultBegin, .ref h_faultEnd, .ref h_order, .ref h_left, .int v_leftCount, .ref h_brings])), (h_rowPoint, .inl (cI, 120, .inl v_rowPoint)), (h_rowMinute, .inl (cI, 120, .inl v_rowMinute)), (h_rowValue, .inl (cI, 120, .inl v_rowValue)), (h_testCounts, .inl (cI, 12, .inl v_testCounts)), (h_sorts, .inl (cI, 72, .inl v_sorts)), (h_firsts, .inl (cI, 72, .inl v_firsts)), (h_seconds, .inl (cI, 72, .inl v_seconds)), (h_relations, .inl (cI, 72, .inl v_relations)), (h_numbers, .inl (cI, 72, .inl v_numbers)), (h_last, .inl (cI, 16, .inl v_last)), (h_before, .inl (cI, 16, .inl v_before))]) (As := [.int p3]) (rest := [.ref h_this]) hx hb hml hl.1 hown hT hK hN hP hD hS hA (c_Model_isMinute l dC dI cI cL cC H.size p3 t_10 hg_10) kM_Model_105 kT_Model_isMinute kN_Model kC_Model_isMinute hd_Model_isMinute rfl ⟨Nat.le_of_ble_eq_true rfl, Nat.le_of_ble_eq_true rfl⟩ rfl rfl ⟨Nat.zero_le _, Nat.zero_le _⟩ rfl (Nat.le_of_ble_eq_true rfl) d_Model_holds_28 [] rfl rfl [.inl 0, .inl 1, .inl 2, .inl 3, .inl 4, .inl 5, .inl 6, .inl 7, .inl 8, .inl 9, .inl 10, .inl 11] rfl rfl rfl (fun H locs hP hD hS => ?_)
          refine lv_if_ne (tgt := 38) hx hb d_Model_holds_31 (by decide) (fun c_11 => ?_) (fun c_11 => ?_)
          · replace hf := o_neg c_11 hf
            refine lv_iconst (v := 0) hx hb d_Model_holds_38 (by decide) ?_
            exact jn_39 0 H locs ls hf hP hD hS (lv_sub hl [0, 1, 2, 3] rfl)
          · replace hf := o_pos c_11 hf
            refine lv_iconst (v := 1) hx hb d_Model_holds_34 (by decide) ?_
            refine lv_goto (tgt := 39) hx hb d_Model_holds_35 (by decide) ?_
            exact jn_39 1 H locs ls hf hP hD hS (lv_sub hl [0, 1, 2, 3] rfl)
