def L_Model_common_17 (fu : Nat) : Nat → Int64 → Int64 → Option (Int64)
  | 0, _, _ => none
  | n + 1, l4_17, l6_17 => (if (lg_cmp l6_17 0) ≤ 0 then (some l4_17) else (nzL l6_17 ((L_Model_common_17 fu n) l6_17 (l4_17 - l4_17 / l6_17 * l6_17))))
theorem L_Model_common_17_z {fu : Nat} {l4_17 : Int64} {l6_17 : Int64} {t : Int64} (h : L_Model_common_17 fu 0 l4_17 l6_17 = some t) : False := by cases (show (none : Option (Int64)) = some t from h)
theorem L_Model_common_17_u {fu : Nat} {n : Nat} {l4_17 : Int64} {l6_17 : Int64} {t : Int64} (h : L_Model_common_17 fu (n + 1) l4_17 l6_17 = some t) : (if (lg_cmp l6_17 0) ≤ 0 then (some l4_17) else (nzL l6_17 ((L_Model_common_17 fu n) l6_17 (l4_17 - l4_17 / l6_17 * l6_17)))) = some t := h
def J_Model_common_12 (fu : Nat) (l2_j12 : Int64) (s0_j12 : Int64) : Option (Int64) :=
  (L_Model_common_17 fu fu s0_j12 l2_j12)
theorem J_Model_common_12_u {fu : Nat} {l2_j12 : Int64} {s0_j12 : Int64} {t : Int64} (h : J_Model_common_12 fu l2_j12 s0_j12 = some t) : (L_Model_common_17 fu fu s0_j12 l2_j12) = some t := h
def f_Model_common (fu : Nat) (p1 : Int64) (p2 : Int64) : Option (Int64) :=
  (if 0 ≤ (lg_cmp p1 0) then (J_Model_common_12 fu p2 p1) else (J_Model_common_12 fu p2 (-p1)))
theorem f_Model_common_u {fu : Nat} {p1 : Int64} {p2 : Int64} {t : Int64} (h : f_Model_common fu p1 p2 = some t) : (if 0 ≤ (lg_cmp p1 0) then (J_Model_common_12 fu p2 p1) else (J_Model_common_12 fu p2 (-p1))) = some t := h
def L_Model_line_91 (fu : Nat) (v_rows : Int32) (v_leftCount : Int32) (v_rowPoint : Nat → Int32) (v_rowMinute : Nat → Int32) (v_rowValue : Nat → Int32) (v_left : Nat → Int32) (l1_91 : Int32) (l2_91 : Int32) (l4_91 : Int32) (l5_91 : Int32) (k_208 : Int64 → Int64 → Int64 → Int64 → Int64 → Option (Int64 × Int32)) : Nat → Int64 → Int64 → Int64 → Int64 → Int64 → Int32 → Option (Int64 × Int32)
  | 0, _, _, _, _, _, _ => none
  | n + 1, l6_91, l8_91, l10_91, l12_91, l14_91, l16_91 => (if l4_91 < l16_91 then (k_208 l6_91 l8_91 l10_91 l12_91 l14_91) else ((f_Model_latest fu v_rows v_rowPoint v_rowMinute l1_91 l16_91).bind (fun t_4 => ((f_Model_latest fu v_rows v_rowPoint v_rowMinute l2_91 l16_91).bind (fun t_5 => (if t_4 < 0 then ((L_Model_line_91 fu v_rows v_leftCount v_rowPoint v_rowMinute v_rowValue v_left l1_91 l2_91 l4_91 l5_91 k_208 n) l6_91 l8_91 l10_91 l12_91 l14_91 (l16_91 + 1)) else (if t_5 < 0 then ((L_Model_line_91 fu v_rows v_leftCount v_rowPoint v_rowMinute v_rowValue v_left l1_91 l2_91 l4_91 l5_91 k_208 n) l6_91 l8_91 l10_91 l12_91 l14_91 (l16_91 + 1)) else ((f_Model_leftAt fu v_leftCount v_left l16_91).bind (fun t_8 => (if v_leftCount ≤ t_8 then (bd t_4 120 (bd t_5 120 ((L_Model_line_91 fu v_rows v_leftCount v_rowPoint v_rowMinute v_rowValue v_left l1_91 l2_91 l4_91 l5_91 k_208 n) (l6_91 + 1) (l8_91 + ((v_rowValue (t_5 : Int32).toNatClampNeg : Int32).toInt64)) (l10_91 + ((v_rowValue (t_4 : Int32).toNatClampNeg : Int32).toInt64)) (l12_91 + (((v_rowValue (t_5 : Int32).toNatClampNeg : Int32).toInt64) * ((v_rowValue (t_4 : Int32).toNatClampNeg : Int32).toInt64))) (l14_91 + (((v_rowValue (t_5 : Int32).toNatClampNeg : Int32).toInt64) * ((v_rowValue (t_5 : Int32).toNatClampNeg : Int32).toInt64))) (l16_91 + 1)))) else ((L_Model_line_91 fu v_rows v_leftCount v_rowPoint v_rowMinute v_rowValue v_left l1_91 l2_91 l4_91 l5_91 k_208 n) l6_91 l8_91 l10_91 l12_91 l14_91 (l16_91 + 1))))))))))))
theorem L_Model_line_91_z {fu : Nat} {v_rows : Int32} {v_leftCount : Int32} {v_rowPoint : Nat → Int32} {v_rowMinute : Nat → Int32} {v_rowValue : Nat → Int32} {v_left : Nat → Int32} {l1_91 : Int32} {l2_91 : Int32} {l4_91 : Int32} {l5_91 : Int32} {k_208 : Int64 → Int64 → Int64 → Int64 → Int64 → Option (Int64 × Int32)} {l6_91 : Int64} {l8_91 : Int64} {l10_91 : Int64} {l12_91 : Int64} {l14_91 : Int64} {l16_91 : Int32} {t : Int64 × Int32} (h : L_Model_line_91 fu v_rows v_leftCount v_rowPoint v_rowMinute v_rowValue v_left l1_91 l2_91 l4_91 l5_91 k_208 0 l6_91 l8_91 l10_91 l12_91 l14_91 l16_91 = some t) : False := by cases (show (none : Option (Int64 × Int32)) = some t from h)
theorem L_Model_line_91_u {fu : Nat} {v_rows : Int32} {v_leftCount : Int32} {v_rowPoint : Nat → Int32} {v_rowMinute : Nat → Int32} {v_rowValue : Nat → Int32} {v_left : Nat → Int32} {l1_91 : Int32} {l2_91 : Int32} {l4_91 : Int32} {l5_91 : Int32} {k_208 : Int64 → Int64 → Int64 → Int64 → Int64 → Option (Int64 × Int32)} {n : Nat} {l6_91 : Int64} {l8_91 : Int64} {l10_91 : Int64} {l12_91 : Int64} {l14_91 : Int64} {l16_91 : Int32} {t : Int64 × Int32} (h : L_Model_line_91 fu v_rows v_leftCount v_rowPoint v_rowMinute v_rowValue v_left l1_91 l2_91 l4_91 l5_91 k_208 (n + 1) l6_91 l8_91 l10_91 l12_91 l14_91 l16_91 = some t) : (if l4_91 < l16_91 then (k_208 l6_91 l8_91 l10_91 l12_91 l14_91) else ((f_Model_latest fu v_rows v_rowPoint v_rowMinute l1_91 l16_91).bind (fun t_4 => ((f_Model_latest fu v_rows v_rowPoint v_rowMinute l2_91 l16_91).bind (fun t_5 => (if t_4 < 0 then ((L_Model_line_91 fu v_rows v_leftCount v_rowPoint v_rowMinute v_rowValue v_left l1_91 l2_91 l4_91 l5_91 k_208 n) l6_91 l8_91 l10_91 l12_91 l14_91 (l16_91 + 1)) else (if t_5 < 0 then ((L_Model_line_91 fu v_rows v_leftCount v_rowPoint v_rowMinute v_rowValue v_left l1_91 l2_91 l4_91 l5_91 k_208 n) l6_91 l8_91 l10_91 l12_91 l14_91 (l16_91 + 1)) else ((f_Model_leftAt fu v_leftCount v_left l16_91).bind (fun t_8 => (if v_leftCount ≤ t_8 then (bd t_4 120 (bd t_5 120 ((L_Model_line_91 fu v_rows v_leftCount v_rowPoint v_rowMinute v_rowValue v_left l1_91 l2_91 l4_91 l5_91 k_208 n) (l6_91 + 1) (l8_91 + ((v_rowValue (t_5 : Int32).toNatClampNeg : Int32).toInt64)) (l10_91 + ((v_rowValue (t_4 : Int32).toNatClampNeg : Int32).toInt64)) (l12_91 + (((v_rowValue (t_5 : Int32).toNatClampNeg : Int32).toInt64) * ((v_rowValue (t_4 : Int32).toNatClampNeg : Int32).toInt64))) (l14_91 + (((v_rowValue (t_5 : Int32).toNatClampNeg : Int32).toInt64) * ((v_rowValue (t_5 : Int32).toNatClampNeg : Int32).toInt64))) (l16_91 + 1)))) else ((L_Model_line_91 fu v_rows v_leftCount v_rowPoint v_rowMinute v_rowValue v_left l1_91 l2_91 l4_91 l5_91 k_208 n) l6_91 l8_91 l10_91 l12_91 l14_91 (l16_91 + 1)))))))))))) = some t := h
def J_Model_line_61 (fu : Nat) (v_thrown : Int32) (v_rows : Int32) (v_leftCount : Int32) (v_rowPoint : Nat → Int32) (v_rowMinute : Nat → Int32) (v_rowValue : Nat → Int32) (v_left : Nat → Int32) (l1_j61 : Int32) (l2_j61 : Int32) (l3_j61 : Int32) (l4_j61 : Int32) (l5_j61 : Int32) (s1_j61 : Int32) : Option (Int64 × Int32) :=
  (if s1_j61 ≤ 0 then (L_Model_line_91 fu v_rows v_leftCount v_rowPoint v_rowMinute v_rowValue v_left l1_j61 l2_j61 l4_j61 l5_j61 (fun (l6_91x12 : Int64) (l8_91x13 : Int64) (l10_91x14 : Int64) (l12_91x15 : Int64) (l14_91x16 : Int64) => (if l5_j61 = 2 then (some (l6_91x12, s1_j61)) else (if (lg_cmp ((l6_91x12 * l14_91x16) - (l8_91x13 * l8_91x13)) 0) = 0 then (some (0, s1_j61)) else ((f_Model_common fu ((l6_91x12 * l12_91x15) - (l8_91x13 * l10_91x14)) ((l6_91x12 * l14_91x16) - (l8_91x13 * l8_91x13))).bind (fun t_19 => (if l5_j61 = 0 then (nzL t_19 (some (((l6_91x12 * l12_91x15) - (l8_91x13 * l10_91x14)) / t_19, s1_j61))) else (nzL t_19 (some (((l6_91x12 * l14_91x16) - (l8_91x13 * l8_91x13)) / t_19, s1_j61))))))))) fu 0 0 0 0 0 l3_j61) else (some (0, s1_j61)))
theorem J_Model_line_61_u {fu : Nat} {v_thrown : Int32} {v_rows : Int32} {v_leftCount : Int32} {v_rowPoint : Nat → Int32} {v_rowMinute : Nat → Int32} {v_rowValue : Nat → Int32} {v_left : Nat → Int32} {l1_j61 : Int32} {l2_j61 : Int32} {l3_j61 : Int32} {l4_j61 : Int32} {l5_j61 : Int32} {s1_j61 : Int32} {t : Int64 × Int32} (h : J_Model_line_61 fu v_thrown v_rows v_leftCount v_rowPoint v_rowMinute v_rowValue v_left l1_j61 l2_j61 l3_j61 l4_j61 l5_j61 s1_j61 = some t) : (if s1_j61 ≤ 0 then (L_Model_line_91 fu v_rows v_leftCount v_rowPoint v_rowMinute v_rowValue v_left l1_j61 l2_j61 l4_j61 l5_j61 (fun (l6_91x12 : Int64) (l8_91x13 : Int64) (l10_91x14 : Int64) (l12_91x15 : Int64) (l14_91x16 : Int64) => (if l5_j61 = 2 then (some (l6_91x12, s1_j61)) else (if (lg_cmp ((l6_91x12 * l14_91x16) - (l8_91x13 * l8_91x13)) 0) = 0 then (some (0, s1_j61)) else ((f_Model_common fu ((l6_91x12 * l12_91x15) - (l8_91x13 * l10_91x14)) ((l6_91x12 * l14_91x16) - (l8_91x13 * l8_91x13))).bind (fun t_19 => (if l5_j61 = 0 then (nzL t_19 (some (((l6_91x12 * l12_91x15) - (l8_91x13 * l10_91x14)) / t_19, s1_j61))) else (nzL t_19 (some (((l6_91x12 * l14_91x16) - (l8_91x13 * l8_91x13)) / t_19, s1_j61))))))))) fu 0 0 0 0 0 l3_j61) else (some (0, s1_j61))) = some t := h
def f_Model_line (fu : Nat) (v_thrown : Int32) (v_rows : Int32) (v_leftCount : Int32) (v_rowPoint : Nat → Int32) (v_rowMinute : Nat → Int32) (v_rowValue : Nat → Int32) (v_left : Nat → Int32) (p1 : Int32) (p2 : Int32) (p3 : Int32) (p4 : Int32) (p5 : Int32) : Option (Int64 × Int32) :=
  ((f_Model_isPoint p1).bind (fun t_1 => (if t_1 = 0 then (J_Model_line_61 fu v_thrown v_rows v_leftCount v_rowPoint v_rowMinute v_rowValue v_left p1 p2 p3 p4 p5 1) else ((f_Model_isPoint p2).bind (fun t_24 => (if t_24 = 0 then (J_Model_line_61 fu v_thrown v_rows v_leftCount v_rowPoint v_rowMinute v_rowValue v_left p1 p2 p3 p4 p5 1) else ((f_Model_isMinute p3).bind (fun t_26 => (if t_26 = 0 then (J_Model_line_61 fu v_thrown v_rows v_leftCount v_rowPoint v_rowMinute v_rowValue v_left p1 p2 p3 p4 p5 1) else ((f_Model_isMinute p4).bind (fun t_28 => (if t_28 = 0 then (J_Model_line_61 fu v_thrown v_rows v_leftCount v_rowPoint v_rowMinute v_rowValue v_left p1 p2 p3 p4 p5 1) else (if p4 < p3 then (J_Model_line_61 fu v_thrown v_rows v_leftCount v_rowPoint v_rowMinute v_rowValue v_left p1 p2 p3 p4 p5 1) else (if 59 < (p4 - p3) then (J_Model_line_61 fu v_thrown v_rows v_leftCount v_rowPoint v_rowMinute v_rowValue v_left p1 p2 p3 p4 p5 1) else (if p5 < 0 then (J_Model_line_61 fu v_thrown v_rows v_leftCount v_rowPoint v_rowMinute v_rowValue v_left p1 p2 p3 p4 p5 1) else (if p5 ≤ 2 then (J_Model_line_61 fu v_thrown v_rows v_leftCount v_rowPoint v_rowMinute v_rowValue v_left p1 p2 p3 p4 p5 0) else (J_Model_line_61 fu v_thrown v_rows v_leftCount v_rowPoint v_rowMinute v_rowValue v_left p1 p2 p3 p4 p5 1)))))))))))))))))
theorem f_Model_line_u {fu : Nat} {v_thrown : Int32} {v_rows : Int32} {v_leftCount : Int32} {v_rowPoint : Nat → Int32} {v_rowMinute : Nat → Int32} {v_rowValue : Nat → Int32} {v_left : Nat → Int32} {p1 : Int32} {p2 : Int32} {p3 : Int32} {p4 : Int32} {p5 : Int32} {t : Int64 × Int32} (h : f_Model_line fu v_thrown v_rows v_leftCount v_rowPoint v_rowMinute v_rowValue v_left p1 p2 p3 p4 p5 = some t) : ((f_Model_isPoint p1).bind (fun t_1 => (if t_1 = 0 then (J_Model_line_61 fu v_thrown v_rows v_leftCount v_rowPoint v_rowMinute v_rowValue v_left p1 p2 p3 p4 p5 1) else ((f_Model_isPoint p2).bind (fun t_24 => (if t_24 = 0 then (J_Model_line_61 fu v_thrown v_rows v_leftCount v_rowPoint v_rowMinute v_rowValue v_left p1 p2 p3 p4 p5 1) else ((f_Model_isMinute p3).bind (fun t_26 => (if t_26 = 0 then (J_Model_line_61 fu v_thrown v_rows v_leftCount v_rowPoint v_rowMinute v_rowValue v_left p1 p2 p3 p4 p5 1) else ((f_Model_isMinute p4).bind (fun t_28 => (if t_28 = 0 then (J_Model_line_61 fu v_thrown v_rows v_leftCount v_rowPoint v_rowMinute v_rowValue v_left p1 p2 p3 p4 p5 1) else (if p4 < p3 then (J_Model_line_61 fu v_thrown v_rows v_leftCount v_rowPoint v_rowMinute v_rowValue v_left p1 p2 p3 p4 p5 1) else (if 59 < (p4 - p3) then (J_Model_line_61 fu v_thrown v_rows v_leftCount v_rowPoint v_rowMinute v_rowValue v_left p1 p2 p3 p4 p5 1) else (if p5 < 0 then (J_Model_line_61 fu v_thrown v_rows v_leftCount v_rowPoint v_rowMinute v_rowValue v_left p1 p2 p3 p4 p5 1) else (if p5 ≤ 2 then (J_Model_line_61 fu v_thrown v_rows v_leftCount v_rowPoint v_rowMinute v_rowValue v_left p1 p2 p3 p4 p5 0) else (J_Model_line_61 fu v_thrown v_rows v_leftCount v_rowPoint v_rowMinute v_rowValue v_left p1 p2 p3 p4 p5 1))))))))))))))))) = some t := h
def J_Model_cause_26 (v_thrown : Int32) (v_brings : Nat → Int32) (l1_j26 : Int32) (l2_j26 : Int32) (s1_j26 : Int32) : Option (Int32 × Int32 × (Nat → Int32)) :=
  (if s1_j26 ≤ 0 then (bd l1_j26 10 (bd l1_j26 10 (some (v_brings (l1_j26 : Int32).toNatClampNeg, s1_j26, upd v_brings (l1_j26 : Int32).toNatClampNeg l2_j26)))) else (some (0, s1_j26, v_brings)))
theorem J_Model_cause_26_u {v_thrown : Int32} {v_brings : Nat → Int32} {l1_j26 : Int32} {l2_j26 : Int32} {s1_j26 : Int32} {t : Int32 × Int32 × (Nat → Int32)} (h : J_Model_cause_26 v_thrown v_brings l1_j26 l2_j26 s1_j26 = some t) : (if s1_j26 ≤ 0 then (bd l1_j26 10 (bd l1_j26 10 (some (v_brings (l1_j26 : Int32).toNatClampNeg, s1_j26, upd v_brings (l1_j26 : Int32).toNatClampNeg l2_j26)))) else (some (0, s1_j26, v_brings))) = some t := h
def f_Model_cause (v_thrown : Int32) (v_brings : Nat → Int32) (p1 : Int32) (p2 : Int32) : Option (Int32 × Int32 × (Nat → Int32)) :=
  (if p1 < 0 then (J_Model_cause_26 v_thrown v_brings p1 p2 1) else (if 9 < p1 then (J_Model_cause_26 v_thrown v_brings p1 p2 1) else (if p2 < 0 then (J_Model_cause_26 v_thrown v_brings p1 p2 1) else (if p2 ≤ 63 then (J_Model_cause_26 v_thrown v_brings p1 p2 0) else (J_Model_cause_26 v_thrown v_brings p1 p2 1)))))
theorem f_Model_cause_u {v_thrown : Int32} {v_brings : Nat → Int32} {p1 : Int32} {p2 : Int32} {t : Int32 × Int32 × (Nat → Int32)} (h : f_Model_cause v_thrown v_brings p1 p2 = some t) : (if p1 < 0 then (J_Model_cause_26 v_thrown v_brings p1 p2 1) else (if 9 < p1 then (J_Model_cause_26 v_thrown v_brings p1 p2 1) else (if p2 < 0 then (J_Model_cause_26 v_thrown v_brings p1 p2 1) else (if p2 ≤ 63 then (J_Model_cause_26 v_thrown v_brings p1 p2 0) else (J_Model_cause_26 v_thrown v_brings p1 p2 1))))) = some t := h
def L_Model_causes_29 (fu : Nat) (v_faults : Int32) (v_faultRule : Nat → Int32) (k_54 : Int32 → Option (Int32 × Int32)) : Nat → Int32 → Int32 → Option (Int32 × Int32)
  | 0, _, _ => none
  | n + 1, l1_29, l2_29 => (if v_faults ≤ l2_29 then (k_54 l1_29) else (bd l2_29 6000 ((L_Model_causes_29 fu v_faults v_faultRule k_54 n) (l1_29 ||| (1 <<< ((v_faultRule (l2_29 : Int32).toNatClampNeg) &&& 31))) (l2_29 + 1))))
theorem L_Model_causes_29_z {fu : Nat} {v_faults : Int32} {v_faultRule : Nat → Int32} {k_54 : Int32 → Option (Int32 × Int32)} {l1_29 : Int32} {l2_29 : Int32} {t : Int32 × Int32} (h : L_Model_causes_29 fu v_faults v_faultRule k_54 0 l1_29 l2_29 = some t) : False := by cases (show (none : Option (Int32 × Int32)) = some t from h)
theorem L_Model_causes_29_u {fu : Nat} {v_faults : Int32} {v_faultRule : Nat → Int32} {k_54 : Int32 → Option (Int32 × Int32)} {n : Nat} {l1_29 : Int32} {l2_29 : Int32} {t : Int32 × Int32} (h : L_Model_causes_29 fu v_faults v_faultRule k_54 (n + 1) l1_29 l2_29 = some t) : (if v_faults ≤ l2_29 then (k_54 l1_29) else (bd l2_29 6000 ((L_Model_causes_29 fu v_faults v_faultRule k_54 n) (l1_29 ||| (1 <<< ((v_faultRule (l2_29 : Int32).toNatClampNeg) &&& 31))) (l2_29 + 1)))) = some t := h
def L_Model_causes_79 (fu : Nat) (v_brings : Nat → Int32) (l1_79 : Int32) (l2_79 : Int32) (l3_79 : Int32) (l4_79 : Int32) (k_131 : Int32 → Int32 → Option (Int32 × Int32)) : Nat → Int32 → Int32 → Int32 → Option (Int32 × Int32)
  | 0, _, _, _ => none
  | n + 1, l5_79, l6_79, l7_79 => (if 10 ≤ l7_79 then (k_131 l5_79 l6_79) else (if ((l4_79 >>> (l7_79 &&& 31)) &&& 1) = 1 then (bd l7_79 10 ((L_Model_causes_79 fu v_brings l1_79 l2_79 l3_79 l4_79 k_131 n) (l5_79 ||| (v_brings (l7_79 : Int32).toNatClampNeg)) (l6_79 + ((l4_79 >>> (l7_79 &&& 31)) &&& 1)) (l7_79 + 1))) else ((L_Model_causes_79 fu v_brings l1_79 l2_79 l3_79 l4_79 k_131 n) (l5_79 ||| 0) (l6_79 + ((l4_79 >>> (l7_79 &&& 31)) &&& 1)) (l7_79 + 1))))
theorem L_Model_causes_79_z {fu : Nat} {v_brings : Nat → Int32} {l1_79 : Int32} {l2_79 : Int32} {l3_79 : Int32} {l4_79 : Int32} {k_131 : Int32 → Int32 → Option (Int32 × Int32)} {l5_79 : Int32} {l6_79 : Int32} {l7_79 : Int32} {t : Int32 × Int32} (h : L_Model_causes_79 fu v_brings l1_79 l2_79 l3_79 l4_79 k_131 0 l5_79 l6_79 l7_79 = some t) : False := by cases (show (none : Option (Int32 × Int32)) = some t from h)
theorem L_Model_causes_79_u {fu : Nat} {v_brings : Nat → Int32} {l1_79 : Int32} {l2_79 : Int32} {l3_79 : Int32} {l4_79 : Int32} {k_131 : Int32 → Int32 → Option (Int32 × Int32)} {n : Nat} {l5_79 : Int32} {l6_79 : Int32} {l7_79 : Int32} {t : Int32 × Int32} (h : L_Model_causes_79 fu v_brings l1_79 l2_79 l3_79 l4_79 k_131 (n + 1) l5_79 l6_79 l7_79 = some t) : (if 10 ≤ l7_79 then (k_131 l5_79 l6_79) else (if ((l4_79 >>> (l7_79 &&& 31)) &&& 1) = 1 then (bd l7_79 10 ((L_Model_causes_79 fu v_brings l1_79 l2_79 l3_79 l4_79 k_131 n) (l5_79 ||| (v_brings (l7_79 : Int32).toNatClampNeg)) (l6_79 + ((l4_79 >>> (l7_79 &&& 31)) &&& 1)) (l7_79 + 1))) else ((L_Model_causes_79 fu v_brings l1_79 l2_79 l3_79 l4_79 k_131 n) (l5_79 ||| 0) (l6_79 + ((l4_79 >>> (l7_79 &&& 31)) &&& 1)) (l7_79 + 1)))) = some t := h
def L_Model_causes_62 (fu : Nat) (v_thrown : Int32) (v_brings : Nat → Int32) (l1_62 : Int32) : Nat → Int32 → Int32 → Int32 → Option (Int32 × Int32)
  | 0, _, _, _ => none
  | n + 1, l2_62, l3_62, l4_62 => (if 1024 ≤ l4_62 then (some (l2_62, v_thrown)) else (L_Model_causes_79 fu v_brings l1_62 l2_62 l3_62 l4_62 (fun (l5_79x9 : Int32) (l6_79x10 : Int32) => (if (l1_62 &&& (l5_79x9 ^^^ ((-1)))) = 0 then (if l3_62 ≤ l6_79x10 then ((L_Model_causes_62 fu v_thrown v_brings l1_62 n) l2_62 l3_62 (l4_62 + 1)) else ((L_Model_causes_62 fu v_thrown v_brings l1_62 n) l4_62 l6_79x10 (l4_62 + 1))) else ((L_Model_causes_62 fu v_thrown v_brings l1_62 n) l2_62 l3_62 (l4_62 + 1)))) fu 0 0 0))
theorem L_Model_causes_62_z {fu : Nat} {v_thrown : Int32} {v_brings : Nat → Int32} {l1_62 : Int32} {l2_62 : Int32} {l3_62 : Int32} {l4_62 : Int32} {t : Int32 × Int32} (h : L_Model_causes_62 fu v_thrown v_brings l1_62 0 l2_62 l3_62 l4_62 = some t) : False := by cases (show (none : Option (Int32 × Int32)) = some t from h)
theorem L_Model_causes_62_u {fu : Nat} {v_thrown : Int32} {v_brings : Nat → Int32} {l1_62 : Int32} {n : Nat} {l2_62 : Int32} {l3_62 : Int32} {l4_62 : Int32} {t : Int32 × Int32} (h : L_Model_causes_62 fu v_thrown v_brings l1_62 (n + 1) l2_62 l3_62 l4_62 = some t) : (if 1024 ≤ l4_62 then (some (l2_62, v_thrown)) else (L_Model_causes_79 fu v_brings l1_62 l2_62 l3_62 l4_62 (fun (l5_79x9 : Int32) (l6_79x10 : Int32) => (if (l1_62 &&& (l5_79x9 ^^^ ((-1)))) = 0 then (if l3_62 ≤ l6_79x10 then ((L_Model_causes_62 fu v_thrown v_brings l1_62 n) l2_62 l3_62 (l4_62 + 1)) else ((L_Model_causes_62 fu v_thrown v_brings l1_62 n) l4_62 l6_79x10 (l4_62 + 1))) else ((L_Model_causes_62 fu v_thrown v_brings l1_62 n) l2_62 l3_62 (l4_62 + 1)))) fu 0 0 0)) = some t := h
def J_Model_causes_13 (fu : Nat) (v_thrown : Int32) (v_faults : Int32) (v_faultRule : Nat → Int32) (v_brings : Nat → Int32) (s1_j13 : Int32) : Option (Int32 × Int32) :=
  (if s1_j13 ≤ 0 then (L_Model_causes_29 fu v_faults v_faultRule (fun (l1_29x4 : Int32) => (L_Model_causes_62 fu s1_j13 v_brings l1_29x4 fu ((-1)) 11 0)) fu 0 0) else (some (0, s1_j13)))
theorem J_Model_causes_13_u {fu : Nat} {v_thrown : Int32} {v_faults : Int32} {v_faultRule : Nat → Int32} {v_brings : Nat → Int32} {s1_j13 : Int32} {t : Int32 × Int32} (h : J_Model_causes_13 fu v_thrown v_faults v_faultRule v_brings s1_j13 = some t) : (if s1_j13 ≤ 0 then (L_Model_causes_29 fu v_faults v_faultRule (fun (l1_29x4 : Int32) => (L_Model_causes_62 fu s1_j13 v_brings l1_29x4 fu ((-1)) 11 0)) fu 0 0) else (some (0, s1_j13))) = some t := h
def f_Model_causes (fu : Nat) (v_thrown : Int32) (v_ran : Int32) (v_faults : Int32) (v_faultRule : Nat → Int32) (v_brings : Nat → Int32) : Option (Int32 × Int32) :=
  (if v_ran = 0 then (J_Model_causes_13 fu v_thrown v_faults v_faultRule v_brings 1) else (J_Model_causes_13 fu v_thrown v_faults v_faultRule v_brings 0))
theorem f_Model_causes_u {fu : Nat} {v_thrown : Int32} {v_ran : Int32} {v_faults : Int32} {v_faultRule : Nat → Int32} {v_brings : Nat → Int32} {t : Int32 × Int32} (h : f_Model_causes fu v_thrown v_ran v_faults v_faultRule v_brings = some t) : (if v_ran = 0 then (J_Model_causes_13 fu v_thrown v_faults v_faultRule v_brings 1) else (J_Model_causes_13 fu v_thrown v_faults v_faultRule v_brings 0)) = some t := h
def rm_Model_common : Room := { frames := 0, cells := 0, slots := 0, locals := 0 }
set_option maxHeartbeats 4000000 in
set_option maxRecDepth 100000 in
theorem c_Model_common (l : Launch) (dC : Nat → ClassId) (dI : Nat → Nat → Nat) (cI cL cC : ClassId) (sz : Nat) (fu : Nat) (p1 : Int64) (p2 : Int64) (t : Int64) (hf : f_Model_common fu p1 p2 = some t) : Met l y_Model_common (Cond.code y_Model_common prog_9_method_47_code 10 (some .long) :: xT) rm_Model_common (va_Pc [.long p1, .long p2] (xP (dC, dI) (xTy cI cL cC) [] sz)) (xQ (dC, dI) [] (va_A [] sz) (some (.long t))) 0 0 (va_A [] sz) := by
  refine Met.ofW (cc := prog_9_method_47_code) (maxL := 10) (ret := (some .long)) (by decide) rfl ?_
  intro p e s m args below meth c s₁ B hml hv
  obtain ⟨hargs, hsz, hP, hK, hN, hD0⟩ := hv
  have hx := B.exec
  have hb := B.bytes
  have hr := B.returns
  have hT : ∀ w ∈ xT, w.before args s = true := fun w hw => atoms_spec (ws := Cond.code y_Model_common prog_9_method_47_code 10 (some .long) :: xT) B.pre w (List.mem_cons_of_mem _ hw)
  have hown : s.vm.findClass R_Model = some m.cls := findClass_of_methodNamed B.named
  have hlocks := B.notSynchronized
  subst hsz
  have hD := hD0.self (sz := s.heap.size)
  generalize hAe : va_A [] s.heap.size = A at hD ⊢
  have hA : ∀ q : Nat, s.heap.size ≤ q → A q := fun q h => by rw [← hAe]; exact Or.inr h
  have hS : va_S A s.heap s.heap [] := va_S.rf
  have hP : va_P (dC, dI) vwCl [] s.heap := hP
  have hl := lv_entry ([.long p1, .long p2]) (n := 10) (Nat.le_of_ble_eq_true rfl)
  rw [show entryFrame m args 10 = entryFrame m ([.long p1, .long p2] : List Value).toArray 10 from by rw [hargs], lg_entry_eq]
  generalize (lg_sl ([.long p1, .long p2]) ++ List.replicate (10 - (lg_sl ([.long p1, .long p2])).length) Slot.unset).toArray = ls at hl ⊢
  have hl : lv_has ls 10 [(0, .long p1), (2, .long p2)] := hl
  obtain ⟨Q, hQ⟩ : ∃ Q, Q = MQ below (xQ (dC, dI) [] A (some (.long t))) args s 0 0 A := ⟨_, rfl⟩
  rw [← hQ]
  show W p l e rm_Model_common s m args below meth c s.heap [] 0 0 Q _
  obtain ⟨H, hH⟩ : ∃ H, H = s.heap := ⟨_, rfl⟩
  obtain ⟨locs, hlocs⟩ : ∃ L : List Loc, L = [] := ⟨_, rfl⟩
  rw [← hlocs] at hS ⊢
  have hS : va_S A s.heap H locs := by rw [hH]; exact hS
  rw [← hH] at hP ⊢
  replace hf := f_Model_common_u hf
  refine lv_lload_n hx hb d_Model_common_0 rfl (lv_at hl 0 rfl) ?_
  refine lv_lconst (v := 0) hx hb d_Model_common_1 (by decide) ?_
  refine W.lcmp hx hb d_Model_common_2 ?_
  have jn_12 : ∀ (s0_j12 : Int64) (H : Heap) (locs : List Loc) (ls : Array Slot), J_Model_common_12 fu p2 s0_j12 = some t → va_P (dC, dI) vwCl [] H → va_D A [] → va_S A s.heap H locs → lv_has ls 10 [(2, .long p2)] → W p l e rm_Model_common s m args below meth c H locs 0 0 Q (F0 m 12 ls [.long s0_j12]) := by
    intro s0_j12 H locs ls hf hP hD hS hl
    replace hf := J_Model_common_12_u hf
    refine lv_lstore (lv' := [(4, .long s0_j12), (2, .long p2)]) hx hb d_Model_common_12 hl (by decide) rfl (fun ls hl => ?_)
    refine lv_lload_n hx hb d_Model_common_14 rfl (lv_at hl 1 rfl) ?_
    refine lv_lstore (lv' := [(6, .long p2), (4, .long s0_j12), (2, .long p2)]) hx hb d_Model_common_15 hl (by decide) rfl (fun ls hl => ?_)
    have lp_17 : ∀ (n : Nat) (l4_17 : Int64) (l6_17 : Int64) (H : Heap) (locs : List Loc) (ls : Array Slot), L_Model_common_17 fu n l4_17 l6_17 = some t → va_P (dC, dI) vwCl [] H → va_D A [] → va_S A s.heap H locs → lv_has ls 10 [(4, .long l4_17), (6, .long l6_17)] → W p l e rm_Model_common s m args below meth c H locs 0 0 Q (F0 m 17 ls []) := by
      intro  n
      induction n with
      | zero => intro l4_17 l6_17 H locs ls hf; exact (L_Model_common_17_z hf).elim
      | succ n ih =>
        intro l4_17 l6_17 H locs ls hf hP hD hS hl
        replace hf := L_Model_common_17_u hf
        refine lv_lload hx hb d_Model_common_17 (lv_at hl 1 rfl) ?_
        refine lv_lconst (v := 0) hx hb d_Model_common_19 (by decide) ?_
        refine W.lcmp hx hb d_Model_common_20 ?_
        refine lv_if_le (tgt := 42) hx hb d_Model_common_21 (by decide) (fun c_1 => ?_) (fun c_1 => ?_)
        · replace hf := o_pos c_1 hf
          refine lv_lload hx hb d_Model_common_42 (lv_at hl 0 rfl) ?_
          rw [hQ, ← Option.some.inj hf]
          exact W.lret hx hb hr (fun t9 ht9 hW9 => ⟨rfl, by rw [ht9]; exact hP, hS.F ht9⟩) hS.2.2 d_Model_common_44
        · replace hf := o_neg c_1 hf
          refine lv_lload hx hb d_Model_common_24 (lv_at hl 0 rfl) ?_
          refine lv_lload hx hb d_Model_common_26 (lv_at hl 1 rfl) ?_
          obtain ⟨hz_2, hf⟩ := o_nzL hf
          refine lv_lrem hx hb d_Model_common_28 hz_2 ?_
          refine lv_lstore (lv' := [(8, .long (l4_17 - l4_17 / l6_17 * l6_17)), (4, .long l4_17), (6, .long l6_17)]) hx hb d_Model_common_29 hl (by decide) rfl (fun ls hl => ?_)
          refine lv_lload hx hb d_Model_common_31 (lv_at hl 2 rfl) ?_
          refine lv_lstore (lv' := [(4, .long l6_17), (8, .long (l4_17 - l4_17 / l6_17 * l6_17)), (6, .long l6_17)]) hx hb d_Model_common_33 hl (by decide) rfl (fun ls hl => ?_)
          refine lv_lload hx hb d_Model_common_35 (lv_at hl 1 rfl) ?_
          refine lv_lstore (lv' := [(6, .long (l4_17 - l4_17 / l6_17 * l6_17)), (4, .long l6_17), (8, .long (l4_17 - l4_17 / l6_17 * l6_17))]) hx hb d_Model_common_37 hl (by decide) rfl (fun ls hl => ?_)
          refine lv_goto (tgt := 17) hx hb d_Model_common_39 (by decide) ?_
          exact ih l6_17 (l4_17 - l4_17 / l6_17 * l6_17) H locs ls hf hP hD hS (lv_sub hl [1, 0] rfl)
    refine lp_17  fu s0_j12 p2 H locs ls hf hP hD hS (lv_sub hl [1, 0] rfl)
  refine lv_if_ge (tgt := 11) hx hb d_Model_common_3 (by decide) (fun c_3 => ?_) (fun c_3 => ?_)
  · replace hf := o_pos c_3 hf
    refine lv_lload_n hx hb d_Model_common_11 rfl (lv_at hl 0 rfl) ?_
    exact jn_12 p1 H locs ls hf hP hD hS (lv_sub hl [1] rfl)
  · replace hf := o_neg c_3 hf
    refine lv_lload_n hx hb d_Model_common_6 rfl (lv_at hl 0 rfl) ?_
    refine lv_lneg hx hb d_Model_common_7 ?_
    refine lv_goto (tgt := 12) hx hb d_Model_common_8 (by decide) ?_
    exact jn_12 (-p1) H locs ls hf hP hD hS (lv_sub hl [1] rfl)
def rm_Model_line : Room := { frames := 2, cells := 0, slots := 0, locals := 45 }
set_option maxHeartbeats 4000000 in
set_option maxRecDepth 100000 in
theorem c_Model_line (l : Launch) (dC : Nat → ClassId) (dI : Nat → Nat → Nat) (cI cL cC : ClassId) (h_this h_rowPoint h_rowMinute h_rowValue h_text h_kinds h_values h_names h_testCounts h_minutes h_costs h_sorts h_firsts h_seconds h_relations h_numbers h_last h_before h_heldCounts h_streaks h_faultRule h_faultBegin h_faultEnd h_order h_left h_brings : Nat) (sz : Nat) (fu : Nat) (v_thrown : Int32) (v_rows : Int32) (v_size : Int32) (v_words : Int32) (v_at : Int32) (v_ruleCount : Int32) (v_ran : Int32) (v_faults : Int32) (v_leftCount : Int32) (v_rowPoint : Nat → Int32) (v_rowMinute : Nat → Int32) (v_rowValue : Nat → Int32) (v_left : Nat → Int32) (p1 : Int32) (p2 : Int32) (p3 : Int32) (p4 : Int32) (p5 : Int32) (t : Int64 × Int32) (hf : f_Model_line fu v_thrown v_rows v_leftCount v_rowPoint v_rowMinute v_rowValue v_left p1 p2 p3 p4 p5 = some t) : Met l y_Model_line (Cond.code y_Model_line prog_9_method_48_code 23 (some .long) :: xT) rm_Model_line (va_Pc [.ref h_this, .int p1, .int p2, .int p3, .int p4, .int p5] (xP (dC, dI) (xTy cI cL cC) [(h_this, .inr (7, [.int v_thrown, .int v_rows, .ref h_rowPoint, .ref h_rowMinute, .ref h_rowValue, .ref h_text, .int v_size, .ref h_kinds, .ref h_values, .int v_words, .int v_at, .ref h_names, .ref h_testCounts, .ref h_minutes, .ref h_costs, .ref h_sorts, .ref h_firsts, .ref h_seconds, .ref h_relations, .ref h_numbers, .int v_ruleCount, .ref h_last, .ref h_before, .int v_ran, .ref h_heldCounts, .ref h_streaks, .int v_faults, .ref h_faultRule, .ref h_faultBegin, .ref h_faultEnd, .ref h_order, .ref h_left, .int v_leftCount, .ref h_brings])), (h_rowPoint, .inl (cI, 120, .inl v_rowPoint)), (h_rowMinute, .inl (cI, 120, .inl v_rowMinute)), (h_rowValue, .inl (cI, 120, .inl v_rowValue)), (h_left, .inl (cI, 100, .inl v_left))] sz)) (xQ (dC, dI) [(h_this, .inr (7, [.int t.2, .int v_rows, .ref h_rowPoint, .ref h_rowMinute, .ref h_rowValue, .ref h_text, .int v_size, .ref h_kinds, .ref h_values, .int v_words, .int v_at, .ref h_names, .ref h_testCounts, .ref h_minutes, .ref h_costs, .ref h_sorts, .ref h_firsts, .ref h_seconds, .ref h_relations, .ref h_numbers, .int v_ruleCount, .ref h_last, .ref h_before, .int v_ran, .ref h_heldCounts, .ref h_streaks, .int v_faults, .ref h_faultRule, .ref h_faultBegin, .ref h_faultEnd, .ref h_order, .ref h_left, .int v_leftCount, .ref h_brings])), (h_rowPoint, .inl (cI, 120, .inl v_rowPoint)), (h_rowMinute, .inl (cI, 120, .inl v_rowMinute)), (h_rowValue, .inl (cI, 120, .inl v_rowValue)), (h_left, .inl (cI, 100, .inl v_left))] (va_A [(h_this, .inr (7, [.int v_thrown, .int v_rows, .ref h_rowPoint, .ref h_rowMinute, .ref h_rowValue, .ref h_text, .int v_size, .ref h_kinds, .ref h_values, .int v_words, .int v_at, .ref h_names, .ref h_testCounts, .ref h_minutes, .ref h_costs, .ref h_sorts, .ref h_firsts, .ref h_seconds, .ref h_relations, .ref h_numbers, .int v_ruleCount, .ref h_last, .ref h_before, .int v_ran, .ref h_heldCounts, .ref h_streaks, .int v_faults, .ref h_faultRule, .ref h_faultBegin, .ref h_faultEnd, .ref h_order, .ref h_left, .int v_leftCount, .ref h_brings])), (h_rowPoint, .inl (cI, 120, .inl v_rowPoint)), (h_rowMinute, .inl (cI, 120, .inl v_rowMinute)), (h_rowValue, .inl (cI, 120, .inl v_rowValue)), (h_left, .inl (cI, 100, .inl v_left))] sz) (some (.long t.1))) 0 0 (va_A [(h_this, .inr (7, [.int v_thrown, .int v_rows, .ref h_rowPoint, .ref h_rowMinute, .ref h_rowValue, .ref h_text, .int v_size, .ref h_kinds, .ref h_values, .int v_words, .int v_at, .ref h_names, .ref h_testCounts, .ref h_minutes, .ref h_costs, .ref h_sorts, .ref h_firsts, .ref h_seconds, .ref h_relations, .ref h_numbers, .int v_ruleCount, .ref h_last, .ref h_before, .int v_ran, .ref h_heldCounts, .ref h_streaks, .int v_faults, .ref h_faultRule, .ref h_faultBegin, .ref h_faultEnd, .ref h_order, .ref h_left, .int v_leftCount, .ref h_brings])), (h_rowPoint, .inl (cI, 120, .inl v_rowPoint)), (h_rowMinute, .inl (cI, 120, .inl v_rowMinute)), (h_rowValue, .inl (cI, 120, .inl v_rowValue)), (h_left, .inl (cI, 100, .inl v_left))] sz) := by
  refine Met.ofW (cc := prog_9_method_48_code) (maxL := 23) (ret := (some .long)) (by decide) rfl ?_
  intro p e s m args below meth c s₁ B hml hv
  obtain ⟨hargs, hsz, hP, hK, hN, hD0⟩ := hv
  have hx := B.exec
  have hb := B.bytes
  have hr := B.returns
  have hT : ∀ w ∈ xT, w.before args s = true := fun w hw => atoms_spec (ws := Cond.code y_Model_line prog_9_method_48_code 23 (some .long) :: xT) B.pre w (List.mem_cons_of_mem _ hw)
  have hown : s.vm.findClass R_Model = some m.cls := findClass_of_methodNamed B.named
  have hlocks := B.notSynchronized
  subst hsz
  have hD := hD0.self (sz := s.heap.size)
  generalize hAe : va_A [(h_this, .inr (7, [.int v_thrown, .int v_rows, .ref h_rowPoint, .ref h_rowMinute, .ref h_rowValue, .ref h_text, .int v_size, .ref h_kinds, .ref h_values, .int v_words, .int v_at, .ref h_names, .ref h_testCounts, .ref h_minutes, .ref h_costs, .ref h_sorts, .ref h_firsts, .ref h_seconds, .ref h_relations, .ref h_numbers, .int v_ruleCount, .ref h_last, .ref h_before, .int v_ran, .ref h_heldCounts, .ref h_streaks, .int v_faults, .ref h_faultRule, .ref h_faultBegin, .ref h_faultEnd, .ref h_order, .ref h_left, .int v_leftCount, .ref h_brings])), (h_rowPoint, .inl (cI, 120, .inl v_rowPoint)), (h_rowMinute, .inl (cI, 120, .inl v_rowMinute)), (h_rowValue, .inl (cI, 120, .inl v_rowValue)), (h_left, .inl (cI, 100, .inl v_left))] s.heap.size = A at hD ⊢
  have hA : ∀ q : Nat, s.heap.size ≤ q → A q := fun q h => by rw [← hAe]; exact Or.inr h
  have hS : va_S A s.heap s.heap [] := va_S.rf
  have hP : va_P (dC, dI) vwCl [(h_this, .inr (7, [.int v_thrown, .int v_rows, .ref h_rowPoint, .ref h_rowMinute, .ref h_rowValue, .ref h_text, .int v_size, .ref h_kinds, .ref h_values, .int v_words, .int v_at, .ref h_names, .ref h_testCounts, .ref h_minutes, .ref h_costs, .ref h_sorts, .ref h_firsts, .ref h_seconds, .ref h_relations, .ref h_numbers, .int v_ruleCount, .ref h_last, .ref h_before, .int v_ran, .ref h_heldCounts, .ref h_streaks, .int v_faults, .ref h_faultRule, .ref h_faultBegin, .ref h_faultEnd, .ref h_order, .ref h_left, .int v_leftCount, .ref h_brings])), (h_rowPoint, .inl (cI, 120, .inl v_rowPoint)), (h_rowMinute, .inl (cI, 120, .inl v_rowMinute)), (h_rowValue, .inl (cI, 120, .inl v_rowValue)), (h_left, .inl (cI, 100, .inl v_left))] s.heap := hP
  have hl := lv_entry ([.ref h_this, .int p1, .int p2, .int p3, .int p4, .int p5]) (n := 23) (Nat.le_of_ble_eq_true rfl)
  rw [show entryFrame m args 23 = entryFrame m ([.ref h_this, .int p1, .int p2, .int p3, .int p4, .int p5] : List Value).toArray 23 from by rw [hargs], lg_entry_eq]
  generalize (lg_sl ([.ref h_this, .int p1, .int p2, .int p3, .int p4, .int p5]) ++ List.replicate (23 - (lg_sl ([.ref h_this, .int p1, .int p2, .int p3, .int p4, .int p5])).length) Slot.unset).toArray = ls at hl ⊢
  have hl : lv_has ls 23 [(0, .ref h_this), (1, .int p1), (2, .int p2), (3, .int p3), (4, .int p4), (5, .int p5)] := hl
  obtain ⟨Q, hQ⟩ : ∃ Q, Q = MQ below (xQ (dC, dI) [(h_this, .inr (7, [.int t.2, .int v_rows, .ref h_rowPoint, .ref h_rowMinute, .ref h_rowValue, .ref h_text, .int v_size, .ref h_kinds, .ref h_values, .int v_words, .int v_at, .ref h_names, .ref h_testCounts, .ref h_minutes, .ref h_costs, .ref h_sorts, .ref h_firsts, .ref h_seconds, .ref h_relations, .ref h_numbers, .int v_ruleCount, .ref h_last, .ref h_before, .int v_ran, .ref h_heldCounts, .ref h_streaks, .int v_faults, .ref h_faultRule, .ref h_faultBegin, .ref h_faultEnd, .ref h_order, .ref h_left, .int v_leftCount, .ref h_brings])), (h_rowPoint, .inl (cI, 120, .inl v_rowPoint)), (h_rowMinute, .inl (cI, 120, .inl v_rowMinute)), (h_rowValue, .inl (cI, 120, .inl v_rowValue)), (h_left, .inl (cI, 100, .inl v_left))] A (some (.long t.1))) args s 0 0 A := ⟨_, rfl⟩
  rw [← hQ]
  show W p l e rm_Model_line s m args below meth c s.heap [] 0 0 Q _
  obtain ⟨H, hH⟩ : ∃ H, H = s.heap := ⟨_, rfl⟩
  obtain ⟨locs, hlocs⟩ : ∃ L : List Loc, L = [] := ⟨_, rfl⟩
  rw [← hlocs] at hS ⊢
  have hS : va_S A s.heap H locs := by rw [hH]; exact hS
  rw [← hH] at hP ⊢
  replace hf := f_Model_line_u hf
  refine lv_aload_n hx hb d_Model_line_0 rfl (lv_at hl 0 rfl) ?_
  refine lv_iload_n hx hb d_Model_line_1 rfl (lv_at hl 1 rfl) ?_
  obtain ⟨t_1, hg_1, hf⟩ := o_bind hf
  refine x_stat (w' := [(h_this, .inr (7, [.int v_thrown, .int v_rows, .ref h_rowPoint, .ref h_rowMinute, .ref h_rowValue, .ref h_text, .int v_size, .ref h_kinds, .ref h_values, .int v_words, .int v_at, .ref h_names, .ref h_testCounts, .ref h_minutes, .ref h_costs, .ref h_sorts, .ref h_firsts, .ref h_seconds, .ref h_relations, .ref h_numbers, .int v_ruleCount, .ref h_last, .ref h_before, .int v_ran, .ref h_heldCounts, .ref h_streaks, .int v_faults, .ref h_faultRule, .ref h_faultBegin, .ref h_faultEnd, .ref h_order, .ref h_left, .int v_leftCount, .ref h_brings])), (h_rowPoint, .inl (cI, 120, .inl v_rowPoint)), (h_rowMinute, .inl (cI, 120, .inl v_rowMinute)), (h_rowValue, .inl (cI, 120, .inl v_rowValue)), (h_left, .inl (cI, 100, .inl v_left))]) (As := [.int p1]) (rest := [.ref h_this]) hx hb hml hl.1 hown hT hK hN hP hD hS hA (c_Model_isPoint l dC dI cI cL cC H.size p1 t_1 hg_1) kM_Model_101 kT_Model_isPoint kN_Model kC_Model_isPoint hd_Model_isPoint rfl ⟨Nat.le_of_ble_eq_true rfl, Nat.le_of_ble_eq_true rfl⟩ rfl rfl ⟨Nat.zero_le _, Nat.zero_le _⟩ rfl (Nat.le_of_ble_eq_true rfl) d_Model_line_2 [] rfl rfl [.inl 0, .inl 1, .inl 2, .inl 3, .inl 4] rfl rfl rfl (fun H locs hP hD hS => ?_)
  have jn_61 : ∀ (s1_j61 : Int32) (H : Heap) (locs : List Loc) (ls : Array Slot), J_Model_line_61 fu v_thrown v_rows v_leftCount v_rowPoint v_rowMinute v_rowValue v_left p1 p2 p3 p4 p5 s1_j61 = some t → va_P (dC, dI) vwCl [(h_this, .inr (7, [.int v_thrown, .int v_rows, .ref h_rowPoint, .ref h_rowMinute, .ref h_rowValue, .ref h_text, .int v_size, .ref h_kinds, .ref h_values, .int v_words, .int v_at, .ref h_names, .ref h_testCounts, .ref h_minutes, .ref h_costs, .ref h_sorts, .ref h_firsts, .ref h_seconds, .ref h_relations, .ref h_numbers, .int v_ruleCount, .ref h_last, .ref h_before, .int v_ran, .ref h_heldCounts, .ref h_streaks, .int v_faults, .ref h_faultRule, .ref h_faultBegin, .ref h_faultEnd, .ref h_order, .ref h_left, .int v_leftCount, .ref h_brings])), (h_rowPoint, .inl (cI, 120, .inl v_rowPoint)), (h_rowMinute, .inl (cI, 120, .inl v_rowMinute)), (h_rowValue, .inl (cI, 120, .inl v_rowValue)), (h_left, .inl (cI, 100, .inl v_left))] H → va_D A [(h_this, .inr (7, [.int v_thrown, .int v_rows, .ref h_rowPoint, .ref h_rowMinute, .ref h_rowValue, .ref h_text, .int v_size, .ref h_kinds, .ref h_values, .int v_words, .int v_at, .ref h_names, .ref h_testCounts, .ref h_minutes, .ref h_costs, .ref h_sorts, .ref h_firsts, .ref h_seconds, .ref h_relations, .ref h_numbers, .int v_ruleCount, .ref h_last, .ref h_before, .int v_ran, .ref h_heldCounts, .ref h_streaks, .int v_faults, .ref h_faultRule, .ref h_faultBegin, .ref h_faultEnd, .ref h_order, .ref h_left, .int v_leftCount, .ref h_brings])), (h_rowPoint, .inl (cI, 120, .inl v_rowPoint)), (h_rowMinute, .inl (cI, 120, .inl v_rowMinute)), (h_rowValue, .inl (cI, 120, .inl v_rowValue)), (h_left, .inl (cI, 100, .inl v_left))] → va_S A s.heap H locs → lv_has ls 23 [(0, .ref h_this), (1, .int p1), (2, .int p2), (3, .int p3), (4, .int p4), (5, .int p5)] → W p l e rm_Model_line s m args below meth c H locs 0 0 Q (F0 m 61 ls [.int s1_j61, .ref h_this]) := by
    intro s1_j61 H locs ls hf hP hD hS hl
    replace hf := J_Model_line_61_u hf
    refine va_put (D := (dC, dI)) (ci := 7) (v := .int s1_j61) (ty := .int) (C := R_Model) (T := T_Model) (N := 34) hx hb hT i_Model ty_Model ty_Model_ok n_Model hown hK hP hD hS 0 rfl rfl 0 (by decide) (hT _ kF_Model_86) (fun _ h9 => h9) rfl (by decide +kernel) rfl rfl (Nat.le_of_ble_eq_true rfl) d_Model_line_61 (fun H locs hP hD hS => ?_)
    have hP : va_P (dC, dI) vwCl [(h_this, .inr (7, [.int s1_j61, .int v_rows, .ref h_rowPoint, .ref h_rowMinute, .ref h_rowValue, .ref h_text, .int v_size, .ref h_kinds, .ref h_values, .int v_words, .int v_at, .ref h_names, .ref h_testCounts, .ref h_minutes, .ref h_costs, .ref h_sorts, .ref h_firsts, .ref h_seconds, .ref h_relations, .ref h_numbers, .int v_ruleCount, .ref h_last, .ref h_before, .int v_ran, .ref h_heldCounts, .ref h_streaks, .int v_faults, .ref h_faultRule, .ref h_faultBegin, .ref h_faultEnd, .ref h_order, .ref h_left, .int v_leftCount, .ref h_brings])), (h_rowPoint, .inl (cI, 120, .inl v_rowPoint)), (h_rowMinute, .inl (cI, 120, .inl v_rowMinute)), (h_rowValue, .inl (cI, 120, .inl v_rowValue)), (h_left, .inl (cI, 100, .inl v_left))] H := hP
    have hD : va_D A [(h_this, .inr (7, [.int s1_j61, .int v_rows, .ref h_rowPoint, .ref h_rowMinute, .ref h_rowValue, .ref h_text, .int v_size, .ref h_kinds, .ref h_values, .int v_words, .int v_at, .ref h_names, .ref h_testCounts, .ref h_minutes, .ref h_costs, .ref h_sorts, .ref h_firsts, .ref h_seconds, .ref h_relations, .ref h_numbers, .int v_ruleCount, .ref h_last, .ref h_before, .int v_ran, .ref h_heldCounts, .ref h_streaks, .int v_faults, .ref h_faultRule, .ref h_faultBegin, .ref h_faultEnd, .ref h_order, .ref h_left, .int v_leftCount, .ref h_brings])), (h_rowPoint, .inl (cI, 120, .inl v_rowPoint)), (h_rowMinute, .inl (cI, 120, .inl v_rowMinute)), (h_rowValue, .inl (cI, 120, .inl v_rowValue)), (h_left, .inl (cI, 100, .inl v_left))] := hD
    refine lv_aload_n hx hb d_Model_line_64 rfl (lv_at hl 0 rfl) ?_
    refine va_get (D := (dC, dI)) (ci := 7) (v := .int s1_j61) (C := R_Model) (T := T_Model) (N := 34) hx hb hT i_Model hown hK hP 0 rfl rfl 0 (by decide) (hT _ kF_Model_86) (fun _ h9 => h9) rfl d_Model_line_65 ?_
    refine lv_if_le (tgt := 73) hx hb d_Model_line_68 (by decide) (fun c_2 => ?_) (fun c_2 => ?_)
    · replace hf := o_pos c_2 hf
      refine lv_lconst (v := 0) hx hb d_Model_line_73 (by decide) ?_
      refine lv_lstore (lv' := [(6, .long 0), (0, .ref h_this), (1, .int p1), (2, .int p2), (3, .int p3), (4, .int p4), (5, .int p5)]) hx hb d_Model_line_74 hl (by decide) rfl (fun ls hl => ?_)
      refine lv_lconst (v := 0) hx hb d_Model_line_76 (by decide) ?_
      refine lv_lstore (lv' := [(8, .long 0), (6, .long 0), (0, .ref h_this), (1, .int p1), (2, .int p2), (3, .int p3), (4, .int p4), (5, .int p5)]) hx hb d_Model_line_77 hl (by decide) rfl (fun ls hl => ?_)
      refine lv_lconst (v := 0) hx hb d_Model_line_79 (by decide) ?_
      refine lv_lstore (lv' := [(10, .long 0), (8, .long 0), (6, .long 0), (0, .ref h_this), (1, .int p1), (2, .int p2), (3, .int p3), (4, .int p4), (5, .int p5)]) hx hb d_Model_line_80 hl (by decide) rfl (fun ls hl => ?_)
      refine lv_lconst (v := 0) hx hb d_Model_line_82 (by decide) ?_
      refine lv_lstore (lv' := [(12, .long 0), (10, .long 0), (8, .long 0), (6, .long 0), (0, .ref h_this), (1, .int p1), (2, .int p2), (3, .int p3), (4, .int p4), (5, .int p5)]) hx hb d_Model_line_83 hl (by decide) rfl (fun ls hl => ?_)
      refine lv_lconst (v := 0) hx hb d_Model_line_85 (by decide) ?_
      refine lv_lstore (lv' := [(14, .long 0), (12, .long 0), (10, .long 0), (8, .long 0), (6, .long 0), (0, .ref h_this), (1, .int p1), (2, .int p2), (3, .int p3), (4, .int p4), (5, .int p5)]) hx hb d_Model_line_86 hl (by decide) rfl (fun ls hl => ?_)
      refine lv_iload_n hx hb d_Model_line_88 rfl (lv_at hl 8 rfl) ?_
      refine lv_istore (lv' := [(16, .int p3), (14, .long 0), (12, .long 0), (10, .long 0), (8, .long 0), (6, .long 0), (0, .ref h_this), (1, .int p1), (2, .int p2), (3, .int p3), (4, .int p4), (5, .int p5)]) hx hb d_Model_line_89 hl (by decide) rfl (fun ls hl => ?_)
      have lp_91 : ∀ (k_208 : Int64 → Int64 → Int64 → Int64 → Int64 → Option (Int64 × Int32)) (hk_208 : ∀ (l6_91e : Int64) (l8_91e : Int64) (l10_91e : Int64) (l12_91e : Int64) (l14_91e : Int64) (H : Heap) (locs : List Loc) (ls : Array Slot), k_208 l6_91e l8_91e l10_91e l12_91e l14_91e = some t → va_P (dC, dI) vwCl [(h_this, .inr (7, [.int s1_j61, .int v_rows, .ref h_rowPoint, .ref h_rowMinute, .ref h_rowValue, .ref h_text, .int v_size, .ref h_kinds, .ref h_values, .int v_words, .int v_at, .ref h_names, .ref h_testCounts, .ref h_minutes, .ref h_costs, .ref h_sorts, .ref h_firsts, .ref h_seconds, .ref h_relations, .ref h_numbers, .int v_ruleCount, .ref h_last, .ref h_before, .int v_ran, .ref h_heldCounts, .ref h_streaks, .int v_faults, .ref h_faultRule, .ref h_faultBegin, .ref h_faultEnd, .ref h_order, .ref h_left, .int v_leftCount, .ref h_brings])), (h_rowPoint, .inl (cI, 120, .inl v_rowPoint)), (h_rowMinute, .inl (cI, 120, .inl v_rowMinute)), (h_rowValue, .inl (cI, 120, .inl v_rowValue)), (h_left, .inl (cI, 100, .inl v_left))] H → va_D A [(h_this, .inr (7, [.int s1_j61, .int v_rows, .ref h_rowPoint, .ref h_rowMinute, .ref h_rowValue, .ref h_text, .int v_size, .ref h_kinds, .ref h_values, .int v_words, .int v_at, .ref h_names, .ref h_testCounts, .ref h_minutes, .ref h_costs, .ref h_sorts, .ref h_firsts, .ref h_seconds, .ref h_relations, .ref h_numbers, .int v_ruleCount, .ref h_last, .ref h_before, .int v_ran, .ref h_heldCounts, .ref h_streaks, .int v_faults, .ref h_faultRule, .ref h_faultBegin, .ref h_faultEnd, .ref h_order, .ref h_left, .int v_leftCount, .ref h_brings])), (h_rowPoint, .inl (cI, 120, .inl v_rowPoint)), (h_rowMinute, .inl (cI, 120, .inl v_rowMinute)), (h_rowValue, .inl (cI, 120, .inl v_rowValue)), (h_left, .inl (cI, 100, .inl v_left))] → va_S A s.heap H locs → lv_has ls 23 [(5, .int p5), (6, .long l6_91e), (8, .long l8_91e), (10, .long l10_91e), (12, .long l12_91e), (14, .long l14_91e)] → W p l e rm_Model_line s m args below meth c H locs 0 0 Q (F0 m 208 ls [])), ∀ (n : Nat) (l6_91 : Int64) (l8_91 : Int64) (l10_91 : Int64) (l12_91 : Int64) (l14_91 : Int64) (l16_91 : Int32) (H : Heap) (locs : List Loc) (ls : Array Slot), L_Model_line_91 fu v_rows v_leftCount v_rowPoint v_rowMinute v_rowValue v_left p1 p2 p4 p5 k_208 n l6_91 l8_91 l10_91 l12_91 l14_91 l16_91 = some t → va_P (dC, dI) vwCl [(h_this, .inr (7, [.int s1_j61, .int v_rows, .ref h_rowPoint, .ref h_rowMinute, .ref h_rowValue, .ref h_text, .int v_size, .ref h_kinds, .ref h_values, .int v_words, .int v_at, .ref h_names, .ref h_testCounts, .ref h_minutes, .ref h_costs, .ref h_sorts, .ref h_firsts, .ref h_seconds, .ref h_relations, .ref h_numbers, .int v_ruleCount, .ref h_last, .ref h_before, .int v_ran, .ref h_heldCounts, .ref h_streaks, .int v_faults, .ref h_faultRule, .ref h_faultBegin, .ref h_faultEnd, .ref h_order, .ref h_left, .int v_leftCount, .ref h_brings])), (h_rowPoint, .inl (cI, 120, .inl v_rowPoint)), (h_rowMinute, .inl (cI, 120, .inl v_rowMinute)), (h_rowValue, .inl (cI, 120, .inl v_rowValue)), (h_left, .inl (cI, 100, .inl v_left))] H → va_D A [(h_this, .inr (7, [.int s1_j61, .int v_rows, .ref h_rowPoint, .ref h_rowMinute, .ref h_rowValue, .ref h_text, .int v_size, .ref h_kinds, .ref h_values, .int v_words, .int v_at, .ref h_names, .ref h_testCounts, .ref h_minutes, .ref h_costs, .ref h_sorts, .ref h_firsts, .ref h_seconds, .ref h_relations, .ref h_numbers, .int v_ruleCount, .ref h_last, .ref h_before, .int v_ran, .ref h_heldCounts, .ref h_streaks, .int v_faults, .ref h_faultRule, .ref h_faultBegin, .ref h_faultEnd, .ref h_order, .ref h_left, .int v_leftCount, .ref h_brings])), (h_rowPoint, .inl (cI, 120, .inl v_rowPoint)), (h_rowMinute, .inl (cI, 120, .inl v_rowMinute)), (h_rowValue, .inl (cI, 120, .inl v_rowValue)), (h_left, .inl (cI, 100, .inl v_left))] → va_S A s.heap H locs → lv_has ls 23 [(0, .ref h_this), (1, .int p1), (2, .int p2), (4, .int p4), (5, .int p5), (6, .long l6_91), (8, .long l8_91), (10, .long l10_91), (12, .long l12_91), (14, .long l14_91), (16, .int l16_91)] → W p l e rm_Model_line s m args below meth c H locs 0 0 Q (F0 m 91 ls []) := by
        intro k_208 hk_208 n
        induction n with
        | zero => intro l6_91 l8_91 l10_91 l12_91 l14_91 l16_91 H locs ls hf; exact (L_Model_line_91_z hf).elim
        | succ n ih =>
          intro l6_91 l8_91 l10_91 l12_91 l14_91 l16_91 H locs ls hf hP hD hS hl
          replace hf := L_Model_line_91_u hf
          refine lv_iload hx hb d_Model_line_91 (lv_at hl 10 rfl) ?_
          refine lv_iload hx hb d_Model_line_93 (lv_at hl 3 rfl) ?_
          refine lv_icmp_gt (tgt := 208) hx hb d_Model_line_95 (by decide) (fun c_3 => ?_) (fun c_3 => ?_)
          · replace hf := o_pos c_3 hf
            exact hk_208 l6_91 l8_91 l10_91 l12_91 l14_91 H locs ls hf hP hD hS (lv_sub hl [4, 5, 6, 7, 8, 9] rfl)
          · replace hf := o_neg c_3 hf
            refine lv_aload_n hx hb d_Model_line_98 rfl (lv_at hl 0 rfl) ?_
            refine lv_iload_n hx hb d_Model_line_99 rfl (lv_at hl 1 rfl) ?_
            refine lv_iload hx hb d_Model_line_100 (lv_at hl 10 rfl) ?_
            obtain ⟨t_4, hg_4, hf⟩ := o_bind hf
            refine x_virt (w' := [(h_this, .inr (7, [.int s1_j61, .int v_rows, .ref h_rowPoint, .ref h_rowMinute, .ref h_rowValue, .ref h_text, .int v_size, .ref h_kinds, .ref h_values, .int v_words, .int v_at, .ref h_names, .ref h_testCounts, .ref h_minutes, .ref h_costs, .ref h_sorts, .ref h_firsts, .ref h_seconds, .ref h_relations, .ref h_numbers, .int v_ruleCount, .ref h_last, .ref h_before, .int v_ran, .ref h_heldCounts, .ref h_streaks, .int v_faults, .ref h_faultRule, .ref h_faultBegin, .ref h_faultEnd, .ref h_order, .ref h_left, .int v_leftCount, .ref h_brings])), (h_rowPoint, .inl (cI, 120, .inl v_rowPoint)), (h_rowMinute, .inl (cI, 120, .inl v_rowMinute)), (h_rowValue, .inl (cI, 120, .inl v_rowValue)), (h_left, .inl (cI, 100, .inl v_left))]) (As := [.int p1, .int l16_91]) (rest := []) hx hb hml hl.1 hown hT hK hN hP hD hS hA (c_Model_latest l dC dI cI cL cC h_this h_rowPoint h_rowMinute h_rowValue h_text h_kinds h_values h_names h_testCounts h_minutes h_costs h_sorts h_firsts h_seconds h_relations h_numbers h_last h_before h_heldCounts h_streaks h_faultRule h_faultBegin h_faultEnd h_order h_left h_brings H.size fu s1_j61 v_rows v_size v_words v_at v_ruleCount v_ran v_faults v_leftCount v_rowPoint v_rowMinute p1 l16_91 t_4 hg_4) kM_Model_112 kI_Model_latest kS_392 kN_Model kC_Model_latest hd_Model_latest rfl 0 rfl rfl rfl ⟨Nat.le_of_ble_eq_true rfl, Nat.le_of_ble_eq_true rfl⟩ rfl rfl ⟨Nat.zero_le _, Nat.zero_le _⟩ rfl (Nat.le_of_ble_eq_true rfl) d_Model_line_102 [0, 1, 2] rfl rfl [.inr 0, .inr 1, .inr 2, .inl 3, .inl 4] rfl rfl rfl (fun H locs hP hD hS => ?_)
            refine lv_istore (lv' := [(17, .int t_4), (0, .ref h_this), (1, .int p1), (2, .int p2), (4, .int p4), (5, .int p5), (6, .long l6_91), (8, .long l8_91), (10, .long l10_91), (12, .long l12_91), (14, .long l14_91), (16, .int l16_91)]) hx hb d_Model_line_105 hl (by decide) rfl (fun ls hl => ?_)
            refine lv_aload_n hx hb d_Model_line_107 rfl (lv_at hl 1 rfl) ?_
            refine lv_iload_n hx hb d_Model_line_108 rfl (lv_at hl 3 rfl) ?_
            refine lv_iload hx hb d_Model_line_109 (lv_at hl 11 rfl) ?_
            obtain ⟨t_5, hg_5, hf⟩ := o_bind hf
            refine x_virt (w' := [(h_this, .inr (7, [.int s1_j61, .int v_rows, .ref h_rowPoint, .ref h_rowMinute, .ref h_rowValue, .ref h_text, .int v_size, .ref h_kinds, .ref h_values, .int v_words, .int v_at, .ref h_names, .ref h_testCounts, .ref h_minutes, .ref h_costs, .ref h_sorts, .ref h_firsts, .ref h_seconds, .ref h_relations, .ref h_numbers, .int v_ruleCount, .ref h_last, .ref h_before, .int v_ran, .ref h_heldCounts, .ref h_streaks, .int v_faults, .ref h_faultRule, .ref h_faultBegin, .ref h_faultEnd, .ref h_order, .ref h_left, .int v_leftCount, .ref h_brings])), (h_rowPoint, .inl (cI, 120, .inl v_rowPoint)), (h_rowMinute, .inl (cI, 120, .inl v_rowMinute)), (h_rowValue, .inl (cI, 120, .inl v_rowValue)), (h_left, .inl (cI, 100, .inl v_left))]) (As := [.int p2, .int l16_91]) (rest := []) hx hb hml hl.1 hown hT hK hN hP hD hS hA (c_Model_latest l dC dI cI cL cC h_this h_rowPoint h_rowMinute h_rowValue h_text h_kinds h_values h_names h_testCounts h_minutes h_costs h_sorts h_firsts h_seconds h_relations h_numbers h_last h_before h_heldCounts h_streaks h_faultRule h_faultBegin h_faultEnd h_order h_left h_brings H.size fu s1_j61 v_rows v_size v_words v_at v_ruleCount v_ran v_faults v_leftCount v_rowPoint v_rowMinute p2 l16_91 t_5 hg_5) kM_Model_112 kI_Model_latest kS_392 kN_Model kC_Model_latest hd_Model_latest rfl 0 rfl rfl rfl ⟨Nat.le_of_ble_eq_true rfl, Nat.le_of_ble_eq_true rfl⟩ rfl rfl ⟨Nat.zero_le _, Nat.zero_le _⟩ rfl (Nat.le_of_ble_eq_true rfl) d_Model_line_111 [0, 1, 2] rfl rfl [.inr 0, .inr 1, .inr 2, .inl 3, .inl 4] rfl rfl rfl (fun H locs hP hD hS => ?_)
            refine lv_istore (lv' := [(18, .int t_5), (17, .int t_4), (0, .ref h_this), (1, .int p1), (2, .int p2), (4, .int p4), (5, .int p5), (6, .long l6_91), (8, .long l8_91), (10, .long l10_91), (12, .long l12_91), (14, .long l14_91), (16, .int l16_91)]) hx hb d_Model_line_114 hl (by decide) rfl (fun ls hl => ?_)
            refine lv_iload hx hb d_Model_line_116 (lv_at hl 1 rfl) ?_
            refine lv_if_lt (tgt := 202) hx hb d_Model_line_118 (by decide) (fun c_6 => ?_) (fun c_6 => ?_)
            · replace hf := o_pos c_6 hf
              refine lv_iinc (v := l16_91 + 1) (lv' := [(16, .int (l16_91 + 1)), (18, .int t_5), (17, .int t_4), (0, .ref h_this), (1, .int p1), (2, .int p2), (4, .int p4), (5, .int p5), (6, .long l6_91), (8, .long l8_91), (10, .long l10_91), (12, .long l12_91), (14, .long l14_91)]) hx hb d_Model_line_202 hl (k := 12) rfl rfl (by decide) rfl (fun ls hl => ?_)
              refine lv_goto (tgt := 91) hx hb d_Model_line_205 (by decide) ?_
              exact ih l6_91 l8_91 l10_91 l12_91 l14_91 (l16_91 + 1) H locs ls hf hP hD hS (lv_sub hl [3, 4, 5, 6, 7, 8, 9, 10, 11, 12, 0] rfl)
            · replace hf := o_neg c_6 hf
              refine lv_iload hx hb d_Model_line_121 (lv_at hl 0 rfl) ?_
              refine lv_if_lt (tgt := 202) hx hb d_Model_line_123 (by decide) (fun c_7 => ?_) (fun c_7 => ?_)
              · replace hf := o_pos c_7 hf
                refine lv_iinc (v := l16_91 + 1) (lv' := [(16, .int (l16_91 + 1)), (18, .int t_5), (17, .int t_4), (0, .ref h_this), (1, .int p1), (2, .int p2), (4, .int p4), (5, .int p5), (6, .long l6_91), (8, .long l8_91), (10, .long l10_91), (12, .long l12_91), (14, .long l14_91)]) hx hb d_Model_line_202 hl (k := 12) rfl rfl (by decide) rfl (fun ls hl => ?_)
                refine lv_goto (tgt := 91) hx hb d_Model_line_205 (by decide) ?_
                exact ih l6_91 l8_91 l10_91 l12_91 l14_91 (l16_91 + 1) H locs ls hf hP hD hS (lv_sub hl [3, 4, 5, 6, 7, 8, 9, 10, 11, 12, 0] rfl)
              · replace hf := o_neg c_7 hf
                refine lv_aload_n hx hb d_Model_line_126 rfl (lv_at hl 2 rfl) ?_
                refine lv_iload hx hb d_Model_line_127 (lv_at hl 12 rfl) ?_
                obtain ⟨t_8, hg_8, hf⟩ := o_bind hf
                refine x_virt (w' := [(h_this, .inr (7, [.int s1_j61, .int v_rows, .ref h_rowPoint, .ref h_rowMinute, .ref h_rowValue, .ref h_text, .int v_size, .ref h_kinds, .ref h_values, .int v_words, .int v_at, .ref h_names, .ref h_testCounts, .ref h_minutes, .ref h_costs, .ref h_sorts, .ref h_firsts, .ref h_seconds, .ref h_relations, .ref h_numbers, .int v_ruleCount, .ref h_last, .ref h_before, .int v_ran, .ref h_heldCounts, .ref h_streaks, .int v_faults, .ref h_faultRule, .ref h_faultBegin, .ref h_faultEnd, .ref h_order, .ref h_left, .int v_leftCount, .ref h_brings])), (h_rowPoint, .inl (cI, 120, .inl v_rowPoint)), (h_rowMinute, .inl (cI, 120, .inl v_rowMinute)), (h_rowValue, .inl (cI, 120, .inl v_rowValue)), (h_left, .inl (cI, 100, .inl v_left))]) (As := [.int l16_91]) (rest := []) hx hb hml hl.1 hown hT hK hN hP hD hS hA (c_Model_leftAt l dC dI cI cL cC h_this h_rowPoint h_rowMinute h_rowValue h_text h_kinds h_values h_names h_testCounts h_minutes h_costs h_sorts h_firsts h_seconds h_relations h_numbers h_last h_before h_heldCounts h_streaks h_faultRule h_faultBegin h_faultEnd h_order h_left h_brings H.size fu s1_j61 v_rows v_size v_words v_at v_ruleCount v_ran v_faults v_leftCount v_left l16_91 t_8 hg_8) kM_Model_280 kI_Model_leftAt kS_565 kN_Model kC_Model_leftAt hd_Model_leftAt rfl 0 rfl rfl rfl ⟨Nat.le_of_ble_eq_true rfl, Nat.le_of_ble_eq_true rfl⟩ rfl rfl ⟨Nat.zero_le _, Nat.zero_le _⟩ rfl (Nat.le_of_ble_eq_true rfl) d_Model_line_129 [0, 4] rfl rfl [.inr 0, .inl 1, .inl 2, .inl 3, .inr 1] rfl rfl rfl (fun H locs hP hD hS => ?_)
                refine lv_aload_n hx hb d_Model_line_132 rfl (lv_at hl 2 rfl) ?_
                refine va_get (D := (dC, dI)) (ci := 7) (v := .int v_leftCount) (C := R_Model) (T := T_Model) (N := 34) hx hb hT i_Model hown hK hP 0 rfl rfl 32 (by decide) (hT _ kF_Model_277) (fun _ h9 => h9) rfl d_Model_line_133 ?_
                refine lv_icmp_ge (tgt := 142) hx hb d_Model_line_136 (by decide) (fun c_9 => ?_) (fun c_9 => ?_)
                · replace hf := o_pos c_9 hf
                  refine lv_aload_n hx hb d_Model_line_142 rfl (lv_at hl 2 rfl) ?_
                  refine va_get (D := (dC, dI)) (ci := 7) (v := .ref h_rowValue) (C := R_Model) (T := T_Model) (N := 34) hx hb hT i_Model hown hK hP 0 rfl rfl 4 (by decide) (hT _ kF_Model_16) (fun _ h9 => h9) rfl d_Model_line_143 ?_
                  refine lv_iload hx hb d_Model_line_146 (lv_at hl 1 rfl) ?_
                  obtain ⟨hi_10, hf⟩ := o_in hf
                  refine va_iald hx hb hK hP 3 0 rfl rfl hi_10 d_Model_line_148 ?_
                  refine lv_i2l (v := (v_rowValue (t_4 : Int32).toNatClampNeg : Int32).toInt64) hx hb d_Model_line_149 rfl ?_
                  refine lv_lstore (lv' := [(19, .long ((v_rowValue (t_4 : Int32).toNatClampNeg : Int32).toInt64)), (18, .int t_5), (17, .int t_4), (0, .ref h_this), (1, .int p1), (2, .int p2), (4, .int p4), (5, .int p5), (6, .long l6_91), (8, .long l8_91), (10, .long l10_91), (12, .long l12_91), (14, .long l14_91), (16, .int l16_91)]) hx hb d_Model_line_150 hl (by decide) rfl (fun ls hl => ?_)
                  refine lv_aload_n hx hb d_Model_line_152 rfl (lv_at hl 3 rfl) ?_
                  refine va_get (D := (dC, dI)) (ci := 7) (v := .ref h_rowValue) (C := R_Model) (T := T_Model) (N := 34) hx hb hT i_Model hown hK hP 0 rfl rfl 4 (by decide) (hT _ kF_Model_16) (fun _ h9 => h9) rfl d_Model_line_153 ?_
                  refine lv_iload hx hb d_Model_line_156 (lv_at hl 1 rfl) ?_
                  obtain ⟨hi_11, hf⟩ := o_in hf
                  refine va_iald hx hb hK hP 3 0 rfl rfl hi_11 d_Model_line_158 ?_
                  refine lv_i2l (v := (v_rowValue (t_5 : Int32).toNatClampNeg : Int32).toInt64) hx hb d_Model_line_159 rfl ?_
                  refine lv_lstore (lv' := [(21, .long ((v_rowValue (t_5 : Int32).toNatClampNeg : Int32).toInt64)), (19, .long ((v_rowValue (t_4 : Int32).toNatClampNeg : Int32).toInt64)), (18, .int t_5), (17, .int t_4), (0, .ref h_this), (1, .int p1), (2, .int p2), (4, .int p4), (5, .int p5), (6, .long l6_91), (8, .long l8_91), (10, .long l10_91), (12, .long l12_91), (14, .long l14_91), (16, .int l16_91)]) hx hb d_Model_line_160 hl (by decide) rfl (fun ls hl => ?_)
                  refine lv_lload hx hb d_Model_line_162 (lv_at hl 9 rfl) ?_
                  refine lv_lconst (v := 1) hx hb d_Model_line_164 (by decide) ?_
                  refine lv_ladd hx hb d_Model_line_165 ?_
                  refine lv_lstore (lv' := [(6, .long (l6_91 + 1)), (21, .long ((v_rowValue (t_5 : Int32).toNatClampNeg : Int32).toInt64)), (19, .long ((v_rowValue (t_4 : Int32).toNatClampNeg : Int32).toInt64)), (18, .int t_5), (17, .int t_4), (0, .ref h_this), (1, .int p1), (2, .int p2), (4, .int p4), (5, .int p5), (8, .long l8_91), (10, .long l10_91), (12, .long l12_91), (14, .long l14_91), (16, .int l16_91)]) hx hb d_Model_line_166 hl (by decide) rfl (fun ls hl => ?_)
                  refine lv_lload hx hb d_Model_line_168 (lv_at hl 10 rfl) ?_
                  refine lv_lload hx hb d_Model_line_170 (lv_at hl 1 rfl) ?_
                  refine lv_ladd hx hb d_Model_line_172 ?_
                  refine lv_lstore (lv' := [(8, .long (l8_91 + ((v_rowValue (t_5 : Int32).toNatClampNeg : Int32).toInt64))), (6, .long (l6_91 + 1)), (21, .long ((v_rowValue (t_5 : Int32).toNatClampNeg : Int32).toInt64)), (19, .long ((v_rowValue (t_4 : Int32).toNatClampNeg : Int32).toInt64)), (18, .int t_5), (17, .int t_4), (0, .ref h_this), (1, .int p1), (2, .int p2), (4, .int p4), (5, .int p5), (10, .long l10_91), (12, .long l12_91), (14, .long l14_91), (16, .int l16_91)]) hx hb d_Model_line_173 hl (by decide) rfl (fun ls hl => ?_)
                  refine lv_lload hx hb d_Model_line_175 (lv_at hl 11 rfl) ?_
                  refine lv_lload hx hb d_Model_line_177 (lv_at hl 3 rfl) ?_
                  refine lv_ladd hx hb d_Model_line_179 ?_
                  refine lv_lstore (lv' := [(10, .long (l10_91 + ((v_rowValue (t_4 : Int32).toNatClampNeg : Int32).toInt64))), (8, .long (l8_91 + ((v_rowValue (t_5 : Int32).toNatClampNeg : Int32).toInt64))), (6, .long (l6_91 + 1)), (21, .long ((v_rowValue (t_5 : Int32).toNatClampNeg : Int32).toInt64)), (19, .long ((v_rowValue (t_4 : Int32).toNatClampNeg : Int32).toInt64)), (18, .int t_5), (17, .int t_4), (0, .ref h_this), (1, .int p1), (2, .int p2), (4, .int p4), (5, .int p5), (12, .long l12_91), (14, .long l14_91), (16, .int l16_91)]) hx hb d_Model_line_180 hl (by decide) rfl (fun ls hl => ?_)
                  refine lv_lload hx hb d_Model_line_182 (lv_at hl 12 rfl) ?_
                  refine lv_lload hx hb d_Model_line_184 (lv_at hl 3 rfl) ?_
                  refine lv_lload hx hb d_Model_line_186 (lv_at hl 4 rfl) ?_
                  refine lv_lmul hx hb d_Model_line_188 ?_
                  refine lv_ladd hx hb d_Model_line_189 ?_
                  refine lv_lstore (lv' := [(12, .long (l12_91 + (((v_rowValue (t_5 : Int32).toNatClampNeg : Int32).toInt64) * ((v_rowValue (t_4 : Int32).toNatClampNeg : Int32).toInt64)))), (10, .long (l10_91 + ((v_rowValue (t_4 : Int32).toNatClampNeg : Int32).toInt64))), (8, .long (l8_91 + ((v_rowValue (t_5 : Int32).toNatClampNeg : Int32).toInt64))), (6, .long (l6_91 + 1)), (21, .long ((v_rowValue (t_5 : Int32).toNatClampNeg : Int32).toInt64)), (19, .long ((v_rowValue (t_4 : Int32).toNatClampNeg : Int32).toInt64)), (18, .int t_5), (17, .int t_4), (0, .ref h_this), (1, .int p1), (2, .int p2), (4, .int p4), (5, .int p5), (14, .long l14_91), (16, .int l16_91)]) hx hb d_Model_line_190 hl (by decide) rfl (fun ls hl => ?_)
                  refine lv_lload hx hb d_Model_line_192 (lv_at hl 13 rfl) ?_
                  refine lv_lload hx hb d_Model_line_194 (lv_at hl 4 rfl) ?_
                  refine lv_lload hx hb d_Model_line_196 (lv_at hl 4 rfl) ?_
                  refine lv_lmul hx hb d_Model_line_198 ?_
                  refine lv_ladd hx hb d_Model_line_199 ?_
                  refine lv_lstore (lv' := [(14, .long (l14_91 + (((v_rowValue (t_5 : Int32).toNatClampNeg : Int32).toInt64) * ((v_rowValue (t_5 : Int32).toNatClampNeg : Int32).toInt64)))), (12, .long (l12_91 + (((v_rowValue (t_5 : Int32).toNatClampNeg : Int32).toInt64) * ((v_rowValue (t_4 : Int32).toNatClampNeg : Int32).toInt64)))), (10, .long (l10_91 + ((v_rowValue (t_4 : Int32).toNatClampNeg : Int32).toInt64))), (8, .long (l8_91 + ((v_rowValue (t_5 : Int32).toNatClampNeg : Int32).toInt64))), (6, .long (l6_91 + 1)), (21, .long ((v_rowValue (t_5 : Int32).toNatClampNeg : Int32).toInt64)), (19, .long ((v_rowValue (t_4 : Int32).toNatClampNeg : Int32).toInt64)), (18, .int t_5), (17, .int t_4), (0, .ref h_this), (1, .int p1), (2, .int p2), (4, .int p4), (5, .int p5), (16, .int l16_91)]) hx hb d_Model_line_200 hl (by decide) rfl (fun ls hl => ?_)
                  refine lv_iinc (v := l16_91 + 1) (lv' := [(16, .int (l16_91 + 1)), (14, .long (l14_91 + (((v_rowValue (t_5 : Int32).toNatClampNeg : Int32).toInt64) * ((v_rowValue (t_5 : Int32).toNatClampNeg : Int32).toInt64)))), (12, .long (l12_91 + (((v_rowValue (t_5 : Int32).toNatClampNeg : Int32).toInt64) * ((v_rowValue (t_4 : Int32).toNatClampNeg : Int32).toInt64)))), (10, .long (l10_91 + ((v_rowValue (t_4 : Int32).toNatClampNeg : Int32).toInt64))), (8, .long (l8_91 + ((v_rowValue (t_5 : Int32).toNatClampNeg : Int32).toInt64))), (6, .long (l6_91 + 1)), (21, .long ((v_rowValue (t_5 : Int32).toNatClampNeg : Int32).toInt64)), (19, .long ((v_rowValue (t_4 : Int32).toNatClampNeg : Int32).toInt64)), (18, .int t_5), (17, .int t_4), (0, .ref h_this), (1, .int p1), (2, .int p2), (4, .int p4), (5, .int p5)]) hx hb d_Model_line_202 hl (k := 14) rfl rfl (by decide) rfl (fun ls hl => ?_)
                  refine lv_goto (tgt := 91) hx hb d_Model_line_205 (by decide) ?_
                  exact ih (l6_91 + 1) (l8_91 + ((v_rowValue (t_5 : Int32).toNatClampNeg : Int32).toInt64)) (l10_91 + ((v_rowValue (t_4 : Int32).toNatClampNeg : Int32).toInt64)) (l12_91 + (((v_rowValue (t_5 : Int32).toNatClampNeg : Int32).toInt64) * ((v_rowValue (t_4 : Int32).toNatClampNeg : Int32).toInt64))) (l14_91 + (((v_rowValue (t_5 : Int32).toNatClampNeg : Int32).toInt64) * ((v_rowValue (t_5 : Int32).toNatClampNeg : Int32).toInt64))) (l16_91 + 1) H locs ls hf hP hD hS (lv_sub hl [10, 11, 12, 13, 14, 5, 4, 3, 2, 1, 0] rfl)
                · replace hf := o_neg c_9 hf
                  refine lv_goto (tgt := 202) hx hb d_Model_line_139 (by decide) ?_
                  refine lv_iinc (v := l16_91 + 1) (lv' := [(16, .int (l16_91 + 1)), (18, .int t_5), (17, .int t_4), (0, .ref h_this), (1, .int p1), (2, .int p2), (4, .int p4), (5, .int p5), (6, .long l6_91), (8, .long l8_91), (10, .long l10_91), (12, .long l12_91), (14, .long l14_91)]) hx hb d_Model_line_202 hl (k := 12) rfl rfl (by decide) rfl (fun ls hl => ?_)
                  refine lv_goto (tgt := 91) hx hb d_Model_line_205 (by decide) ?_
                  exact ih l6_91 l8_91 l10_91 l12_91 l14_91 (l16_91 + 1) H locs ls hf hP hD hS (lv_sub hl [3, 4, 5, 6, 7, 8, 9, 10, 11, 12, 0] rfl)
      refine lp_91 _ (fun l6_91e l8_91e l10_91e l12_91e l14_91e H locs ls hf hP hD hS hl => ?_) fu 0 0 0 0 0 p3 H locs ls hf hP hD hS (lv_sub hl [6, 7, 8, 10, 11, 5, 4, 3, 2, 1, 0] rfl)
      refine lv_iload hx hb d_Model_line_208 (lv_at hl 0 rfl) ?_
      refine lv_iconst (v := 2) hx hb d_Model_line_210 (by decide) ?_
      refine lv_icmp_ne (tgt := 217) hx hb d_Model_line_211 (by decide) (fun c_12 => ?_) (fun c_12 => ?_)
      · replace hf := o_neg c_12 hf
        refine lv_lload hx hb d_Model_line_217 (lv_at hl 1 rfl) ?_
        refine lv_lload hx hb d_Model_line_219 (lv_at hl 4 rfl) ?_
        refine lv_lmul hx hb d_Model_line_221 ?_
        refine lv_lload hx hb d_Model_line_222 (lv_at hl 2 rfl) ?_
        refine lv_lload hx hb d_Model_line_224 (lv_at hl 3 rfl) ?_
        refine lv_lmul hx hb d_Model_line_226 ?_
        refine lv_lsub hx hb d_Model_line_227 ?_
        refine lv_lstore (lv' := [(16, .long ((l6_91e * l12_91e) - (l8_91e * l10_91e))), (5, .int p5), (6, .long l6_91e), (8, .long l8_91e), (10, .long l10_91e), (12, .long l12_91e), (14, .long l14_91e)]) hx hb d_Model_line_228 hl (by decide) rfl (fun ls hl => ?_)
        refine lv_lload hx hb d_Model_line_230 (lv_at hl 2 rfl) ?_
        refine lv_lload hx hb d_Model_line_232 (lv_at hl 6 rfl) ?_
        refine lv_lmul hx hb d_Model_line_234 ?_
        refine lv_lload hx hb d_Model_line_235 (lv_at hl 3 rfl) ?_
        refine lv_lload hx hb d_Model_line_237 (lv_at hl 3 rfl) ?_
        refine lv_lmul hx hb d_Model_line_239 ?_
        refine lv_lsub hx hb d_Model_line_240 ?_
        refine lv_lstore (lv' := [(18, .long ((l6_91e * l14_91e) - (l8_91e * l8_91e))), (16, .long ((l6_91e * l12_91e) - (l8_91e * l10_91e))), (5, .int p5), (6, .long l6_91e), (8, .long l8_91e), (10, .long l10_91e), (12, .long l12_91e), (14, .long l14_91e)]) hx hb d_Model_line_241 hl (by decide) rfl (fun ls hl => ?_)
        refine lv_lload hx hb d_Model_line_243 (lv_at hl 0 rfl) ?_
        refine lv_lconst (v := 0) hx hb d_Model_line_245 (by decide) ?_
        refine W.lcmp hx hb d_Model_line_246 ?_
        refine lv_if_ne (tgt := 252) hx hb d_Model_line_247 (by decide) (fun c_13 => ?_) (fun c_13 => ?_)
        · replace hf := o_neg c_13 hf
          refine lv_lload hx hb d_Model_line_252 (lv_at hl 1 rfl) ?_
          refine lv_lload hx hb d_Model_line_254 (lv_at hl 0 rfl) ?_
          obtain ⟨t_14, hg_14, hf⟩ := o_bind hf
          refine x_stat (w' := [(h_this, .inr (7, [.int s1_j61, .int v_rows, .ref h_rowPoint, .ref h_rowMinute, .ref h_rowValue, .ref h_text, .int v_size, .ref h_kinds, .ref h_values, .int v_words, .int v_at, .ref h_names, .ref h_testCounts, .ref h_minutes, .ref h_costs, .ref h_sorts, .ref h_firsts, .ref h_seconds, .ref h_relations, .ref h_numbers, .int v_ruleCount, .ref h_last, .ref h_before, .int v_ran, .ref h_heldCounts, .ref h_streaks, .int v_faults, .ref h_faultRule, .ref h_faultBegin, .ref h_faultEnd, .ref h_order, .ref h_left, .int v_leftCount, .ref h_brings])), (h_rowPoint, .inl (cI, 120, .inl v_rowPoint)), (h_rowMinute, .inl (cI, 120, .inl v_rowMinute)), (h_rowValue, .inl (cI, 120, .inl v_rowValue)), (h_left, .inl (cI, 100, .inl v_left))]) (As := [.long ((l6_91e * l12_91e) - (l8_91e * l10_91e)), .long ((l6_91e * l14_91e) - (l8_91e * l8_91e))]) (rest := []) hx hb hml hl.1 hown hT hK hN hP hD hS hA (c_Model_common l dC dI cI cL cC H.size fu ((l6_91e * l12_91e) - (l8_91e * l10_91e)) ((l6_91e * l14_91e) - (l8_91e * l8_91e)) t_14 hg_14) kM_Model_283 kT_Model_common kN_Model kC_Model_common hd_Model_common rfl ⟨Nat.le_of_ble_eq_true rfl, Nat.le_of_ble_eq_true rfl⟩ rfl rfl ⟨Nat.zero_le _, Nat.zero_le _⟩ rfl (Nat.le_of_ble_eq_true rfl) d_Model_line_256 [] rfl rfl [.inl 0, .inl 1, .inl 2, .inl 3, .inl 4] rfl rfl rfl (fun H locs hP hD hS => ?_)
          refine lv_lstore (lv' := [(20, .long t_14), (18, .long ((l6_91e * l14_91e) - (l8_91e * l8_91e))), (16, .long ((l6_91e * l12_91e) - (l8_91e * l10_91e))), (5, .int p5), (6, .long l6_91e), (8, .long l8_91e), (10, .long l10_91e), (12, .long l12_91e), (14, .long l14_91e)]) hx hb d_Model_line_259 hl (by decide) rfl (fun ls hl => ?_)
          refine lv_iload hx hb d_Model_line_261 (lv_at hl 3 rfl) ?_
          refine lv_if_ne (tgt := 274) hx hb d_Model_line_263 (by decide) (fun c_15 => ?_) (fun c_15 => ?_)
          · replace hf := o_neg c_15 hf
            refine lv_lload hx hb d_Model_line_274 (lv_at hl 1 rfl) ?_
            refine lv_lload hx hb d_Model_line_276 (lv_at hl 0 rfl) ?_
            obtain ⟨hz_16, hf⟩ := o_nzL hf
            refine lv_ldiv hx hb d_Model_line_278 hz_16 ?_
            rw [hQ, ← Option.some.inj hf]
            exact W.lret hx hb hr (fun t9 ht9 hW9 => ⟨rfl, by rw [ht9]; exact hP, hS.F ht9⟩) hS.2.2 d_Model_line_279
          · replace hf := o_pos c_15 hf
            refine lv_lload hx hb d_Model_line_266 (lv_at hl 2 rfl) ?_
            refine lv_lload hx hb d_Model_line_268 (lv_at hl 0 rfl) ?_
            obtain ⟨hz_17, hf⟩ := o_nzL hf
            refine lv_ldiv hx hb d_Model_line_270 hz_17 ?_
            refine lv_goto (tgt := 279) hx hb d_Model_line_271 (by decide) ?_
            rw [hQ, ← Option.some.inj hf]
            exact W.lret hx hb hr (fun t9 ht9 hW9 => ⟨rfl, by rw [ht9]; exact hP, hS.F ht9⟩) hS.2.2 d_Model_line_279
        · replace hf := o_pos c_13 hf
          refine lv_lconst (v := 0) hx hb d_Model_line_250 (by decide) ?_
          rw [hQ, ← Option.some.inj hf]
          exact W.lret hx hb hr (fun t9 ht9 hW9 => ⟨rfl, by rw [ht9]; exact hP, hS.F ht9⟩) hS.2.2 d_Model_line_251
      · replace hf := o_pos c_12 hf
        refine lv_lload hx hb d_Model_line_214 (lv_at hl 1 rfl) ?_
        rw [hQ, ← Option.some.inj hf]
        exact W.lret hx hb hr (fun t9 ht9 hW9 => ⟨rfl, by rw [ht9]; exact hP, hS.F ht9⟩) hS.2.2 d_Model_line_216
    · replace hf := o_neg c_2 hf
      refine lv_lconst (v := 0) hx hb d_Model_line_71 (by decide) ?_
      rw [hQ, ← Option.some.inj hf]
      exact W.lret hx hb hr (fun t9 ht9 hW9 => ⟨rfl, by rw [ht9]; exact hP, hS.F ht9⟩) hS.2.2 d_Model_line_72
  refine lv_if_eq (tgt := 56) hx hb d_Model_line_5 (by decide) (fun c_18 => ?_) (fun c_18 => ?_)
  · replace hf := o_pos c_18 hf
    refine lv_iconst (v := 1) hx hb d_Model_line_56 (by decide) ?_
    refine lv_goto (tgt := 61) hx hb d_Model_line_57 (by decide) ?_
    exact jn_61 1 H locs ls hf hP hD hS (lv_sub hl [0, 1, 2, 3, 4, 5] rfl)
  · replace hf := o_neg c_18 hf
    refine lv_iload_n hx hb d_Model_line_8 rfl (lv_at hl 2 rfl) ?_
    obtain ⟨t_19, hg_19, hf⟩ := o_bind hf
    refine x_stat (w' := [(h_this, .inr (7, [.int v_thrown, .int v_rows, .ref h_rowPoint, .ref h_rowMinute, .ref h_rowValue, .ref h_text, .int v_size, .ref h_kinds, .ref h_values, .int v_words, .int v_at, .ref h_names, .ref h_testCounts, .ref h_minutes, .ref h_costs, .ref h_sorts, .ref h_firsts, .ref h_seconds, .ref h_relations, .ref h_numbers, .int v_ruleCount, .ref h_last, .ref h_before, .int v_ran, .ref h_heldCounts, .ref h_streaks, .int v_faults, .ref h_faultRule, .ref h_faultBegin, .ref h_faultEnd, .ref h_order, .ref h_left, .int v_leftCount, .ref h_brings])), (h_rowPoint, .inl (cI, 120, .inl v_rowPoint)), (h_rowMinute, .inl (cI, 120, .inl v_rowMinute)), (h_rowValue, .inl (cI, 120, .inl v_rowValue)), (h_left, .inl (cI, 100, .inl v_left))]) (As := [.int p2]) (rest := [.ref h_this]) hx hb hml hl.1 hown hT hK hN hP hD hS hA (c_Model_isPoint l dC dI cI cL cC H.size p2 t_19 hg_19) kM_Model_101 kT_Model_isPoint kN_Model kC_Model_isPoint hd_Model_isPoint rfl ⟨Nat.le_of_ble_eq_true rfl, Nat.le_of_ble_eq_true rfl⟩ rfl rfl ⟨Nat.zero_le _, Nat.zero_le _⟩ rfl (Nat.le_of_ble_eq_true rfl) d_Model_line_9 [] rfl rfl [.inl 0, .inl 1, .inl 2, .inl 3, .inl 4] rfl rfl rfl (fun H locs hP hD hS => ?_)
    refine lv_if_eq (tgt := 56) hx hb d_Model_line_12 (by decide) (fun c_20 => ?_) (fun c_20 => ?_)
    · replace hf := o_pos c_20 hf
      refine lv_iconst (v := 1) hx hb d_Model_line_56 (by decide) ?_
      refine lv_goto (tgt := 61) hx hb d_Model_line_57 (by decide) ?_
      exact jn_61 1 H locs ls hf hP hD hS (lv_sub hl [0, 1, 2, 3, 4, 5] rfl)
    · replace hf := o_neg c_20 hf
      refine lv_iload_n hx hb d_Model_line_15 rfl (lv_at hl 3 rfl) ?_
      obtain ⟨t_21, hg_21, hf⟩ := o_bind hf
      refine x_stat (w' := [(h_this, .inr (7, [.int v_thrown, .int v_rows, .ref h_rowPoint, .ref h_rowMinute, .ref h_rowValue, .ref h_text, .int v_size, .ref h_kinds, .ref h_values, .int v_words, .int v_at, .ref h_names, .ref h_testCounts, .ref h_minutes, .ref h_costs, .ref h_sorts, .ref h_firsts, .ref h_seconds, .ref h_relations, .ref h_numbers, .int v_ruleCount, .ref h_last, .ref h_before, .int v_ran, .ref h_heldCounts, .ref h_streaks, .int v_faults, .ref h_faultRule, .ref h_faultBegin, .ref h_faultEnd, .ref h_order, .ref h_left, .int v_leftCount, .ref h_brings])), (h_rowPoint, .inl (cI, 120, .inl v_rowPoint)), (h_rowMinute, .inl (cI, 120, .inl v_rowMinute)), (h_rowValue, .inl (cI, 120, .inl v_rowValue)), (h_left, .inl (cI, 100, .inl v_left))]) (As := [.int p3]) (rest := [.ref h_this]) hx hb hml hl.1 hown hT hK hN hP hD hS hA (c_Model_isMinute l dC dI cI cL cC H.size p3 t_21 hg_21) kM_Model_105 kT_Model_isMinute kN_Model kC_Model_isMinute hd_Model_isMinute rfl ⟨Nat.le_of_ble_eq_true rfl, Nat.le_of_ble_eq_true rfl⟩ rfl rfl ⟨Nat.zero_le _, Nat.zero_le _⟩ rfl (Nat.le_of_ble_eq_true rfl) d_Model_line_16 [] rfl rfl [.inl 0, .inl 1, .inl 2, .inl 3, .inl 4] rfl rfl rfl (fun H locs hP hD hS => ?_)
      refine lv_if_eq (tgt := 56) hx hb d_Model_line_19 (by decide) (fun c_22 => ?_) (fun c_22 => ?_)
      · replace hf := o_pos c_22 hf
        refine lv_iconst (v := 1) hx hb d_Model_line_56 (by decide) ?_
        refine lv_goto (tgt := 61) hx hb d_Model_line_57 (by decide) ?_
        exact jn_61 1 H locs ls hf hP hD hS (lv_sub hl [0, 1, 2, 3, 4, 5] rfl)
      · replace hf := o_neg c_22 hf
        refine lv_iload hx hb d_Model_line_22 (lv_at hl 4 rfl) ?_
        obtain ⟨t_23, hg_23, hf⟩ := o_bind hf
        refine x_stat (w' := [(h_this, .inr (7, [.int v_thrown, .int v_rows, .ref h_rowPoint, .ref h_rowMinute, .ref h_rowValue, .ref h_text, .int v_size, .ref h_kinds, .ref h_values, .int v_words, .int v_at, .ref h_names, .ref h_testCounts, .ref h_minutes, .ref h_costs, .ref h_sorts, .ref h_firsts, .ref h_seconds, .ref h_relations, .ref h_numbers, .int v_ruleCount, .ref h_last, .ref h_before, .int v_ran, .ref h_heldCounts, .ref h_streaks, .int v_faults, .ref h_faultRule, .ref h_faultBegin, .ref h_faultEnd, .ref h_order, .ref h_left, .int v_leftCount, .ref h_brings])), (h_rowPoint, .inl (cI, 120, .inl v_rowPoint)), (h_rowMinute, .inl (cI, 120, .inl v_rowMinute)), (h_rowValue, .inl (cI, 120, .inl v_rowValue)), (h_left, .inl (cI, 100, .inl v_left))]) (As := [.int p4]) (rest := [.ref h_this]) hx hb hml hl.1 hown hT hK hN hP hD hS hA (c_Model_isMinute l dC dI cI cL cC H.size p4 t_23 hg_23) kM_Model_105 kT_Model_isMinute kN_Model kC_Model_isMinute hd_Model_isMinute rfl ⟨Nat.le_of_ble_eq_true rfl, Nat.le_of_ble_eq_true rfl⟩ rfl rfl ⟨Nat.zero_le _, Nat.zero_le _⟩ rfl (Nat.le_of_ble_eq_true rfl) d_Model_line_24 [] rfl rfl [.inl 0, .inl 1, .inl 2, .inl 3, .inl 4] rfl rfl rfl (fun H locs hP hD hS => ?_)
        refine lv_if_eq (tgt := 56) hx hb d_Model_line_27 (by decide) (fun c_24 => ?_) (fun c_24 => ?_)
        · replace hf := o_pos c_24 hf
          refine lv_iconst (v := 1) hx hb d_Model_line_56 (by decide) ?_
          refine lv_goto (tgt := 61) hx hb d_Model_line_57 (by decide) ?_
          exact jn_61 1 H locs ls hf hP hD hS (lv_sub hl [0, 1, 2, 3, 4, 5] rfl)
        · replace hf := o_neg c_24 hf
          refine lv_iload hx hb d_Model_line_30 (lv_at hl 4 rfl) ?_
          refine lv_iload_n hx hb d_Model_line_32 rfl (lv_at hl 3 rfl) ?_
          refine lv_icmp_lt (tgt := 56) hx hb d_Model_line_33 (by decide) (fun c_25 => ?_) (fun c_25 => ?_)
          · replace hf := o_pos c_25 hf
            refine lv_iconst (v := 1) hx hb d_Model_line_56 (by decide) ?_
            refine lv_goto (tgt := 61) hx hb d_Model_line_57 (by decide) ?_
            exact jn_61 1 H locs ls hf hP hD hS (lv_sub hl [0, 1, 2, 3, 4, 5] rfl)
          · replace hf := o_neg c_25 hf
            refine lv_iload hx hb d_Model_line_36 (lv_at hl 4 rfl) ?_
            refine lv_iload_n hx hb d_Model_line_38 rfl (lv_at hl 3 rfl) ?_
            refine lv_isub hx hb d_Model_line_39 ?_
            refine lv_bipush (v := 59) hx hb d_Model_line_40 (by decide) ?_
            refine lv_icmp_gt (tgt := 56) hx hb d_Model_line_42 (by decide) (fun c_26 => ?_) (fun c_26 => ?_)
            · replace hf := o_pos c_26 hf
              refine lv_iconst (v := 1) hx hb d_Model_line_56 (by decide) ?_
              refine lv_goto (tgt := 61) hx hb d_Model_line_57 (by decide) ?_
              exact jn_61 1 H locs ls hf hP hD hS (lv_sub hl [0, 1, 2, 3, 4, 5] rfl)
            · replace hf := o_neg c_26 hf
              refine lv_iload hx hb d_Model_line_45 (lv_at hl 5 rfl) ?_
              refine lv_if_lt (tgt := 56) hx hb d_Model_line_47 (by decide) (fun c_27 => ?_) (fun c_27 => ?_)
              · replace hf := o_pos c_27 hf
                refine lv_iconst (v := 1) hx hb d_Model_line_56 (by decide) ?_
                refine lv_goto (tgt := 61) hx hb d_Model_line_57 (by decide) ?_
                exact jn_61 1 H locs ls hf hP hD hS (lv_sub hl [0, 1, 2, 3, 4, 5] rfl)
              · replace hf := o_neg c_27 hf
                refine lv_iload hx hb d_Model_line_50 (lv_at hl 5 rfl) ?_
                refine lv_iconst (v := 2) hx hb d_Model_line_52 (by decide) ?_
                refine lv_icmp_le (tgt := 60) hx hb d_Model_line_53 (by decide) (fun c_28 => ?_) (fun c_28 => ?_)
                · replace hf := o_pos c_28 hf
                  refine lv_iconst (v := 0) hx hb d_Model_line_60 (by decide) ?_
                  exact jn_61 0 H locs ls hf hP hD hS (lv_sub hl [0, 1, 2, 3, 4, 5] rfl)
                · replace hf := o_neg c_28 hf
                  refine lv_iconst (v := 1) hx hb d_Model_line_56 (by decide) ?_
                  refine lv_goto (tgt := 61) hx hb d_Model_line_57 (by decide) ?_
                  exact jn_61 1 H locs ls hf hP hD hS (lv_sub hl [0, 1, 2, 3, 4, 5] rfl)
def rm_Model_cause : Room := { frames := 0, cells := 0, slots := 0, locals := 0 }
set_option maxHeartbeats 4000000 in
set_option maxRecDepth 100000 in
theorem c_Model_cause (l : Launch) (dC : Nat → ClassId) (dI : Nat → Nat → Nat) (cI cL cC : ClassId) (h_this h_rowPoint h_rowMinute h_rowValue h_text h_kinds h_values h_names h_testCounts h_minutes h_costs h_sorts h_firsts h_seconds h_relations h_numbers h_last h_before h_heldCounts h_streaks h_faultRule h_faultBegin h_faultEnd h_order h_left h_brings : Nat) (sz : Nat) (v_thrown : Int32) (v_rows : Int32) (v_size : Int32) (v_words : Int32) (v_at : Int32) (v_ruleCount : Int32) (v_ran : Int32) (v_faults : Int32) (v_leftCount : Int32) (v_brings : Nat → Int32) (p1 : Int32) (p2 : Int32) (t : Int32 × Int32 × (Nat → Int32)) (hf : f_Model_cause v_thrown v_brings p1 p2 = some t) : Met l y_Model_cause (Cond.code y_Model_cause prog_9_method_49_code 4 (some .int) :: xT) rm_Model_cause (va_Pc [.ref h_this, .int p1, .int p2] (xP (dC, dI) (xTy cI cL cC) [(h_this, .inr (7, [.int v_thrown, .int v_rows, .ref h_rowPoint, .ref h_rowMinute, .ref h_rowValue, .ref h_text, .int v_size, .ref h_kinds, .ref h_values, .int v_words, .int v_at, .ref h_names, .ref h_testCounts, .ref h_minutes, .ref h_costs, .ref h_sorts, .ref h_firsts, .ref h_seconds, .ref h_relations, .ref h_numbers, .int v_ruleCount, .ref h_last, .ref h_before, .int v_ran, .ref h_heldCounts, .ref h_streaks, .int v_faults, .ref h_faultRule, .ref h_faultBegin, .ref h_faultEnd, .ref h_order, .ref h_left, .int v_leftCount, .ref h_brings])), (h_brings, .inl (cI, 10, .inl v_brings))] sz)) (xQ (dC, dI) [(h_this, .inr (7, [.int t.2.1, .int v_rows, .ref h_rowPoint, .ref h_rowMinute, .ref h_rowValue, .ref h_text, .int v_size, .ref h_kinds, .ref h_values, .int v_words, .int v_at, .ref h_names, .ref h_testCounts, .ref h_minutes, .ref h_costs, .ref h_sorts, .ref h_firsts, .ref h_seconds, .ref h_relations, .ref h_numbers, .int v_ruleCount, .ref h_last, .ref h_before, .int v_ran, .ref h_heldCounts, .ref h_streaks, .int v_faults, .ref h_faultRule, .ref h_faultBegin, .ref h_faultEnd, .ref h_order, .ref h_left, .int v_leftCount, .ref h_brings])), (h_brings, .inl (cI, 10, .inl t.2.2))] (va_A [(h_this, .inr (7, [.int v_thrown, .int v_rows, .ref h_rowPoint, .ref h_rowMinute, .ref h_rowValue, .ref h_text, .int v_size, .ref h_kinds, .ref h_values, .int v_words, .int v_at, .ref h_names, .ref h_testCounts, .ref h_minutes, .ref h_costs, .ref h_sorts, .ref h_firsts, .ref h_seconds, .ref h_relations, .ref h_numbers, .int v_ruleCount, .ref h_last, .ref h_before, .int v_ran, .ref h_heldCounts, .ref h_streaks, .int v_faults, .ref h_faultRule, .ref h_faultBegin, .ref h_faultEnd, .ref h_order, .ref h_left, .int v_leftCount, .ref h_brings])), (h_brings, .inl (cI, 10, .inl v_brings))] sz) (some (.int t.1))) 0 0 (va_A [(h_this, .inr (7, [.int v_thrown, .int v_rows, .ref h_rowPoint, .ref h_rowMinute, .ref h_rowValue, .ref h_text, .int v_size, .ref h_kinds, .ref h_values, .int v_words, .int v_at, .ref h_names, .ref h_testCounts, .ref h_minutes, .ref h_costs, .ref h_sorts, .ref h_firsts, .ref h_seconds, .ref h_relations, .ref h_numbers, .int v_ruleCount, .ref h_last, .ref h_before, .int v_ran, .ref h_heldCounts, .ref h_streaks, .int v_faults, .ref h_faultRule, .ref h_faultBegin, .ref h_faultEnd, .ref h_order, .ref h_left, .int v_leftCount, .ref h_brings])), (h_brings, .inl (cI, 10, .inl v_brings))] sz) := by
  refine Met.ofW (cc := prog_9_method_49_code) (maxL := 4) (ret := (some .int)) (by decide) rfl ?_
  intro p e s m args below meth c s₁ B hml hv
  obtain ⟨hargs, hsz, hP, hK, hN, hD0⟩ := hv
  have hx := B.exec
  have hb := B.bytes
  have hr := B.returns
  have hT : ∀ w ∈ xT, w.before args s = true := fun w hw => atoms_spec (ws := Cond.code y_Model_cause prog_9_method_49_code 4 (some .int) :: xT) B.pre w (List.mem_cons_of_mem _ hw)
  have hown : s.vm.findClass R_Model = some m.cls := findClass_of_methodNamed B.named
  have hlocks := B.notSynchronized
  subst hsz
  have hD := hD0.self (sz := s.heap.size)
  generalize hAe : va_A [(h_this, .inr (7, [.int v_thrown, .int v_rows, .ref h_rowPoint, .ref h_rowMinute, .ref h_rowValue, .ref h_text, .int v_size, .ref h_kinds, .ref h_values, .int v_words, .int v_at, .ref h_names, .ref h_testCounts, .ref h_minutes, .ref h_costs, .ref h_sorts, .ref h_firsts, .ref h_seconds, .ref h_relations, .ref h_numbers, .int v_ruleCount, .ref h_last, .ref h_before, .int v_ran, .ref h_heldCounts, .ref h_streaks, .int v_faults, .ref h_faultRule, .ref h_faultBegin, .ref h_faultEnd, .ref h_order, .ref h_left, .int v_leftCount, .ref h_brings])), (h_brings, .inl (cI, 10, .inl v_brings))] s.heap.size = A at hD ⊢
  have hA : ∀ q : Nat, s.heap.size ≤ q → A q := fun q h => by rw [← hAe]; exact Or.inr h
  have hS : va_S A s.heap s.heap [] := va_S.rf
  have hP : va_P (dC, dI) vwCl [(h_this, .inr (7, [.int v_thrown, .int v_rows, .ref h_rowPoint, .ref h_rowMinute, .ref h_rowValue, .ref h_text, .int v_size, .ref h_kinds, .ref h_values, .int v_words, .int v_at, .ref h_names, .ref h_testCounts, .ref h_minutes, .ref h_costs, .ref h_sorts, .ref h_firsts, .ref h_seconds, .ref h_relations, .ref h_numbers, .int v_ruleCount, .ref h_last, .ref h_before, .int v_ran, .ref h_heldCounts, .ref h_streaks, .int v_faults, .ref h_faultRule, .ref h_faultBegin, .ref h_faultEnd, .ref h_order, .ref h_left, .int v_leftCount, .ref h_brings])), (h_brings, .inl (cI, 10, .inl v_brings))] s.heap := hP
  have hl := lv_entry ([.ref h_this, .int p1, .int p2]) (n := 4) (Nat.le_of_ble_eq_true rfl)
  rw [show entryFrame m args 4 = entryFrame m ([.ref h_this, .int p1, .int p2] : List Value).toArray 4 from by rw [hargs], lg_entry_eq]
  generalize (lg_sl ([.ref h_this, .int p1, .int p2]) ++ List.replicate (4 - (lg_sl ([.ref h_this, .int p1, .int p2])).length) Slot.unset).toArray = ls at hl ⊢
  have hl : lv_has ls 4 [(0, .ref h_this), (1, .int p1), (2, .int p2)] := hl
  obtain ⟨Q, hQ⟩ : ∃ Q, Q = MQ below (xQ (dC, dI) [(h_this, .inr (7, [.int t.2.1, .int v_rows, .ref h_rowPoint, .ref h_rowMinute, .ref h_rowValue, .ref h_text, .int v_size, .ref h_kinds, .ref h_values, .int v_words, .int v_at, .ref h_names, .ref h_testCounts, .ref h_minutes, .ref h_costs, .ref h_sorts, .ref h_firsts, .ref h_seconds, .ref h_relations, .ref h_numbers, .int v_ruleCount, .ref h_last, .ref h_before, .int v_ran, .ref h_heldCounts, .ref h_streaks, .int v_faults, .ref h_faultRule, .ref h_faultBegin, .ref h_faultEnd, .ref h_order, .ref h_left, .int v_leftCount, .ref h_brings])), (h_brings, .inl (cI, 10, .inl t.2.2))] A (some (.int t.1))) args s 0 0 A := ⟨_, rfl⟩
  rw [← hQ]
  show W p l e rm_Model_cause s m args below meth c s.heap [] 0 0 Q _
  obtain ⟨H, hH⟩ : ∃ H, H = s.heap := ⟨_, rfl⟩
  obtain ⟨locs, hlocs⟩ : ∃ L : List Loc, L = [] := ⟨_, rfl⟩
  rw [← hlocs] at hS ⊢
  have hS : va_S A s.heap H locs := by rw [hH]; exact hS
  rw [← hH] at hP ⊢
  replace hf := f_Model_cause_u hf
  refine lv_aload_n hx hb d_Model_cause_0 rfl (lv_at hl 0 rfl) ?_
  refine lv_iload_n hx hb d_Model_cause_1 rfl (lv_at hl 1 rfl) ?_
  have jn_26 : ∀ (s1_j26 : Int32) (H : Heap) (locs : List Loc) (ls : Array Slot), J_Model_cause_26 v_thrown v_brings p1 p2 s1_j26 = some t → va_P (dC, dI) vwCl [(h_this, .inr (7, [.int v_thrown, .int v_rows, .ref h_rowPoint, .ref h_rowMinute, .ref h_rowValue, .ref h_text, .int v_size, .ref h_kinds, .ref h_values, .int v_words, .int v_at, .ref h_names, .ref h_testCounts, .ref h_minutes, .ref h_costs, .ref h_sorts, .ref h_firsts, .ref h_seconds, .ref h_relations, .ref h_numbers, .int v_ruleCount, .ref h_last, .ref h_before, .int v_ran, .ref h_heldCounts, .ref h_streaks, .int v_faults, .ref h_faultRule, .ref h_faultBegin, .ref h_faultEnd, .ref h_order, .ref h_left, .int v_leftCount, .ref h_brings])), (h_brings, .inl (cI, 10, .inl v_brings))] H → va_D A [(h_this, .inr (7, [.int v_thrown, .int v_rows, .ref h_rowPoint, .ref h_rowMinute, .ref h_rowValue, .ref h_text, .int v_size, .ref h_kinds, .ref h_values, .int v_words, .int v_at, .ref h_names, .ref h_testCounts, .ref h_minutes, .ref h_costs, .ref h_sorts, .ref h_firsts, .ref h_seconds, .ref h_relations, .ref h_numbers, .int v_ruleCount, .ref h_last, .ref h_before, .int v_ran, .ref h_heldCounts, .ref h_streaks, .int v_faults, .ref h_faultRule, .ref h_faultBegin, .ref h_faultEnd, .ref h_order, .ref h_left, .int v_leftCount, .ref h_brings])), (h_brings, .inl (cI, 10, .inl v_brings))] → va_S A s.heap H locs → lv_has ls 4 [(0, .ref h_this), (1, .int p1), (2, .int p2)] → W p l e rm_Model_cause s m args below meth c H locs 0 0 Q (F0 m 26 ls [.int s1_j26, .ref h_this]) := by
    intro s1_j26 H locs ls hf hP hD hS hl
    replace hf := J_Model_cause_26_u hf
    refine va_put (D := (dC, dI)) (ci := 7) (v := .int s1_j26) (ty := .int) (C := R_Model) (T := T_Model) (N := 34) hx hb hT i_Model ty_Model ty_Model_ok n_Model hown hK hP hD hS 0 rfl rfl 0 (by decide) (hT _ kF_Model_86) (fun _ h9 => h9) rfl (by decide +kernel) rfl rfl (Nat.le_of_ble_eq_true rfl) d_Model_cause_26 (fun H locs hP hD hS => ?_)
    have hP : va_P (dC, dI) vwCl [(h_this, .inr (7, [.int s1_j26, .int v_rows, .ref h_rowPoint, .ref h_rowMinute, .ref h_rowValue, .ref h_text, .int v_size, .ref h_kinds, .ref h_values, .int v_words, .int v_at, .ref h_names, .ref h_testCounts, .ref h_minutes, .ref h_costs, .ref h_sorts, .ref h_firsts, .ref h_seconds, .ref h_relations, .ref h_numbers, .int v_ruleCount, .ref h_last, .ref h_before, .int v_ran, .ref h_heldCounts, .ref h_streaks, .int v_faults, .ref h_faultRule, .ref h_faultBegin, .ref h_faultEnd, .ref h_order, .ref h_left, .int v_leftCount, .ref h_brings])), (h_brings, .inl (cI, 10, .inl v_brings))] H := hP
    have hD : va_D A [(h_this, .inr (7, [.int s1_j26, .int v_rows, .ref h_rowPoint, .ref h_rowMinute, .ref h_rowValue, .ref h_text, .int v_size, .ref h_kinds, .ref h_values, .int v_words, .int v_at, .ref h_names, .ref h_testCounts, .ref h_minutes, .ref h_costs, .ref h_sorts, .ref h_firsts, .ref h_seconds, .ref h_relations, .ref h_numbers, .int v_ruleCount, .ref h_last, .ref h_before, .int v_ran, .ref h_heldCounts, .ref h_streaks, .int v_faults, .ref h_faultRule, .ref h_faultBegin, .ref h_faultEnd, .ref h_order, .ref h_left, .int v_leftCount, .ref h_brings])), (h_brings, .inl (cI, 10, .inl v_brings))] := hD
    refine lv_aload_n hx hb d_Model_cause_29 rfl (lv_at hl 0 rfl) ?_
    refine va_get (D := (dC, dI)) (ci := 7) (v := .int s1_j26) (C := R_Model) (T := T_Model) (N := 34) hx hb hT i_Model hown hK hP 0 rfl rfl 0 (by decide) (hT _ kF_Model_86) (fun _ h9 => h9) rfl d_Model_cause_30 ?_
    refine lv_if_le (tgt := 38) hx hb d_Model_cause_33 (by decide) (fun c_1 => ?_) (fun c_1 => ?_)
    · replace hf := o_pos c_1 hf
      refine lv_aload_n hx hb d_Model_cause_38 rfl (lv_at hl 0 rfl) ?_
      refine va_get (D := (dC, dI)) (ci := 7) (v := .ref h_brings) (C := R_Model) (T := T_Model) (N := 34) hx hb hT i_Model hown hK hP 0 rfl rfl 33 (by decide) (hT _ kF_Model_83) (fun _ h9 => h9) rfl d_Model_cause_39 ?_
      refine lv_iload_n hx hb d_Model_cause_42 rfl (lv_at hl 1 rfl) ?_
      obtain ⟨hi_2, hf⟩ := o_in hf
      refine va_iald hx hb hK hP 1 0 rfl rfl hi_2 d_Model_cause_43 ?_
      refine lv_istore_n (lv' := [(3, .int (v_brings (p1 : Int32).toNatClampNeg)), (0, .ref h_this), (1, .int p1), (2, .int p2)]) hx hb d_Model_cause_44 rfl hl (by decide) rfl (fun ls hl => ?_)
      refine lv_aload_n hx hb d_Model_cause_45 rfl (lv_at hl 1 rfl) ?_
      refine va_get (D := (dC, dI)) (ci := 7) (v := .ref h_brings) (C := R_Model) (T := T_Model) (N := 34) hx hb hT i_Model hown hK hP 0 rfl rfl 33 (by decide) (hT _ kF_Model_83) (fun _ h9 => h9) rfl d_Model_cause_46 ?_
      refine lv_iload_n hx hb d_Model_cause_49 rfl (lv_at hl 2 rfl) ?_
      refine lv_iload_n hx hb d_Model_cause_50 rfl (lv_at hl 3 rfl) ?_
      obtain ⟨hi_3, hf⟩ := o_in hf
      refine va_iast hx hb hK hP hD hS 1 0 rfl rfl hi_3 d_Model_cause_51 (fun H locs hP hD hS => ?_)
      have hP : va_P (dC, dI) vwCl [(h_this, .inr (7, [.int s1_j26, .int v_rows, .ref h_rowPoint, .ref h_rowMinute, .ref h_rowValue, .ref h_text, .int v_size, .ref h_kinds, .ref h_values, .int v_words, .int v_at, .ref h_names, .ref h_testCounts, .ref h_minutes, .ref h_costs, .ref h_sorts, .ref h_firsts, .ref h_seconds, .ref h_relations, .ref h_numbers, .int v_ruleCount, .ref h_last, .ref h_before, .int v_ran, .ref h_heldCounts, .ref h_streaks, .int v_faults, .ref h_faultRule, .ref h_faultBegin, .ref h_faultEnd, .ref h_order, .ref h_left, .int v_leftCount, .ref h_brings])), (h_brings, .inl (cI, 10, .inl (upd v_brings (p1 : Int32).toNatClampNeg p2)))] H := hP
      have hD : va_D A [(h_this, .inr (7, [.int s1_j26, .int v_rows, .ref h_rowPoint, .ref h_rowMinute, .ref h_rowValue, .ref h_text, .int v_size, .ref h_kinds, .ref h_values, .int v_words, .int v_at, .ref h_names, .ref h_testCounts, .ref h_minutes, .ref h_costs, .ref h_sorts, .ref h_firsts, .ref h_seconds, .ref h_relations, .ref h_numbers, .int v_ruleCount, .ref h_last, .ref h_before, .int v_ran, .ref h_heldCounts, .ref h_streaks, .int v_faults, .ref h_faultRule, .ref h_faultBegin, .ref h_faultEnd, .ref h_order, .ref h_left, .int v_leftCount, .ref h_brings])), (h_brings, .inl (cI, 10, .inl (upd v_brings (p1 : Int32).toNatClampNeg p2)))] := hD
      refine lv_iload_n hx hb d_Model_cause_52 rfl (lv_at hl 0 rfl) ?_
      rw [hQ, ← Option.some.inj hf]
      exact W.iret hx hb hr (fun t9 ht9 hW9 => ⟨rfl, by rw [ht9]; exact hP, hS.F ht9⟩) hS.2.2 d_Model_cause_53
    · replace hf := o_neg c_1 hf
      refine lv_iconst (v := 0) hx hb d_Model_cause_36 (by decide) ?_
      rw [hQ, ← Option.some.inj hf]
      exact W.iret hx hb hr (fun t9 ht9 hW9 => ⟨rfl, by rw [ht9]; exact hP, hS.F ht9⟩) hS.2.2 d_Model_cause_37
  refine lv_if_lt (tgt := 21) hx hb d_Model_cause_2 (by decide) (fun c_4 => ?_) (fun c_4 => ?_)
  · replace hf := o_pos c_4 hf
    refine lv_iconst (v := 1) hx hb d_Model_cause_21 (by decide) ?_
    refine lv_goto (tgt := 26) hx hb d_Model_cause_22 (by decide) ?_
    exact jn_26 1 H locs ls hf hP hD hS (lv_sub hl [0, 1, 2] rfl)
  · replace hf := o_neg c_4 hf
    refine lv_iload_n hx hb d_Model_cause_5 rfl (lv_at hl 1 rfl) ?_
    refine lv_bipush (v := 9) hx hb d_Model_cause_6 (by decide) ?_
    refine lv_icmp_gt (tgt := 21) hx hb d_Model_cause_8 (by decide) (fun c_5 => ?_) (fun c_5 => ?_)
    · replace hf := o_pos c_5 hf
      refine lv_iconst (v := 1) hx hb d_Model_cause_21 (by decide) ?_
      refine lv_goto (tgt := 26) hx hb d_Model_cause_22 (by decide) ?_
      exact jn_26 1 H locs ls hf hP hD hS (lv_sub hl [0, 1, 2] rfl)
    · replace hf := o_neg c_5 hf
      refine lv_iload_n hx hb d_Model_cause_11 rfl (lv_at hl 2 rfl) ?_
      refine lv_if_lt (tgt := 21) hx hb d_Model_cause_12 (by decide) (fun c_6 => ?_) (fun c_6 => ?_)
      · replace hf := o_pos c_6 hf
        refine lv_iconst (v := 1) hx hb d_Model_cause_21 (by decide) ?_
        refine lv_goto (tgt := 26) hx hb d_Model_cause_22 (by decide) ?_
        exact jn_26 1 H locs ls hf hP hD hS (lv_sub hl [0, 1, 2] rfl)
      · replace hf := o_neg c_6 hf
        refine lv_iload_n hx hb d_Model_cause_15 rfl (lv_at hl 2 rfl) ?_
        refine lv_bipush (v := 63) hx hb d_Model_cause_16 (by decide) ?_
        refine lv_icmp_le (tgt := 25) hx hb d_Model_cause_18 (by decide) (fun c_7 => ?_) (fun c_7 => ?_)
        · replace hf := o_pos c_7 hf
          refine lv_iconst (v := 0) hx hb d_Model_cause_25 (by decide) ?_
          exact jn_26 0 H locs ls hf hP hD hS (lv_sub hl [0, 1, 2] rfl)
        · replace hf := o_neg c_7 hf
          refine lv_iconst (v := 1) hx hb d_Model_cause_21 (by decide) ?_
          refine lv_goto (tgt := 26) hx hb d_Model_cause_22 (by decide) ?_
          exact jn_26 1 H locs ls hf hP hD hS (lv_sub hl [0, 1, 2] rfl)
def rm_Model_causes : Room := { frames := 0, cells := 0, slots := 0, locals := 0 }
set_option maxHeartbeats 4000000 in
set_option maxRecDepth 100000 in
theorem c_Model_causes (l : Launch) (dC : Nat → ClassId) (dI : Nat → Nat → Nat) (cI cL cC : ClassId) (h_this h_rowPoint h_rowMinute h_rowValue h_text h_kinds h_values h_names h_testCounts h_minutes h_costs h_sorts h_firsts h_seconds h_relations h_numbers h_last h_before h_heldCounts h_streaks h_faultRule h_faultBegin h_faultEnd h_order h_left h_brings : Nat) (sz : Nat) (fu : Nat) (v_thrown : Int32) (v_rows : Int32) (v_size : Int32) (v_words : Int32) (v_at : Int32) (v_ruleCount : Int32) (v_ran : Int32) (v_faults : Int32) (v_leftCount : Int32) (v_faultRule : Nat → Int32) (v_brings : Nat → Int32) (t : Int32 × Int32) (hf : f_Model_causes fu v_thrown v_ran v_faults v_faultRule v_brings = some t) : Met l y_Model_causes (Cond.code y_Model_causes prog_9_method_50_code 8 (some .int) :: xT) rm_Model_causes (va_Pc [.ref h_this] (xP (dC, dI) (xTy cI cL cC) [(h_this, .inr (7, [.int v_thrown, .int v_rows, .ref h_rowPoint, .ref h_rowMinute, .ref h_rowValue, .ref h_text, .int v_size, .ref h_kinds, .ref h_values, .int v_words, .int v_at, .ref h_names, .ref h_testCounts, .ref h_minutes, .ref h_costs, .ref h_sorts, .ref h_firsts, .ref h_seconds, .ref h_relations, .ref h_numbers, .int v_ruleCount, .ref h_last, .ref h_before, .int v_ran, .ref h_heldCounts, .ref h_streaks, .int v_faults, .ref h_faultRule, .ref h_faultBegin, .ref h_faultEnd, .ref h_order, .ref h_left, .int v_leftCount, .ref h_brings])), (h_faultRule, .inl (cI, 6000, .inl v_faultRule)), (h_brings, .inl (cI, 10, .inl v_brings))] sz)) (xQ (dC, dI) [(h_this, .inr (7, [.int t.2, .int v_rows, .ref h_rowPoint, .ref h_rowMinute, .ref h_rowValue, .ref h_text, .int v_size, .ref h_kinds, .ref h_values, .int v_words, .int v_at, .ref h_names, .ref h_testCounts, .ref h_minutes, .ref h_costs, .ref h_sorts, .ref h_firsts, .ref h_seconds, .ref h_relations, .ref h_numbers, .int v_ruleCount, .ref h_last, .ref h_before, .int v_ran, .ref h_heldCounts, .ref h_streaks, .int v_faults, .ref h_faultRule, .ref h_faultBegin, .ref h_faultEnd, .ref h_order, .ref h_left, .int v_leftCount, .ref h_brings])), (h_faultRule, .inl (cI, 6000, .inl v_faultRule)), (h_brings, .inl (cI, 10, .inl v_brings))] (va_A [(h_this, .inr (7, [.int v_thrown, .int v_rows, .ref h_rowPoint, .ref h_rowMinute, .ref h_rowValue, .ref h_text, .int v_size, .ref h_kinds, .ref h_values, .int v_words, .int v_at, .ref h_names, .ref h_testCounts, .ref h_minutes, .ref h_costs, .ref h_sorts, .ref h_firsts, .ref h_seconds, .ref h_relations, .ref h_numbers, .int v_ruleCount, .ref h_last, .ref h_before, .int v_ran, .ref h_heldCounts, .ref h_streaks, .int v_faults, .ref h_faultRule, .ref h_faultBegin, .ref h_faultEnd, .ref h_order, .ref h_left, .int v_leftCount, .ref h_brings])), (h_faultRule, .inl (cI, 6000, .inl v_faultRule)), (h_brings, .inl (cI, 10, .inl v_brings))] sz) (some (.int t.1))) 0 0 (va_A [(h_this, .inr (7, [.int v_thrown, .int v_rows, .ref h_rowPoint, .ref h_rowMinute, .ref h_rowValue, .ref h_text, .int v_size, .ref h_kinds, .ref h_values, .int v_words, .int v_at, .ref h_names, .ref h_testCounts, .ref h_minutes, .ref h_costs, .ref h_sorts, .ref h_firsts, .ref h_seconds, .ref h_relations, .ref h_numbers, .int v_ruleCount, .ref h_last, .ref h_before, .int v_ran, .ref h_heldCounts, .ref h_streaks, .int v_faults, .ref h_faultRule, .ref h_faultBegin, .ref h_faultEnd, .ref h_order, .ref h_left, .int v_leftCount, .ref h_brings])), (h_faultRule, .inl (cI, 6000, .inl v_faultRule)), (h_brings, .inl (cI, 10, .inl v_brings))] sz) := by
  refine Met.ofW (cc := prog_9_method_50_code) (maxL := 8) (ret := (some .int)) (by decide) rfl ?_
  intro p e s m args below meth c s₁ B hml hv
  obtain ⟨hargs, hsz, hP, hK, hN, hD0⟩ := hv
  have hx := B.exec
  have hb := B.bytes
  have hr := B.returns
  have hT : ∀ w ∈ xT, w.before args s = true := fun w hw => atoms_spec (ws := Cond.code y_Model_causes prog_9_method_50_code 8 (some .int) :: xT) B.pre w (List.mem_cons_of_mem _ hw)
  have hown : s.vm.findClass R_Model = some m.cls := findClass_of_methodNamed B.named
  have hlocks := B.notSynchronized
  subst hsz
  have hD := hD0.self (sz := s.heap.size)
  generalize hAe : va_A [(h_this, .inr (7, [.int v_thrown, .int v_rows, .ref h_rowPoint, .ref h_rowMinute, .ref h_rowValue, .ref h_text, .int v_size, .ref h_kinds, .ref h_values, .int v_words, .int v_at, .ref h_names, .ref h_testCounts, .ref h_minutes, .ref h_costs, .ref h_sorts, .ref h_firsts, .ref h_seconds, .ref h_relations, .ref h_numbers, .int v_ruleCount, .ref h_last, .ref h_before, .int v_ran, .ref h_heldCounts, .ref h_streaks, .int v_faults, .ref h_faultRule, .ref h_faultBegin, .ref h_faultEnd, .ref h_order, .ref h_left, .int v_leftCount, .ref h_brings])), (h_faultRule, .inl (cI, 6000, .inl v_faultRule)), (h_brings, .inl (cI, 10, .inl v_brings))] s.heap.size = A at hD ⊢
  have hA : ∀ q : Nat, s.heap.size ≤ q → A q := fun q h => by rw [← hAe]; exact Or.inr h
  have hS : va_S A s.heap s.heap [] := va_S.rf
  have hP : va_P (dC, dI) vwCl [(h_this, .inr (7, [.int v_thrown, .int v_rows, .ref h_rowPoint, .ref h_rowMinute, .ref h_rowValue, .ref h_text, .int v_size, .ref h_kinds, .ref h_values, .int v_words, .int v_at, .ref h_names, .ref h_testCounts, .ref h_minutes, .ref h_costs, .ref h_sorts, .ref h_firsts, .ref h_seconds, .ref h_relations, .ref h_numbers, .int v_ruleCount, .ref h_last, .ref h_before, .int v_ran, .ref h_heldCounts, .ref h_streaks, .int v_faults, .ref h_faultRule, .ref h_faultBegin, .ref h_faultEnd, .ref h_order, .ref h_left, .int v_leftCount, .ref h_brings])), (h_faultRule, .inl (cI, 6000, .inl v_faultRule)), (h_brings, .inl (cI, 10, .inl v_brings))] s.heap := hP
  have hl := lv_entry ([.ref h_this]) (n := 8) (Nat.le_of_ble_eq_true rfl)
  rw [show entryFrame m args 8 = entryFrame m ([.ref h_this] : List Value).toArray 8 from by rw [hargs], lg_entry_eq]
  generalize (lg_sl ([.ref h_this]) ++ List.replicate (8 - (lg_sl ([.ref h_this])).length) Slot.unset).toArray = ls at hl ⊢
  have hl : lv_has ls 8 [(0, .ref h_this)] := hl
  obtain ⟨Q, hQ⟩ : ∃ Q, Q = MQ below (xQ (dC, dI) [(h_this, .inr (7, [.int t.2, .int v_rows, .ref h_rowPoint, .ref h_rowMinute, .ref h_rowValue, .ref h_text, .int v_size, .ref h_kinds, .ref h_values, .int v_words, .int v_at, .ref h_names, .ref h_testCounts, .ref h_minutes, .ref h_costs, .ref h_sorts, .ref h_firsts, .ref h_seconds, .ref h_relations, .ref h_numbers, .int v_ruleCount, .ref h_last, .ref h_before, .int v_ran, .ref h_heldCounts, .ref h_streaks, .int v_faults, .ref h_faultRule, .ref h_faultBegin, .ref h_faultEnd, .ref h_order, .ref h_left, .int v_leftCount, .ref h_brings])), (h_faultRule, .inl (cI, 6000, .inl v_faultRule)), (h_brings, .inl (cI, 10, .inl v_brings))] A (some (.int t.1))) args s 0 0 A := ⟨_, rfl⟩
  rw [← hQ]
  show W p l e rm_Model_causes s m args below meth c s.heap [] 0 0 Q _
  obtain ⟨H, hH⟩ : ∃ H, H = s.heap := ⟨_, rfl⟩
  obtain ⟨locs, hlocs⟩ : ∃ L : List Loc, L = [] := ⟨_, rfl⟩
  rw [← hlocs] at hS ⊢
  have hS : va_S A s.heap H locs := by rw [hH]; exact hS
  rw [← hH] at hP ⊢
  replace hf := f_Model_causes_u hf
  refine lv_aload_n hx hb d_Model_causes_0 rfl (lv_at hl 0 rfl) ?_
  refine lv_aload_n hx hb d_Model_causes_1 rfl (lv_at hl 0 rfl) ?_
  refine va_get (D := (dC, dI)) (ci := 7) (v := .int v_ran) (C := R_Model) (T := T_Model) (N := 34) hx hb hT i_Model hown hK hP 0 rfl rfl 23 (by decide) (hT _ kF_Model_236) (fun _ h9 => h9) rfl d_Model_causes_2 ?_
  have jn_13 : ∀ (s1_j13 : Int32) (H : Heap) (locs : List Loc) (ls : Array Slot), J_Model_causes_13 fu v_thrown v_faults v_faultRule v_brings s1_j13 = some t → va_P (dC, dI) vwCl [(h_this, .inr (7, [.int v_thrown, .int v_rows, .ref h_rowPoint, .ref h_rowMinute, .ref h_rowValue, .ref h_text, .int v_size, .ref h_kinds, .ref h_values, .int v_words, .int v_at, .ref h_names, .ref h_testCounts, .ref h_minutes, .ref h_costs, .ref h_sorts, .ref h_firsts, .ref h_seconds, .ref h_relations, .ref h_numbers, .int v_ruleCount, .ref h_last, .ref h_before, .int v_ran, .ref h_heldCounts, .ref h_streaks, .int v_faults, .ref h_faultRule, .ref h_faultBegin, .ref h_faultEnd, .ref h_order, .ref h_left, .int v_leftCount, .ref h_brings])), (h_faultRule, .inl (cI, 6000, .inl v_faultRule)), (h_brings, .inl (cI, 10, .inl v_brings))] H → va_D A [(h_this, .inr (7, [.int v_thrown, .int v_rows, .ref h_rowPoint, .ref h_rowMinute, .ref h_rowValue, .ref h_text, .int v_size, .ref h_kinds, .ref h_values, .int v_words, .int v_at, .ref h_names, .ref h_testCounts, .ref h_minutes, .ref h_costs, .ref h_sorts, .ref h_firsts, .ref h_seconds, .ref h_relations, .ref h_numbers, .int v_ruleCount, .ref h_last, .ref h_before, .int v_ran, .ref h_heldCounts, .ref h_streaks, .int v_faults, .ref h_faultRule, .ref h_faultBegin, .ref h_faultEnd, .ref h_order, .ref h_left, .int v_leftCount, .ref h_brings])), (h_faultRule, .inl (cI, 6000, .inl v_faultRule)), (h_brings, .inl (cI, 10, .inl v_brings))] → va_S A s.heap H locs → lv_has ls 8 [(0, .ref h_this)] → W p l e rm_Model_causes s m args below meth c H locs 0 0 Q (F0 m 13 ls [.int s1_j13, .ref h_this]) := by
    intro s1_j13 H locs ls hf hP hD hS hl
    replace hf := J_Model_causes_13_u hf
    refine va_put (D := (dC, dI)) (ci := 7) (v := .int s1_j13) (ty := .int) (C := R_Model) (T := T_Model) (N := 34) hx hb hT i_Model ty_Model ty_Model_ok n_Model hown hK hP hD hS 0 rfl rfl 0 (by decide) (hT _ kF_Model_86) (fun _ h9 => h9) rfl (by decide +kernel) rfl rfl (Nat.le_of_ble_eq_true rfl) d_Model_causes_13 (fun H locs hP hD hS => ?_)
    have hP : va_P (dC, dI) vwCl [(h_this, .inr (7, [.int s1_j13, .int v_rows, .ref h_rowPoint, .ref h_rowMinute, .ref h_rowValue, .ref h_text, .int v_size, .ref h_kinds, .ref h_values, .int v_words, .int v_at, .ref h_names, .ref h_testCounts, .ref h_minutes, .ref h_costs, .ref h_sorts, .ref h_firsts, .ref h_seconds, .ref h_relations, .ref h_numbers, .int v_ruleCount, .ref h_last, .ref h_before, .int v_ran, .ref h_heldCounts, .ref h_streaks, .int v_faults, .ref h_faultRule, .ref h_faultBegin, .ref h_faultEnd, .ref h_order, .ref h_left, .int v_leftCount, .ref h_brings])), (h_faultRule, .inl (cI, 6000, .inl v_faultRule)), (h_brings, .inl (cI, 10, .inl v_brings))] H := hP
    have hD : va_D A [(h_this, .inr (7, [.int s1_j13, .int v_rows, .ref h_rowPoint, .ref h_rowMinute, .ref h_rowValue, .ref h_text, .int v_size, .ref h_kinds, .ref h_values, .int v_words, .int v_at, .ref h_names, .ref h_testCounts, .ref h_minutes, .ref h_costs, .ref h_sorts, .ref h_firsts, .ref h_seconds, .ref h_relations, .ref h_numbers, .int v_ruleCount, .ref h_last, .ref h_before, .int v_ran, .ref h_heldCounts, .ref h_streaks, .int v_faults, .ref h_faultRule, .ref h_faultBegin, .ref h_faultEnd, .ref h_order, .ref h_left, .int v_leftCount, .ref h_brings])), (h_faultRule, .inl (cI, 6000, .inl v_faultRule)), (h_brings, .inl (cI, 10, .inl v_brings))] := hD
    refine lv_aload_n hx hb d_Model_causes_16 rfl (lv_at hl 0 rfl) ?_
    refine va_get (D := (dC, dI)) (ci := 7) (v := .int s1_j13) (C := R_Model) (T := T_Model) (N := 34) hx hb hT i_Model hown hK hP 0 rfl rfl 0 (by decide) (hT _ kF_Model_86) (fun _ h9 => h9) rfl d_Model_causes_17 ?_
    refine lv_if_le (tgt := 25) hx hb d_Model_causes_20 (by decide) (fun c_1 => ?_) (fun c_1 => ?_)
    · replace hf := o_pos c_1 hf
      refine lv_iconst (v := 0) hx hb d_Model_causes_25 (by decide) ?_
      refine lv_istore_n (lv' := [(1, .int 0), (0, .ref h_this)]) hx hb d_Model_causes_26 rfl hl (by decide) rfl (fun ls hl => ?_)
      refine lv_iconst (v := 0) hx hb d_Model_causes_27 (by decide) ?_
      refine lv_istore_n (lv' := [(2, .int 0), (1, .int 0), (0, .ref h_this)]) hx hb d_Model_causes_28 rfl hl (by decide) rfl (fun ls hl => ?_)
      have lp_29 : ∀ (k_54 : Int32 → Option (Int32 × Int32)) (hk_54 : ∀ (l1_29e : Int32) (H : Heap) (locs : List Loc) (ls : Array Slot), k_54 l1_29e = some t → va_P (dC, dI) vwCl [(h_this, .inr (7, [.int s1_j13, .int v_rows, .ref h_rowPoint, .ref h_rowMinute, .ref h_rowValue, .ref h_text, .int v_size, .ref h_kinds, .ref h_values, .int v_words, .int v_at, .ref h_names, .ref h_testCounts, .ref h_minutes, .ref h_costs, .ref h_sorts, .ref h_firsts, .ref h_seconds, .ref h_relations, .ref h_numbers, .int v_ruleCount, .ref h_last, .ref h_before, .int v_ran, .ref h_heldCounts, .ref h_streaks, .int v_faults, .ref h_faultRule, .ref h_faultBegin, .ref h_faultEnd, .ref h_order, .ref h_left, .int v_leftCount, .ref h_brings])), (h_faultRule, .inl (cI, 6000, .inl v_faultRule)), (h_brings, .inl (cI, 10, .inl v_brings))] H → va_D A [(h_this, .inr (7, [.int s1_j13, .int v_rows, .ref h_rowPoint, .ref h_rowMinute, .ref h_rowValue, .ref h_text, .int v_size, .ref h_kinds, .ref h_values, .int v_words, .int v_at, .ref h_names, .ref h_testCounts, .ref h_minutes, .ref h_costs, .ref h_sorts, .ref h_firsts, .ref h_seconds, .ref h_relations, .ref h_numbers, .int v_ruleCount, .ref h_last, .ref h_before, .int v_ran, .ref h_heldCounts, .ref h_streaks, .int v_faults, .ref h_faultRule, .ref h_faultBegin, .ref h_faultEnd, .ref h_order, .ref h_left, .int v_leftCount, .ref h_brings])), (h_faultRule, .inl (cI, 6000, .inl v_faultRule)), (h_brings, .inl (cI, 10, .inl v_brings))] → va_S A s.heap H locs → lv_has ls 8 [(0, .ref h_this), (1, .int l1_29e)] → W p l e rm_Model_causes s m args below meth c H locs 0 0 Q (F0 m 54 ls [])), ∀ (n : Nat) (l1_29 : Int32) (l2_29 : Int32) (H : Heap) (locs : List Loc) (ls : Array Slot), L_Model_causes_29 fu v_faults v_faultRule k_54 n l1_29 l2_29 = some t → va_P (dC, dI) vwCl [(h_this, .inr (7, [.int s1_j13, .int v_rows, .ref h_rowPoint, .ref h_rowMinute, .ref h_rowValue, .ref h_text, .int v_size, .ref h_kinds, .ref h_values, .int v_words, .int v_at, .ref h_names, .ref h_testCounts, .ref h_minutes, .ref h_costs, .ref h_sorts, .ref h_firsts, .ref h_seconds, .ref h_relations, .ref h_numbers, .int v_ruleCount, .ref h_last, .ref h_before, .int v_ran, .ref h_heldCounts, .ref h_streaks, .int v_faults, .ref h_faultRule, .ref h_faultBegin, .ref h_faultEnd, .ref h_order, .ref h_left, .int v_leftCount, .ref h_brings])), (h_faultRule, .inl (cI, 6000, .inl v_faultRule)), (h_brings, .inl (cI, 10, .inl v_brings))] H → va_D A [(h_this, .inr (7, [.int s1_j13, .int v_rows, .ref h_rowPoint, .ref h_rowMinute, .ref h_rowValue, .ref h_text, .int v_size, .ref h_kinds, .ref h_values, .int v_words, .int v_at, .ref h_names, .ref h_testCounts, .ref h_minutes, .ref h_costs, .ref h_sorts, .ref h_firsts, .ref h_seconds, .ref h_relations, .ref h_numbers, .int v_ruleCount, .ref h_last, .ref h_before, .int v_ran, .ref h_heldCounts, .ref h_streaks, .int v_faults, .ref h_faultRule, .ref h_faultBegin, .ref h_faultEnd, .ref h_order, .ref h_left, .int v_leftCount, .ref h_brings])), (h_faultRule, .inl (cI, 6000, .inl v_faultRule)), (h_brings, .inl (cI, 10, .inl v_brings))] → va_S A s.heap H locs → lv_has ls 8 [(0, .ref h_this), (1, .int l1_29), (2, .int l2_29)] → W p l e rm_Model_causes s m args below meth c H locs 0 0 Q (F0 m 29 ls []) := by
        intro k_54 hk_54 n
        induction n with
        | zero => intro l1_29 l2_29 H locs ls hf; exact (L_Model_causes_29_z hf).elim
        | succ n ih =>
          intro l1_29 l2_29 H locs ls hf hP hD hS hl
          replace hf := L_Model_causes_29_u hf
          refine lv_iload_n hx hb d_Model_causes_29 rfl (lv_at hl 2 rfl) ?_
          refine lv_aload_n hx hb d_Model_causes_30 rfl (lv_at hl 0 rfl) ?_
          refine va_get (D := (dC, dI)) (ci := 7) (v := .int v_faults) (C := R_Model) (T := T_Model) (N := 34) hx hb hT i_Model hown hK hP 0 rfl rfl 26 (by decide) (hT _ kF_Model_260) (fun _ h9 => h9) rfl d_Model_causes_31 ?_
          refine lv_icmp_ge (tgt := 54) hx hb d_Model_causes_34 (by decide) (fun c_2 => ?_) (fun c_2 => ?_)
          · replace hf := o_pos c_2 hf
            exact hk_54 l1_29 H locs ls hf hP hD hS (lv_sub hl [0, 1] rfl)
          · replace hf := o_neg c_2 hf
            refine lv_iload_n hx hb d_Model_causes_37 rfl (lv_at hl 1 rfl) ?_
            refine lv_iconst (v := 1) hx hb d_Model_causes_38 (by decide) ?_
            refine lv_aload_n hx hb d_Model_causes_39 rfl (lv_at hl 0 rfl) ?_
            refine va_get (D := (dC, dI)) (ci := 7) (v := .ref h_faultRule) (C := R_Model) (T := T_Model) (N := 34) hx hb hT i_Model hown hK hP 0 rfl rfl 27 (by decide) (hT _ kF_Model_68) (fun _ h9 => h9) rfl d_Model_causes_40 ?_
            refine lv_iload_n hx hb d_Model_causes_43 rfl (lv_at hl 2 rfl) ?_
            obtain ⟨hi_3, hf⟩ := o_in hf
            refine va_iald hx hb hK hP 1 0 rfl rfl hi_3 d_Model_causes_44 ?_
            refine lv_ishl hx hb d_Model_causes_45 ?_
            refine lv_ior hx hb d_Model_causes_46 ?_
            refine lv_istore_n (lv' := [(1, .int (l1_29 ||| (1 <<< ((v_faultRule (l2_29 : Int32).toNatClampNeg) &&& 31)))), (0, .ref h_this), (2, .int l2_29)]) hx hb d_Model_causes_47 rfl hl (by decide) rfl (fun ls hl => ?_)
            refine lv_iinc (v := l2_29 + 1) (lv' := [(2, .int (l2_29 + 1)), (1, .int (l1_29 ||| (1 <<< ((v_faultRule (l2_29 : Int32).toNatClampNeg) &&& 31)))), (0, .ref h_this)]) hx hb d_Model_causes_48 hl (k := 2) rfl rfl (by decide) rfl (fun ls hl => ?_)
            refine lv_goto (tgt := 29) hx hb d_Model_causes_51 (by decide) ?_
            exact ih (l1_29 ||| (1 <<< ((v_faultRule (l2_29 : Int32).toNatClampNeg) &&& 31))) (l2_29 + 1) H locs ls hf hP hD hS (lv_sub hl [2, 1, 0] rfl)
      refine lp_29 _ (fun l1_29e H locs ls hf hP hD hS hl => ?_) fu 0 0 H locs ls hf hP hD hS (lv_sub hl [2, 1, 0] rfl)
      refine lv_iconst (v := (-1)) hx hb d_Model_causes_54 (by decide) ?_
      refine lv_istore_n (lv' := [(2, .int ((-1))), (0, .ref h_this), (1, .int l1_29e)]) hx hb d_Model_causes_55 rfl hl (by decide) rfl (fun ls hl => ?_)
      refine lv_bipush (v := 11) hx hb d_Model_causes_56 (by decide) ?_
      refine lv_istore_n (lv' := [(3, .int 11), (2, .int ((-1))), (0, .ref h_this), (1, .int l1_29e)]) hx hb d_Model_causes_58 rfl hl (by decide) rfl (fun ls hl => ?_)
      refine lv_iconst (v := 0) hx hb d_Model_causes_59 (by decide) ?_
      refine lv_istore (lv' := [(4, .int 0), (3, .int 11), (2, .int ((-1))), (0, .ref h_this), (1, .int l1_29e)]) hx hb d_Model_causes_60 hl (by decide) rfl (fun ls hl => ?_)
      have lp_62 : ∀ (n : Nat) (l2_62 : Int32) (l3_62 : Int32) (l4_62 : Int32) (H : Heap) (locs : List Loc) (ls : Array Slot), L_Model_causes_62 fu s1_j13 v_brings l1_29e n l2_62 l3_62 l4_62 = some t → va_P (dC, dI) vwCl [(h_this, .inr (7, [.int s1_j13, .int v_rows, .ref h_rowPoint, .ref h_rowMinute, .ref h_rowValue, .ref h_text, .int v_size, .ref h_kinds, .ref h_values, .int v_words, .int v_at, .ref h_names, .ref h_testCounts, .ref h_minutes, .ref h_costs, .ref h_sorts, .ref h_firsts, .ref h_seconds, .ref h_relations, .ref h_numbers, .int v_ruleCount, .ref h_last, .ref h_before, .int v_ran, .ref h_heldCounts, .ref h_streaks, .int v_faults, .ref h_faultRule, .ref h_faultBegin, .ref h_faultEnd, .ref h_order, .ref h_left, .int v_leftCount, .ref h_brings])), (h_faultRule, .inl (cI, 6000, .inl v_faultRule)), (h_brings, .inl (cI, 10, .inl v_brings))] H → va_D A [(h_this, .inr (7, [.int s1_j13, .int v_rows, .ref h_rowPoint, .ref h_rowMinute, .ref h_rowValue, .ref h_text, .int v_size, .ref h_kinds, .ref h_values, .int v_words, .int v_at, .ref h_names, .ref h_testCounts, .ref h_minutes, .ref h_costs, .ref h_sorts, .ref h_firsts, .ref h_seconds, .ref h_relations, .ref h_numbers, .int v_ruleCount, .ref h_last, .ref h_before, .int v_ran, .ref h_heldCounts, .ref h_streaks, .int v_faults, .ref h_faultRule, .ref h_faultBegin, .ref h_faultEnd, .ref h_order, .ref h_left, .int v_leftCount, .ref h_brings])), (h_faultRule, .inl (cI, 6000, .inl v_faultRule)), (h_brings, .inl (cI, 10, .inl v_brings))] → va_S A s.heap H locs → lv_has ls 8 [(0, .ref h_this), (1, .int l1_29e), (2, .int l2_62), (3, .int l3_62), (4, .int l4_62)] → W p l e rm_Model_causes s m args below meth c H locs 0 0 Q (F0 m 62 ls []) := by
        intro  n
        induction n with
        | zero => intro l2_62 l3_62 l4_62 H locs ls hf; exact (L_Model_causes_62_z hf).elim
        | succ n ih =>
          intro l2_62 l3_62 l4_62 H locs ls hf hP hD hS hl
          replace hf := L_Model_causes_62_u hf
          refine lv_iload hx hb d_Model_causes_62 (lv_at hl 4 rfl) ?_
          refine lv_sipush (v := 1024) hx hb d_Model_causes_64 (by decide) ?_
          refine lv_icmp_ge (tgt := 158) hx hb d_Model_causes_67 (by decide) (fun c_4 => ?_) (fun c_4 => ?_)
          · replace hf := o_pos c_4 hf
            refine lv_iload_n hx hb d_Model_causes_158 rfl (lv_at hl 2 rfl) ?_
            rw [hQ, ← Option.some.inj hf]
            exact W.iret hx hb hr (fun t9 ht9 hW9 => ⟨rfl, by rw [ht9]; exact hP, hS.F ht9⟩) hS.2.2 d_Model_causes_159
          · replace hf := o_neg c_4 hf
            refine lv_iconst (v := 0) hx hb d_Model_causes_70 (by decide) ?_
            refine lv_istore (lv' := [(5, .int 0), (0, .ref h_this), (1, .int l1_29e), (2, .int l2_62), (3, .int l3_62), (4, .int l4_62)]) hx hb d_Model_causes_71 hl (by decide) rfl (fun ls hl => ?_)
            refine lv_iconst (v := 0) hx hb d_Model_causes_73 (by decide) ?_
            refine lv_istore (lv' := [(6, .int 0), (5, .int 0), (0, .ref h_this), (1, .int l1_29e), (2, .int l2_62), (3, .int l3_62), (4, .int l4_62)]) hx hb d_Model_causes_74 hl (by decide) rfl (fun ls hl => ?_)
            refine lv_iconst (v := 0) hx hb d_Model_causes_76 (by decide) ?_
            refine lv_istore (lv' := [(7, .int 0), (6, .int 0), (5, .int 0), (0, .ref h_this), (1, .int l1_29e), (2, .int l2_62), (3, .int l3_62), (4, .int l4_62)]) hx hb d_Model_causes_77 hl (by decide) rfl (fun ls hl => ?_)
            have lp_79 : ∀ (k_131 : Int32 → Int32 → Option (Int32 × Int32)) (hk_131 : ∀ (l5_79e : Int32) (l6_79e : Int32) (H : Heap) (locs : List Loc) (ls : Array Slot), k_131 l5_79e l6_79e = some t → va_P (dC, dI) vwCl [(h_this, .inr (7, [.int s1_j13, .int v_rows, .ref h_rowPoint, .ref h_rowMinute, .ref h_rowValue, .ref h_text, .int v_size, .ref h_kinds, .ref h_values, .int v_words, .int v_at, .ref h_names, .ref h_testCounts, .ref h_minutes, .ref h_costs, .ref h_sorts, .ref h_firsts, .ref h_seconds, .ref h_relations, .ref h_numbers, .int v_ruleCount, .ref h_last, .ref h_before, .int v_ran, .ref h_heldCounts, .ref h_streaks, .int v_faults, .ref h_faultRule, .ref h_faultBegin, .ref h_faultEnd, .ref h_order, .ref h_left, .int v_leftCount, .ref h_brings])), (h_faultRule, .inl (cI, 6000, .inl v_faultRule)), (h_brings, .inl (cI, 10, .inl v_brings))] H → va_D A [(h_this, .inr (7, [.int s1_j13, .int v_rows, .ref h_rowPoint, .ref h_rowMinute, .ref h_rowValue, .ref h_text, .int v_size, .ref h_kinds, .ref h_values, .int v_words, .int v_at, .ref h_names, .ref h_testCounts, .ref h_minutes, .ref h_costs, .ref h_sorts, .ref h_firsts, .ref h_seconds, .ref h_relations, .ref h_numbers, .int v_ruleCount, .ref h_last, .ref h_before, .int v_ran, .ref h_heldCounts, .ref h_streaks, .int v_faults, .ref h_faultRule, .ref h_faultBegin, .ref h_faultEnd, .ref h_order, .ref h_left, .int v_leftCount, .ref h_brings])), (h_faultRule, .inl (cI, 6000, .inl v_faultRule)), (h_brings, .inl (cI, 10, .inl v_brings))] → va_S A s.heap H locs → lv_has ls 8 [(0, .ref h_this), (1, .int l1_29e), (2, .int l2_62), (3, .int l3_62), (4, .int l4_62), (5, .int l5_79e), (6, .int l6_79e)] → W p l e rm_Model_causes s m args below meth c H locs 0 0 Q (F0 m 131 ls [])), ∀ (n : Nat) (l5_79 : Int32) (l6_79 : Int32) (l7_79 : Int32) (H : Heap) (locs : List Loc) (ls : Array Slot), L_Model_causes_79 fu v_brings l1_29e l2_62 l3_62 l4_62 k_131 n l5_79 l6_79 l7_79 = some t → va_P (dC, dI) vwCl [(h_this, .inr (7, [.int s1_j13, .int v_rows, .ref h_rowPoint, .ref h_rowMinute, .ref h_rowValue, .ref h_text, .int v_size, .ref h_kinds, .ref h_values, .int v_words, .int v_at, .ref h_names, .ref h_testCounts, .ref h_minutes, .ref h_costs, .ref h_sorts, .ref h_firsts, .ref h_seconds, .ref h_relations, .ref h_numbers, .int v_ruleCount, .ref h_last, .ref h_before, .int v_ran, .ref h_heldCounts, .ref h_streaks, .int v_faults, .ref h_faultRule, .ref h_faultBegin, .ref h_faultEnd, .ref h_order, .ref h_left, .int v_leftCount, .ref h_brings])), (h_faultRule, .inl (cI, 6000, .inl v_faultRule)), (h_brings, .inl (cI, 10, .inl v_brings))] H → va_D A [(h_this, .inr (7, [.int s1_j13, .int v_rows, .ref h_rowPoint, .ref h_rowMinute, .ref h_rowValue, .ref h_text, .int v_size, .ref h_kinds, .ref h_values, .int v_words, .int v_at, .ref h_names, .ref h_testCounts, .ref h_minutes, .ref h_costs, .ref h_sorts, .ref h_firsts, .ref h_seconds, .ref h_relations, .ref h_numbers, .int v_ruleCount, .ref h_last, .ref h_before, .int v_ran, .ref h_heldCounts, .ref h_streaks, .int v_faults, .ref h_faultRule, .ref h_faultBegin, .ref h_faultEnd, .ref h_order, .ref h_left, .int v_leftCount, .ref h_brings])), (h_faultRule, .inl (cI, 6000, .inl v_faultRule)), (h_brings, .inl (cI, 10, .inl v_brings))] → va_S A s.heap H locs → lv_has ls 8 [(0, .ref h_this), (1, .int l1_29e), (2, .int l2_62), (3, .int l3_62), (4, .int l4_62), (5, .int l5_79), (6, .int l6_79), (7, .int l7_79)] → W p l e rm_Model_causes s m args below meth c H locs 0 0 Q (F0 m 79 ls []) := by
              intro k_131 hk_131 n
              induction n with
              | zero => intro l5_79 l6_79 l7_79 H locs ls hf; exact (L_Model_causes_79_z hf).elim
              | succ n ih =>
                intro l5_79 l6_79 l7_79 H locs ls hf hP hD hS hl
                replace hf := L_Model_causes_79_u hf
                refine lv_iload hx hb d_Model_causes_79 (lv_at hl 7 rfl) ?_
                refine lv_bipush (v := 10) hx hb d_Model_causes_81 (by decide) ?_
                refine lv_icmp_ge (tgt := 131) hx hb d_Model_causes_83 (by decide) (fun c_5 => ?_) (fun c_5 => ?_)
                · replace hf := o_pos c_5 hf
                  exact hk_131 l5_79 l6_79 H locs ls hf hP hD hS (lv_sub hl [0, 1, 2, 3, 4, 5, 6] rfl)
                · replace hf := o_neg c_5 hf
                  refine lv_iload hx hb d_Model_causes_86 (lv_at hl 5 rfl) ?_
                  refine lv_iload hx hb d_Model_causes_88 (lv_at hl 4 rfl) ?_
                  refine lv_iload hx hb d_Model_causes_90 (lv_at hl 7 rfl) ?_
                  refine lv_ishr hx hb d_Model_causes_92 ?_
                  refine lv_iconst (v := 1) hx hb d_Model_causes_93 (by decide) ?_
                  refine lv_iand hx hb d_Model_causes_94 ?_
                  refine lv_iconst (v := 1) hx hb d_Model_causes_95 (by decide) ?_
                  refine lv_icmp_ne (tgt := 109) hx hb d_Model_causes_96 (by decide) (fun c_6 => ?_) (fun c_6 => ?_)
                  · replace hf := o_neg c_6 hf
                    refine lv_iconst (v := 0) hx hb d_Model_causes_109 (by decide) ?_
                    refine lv_ior hx hb d_Model_causes_110 ?_
                    refine lv_istore (lv' := [(5, .int (l5_79 ||| 0)), (0, .ref h_this), (1, .int l1_29e), (2, .int l2_62), (3, .int l3_62), (4, .int l4_62), (6, .int l6_79), (7, .int l7_79)]) hx hb d_Model_causes_111 hl (by decide) rfl (fun ls hl => ?_)
                    refine lv_iload hx hb d_Model_causes_113 (lv_at hl 6 rfl) ?_
                    refine lv_iload hx hb d_Model_causes_115 (lv_at hl 5 rfl) ?_
                    refine lv_iload hx hb d_Model_causes_117 (lv_at hl 7 rfl) ?_
                    refine lv_ishr hx hb d_Model_causes_119 ?_
                    refine lv_iconst (v := 1) hx hb d_Model_causes_120 (by decide) ?_
                    refine lv_iand hx hb d_Model_causes_121 ?_
                    refine lv_iadd hx hb d_Model_causes_122 ?_
                    refine lv_istore (lv' := [(6, .int (l6_79 + ((l4_62 >>> (l7_79 &&& 31)) &&& 1))), (5, .int (l5_79 ||| 0)), (0, .ref h_this), (1, .int l1_29e), (2, .int l2_62), (3, .int l3_62), (4, .int l4_62), (7, .int l7_79)]) hx hb d_Model_causes_123 hl (by decide) rfl (fun ls hl => ?_)
                    refine lv_iinc (v := l7_79 + 1) (lv' := [(7, .int (l7_79 + 1)), (6, .int (l6_79 + ((l4_62 >>> (l7_79 &&& 31)) &&& 1))), (5, .int (l5_79 ||| 0)), (0, .ref h_this), (1, .int l1_29e), (2, .int l2_62), (3, .int l3_62), (4, .int l4_62)]) hx hb d_Model_causes_125 hl (k := 7) rfl rfl (by decide) rfl (fun ls hl => ?_)
                    refine lv_goto (tgt := 79) hx hb d_Model_causes_128 (by decide) ?_
                    exact ih (l5_79 ||| 0) (l6_79 + ((l4_62 >>> (l7_79 &&& 31)) &&& 1)) (l7_79 + 1) H locs ls hf hP hD hS (lv_sub hl [3, 4, 5, 6, 7, 2, 1, 0] rfl)
                  · replace hf := o_pos c_6 hf
                    refine lv_aload_n hx hb d_Model_causes_99 rfl (lv_at hl 0 rfl) ?_
                    refine va_get (D := (dC, dI)) (ci := 7) (v := .ref h_brings) (C := R_Model) (T := T_Model) (N := 34) hx hb hT i_Model hown hK hP 0 rfl rfl 33 (by decide) (hT _ kF_Model_83) (fun _ h9 => h9) rfl d_Model_causes_100 ?_
                    refine lv_iload hx hb d_Model_causes_103 (lv_at hl 7 rfl) ?_
                    obtain ⟨hi_7, hf⟩ := o_in hf
                    refine va_iald hx hb hK hP 2 0 rfl rfl hi_7 d_Model_causes_105 ?_
                    refine lv_goto (tgt := 110) hx hb d_Model_causes_106 (by decide) ?_
                    refine lv_ior hx hb d_Model_causes_110 ?_
                    refine lv_istore (lv' := [(5, .int (l5_79 ||| (v_brings (l7_79 : Int32).toNatClampNeg))), (0, .ref h_this), (1, .int l1_29e), (2, .int l2_62), (3, .int l3_62), (4, .int l4_62), (6, .int l6_79), (7, .int l7_79)]) hx hb d_Model_causes_111 hl (by decide) rfl (fun ls hl => ?_)
                    refine lv_iload hx hb d_Model_causes_113 (lv_at hl 6 rfl) ?_
                    refine lv_iload hx hb d_Model_causes_115 (lv_at hl 5 rfl) ?_
                    refine lv_iload hx hb d_Model_causes_117 (lv_at hl 7 rfl) ?_
                    refine lv_ishr hx hb d_Model_causes_119 ?_
                    refine lv_iconst (v := 1) hx hb d_Model_causes_120 (by decide) ?_
                    refine lv_iand hx hb d_Model_causes_121 ?_
                    refine lv_iadd hx hb d_Model_causes_122 ?_
                    refine lv_istore (lv' := [(6, .int (l6_79 + ((l4_62 >>> (l7_79 &&& 31)) &&& 1))), (5, .int (l5_79 ||| (v_brings (l7_79 : Int32).toNatClampNeg))), (0, .ref h_this), (1, .int l1_29e), (2, .int l2_62), (3, .int l3_62), (4, .int l4_62), (7, .int l7_79)]) hx hb d_Model_causes_123 hl (by decide) rfl (fun ls hl => ?_)
                    refine lv_iinc (v := l7_79 + 1) (lv' := [(7, .int (l7_79 + 1)), (6, .int (l6_79 + ((l4_62 >>> (l7_79 &&& 31)) &&& 1))), (5, .int (l5_79 ||| (v_brings (l7_79 : Int32).toNatClampNeg))), (0, .ref h_this), (1, .int l1_29e), (2, .int l2_62), (3, .int l3_62), (4, .int l4_62)]) hx hb d_Model_causes_125 hl (k := 7) rfl rfl (by decide) rfl (fun ls hl => ?_)
                    refine lv_goto (tgt := 79) hx hb d_Model_causes_128 (by decide) ?_
                    exact ih (l5_79 ||| (v_brings (l7_79 : Int32).toNatClampNeg)) (l6_79 + ((l4_62 >>> (l7_79 &&& 31)) &&& 1)) (l7_79 + 1) H locs ls hf hP hD hS (lv_sub hl [3, 4, 5, 6, 7, 2, 1, 0] rfl)
            refine lp_79 _ (fun l5_79e l6_79e H locs ls hf hP hD hS hl => ?_) fu 0 0 0 H locs ls hf hP hD hS (lv_sub hl [3, 4, 5, 6, 7, 2, 1, 0] rfl)
            refine lv_iload_n hx hb d_Model_causes_131 rfl (lv_at hl 1 rfl) ?_
            refine lv_iload hx hb d_Model_causes_132 (lv_at hl 5 rfl) ?_
            refine lv_iconst (v := (-1)) hx hb d_Model_causes_134 (by decide) ?_
            refine lv_ixor hx hb d_Model_causes_135 ?_
            refine lv_iand hx hb d_Model_causes_136 ?_
            refine lv_if_ne (tgt := 152) hx hb d_Model_causes_137 (by decide) (fun c_8 => ?_) (fun c_8 => ?_)
            · replace hf := o_neg c_8 hf
              refine lv_iinc (v := l4_62 + 1) (lv' := [(4, .int (l4_62 + 1)), (0, .ref h_this), (1, .int l1_29e), (2, .int l2_62), (3, .int l3_62), (5, .int l5_79e), (6, .int l6_79e)]) hx hb d_Model_causes_152 hl (k := 4) rfl rfl (by decide) rfl (fun ls hl => ?_)
              refine lv_goto (tgt := 62) hx hb d_Model_causes_155 (by decide) ?_
              exact ih l2_62 l3_62 (l4_62 + 1) H locs ls hf hP hD hS (lv_sub hl [1, 2, 3, 4, 0] rfl)
            · replace hf := o_pos c_8 hf
              refine lv_iload hx hb d_Model_causes_140 (lv_at hl 6 rfl) ?_
              refine lv_iload_n hx hb d_Model_causes_142 rfl (lv_at hl 3 rfl) ?_
              refine lv_icmp_ge (tgt := 152) hx hb d_Model_causes_143 (by decide) (fun c_9 => ?_) (fun c_9 => ?_)
              · replace hf := o_pos c_9 hf
                refine lv_iinc (v := l4_62 + 1) (lv' := [(4, .int (l4_62 + 1)), (0, .ref h_this), (1, .int l1_29e), (2, .int l2_62), (3, .int l3_62), (5, .int l5_79e), (6, .int l6_79e)]) hx hb d_Model_causes_152 hl (k := 4) rfl rfl (by decide) rfl (fun ls hl => ?_)
                refine lv_goto (tgt := 62) hx hb d_Model_causes_155 (by decide) ?_
                exact ih l2_62 l3_62 (l4_62 + 1) H locs ls hf hP hD hS (lv_sub hl [1, 2, 3, 4, 0] rfl)
              · replace hf := o_neg c_9 hf
                refine lv_iload hx hb d_Model_causes_146 (lv_at hl 4 rfl) ?_
                refine lv_istore_n (lv' := [(2, .int l4_62), (0, .ref h_this), (1, .int l1_29e), (3, .int l3_62), (4, .int l4_62), (5, .int l5_79e), (6, .int l6_79e)]) hx hb d_Model_causes_148 rfl hl (by decide) rfl (fun ls hl => ?_)
                refine lv_iload hx hb d_Model_causes_149 (lv_at hl 6 rfl) ?_
                refine lv_istore_n (lv' := [(3, .int l6_79e), (2, .int l4_62), (0, .ref h_this), (1, .int l1_29e), (4, .int l4_62), (5, .int l5_79e), (6, .int l6_79e)]) hx hb d_Model_causes_151 rfl hl (by decide) rfl (fun ls hl => ?_)
                refine lv_iinc (v := l4_62 + 1) (lv' := [(4, .int (l4_62 + 1)), (3, .int l6_79e), (2, .int l4_62), (0, .ref h_this), (1, .int l1_29e), (5, .int l5_79e), (6, .int l6_79e)]) hx hb d_Model_causes_152 hl (k := 4) rfl rfl (by decide) rfl (fun ls hl => ?_)
                refine lv_goto (tgt := 62) hx hb d_Model_causes_155 (by decide) ?_
                exact ih l4_62 l6_79e (l4_62 + 1) H locs ls hf hP hD hS (lv_sub hl [3, 4, 2, 1, 0] rfl)
      refine lp_62  fu ((-1)) 11 0 H locs ls hf hP hD hS (lv_sub hl [3, 4, 2, 1, 0] rfl)
    · replace hf := o_neg c_1 hf
      refine lv_iconst (v := 0) hx hb d_Model_causes_23 (by decide) ?_
      rw [hQ, ← Option.some.inj hf]
      exact W.iret hx hb hr (fun t9 ht9 hW9 => ⟨rfl, by rw [ht9]; exact hP, hS.F ht9⟩) hS.2.2 d_Model_causes_24
  refine lv_if_eq (tgt := 12) hx hb d_Model_causes_5 (by decide) (fun c_10 => ?_) (fun c_10 => ?_)
  · replace hf := o_pos c_10 hf
    refine lv_iconst (v := 1) hx hb d_Model_causes_12 (by decide) ?_
    exact jn_13 1 H locs ls hf hP hD hS (lv_sub hl [0] rfl)
  · replace hf := o_neg c_10 hf
    refine lv_iconst (v := 0) hx hb d_Model_causes_8 (by decide) ?_
    refine lv_goto (tgt := 13) hx hb d_Model_causes_9 (by decide) ?_
    exact jn_13 0 H locs ls hf hP hD hS (lv_sub hl [0] rfl)
