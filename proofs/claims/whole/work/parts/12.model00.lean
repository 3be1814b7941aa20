def f_Model_thrown (v_thrown : Int32) : Option (Int32) :=
  (some v_thrown)
theorem f_Model_thrown_u {v_thrown : Int32} {t : Int32} (h : f_Model_thrown v_thrown = some t) : (some v_thrown) = some t := h
def f_Model_isIn (p1 : Int64) (p2 : Int64) (p3 : Int64) : Option (Int32) :=
  (if (lg_cmp p1 p2) < 0 then (some 0) else (if 0 < (lg_cmp p1 p3) then (some 0) else (some 1)))
theorem f_Model_isIn_u {p1 : Int64} {p2 : Int64} {p3 : Int64} {t : Int32} (h : f_Model_isIn p1 p2 p3 = some t) : (if (lg_cmp p1 p2) < 0 then (some 0) else (if 0 < (lg_cmp p1 p3) then (some 0) else (some 1))) = some t := h
def f_Model_isMinute (p1 : Int32) : Option (Int32) :=
  ((f_Model_isIn ((p1 : Int32).toInt64) 0 100000).bind (fun t_1 => (zb t_1 (some t_1))))
theorem f_Model_isMinute_u {p1 : Int32} {t : Int32} (h : f_Model_isMinute p1 = some t) : ((f_Model_isIn ((p1 : Int32).toInt64) 0 100000).bind (fun t_1 => (zb t_1 (some t_1)))) = some t := h
def f_Model_isPoint (p1 : Int32) : Option (Int32) :=
  ((f_Model_isIn ((p1 : Int32).toInt64) 0 15).bind (fun t_1 => (zb t_1 (some t_1))))
theorem f_Model_isPoint_u {p1 : Int32} {t : Int32} (h : f_Model_isPoint p1 = some t) : ((f_Model_isIn ((p1 : Int32).toInt64) 0 15).bind (fun t_1 => (zb t_1 (some t_1)))) = some t := h
def L_Model_latest_5 (fu : Nat) (v_rows : Int32) (v_rowPoint : Nat → Int32) (v_rowMinute : Nat → Int32) (l1_5 : Int32) (l2_5 : Int32) : Nat → Int32 → Int32 → Option (Int32)
  | 0, _, _ => none
  | n + 1, l3_5, l4_5 => (if v_rows ≤ l4_5 then (some l3_5) else (bd l4_5 120 (if (v_rowPoint (l4_5 : Int32).toNatClampNeg) = l1_5 then (bd l4_5 120 (if l2_5 < (v_rowMinute (l4_5 : Int32).toNatClampNeg) then ((L_Model_latest_5 fu v_rows v_rowPoint v_rowMinute l1_5 l2_5 n) l3_5 (l4_5 + 1)) else ((L_Model_latest_5 fu v_rows v_rowPoint v_rowMinute l1_5 l2_5 n) l4_5 (l4_5 + 1)))) else ((L_Model_latest_5 fu v_rows v_rowPoint v_rowMinute l1_5 l2_5 n) l3_5 (l4_5 + 1)))))
theorem L_Model_latest_5_z {fu : Nat} {v_rows : Int32} {v_rowPoint : Nat → Int32} {v_rowMinute : Nat → Int32} {l1_5 : Int32} {l2_5 : Int32} {l3_5 : Int32} {l4_5 : Int32} {t : Int32} (h : L_Model_latest_5 fu v_rows v_rowPoint v_rowMinute l1_5 l2_5 0 l3_5 l4_5 = some t) : False := by cases (show (none : Option (Int32)) = some t from h)
theorem L_Model_latest_5_u {fu : Nat} {v_rows : Int32} {v_rowPoint : Nat → Int32} {v_rowMinute : Nat → Int32} {l1_5 : Int32} {l2_5 : Int32} {n : Nat} {l3_5 : Int32} {l4_5 : Int32} {t : Int32} (h : L_Model_latest_5 fu v_rows v_rowPoint v_rowMinute l1_5 l2_5 (n + 1) l3_5 l4_5 = some t) : (if v_rows ≤ l4_5 then (some l3_5) else (bd l4_5 120 (if (v_rowPoint (l4_5 : Int32).toNatClampNeg) = l1_5 then (bd l4_5 120 (if l2_5 < (v_rowMinute (l4_5 : Int32).toNatClampNeg) then ((L_Model_latest_5 fu v_rows v_rowPoint v_rowMinute l1_5 l2_5 n) l3_5 (l4_5 + 1)) else ((L_Model_latest_5 fu v_rows v_rowPoint v_rowMinute l1_5 l2_5 n) l4_5 (l4_5 + 1)))) else ((L_Model_latest_5 fu v_rows v_rowPoint v_rowMinute l1_5 l2_5 n) l3_5 (l4_5 + 1))))) = some t := h
def f_Model_latest (fu : Nat) (v_rows : Int32) (v_rowPoint : Nat → Int32) (v_rowMinute : Nat → Int32) (p1 : Int32) (p2 : Int32) : Option (Int32) :=
  (L_Model_latest_5 fu v_rows v_rowPoint v_rowMinute p1 p2 fu ((-1)) 0)
theorem f_Model_latest_u {fu : Nat} {v_rows : Int32} {v_rowPoint : Nat → Int32} {v_rowMinute : Nat → Int32} {p1 : Int32} {p2 : Int32} {t : Int32} (h : f_Model_latest fu v_rows v_rowPoint v_rowMinute p1 p2 = some t) : (L_Model_latest_5 fu v_rows v_rowPoint v_rowMinute p1 p2 fu ((-1)) 0) = some t := h
def L_Model_row_66 (fu : Nat) (v_rows : Int32) (v_rowPoint : Nat → Int32) (v_rowMinute : Nat → Int32) (l1_66 : Int32) (l2_66 : Int32) (l3_66 : Int32) (k_118 : Int32 → (Int32) → Option (Int32 × Int32 × Int32 × (Nat → Int32) × (Nat → Int32) × (Nat → Int32))) : Nat → Int32 → Int32 → Int32 → Option (Int32 × Int32 × Int32 × (Nat → Int32) × (Nat → Int32) × (Nat → Int32))
  | 0, _, _, _ => none
  | n + 1, l4_66, l5_66, v_thrown_66 => (if v_rows ≤ l5_66 then (k_118 l4_66 v_thrown_66) else (bd l5_66 120 (if (v_rowPoint (l5_66 : Int32).toNatClampNeg) = l1_66 then (bd l5_66 120 (if (v_rowMinute (l5_66 : Int32).toNatClampNeg) < l2_66 then ((L_Model_row_66 fu v_rows v_rowPoint v_rowMinute l1_66 l2_66 l3_66 k_118 n) (l4_66 + 1) (l5_66 + 1) v_thrown_66) else ((L_Model_row_66 fu v_rows v_rowPoint v_rowMinute l1_66 l2_66 l3_66 k_118 n) (l4_66 + 1) (l5_66 + 1) 2))) else ((L_Model_row_66 fu v_rows v_rowPoint v_rowMinute l1_66 l2_66 l3_66 k_118 n) l4_66 (l5_66 + 1) v_thrown_66))))
theorem L_Model_row_66_z {fu : Nat} {v_rows : Int32} {v_rowPoint : Nat → Int32} {v_rowMinute : Nat → Int32} {l1_66 : Int32} {l2_66 : Int32} {l3_66 : Int32} {k_118 : Int32 → (Int32) → Option (Int32 × Int32 × Int32 × (Nat → Int32) × (Nat → Int32) × (Nat → Int32))} {l4_66 : Int32} {l5_66 : Int32} {v_thrown_66 : Int32} {t : Int32 × Int32 × Int32 × (Nat → Int32) × (Nat → Int32) × (Nat → Int32)} (h : L_Model_row_66 fu v_rows v_rowPoint v_rowMinute l1_66 l2_66 l3_66 k_118 0 l4_66 l5_66 v_thrown_66 = some t) : False := by cases (show (none : Option (Int32 × Int32 × Int32 × (Nat → Int32) × (Nat → Int32) × (Nat → Int32))) = some t from h)
theorem L_Model_row_66_u {fu : Nat} {v_rows : Int32} {v_rowPoint : Nat → Int32} {v_rowMinute : Nat → Int32} {l1_66 : Int32} {l2_66 : Int32} {l3_66 : Int32} {k_118 : Int32 → (Int32) → Option (Int32 × Int32 × Int32 × (Nat → Int32) × (Nat → Int32) × (Nat → Int32))} {n : Nat} {l4_66 : Int32} {l5_66 : Int32} {v_thrown_66 : Int32} {t : Int32 × Int32 × Int32 × (Nat → Int32) × (Nat → Int32) × (Nat → Int32)} (h : L_Model_row_66 fu v_rows v_rowPoint v_rowMinute l1_66 l2_66 l3_66 k_118 (n + 1) l4_66 l5_66 v_thrown_66 = some t) : (if v_rows ≤ l5_66 then (k_118 l4_66 v_thrown_66) else (bd l5_66 120 (if (v_rowPoint (l5_66 : Int32).toNatClampNeg) = l1_66 then (bd l5_66 120 (if (v_rowMinute (l5_66 : Int32).toNatClampNeg) < l2_66 then ((L_Model_row_66 fu v_rows v_rowPoint v_rowMinute l1_66 l2_66 l3_66 k_118 n) (l4_66 + 1) (l5_66 + 1) v_thrown_66) else ((L_Model_row_66 fu v_rows v_rowPoint v_rowMinute l1_66 l2_66 l3_66 k_118 n) (l4_66 + 1) (l5_66 + 1) 2))) else ((L_Model_row_66 fu v_rows v_rowPoint v_rowMinute l1_66 l2_66 l3_66 k_118 n) l4_66 (l5_66 + 1) v_thrown_66)))) = some t := h
def J_Model_row_47 (fu : Nat) (v_thrown : Int32) (v_rows : Int32) (v_rowPoint : Nat → Int32) (v_rowMinute : Nat → Int32) (v_rowValue : Nat → Int32) (l1_j47 : Int32) (l2_j47 : Int32) (l3_j47 : Int32) (s1_j47 : Int32) : Option (Int32 × Int32 × Int32 × (Nat → Int32) × (Nat → Int32) × (Nat → Int32)) :=
  (if s1_j47 = 1 then (some (0, s1_j47, v_rows, v_rowPoint, v_rowMinute, v_rowValue)) else (L_Model_row_66 fu v_rows v_rowPoint v_rowMinute l1_j47 l2_j47 l3_j47 (fun (l4_66x8 : Int32) (v_thrown_66x9 : Int32) => (if v_thrown_66x9 ≤ 0 then (bd v_rows 120 (bd v_rows 120 (bd v_rows 120 (some (l4_66x8, v_thrown_66x9, v_rows + 1, upd v_rowPoint (v_rows : Int32).toNatClampNeg l1_j47, upd v_rowMinute (v_rows : Int32).toNatClampNeg l2_j47, upd v_rowValue (v_rows : Int32).toNatClampNeg l3_j47))))) else (some (0, v_thrown_66x9, v_rows, v_rowPoint, v_rowMinute, v_rowValue)))) fu 1 0 s1_j47))
theorem J_Model_row_47_u {fu : Nat} {v_thrown : Int32} {v_rows : Int32} {v_rowPoint : Nat → Int32} {v_rowMinute : Nat → Int32} {v_rowValue : Nat → Int32} {l1_j47 : Int32} {l2_j47 : Int32} {l3_j47 : Int32} {s1_j47 : Int32} {t : Int32 × Int32 × Int32 × (Nat → Int32) × (Nat → Int32) × (Nat → Int32)} (h : J_Model_row_47 fu v_thrown v_rows v_rowPoint v_rowMinute v_rowValue l1_j47 l2_j47 l3_j47 s1_j47 = some t) : (if s1_j47 = 1 then (some (0, s1_j47, v_rows, v_rowPoint, v_rowMinute, v_rowValue)) else (L_Model_row_66 fu v_rows v_rowPoint v_rowMinute l1_j47 l2_j47 l3_j47 (fun (l4_66x8 : Int32) (v_thrown_66x9 : Int32) => (if v_thrown_66x9 ≤ 0 then (bd v_rows 120 (bd v_rows 120 (bd v_rows 120 (some (l4_66x8, v_thrown_66x9, v_rows + 1, upd v_rowPoint (v_rows : Int32).toNatClampNeg l1_j47, upd v_rowMinute (v_rows : Int32).toNatClampNeg l2_j47, upd v_rowValue (v_rows : Int32).toNatClampNeg l3_j47))))) else (some (0, v_thrown_66x9, v_rows, v_rowPoint, v_rowMinute, v_rowValue)))) fu 1 0 s1_j47)) = some t := h
def f_Model_row (fu : Nat) (v_thrown : Int32) (v_rows : Int32) (v_rowPoint : Nat → Int32) (v_rowMinute : Nat → Int32) (v_rowValue : Nat → Int32) (p1 : Int32) (p2 : Int32) (p3 : Int32) : Option (Int32 × Int32 × Int32 × (Nat → Int32) × (Nat → Int32) × (Nat → Int32)) :=
  ((f_Model_isPoint p1).bind (fun t_1 => (if t_1 = 0 then (J_Model_row_47 fu v_thrown v_rows v_rowPoint v_rowMinute v_rowValue p1 p2 p3 1) else ((f_Model_isMinute p2).bind (fun t_15 => (if t_15 = 0 then (J_Model_row_47 fu v_thrown v_rows v_rowPoint v_rowMinute v_rowValue p1 p2 p3 1) else ((f_Model_isIn ((p3 : Int32).toInt64) ((-1000000)) 1000000).bind (fun t_17 => (if t_17 = 0 then (J_Model_row_47 fu v_thrown v_rows v_rowPoint v_rowMinute v_rowValue p1 p2 p3 1) else (if v_rows = 120 then (J_Model_row_47 fu v_thrown v_rows v_rowPoint v_rowMinute v_rowValue p1 p2 p3 2) else (J_Model_row_47 fu v_thrown v_rows v_rowPoint v_rowMinute v_rowValue p1 p2 p3 0)))))))))))
theorem f_Model_row_u {fu : Nat} {v_thrown : Int32} {v_rows : Int32} {v_rowPoint : Nat → Int32} {v_rowMinute : Nat → Int32} {v_rowValue : Nat → Int32} {p1 : Int32} {p2 : Int32} {p3 : Int32} {t : Int32 × Int32 × Int32 × (Nat → Int32) × (Nat → Int32) × (Nat → Int32)} (h : f_Model_row fu v_thrown v_rows v_rowPoint v_rowMinute v_rowValue p1 p2 p3 = some t) : ((f_Model_isPoint p1).bind (fun t_1 => (if t_1 = 0 then (J_Model_row_47 fu v_thrown v_rows v_rowPoint v_rowMinute v_rowValue p1 p2 p3 1) else ((f_Model_isMinute p2).bind (fun t_15 => (if t_15 = 0 then (J_Model_row_47 fu v_thrown v_rows v_rowPoint v_rowMinute v_rowValue p1 p2 p3 1) else ((f_Model_isIn ((p3 : Int32).toInt64) ((-1000000)) 1000000).bind (fun t_17 => (if t_17 = 0 then (J_Model_row_47 fu v_thrown v_rows v_rowPoint v_rowMinute v_rowValue p1 p2 p3 1) else (if v_rows = 120 then (J_Model_row_47 fu v_thrown v_rows v_rowPoint v_rowMinute v_rowValue p1 p2 p3 2) else (J_Model_row_47 fu v_thrown v_rows v_rowPoint v_rowMinute v_rowValue p1 p2 p3 0))))))))))) = some t := h
def J_Model_value_29 (fu : Nat) (v_thrown : Int32) (v_rows : Int32) (v_rowPoint : Nat → Int32) (v_rowMinute : Nat → Int32) (v_rowValue : Nat → Int32) (l1_j29 : Int32) (l2_j29 : Int32) (s1_j29 : Int32) : Option (Int32 × Int32) :=
  (if s1_j29 ≤ 0 then ((f_Model_latest fu v_rows v_rowPoint v_rowMinute l1_j29 l2_j29).bind (fun t_3 => (bd t_3 120 (some (v_rowValue (t_3 : Int32).toNatClampNeg, s1_j29))))) else (some (0, s1_j29)))
theorem J_Model_value_29_u {fu : Nat} {v_thrown : Int32} {v_rows : Int32} {v_rowPoint : Nat → Int32} {v_rowMinute : Nat → Int32} {v_rowValue : Nat → Int32} {l1_j29 : Int32} {l2_j29 : Int32} {s1_j29 : Int32} {t : Int32 × Int32} (h : J_Model_value_29 fu v_thrown v_rows v_rowPoint v_rowMinute v_rowValue l1_j29 l2_j29 s1_j29 = some t) : (if s1_j29 ≤ 0 then ((f_Model_latest fu v_rows v_rowPoint v_rowMinute l1_j29 l2_j29).bind (fun t_3 => (bd t_3 120 (some (v_rowValue (t_3 : Int32).toNatClampNeg, s1_j29))))) else (some (0, s1_j29))) = some t := h
def f_Model_value (fu : Nat) (v_thrown : Int32) (v_rows : Int32) (v_rowPoint : Nat → Int32) (v_rowMinute : Nat → Int32) (v_rowValue : Nat → Int32) (p1 : Int32) (p2 : Int32) : Option (Int32 × Int32) :=
  ((f_Model_isPoint p1).bind (fun t_1 => (if t_1 = 0 then (J_Model_value_29 fu v_thrown v_rows v_rowPoint v_rowMinute v_rowValue p1 p2 1) else ((f_Model_isMinute p2).bind (fun t_6 => (if t_6 = 0 then (J_Model_value_29 fu v_thrown v_rows v_rowPoint v_rowMinute v_rowValue p1 p2 1) else ((f_Model_latest fu v_rows v_rowPoint v_rowMinute p1 p2).bind (fun t_8 => (if 0 ≤ t_8 then (J_Model_value_29 fu v_thrown v_rows v_rowPoint v_rowMinute v_rowValue p1 p2 0) else (J_Model_value_29 fu v_thrown v_rows v_rowPoint v_rowMinute v_rowValue p1 p2 1))))))))))
theorem f_Model_value_u {fu : Nat} {v_thrown : Int32} {v_rows : Int32} {v_rowPoint : Nat → Int32} {v_rowMinute : Nat → Int32} {v_rowValue : Nat → Int32} {p1 : Int32} {p2 : Int32} {t : Int32 × Int32} (h : f_Model_value fu v_thrown v_rows v_rowPoint v_rowMinute v_rowValue p1 p2 = some t) : ((f_Model_isPoint p1).bind (fun t_1 => (if t_1 = 0 then (J_Model_value_29 fu v_thrown v_rows v_rowPoint v_rowMinute v_rowValue p1 p2 1) else ((f_Model_isMinute p2).bind (fun t_6 => (if t_6 = 0 then (J_Model_value_29 fu v_thrown v_rows v_rowPoint v_rowMinute v_rowValue p1 p2 1) else ((f_Model_latest fu v_rows v_rowPoint v_rowMinute p1 p2).bind (fun t_8 => (if 0 ≤ t_8 then (J_Model_value_29 fu v_thrown v_rows v_rowPoint v_rowMinute v_rowValue p1 p2 0) else (J_Model_value_29 fu v_thrown v_rows v_rowPoint v_rowMinute v_rowValue p1 p2 1)))))))))) = some t := h
def L_Model_say_11 (fu : Nat) (l1_11 : Int64) (k_78 : Int32 → (Int32) → Option (Int32 × Int32 × Int32 × (Nat → Int32))) : Nat → Int32 → Int32 → Int32 → Option (Int32 × Int32 × Int32 × (Nat → Int32))
  | 0, _, _, _ => none
  | n + 1, l3_11, l4_11, v_thrown_11 => (if l4_11 < 0 then (k_78 l3_11 v_thrown_11) else (if (((l1_11 >>> ((l4_11 : Int32).toInt64 &&& 63)) &&& 255 : Int64).toInt32) = 0 then (if (((l1_11 >>> ((l4_11 : Int32).toInt64 &&& 63)) &&& 255 : Int64).toInt32) = 0 then ((L_Model_say_11 fu l1_11 k_78 n) (l3_11 + 0) (l4_11 + (-8)) v_thrown_11) else ((L_Model_say_11 fu l1_11 k_78 n) (l3_11 + 1) (l4_11 + (-8)) v_thrown_11)) else ((f_Model_isIn ((((l1_11 >>> ((l4_11 : Int32).toInt64 &&& 63)) &&& 255 : Int64).toInt32 : Int32).toInt64) 32 126).bind (fun t_4 => (if t_4 = 0 then (if (((l1_11 >>> ((l4_11 : Int32).toInt64 &&& 63)) &&& 255 : Int64).toInt32) = 0 then ((L_Model_say_11 fu l1_11 k_78 n) (l3_11 + 0) (l4_11 + (-8)) 1) else ((L_Model_say_11 fu l1_11 k_78 n) (l3_11 + 1) (l4_11 + (-8)) 1)) else (if (((l1_11 >>> ((l4_11 : Int32).toInt64 &&& 63)) &&& 255 : Int64).toInt32) = 0 then ((L_Model_say_11 fu l1_11 k_78 n) (l3_11 + 0) (l4_11 + (-8)) v_thrown_11) else ((L_Model_say_11 fu l1_11 k_78 n) (l3_11 + 1) (l4_11 + (-8)) v_thrown_11)))))))
theorem L_Model_say_11_z {fu : Nat} {l1_11 : Int64} {k_78 : Int32 → (Int32) → Option (Int32 × Int32 × Int32 × (Nat → Int32))} {l3_11 : Int32} {l4_11 : Int32} {v_thrown_11 : Int32} {t : Int32 × Int32 × Int32 × (Nat → Int32)} (h : L_Model_say_11 fu l1_11 k_78 0 l3_11 l4_11 v_thrown_11 = some t) : False := by cases (show (none : Option (Int32 × Int32 × Int32 × (Nat → Int32))) = some t from h)
theorem L_Model_say_11_u {fu : Nat} {l1_11 : Int64} {k_78 : Int32 → (Int32) → Option (Int32 × Int32 × Int32 × (Nat → Int32))} {n : Nat} {l3_11 : Int32} {l4_11 : Int32} {v_thrown_11 : Int32} {t : Int32 × Int32 × Int32 × (Nat → Int32)} (h : L_Model_say_11 fu l1_11 k_78 (n + 1) l3_11 l4_11 v_thrown_11 = some t) : (if l4_11 < 0 then (k_78 l3_11 v_thrown_11) else (if (((l1_11 >>> ((l4_11 : Int32).toInt64 &&& 63)) &&& 255 : Int64).toInt32) = 0 then (if (((l1_11 >>> ((l4_11 : Int32).toInt64 &&& 63)) &&& 255 : Int64).toInt32) = 0 then ((L_Model_say_11 fu l1_11 k_78 n) (l3_11 + 0) (l4_11 + (-8)) v_thrown_11) else ((L_Model_say_11 fu l1_11 k_78 n) (l3_11 + 1) (l4_11 + (-8)) v_thrown_11)) else ((f_Model_isIn ((((l1_11 >>> ((l4_11 : Int32).toInt64 &&& 63)) &&& 255 : Int64).toInt32 : Int32).toInt64) 32 126).bind (fun t_4 => (if t_4 = 0 then (if (((l1_11 >>> ((l4_11 : Int32).toInt64 &&& 63)) &&& 255 : Int64).toInt32) = 0 then ((L_Model_say_11 fu l1_11 k_78 n) (l3_11 + 0) (l4_11 + (-8)) 1) else ((L_Model_say_11 fu l1_11 k_78 n) (l3_11 + 1) (l4_11 + (-8)) 1)) else (if (((l1_11 >>> ((l4_11 : Int32).toInt64 &&& 63)) &&& 255 : Int64).toInt32) = 0 then ((L_Model_say_11 fu l1_11 k_78 n) (l3_11 + 0) (l4_11 + (-8)) v_thrown_11) else ((L_Model_say_11 fu l1_11 k_78 n) (l3_11 + 1) (l4_11 + (-8)) v_thrown_11))))))) = some t := h
def L_Model_say_122 (fu : Nat) (v_thrown : Int32) (l1_122 : Int64) : Nat → Int32 → Int32 → (Nat → Int32) → Option (Int32 × Int32 × Int32 × (Nat → Int32))
  | 0, _, _, _ => none
  | n + 1, l4_122, v_size_122, v_text_122 => (if l4_122 < 0 then (some (v_size_122, v_thrown, v_size_122, v_text_122)) else (if (((l1_122 >>> ((l4_122 : Int32).toInt64 &&& 63)) &&& 255 : Int64).toInt32) = 0 then ((L_Model_say_122 fu v_thrown l1_122 n) (l4_122 + (-8)) v_size_122 v_text_122) else (bd v_size_122 1000 ((L_Model_say_122 fu v_thrown l1_122 n) (l4_122 + (-8)) (v_size_122 + 1) (upd v_text_122 (v_size_122 : Int32).toNatClampNeg (((l1_122 >>> ((l4_122 : Int32).toInt64 &&& 63)) &&& 255 : Int64).toInt32))))))
theorem L_Model_say_122_z {fu : Nat} {v_thrown : Int32} {l1_122 : Int64} {l4_122 : Int32} {v_size_122 : Int32} {v_text_122 : Nat → Int32} {t : Int32 × Int32 × Int32 × (Nat → Int32)} (h : L_Model_say_122 fu v_thrown l1_122 0 l4_122 v_size_122 v_text_122 = some t) : False := by cases (show (none : Option (Int32 × Int32 × Int32 × (Nat → Int32))) = some t from h)
theorem L_Model_say_122_u {fu : Nat} {v_thrown : Int32} {l1_122 : Int64} {n : Nat} {l4_122 : Int32} {v_size_122 : Int32} {v_text_122 : Nat → Int32} {t : Int32 × Int32 × Int32 × (Nat → Int32)} (h : L_Model_say_122 fu v_thrown l1_122 (n + 1) l4_122 v_size_122 v_text_122 = some t) : (if l4_122 < 0 then (some (v_size_122, v_thrown, v_size_122, v_text_122)) else (if (((l1_122 >>> ((l4_122 : Int32).toInt64 &&& 63)) &&& 255 : Int64).toInt32) = 0 then ((L_Model_say_122 fu v_thrown l1_122 n) (l4_122 + (-8)) v_size_122 v_text_122) else (bd v_size_122 1000 ((L_Model_say_122 fu v_thrown l1_122 n) (l4_122 + (-8)) (v_size_122 + 1) (upd v_text_122 (v_size_122 : Int32).toNatClampNeg (((l1_122 >>> ((l4_122 : Int32).toInt64 &&& 63)) &&& 255 : Int64).toInt32)))))) = some t := h
def J_Model_say_106 (fu : Nat) (v_thrown : Int32) (v_size : Int32) (v_text : Nat → Int32) (l1_j106 : Int64) (s1_j106 : Int32) : Option (Int32 × Int32 × Int32 × (Nat → Int32)) :=
  (if s1_j106 ≤ 0 then (L_Model_say_122 fu s1_j106 l1_j106 fu 56 v_size v_text) else (some (0, s1_j106, v_size, v_text)))
theorem J_Model_say_106_u {fu : Nat} {v_thrown : Int32} {v_size : Int32} {v_text : Nat → Int32} {l1_j106 : Int64} {s1_j106 : Int32} {t : Int32 × Int32 × Int32 × (Nat → Int32)} (h : J_Model_say_106 fu v_thrown v_size v_text l1_j106 s1_j106 = some t) : (if s1_j106 ≤ 0 then (L_Model_say_122 fu s1_j106 l1_j106 fu 56 v_size v_text) else (some (0, s1_j106, v_size, v_text))) = some t := h
def f_Model_say (fu : Nat) (v_thrown : Int32) (v_size : Int32) (v_text : Nat → Int32) (p1 : Int64) : Option (Int32 × Int32 × Int32 × (Nat → Int32)) :=
  (L_Model_say_11 fu p1 (fun (l3_11x8 : Int32) (v_thrown_11x9 : Int32) => (if v_thrown_11x9 = 0 then (if (v_size + l3_11x8) ≤ 1000 then (J_Model_say_106 fu v_thrown_11x9 v_size v_text p1 v_thrown_11x9) else (J_Model_say_106 fu v_thrown_11x9 v_size v_text p1 2)) else (J_Model_say_106 fu v_thrown_11x9 v_size v_text p1 v_thrown_11x9))) fu 0 56 0)
theorem f_Model_say_u {fu : Nat} {v_thrown : Int32} {v_size : Int32} {v_text : Nat → Int32} {p1 : Int64} {t : Int32 × Int32 × Int32 × (Nat → Int32)} (h : f_Model_say fu v_thrown v_size v_text p1 = some t) : (L_Model_say_11 fu p1 (fun (l3_11x8 : Int32) (v_thrown_11x9 : Int32) => (if v_thrown_11x9 = 0 then (if (v_size + l3_11x8) ≤ 1000 then (J_Model_say_106 fu v_thrown_11x9 v_size v_text p1 v_thrown_11x9) else (J_Model_say_106 fu v_thrown_11x9 v_size v_text p1 2)) else (J_Model_say_106 fu v_thrown_11x9 v_size v_text p1 v_thrown_11x9))) fu 0 56 0) = some t := h
def rm_Model_thrown : Room := { frames := 0, cells := 0, slots := 0, locals := 0 }
set_option maxHeartbeats 4000000 in
set_option maxRecDepth 100000 in
theorem c_Model_thrown (l : Launch) (dC : Nat → ClassId) (dI : Nat → Nat → Nat) (cI cL cC : ClassId) (h_this h_rowPoint h_rowMinute h_rowValue h_text h_kinds h_values h_names h_testCounts h_minutes h_costs h_sorts h_firsts h_seconds h_relations h_numbers h_last h_before h_heldCounts h_streaks h_faultRule h_faultBegin h_faultEnd h_order h_left h_brings : Nat) (sz : Nat) (v_thrown : Int32) (v_rows : Int32) (v_size : Int32) (v_words : Int32) (v_at : Int32) (v_ruleCount : Int32) (v_ran : Int32) (v_faults : Int32) (v_leftCount : Int32) (t : Int32) (hf : f_Model_thrown v_thrown = some t) : Met l y_Model_thrown (Cond.code y_Model_thrown prog_9_method_2_code 1 (some .int) :: xT) rm_Model_thrown (va_Pc [.ref h_this] (xP (dC, dI) (xTy cI cL cC) [(h_this, .inr (7, [.int v_thrown, .int v_rows, .ref h_rowPoint, .ref h_rowMinute, .ref h_rowValue, .ref h_text, .int v_size, .ref h_kinds, .ref h_values, .int v_words, .int v_at, .ref h_names, .ref h_testCounts, .ref h_minutes, .ref h_costs, .ref h_sorts, .ref h_firsts, .ref h_seconds, .ref h_relations, .ref h_numbers, .int v_ruleCount, .ref h_last, .ref h_before, .int v_ran, .ref h_heldCounts, .ref h_streaks, .int v_faults, .ref h_faultRule, .ref h_faultBegin, .ref h_faultEnd, .ref h_order, .ref h_left, .int v_leftCount, .ref h_brings]))] sz)) (xQ (dC, dI) [(h_this, .inr (7, [.int v_thrown, .int v_rows, .ref h_rowPoint, .ref h_rowMinute, .ref h_rowValue, .ref h_text, .int v_size, .ref h_kinds, .ref h_values, .int v_words, .int v_at, .ref h_names, .ref h_testCounts, .ref h_minutes, .ref h_costs, .ref h_sorts, .ref h_firsts, .ref h_seconds, .ref h_relations, .ref h_numbers, .int v_ruleCount, .ref h_last, .ref h_before, .int v_ran, .ref h_heldCounts, .ref h_streaks, .int v_faults, .ref h_faultRule, .ref h_faultBegin, .ref h_faultEnd, .ref h_order, .ref h_left, .int v_leftCount, .ref h_brings]))] (va_A [(h_this, .inr (7, [.int v_thrown, .int v_rows, .ref h_rowPoint, .ref h_rowMinute, .ref h_rowValue, .ref h_text, .int v_size, .ref h_kinds, .ref h_values, .int v_words, .int v_at, .ref h_names, .ref h_testCounts, .ref h_minutes, .ref h_costs, .ref h_sorts, .ref h_firsts, .ref h_seconds, .ref h_relations, .ref h_numbers, .int v_ruleCount, .ref h_last, .ref h_before, .int v_ran, .ref h_heldCounts, .ref h_streaks, .int v_faults, .ref h_faultRule, .ref h_faultBegin, .ref h_faultEnd, .ref h_order, .ref h_left, .int v_leftCount, .ref h_brings]))] sz) (some (.int t))) 0 0 (va_A [(h_this, .inr (7, [.int v_thrown, .int v_rows, .ref h_rowPoint, .ref h_rowMinute, .ref h_rowValue, .ref h_text, .int v_size, .ref h_kinds, .ref h_values, .int v_words, .int v_at, .ref h_names, .ref h_testCounts, .ref h_minutes, .ref h_costs, .ref h_sorts, .ref h_firsts, .ref h_seconds, .ref h_relations, .ref h_numbers, .int v_ruleCount, .ref h_last, .ref h_before, .int v_ran, .ref h_heldCounts, .ref h_streaks, .int v_faults, .ref h_faultRule, .ref h_faultBegin, .ref h_faultEnd, .ref h_order, .ref h_left, .int v_leftCount, .ref h_brings]))] sz) := by
  refine Met.ofW (cc := prog_9_method_2_code) (maxL := 1) (ret := (some .int)) (by decide) rfl ?_
  intro p e s m args below meth c s₁ B hml hv
  obtain ⟨hargs, hsz, hP, hK, hN, hD0⟩ := hv
  have hx := B.exec
  have hb := B.bytes
  have hr := B.returns
  have hT : ∀ w ∈ xT, w.before args s = true := fun w hw => atoms_spec (ws := Cond.code y_Model_thrown prog_9_method_2_code 1 (some .int) :: xT) B.pre w (List.mem_cons_of_mem _ hw)
  have hown : s.vm.findClass R_Model = some m.cls := findClass_of_methodNamed B.named
  have hlocks := B.notSynchronized
  subst hsz
  have hD := hD0.self (sz := s.heap.size)
  generalize hAe : va_A [(h_this, .inr (7, [.int v_thrown, .int v_rows, .ref h_rowPoint, .ref h_rowMinute, .ref h_rowValue, .ref h_text, .int v_size, .ref h_kinds, .ref h_values, .int v_words, .int v_at, .ref h_names, .ref h_testCounts, .ref h_minutes, .ref h_costs, .ref h_sorts, .ref h_firsts, .ref h_seconds, .ref h_relations, .ref h_numbers, .int v_ruleCount, .ref h_last, .ref h_before, .int v_ran, .ref h_heldCounts, .ref h_streaks, .int v_faults, .ref h_faultRule, .ref h_faultBegin, .ref h_faultEnd, .ref h_order, .ref h_left, .int v_leftCount, .ref h_brings]))] s.heap.size = A at hD ⊢
  have hA : ∀ q : Nat, s.heap.size ≤ q → A q := fun q h => by rw [← hAe]; exact Or.inr h
  have hS : va_S A s.heap s.heap [] := va_S.rf
  have hP : va_P (dC, dI) vwCl [(h_this, .inr (7, [.int v_thrown, .int v_rows, .ref h_rowPoint, .ref h_rowMinute, .ref h_rowValue, .ref h_text, .int v_size, .ref h_kinds, .ref h_values, .int v_words, .int v_at, .ref h_names, .ref h_testCounts, .ref h_minutes, .ref h_costs, .ref h_sorts, .ref h_firsts, .ref h_seconds, .ref h_relations, .ref h_numbers, .int v_ruleCount, .ref h_last, .ref h_before, .int v_ran, .ref h_heldCounts, .ref h_streaks, .int v_faults, .ref h_faultRule, .ref h_faultBegin, .ref h_faultEnd, .ref h_order, .ref h_left, .int v_leftCount, .ref h_brings]))] s.heap := hP
  have hl := lv_entry ([.ref h_this]) (n := 1) (Nat.le_of_ble_eq_true rfl)
  rw [show entryFrame m args 1 = entryFrame m ([.ref h_this] : List Value).toArray 1 from by rw [hargs], lg_entry_eq]
  generalize (lg_sl ([.ref h_this]) ++ List.replicate (1 - (lg_sl ([.ref h_this])).length) Slot.unset).toArray = ls at hl ⊢
  have hl : lv_has ls 1 [(0, .ref h_this)] := hl
  obtain ⟨Q, hQ⟩ : ∃ Q, Q = MQ below (xQ (dC, dI) [(h_this, .inr (7, [.int v_thrown, .int v_rows, .ref h_rowPoint, .ref h_rowMinute, .ref h_rowValue, .ref h_text, .int v_size, .ref h_kinds, .ref h_values, .int v_words, .int v_at, .ref h_names, .ref h_testCounts, .ref h_minutes, .ref h_costs, .ref h_sorts, .ref h_firsts, .ref h_seconds, .ref h_relations, .ref h_numbers, .int v_ruleCount, .ref h_last, .ref h_before, .int v_ran, .ref h_heldCounts, .ref h_streaks, .int v_faults, .ref h_faultRule, .ref h_faultBegin, .ref h_faultEnd, .ref h_order, .ref h_left, .int v_leftCount, .ref h_brings]))] A (some (.int t))) args s 0 0 A := ⟨_, rfl⟩
  rw [← hQ]
  show W p l e rm_Model_thrown s m args below meth c s.heap [] 0 0 Q _
  obtain ⟨H, hH⟩ : ∃ H, H = s.heap := ⟨_, rfl⟩
  obtain ⟨locs, hlocs⟩ : ∃ L : List Loc, L = [] := ⟨_, rfl⟩
  rw [← hlocs] at hS ⊢
  have hS : va_S A s.heap H locs := by rw [hH]; exact hS
  rw [← hH] at hP ⊢
  replace hf := f_Model_thrown_u hf
  refine lv_aload_n hx hb d_Model_thrown_0 rfl (lv_at hl 0 rfl) ?_
  refine va_get (D := (dC, dI)) (ci := 7) (v := .int v_thrown) (C := R_Model) (T := T_Model) (N := 34) hx hb hT i_Model hown hK hP 0 rfl rfl 0 (by decide) (hT _ kF_Model_86) (fun _ h9 => h9) rfl d_Model_thrown_1 ?_
  rw [hQ, ← Option.some.inj hf]
  exact W.iret hx hb hr (fun t9 ht9 hW9 => ⟨rfl, by rw [ht9]; exact hP, hS.F ht9⟩) hS.2.2 d_Model_thrown_4
def rm_Model_isIn : Room := { frames := 0, cells := 0, slots := 0, locals := 0 }
set_option maxHeartbeats 4000000 in
set_option maxRecDepth 100000 in
theorem c_Model_isIn (l : Launch) (dC : Nat → ClassId) (dI : Nat → Nat → Nat) (cI cL cC : ClassId) (sz : Nat) (p1 : Int64) (p2 : Int64) (p3 : Int64) (t : Int32) (hf : f_Model_isIn p1 p2 p3 = some t) : Met l y_Model_isIn (Cond.code y_Model_isIn prog_9_method_3_code 6 (some .boolean) :: xT) rm_Model_isIn (va_Pc [.long p1, .long p2, .long p3] (xP (dC, dI) (xTy cI cL cC) [] sz)) (xQ (dC, dI) [] (va_A [] sz) (some (.int t))) 0 0 (va_A [] sz) := by
  refine Met.ofW (cc := prog_9_method_3_code) (maxL := 6) (ret := (some .boolean)) (by decide) rfl ?_
  intro p e s m args below meth c s₁ B hml hv
  obtain ⟨hargs, hsz, hP, hK, hN, hD0⟩ := hv
  have hx := B.exec
  have hb := B.bytes
  have hr := B.returns
  have hT : ∀ w ∈ xT, w.before args s = true := fun w hw => atoms_spec (ws := Cond.code y_Model_isIn prog_9_method_3_code 6 (some .boolean) :: xT) B.pre w (List.mem_cons_of_mem _ hw)
  have hown : s.vm.findClass R_Model = some m.cls := findClass_of_methodNamed B.named
  have hlocks := B.notSynchronized
  subst hsz
  have hD := hD0.self (sz := s.heap.size)
  generalize hAe : va_A [] s.heap.size = A at hD ⊢
  have hA : ∀ q : Nat, s.heap.size ≤ q → A q := fun q h => by rw [← hAe]; exact Or.inr h
  have hS : va_S A s.heap s.heap [] := va_S.rf
  have hP : va_P (dC, dI) vwCl [] s.heap := hP
  have hl := lv_entry ([.long p1, .long p2, .long p3]) (n := 6) (Nat.le_of_ble_eq_true rfl)
  rw [show entryFrame m args 6 = entryFrame m ([.long p1, .long p2, .long p3] : List Value).toArray 6 from by rw [hargs], lg_entry_eq]
  generalize (lg_sl ([.long p1, .long p2, .long p3]) ++ List.replicate (6 - (lg_sl ([.long p1, .long p2, .long p3])).length) Slot.unset).toArray = ls at hl ⊢
  have hl : lv_has ls 6 [(0, .long p1), (2, .long p2), (4, .long p3)] := hl
  obtain ⟨Q, hQ⟩ : ∃ Q, Q = MQ below (xQ (dC, dI) [] A (some (.int t))) args s 0 0 A := ⟨_, rfl⟩
  rw [← hQ]
  show W p l e rm_Model_isIn s m args below meth c s.heap [] 0 0 Q _
  obtain ⟨H, hH⟩ : ∃ H, H = s.heap := ⟨_, rfl⟩
  obtain ⟨locs, hlocs⟩ : ∃ L : List Loc, L = [] := ⟨_, rfl⟩
  rw [← hlocs] at hS ⊢
  have hS : va_S A s.heap H locs := by rw [hH]; exact hS
  rw [← hH] at hP ⊢
  replace hf := f_Model_isIn_u hf
  refine lv_lload_n hx hb d_Model_isIn_0 rfl (lv_at hl 0 rfl) ?_
  refine lv_lload_n hx hb d_Model_isIn_1 rfl (lv_at hl 1 rfl) ?_
  refine W.lcmp hx hb d_Model_isIn_2 ?_
  refine lv_if_lt (tgt := 17) hx hb d_Model_isIn_3 (by decide) (fun c_1 => ?_) (fun c_1 => ?_)
  · replace hf := o_pos c_1 hf
    refine lv_iconst (v := 0) hx hb d_Model_isIn_17 (by decide) ?_
    rw [hQ, ← Option.some.inj hf]
    exact W.zret (ty := .boolean) hx hb hr rfl (fun t9 ht9 hW9 => ⟨rfl, by rw [ht9]; exact hP, hS.F ht9⟩) hS.2.2 d_Model_isIn_18
  · replace hf := o_neg c_1 hf
    refine lv_lload_n hx hb d_Model_isIn_6 rfl (lv_at hl 0 rfl) ?_
    refine lv_lload hx hb d_Model_isIn_7 (lv_at hl 2 rfl) ?_
    refine W.lcmp hx hb d_Model_isIn_9 ?_
    refine lv_if_gt (tgt := 17) hx hb d_Model_isIn_10 (by decide) (fun c_2 => ?_) (fun c_2 => ?_)
    · replace hf := o_pos c_2 hf
      refine lv_iconst (v := 0) hx hb d_Model_isIn_17 (by decide) ?_
      rw [hQ, ← Option.some.inj hf]
      exact W.zret (ty := .boolean) hx hb hr rfl (fun t9 ht9 hW9 => ⟨rfl, by rw [ht9]; exact hP, hS.F ht9⟩) hS.2.2 d_Model_isIn_18
    · replace hf := o_neg c_2 hf
      refine lv_iconst (v := 1) hx hb d_Model_isIn_13 (by decide) ?_
      refine lv_goto (tgt := 18) hx hb d_Model_isIn_14 (by decide) ?_
      rw [hQ, ← Option.some.inj hf]
      exact W.zret (ty := .boolean) hx hb hr rfl (fun t9 ht9 hW9 => ⟨rfl, by rw [ht9]; exact hP, hS.F ht9⟩) hS.2.2 d_Model_isIn_18
def rm_Model_isMinute : Room := { frames := 1, cells := 0, slots := 0, locals := 25 }
set_option maxHeartbeats 4000000 in
set_option maxRecDepth 100000 in
theorem c_Model_isMinute (l : Launch) (dC : Nat → ClassId) (dI : Nat → Nat → Nat) (cI cL cC : ClassId) (sz : Nat) (p1 : Int32) (t : Int32) (hf : f_Model_isMinute p1 = some t) : Met l y_Model_isMinute (Cond.code y_Model_isMinute prog_9_method_4_code 1 (some .boolean) :: xT) rm_Model_isMinute (va_Pc [.int p1] (xP (dC, dI) (xTy cI cL cC) [] sz)) (xQ (dC, dI) [] (va_A [] sz) (some (.int t))) 0 0 (va_A [] sz) := by
  refine Met.ofW (cc := prog_9_method_4_code) (maxL := 1) (ret := (some .boolean)) (by decide) rfl ?_
  intro p e s m args below meth c s₁ B hml hv
  obtain ⟨hargs, hsz, hP, hK, hN, hD0⟩ := hv
  have hx := B.exec
  have hb := B.bytes
  have hr := B.returns
  have hT : ∀ w ∈ xT, w.before args s = true := fun w hw => atoms_spec (ws := Cond.code y_Model_isMinute prog_9_method_4_code 1 (some .boolean) :: xT) B.pre w (List.mem_cons_of_mem _ hw)
  have hown : s.vm.findClass R_Model = some m.cls := findClass_of_methodNamed B.named
  have hlocks := B.notSynchronized
  subst hsz
  have hD := hD0.self (sz := s.heap.size)
  generalize hAe : va_A [] s.heap.size = A at hD ⊢
  have hA : ∀ q : Nat, s.heap.size ≤ q → A q := fun q h => by rw [← hAe]; exact Or.inr h
  have hS : va_S A s.heap s.heap [] := va_S.rf
  have hP : va_P (dC, dI) vwCl [] s.heap := hP
  have hl := lv_entry ([.int p1]) (n := 1) (Nat.le_of_ble_eq_true rfl)
  rw [show entryFrame m args 1 = entryFrame m ([.int p1] : List Value).toArray 1 from by rw [hargs], lg_entry_eq]
  generalize (lg_sl ([.int p1]) ++ List.replicate (1 - (lg_sl ([.int p1])).length) Slot.unset).toArray = ls at hl ⊢
  have hl : lv_has ls 1 [(0, .int p1)] := hl
  obtain ⟨Q, hQ⟩ : ∃ Q, Q = MQ below (xQ (dC, dI) [] A (some (.int t))) args s 0 0 A := ⟨_, rfl⟩
  rw [← hQ]
  show W p l e rm_Model_isMinute s m args below meth c s.heap [] 0 0 Q _
  obtain ⟨H, hH⟩ : ∃ H, H = s.heap := ⟨_, rfl⟩
  obtain ⟨locs, hlocs⟩ : ∃ L : List Loc, L = [] := ⟨_, rfl⟩
  rw [← hlocs] at hS ⊢
  have hS : va_S A s.heap H locs := by rw [hH]; exact hS
  rw [← hH] at hP ⊢
  replace hf := f_Model_isMinute_u hf
  refine lv_iload_n hx hb d_Model_isMinute_0 rfl (lv_at hl 0 rfl) ?_
  refine lv_i2l (v := (p1 : Int32).toInt64) hx hb d_Model_isMinute_1 rfl ?_
  refine lv_lconst (v := 0) hx hb d_Model_isMinute_2 (by decide) ?_
  refine lv_ldc2 (v := 100000) hx hb hown (hT _ kK_Model_90) d_Model_isMinute_3 ?_
  obtain ⟨t_1, hg_1, hf⟩ := o_bind hf
  refine x_stat (w' := []) (As := [.long ((p1 : Int32).toInt64), .long 0, .long 100000]) (rest := []) hx hb hml hl.1 hown hT hK hN hP hD hS hA (c_Model_isIn l dC dI cI cL cC H.size ((p1 : Int32).toInt64) 0 100000 t_1 hg_1) kM_Model_92 kT_Model_isIn kN_Model kC_Model_isIn hd_Model_isIn rfl ⟨Nat.le_of_ble_eq_true rfl, Nat.le_of_ble_eq_true rfl⟩ rfl rfl ⟨Nat.zero_le _, Nat.zero_le _⟩ rfl (Nat.le_of_ble_eq_true rfl) d_Model_isMinute_6 [] rfl rfl [] rfl rfl rfl (fun H locs hP hD hS => ?_)
  obtain ⟨hz_2, hf⟩ := o_zb hf
  rw [hQ, ← Option.some.inj hf]
  exact W.zret (ty := .boolean) hx hb hr hz_2 (fun t9 ht9 hW9 => ⟨rfl, by rw [ht9]; exact hP, hS.F ht9⟩) hS.2.2 d_Model_isMinute_9
def rm_Model_isPoint : Room := { frames := 1, cells := 0, slots := 0, locals := 25 }
set_option maxHeartbeats 4000000 in
set_option maxRecDepth 100000 in
theorem c_Model_isPoint (l : Launch) (dC : Nat → ClassId) (dI : Nat → Nat → Nat) (cI cL cC : ClassId) (sz : Nat) (p1 : Int32) (t : Int32) (hf : f_Model_isPoint p1 = some t) : Met l y_Model_isPoint (Cond.code y_Model_isPoint prog_9_method_5_code 1 (some .boolean) :: xT) rm_Model_isPoint (va_Pc [.int p1] (xP (dC, dI) (xTy cI cL cC) [] sz)) (xQ (dC, dI) [] (va_A [] sz) (some (.int t))) 0 0 (va_A [] sz) := by
  refine Met.ofW (cc := prog_9_method_5_code) (maxL := 1) (ret := (some .boolean)) (by decide) rfl ?_
  intro p e s m args below meth c s₁ B hml hv
  obtain ⟨hargs, hsz, hP, hK, hN, hD0⟩ := hv
  have hx := B.exec
  have hb := B.bytes
  have hr := B.returns
  have hT : ∀ w ∈ xT, w.before args s = true := fun w hw => atoms_spec (ws := Cond.code y_Model_isPoint prog_9_method_5_code 1 (some .boolean) :: xT) B.pre w (List.mem_cons_of_mem _ hw)
  have hown : s.vm.findClass R_Model = some m.cls := findClass_of_methodNamed B.named
  have hlocks := B.notSynchronized
  subst hsz
  have hD := hD0.self (sz := s.heap.size)
  generalize hAe : va_A [] s.heap.size = A at hD ⊢
  have hA : ∀ q : Nat, s.heap.size ≤ q → A q := fun q h => by rw [← hAe]; exact Or.inr h
  have hS : va_S A s.heap s.heap [] := va_S.rf
  have hP : va_P (dC, dI) vwCl [] s.heap := hP
  have hl := lv_entry ([.int p1]) (n := 1) (Nat.le_of_ble_eq_true rfl)
  rw [show entryFrame m args 1 = entryFrame m ([.int p1] : List Value).toArray 1 from by rw [hargs], lg_entry_eq]
  generalize (lg_sl ([.int p1]) ++ List.replicate (1 - (lg_sl ([.int p1])).length) Slot.unset).toArray = ls at hl ⊢
  have hl : lv_has ls 1 [(0, .int p1)] := hl
  obtain ⟨Q, hQ⟩ : ∃ Q, Q = MQ below (xQ (dC, dI) [] A (some (.int t))) args s 0 0 A := ⟨_, rfl⟩
  rw [← hQ]
  show W p l e rm_Model_isPoint s m args below meth c s.heap [] 0 0 Q _
  obtain ⟨H, hH⟩ : ∃ H, H = s.heap := ⟨_, rfl⟩
  obtain ⟨locs, hlocs⟩ : ∃ L : List Loc, L = [] := ⟨_, rfl⟩
  rw [← hlocs] at hS ⊢
  have hS : va_S A s.heap H locs := by rw [hH]; exact hS
  rw [← hH] at hP ⊢
  replace hf := f_Model_isPoint_u hf
  refine lv_iload_n hx hb d_Model_isPoint_0 rfl (lv_at hl 0 rfl) ?_
  refine lv_i2l (v := (p1 : Int32).toInt64) hx hb d_Model_isPoint_1 rfl ?_
  refine lv_lconst (v := 0) hx hb d_Model_isPoint_2 (by decide) ?_
  refine lv_ldc2 (v := 15) hx hb hown (hT _ kK_Model_96) d_Model_isPoint_3 ?_
  obtain ⟨t_1, hg_1, hf⟩ := o_bind hf
  refine x_stat (w' := []) (As := [.long ((p1 : Int32).toInt64), .long 0, .long 15]) (rest := []) hx hb hml hl.1 hown hT hK hN hP hD hS hA (c_Model_isIn l dC dI cI cL cC H.size ((p1 : Int32).toInt64) 0 15 t_1 hg_1) kM_Model_92 kT_Model_isIn kN_Model kC_Model_isIn hd_Model_isIn rfl ⟨Nat.le_of_ble_eq_true rfl, Nat.le_of_ble_eq_true rfl⟩ rfl rfl ⟨Nat.zero_le _, Nat.zero_le _⟩ rfl (Nat.le_of_ble_eq_true rfl) d_Model_isPoint_6 [] rfl rfl [] rfl rfl rfl (fun H locs hP hD hS => ?_)
  obtain ⟨hz_2, hf⟩ := o_zb hf
  rw [hQ, ← Option.some.inj hf]
  exact W.zret (ty := .boolean) hx hb hr hz_2 (fun t9 ht9 hW9 => ⟨rfl, by rw [ht9]; exact hP, hS.F ht9⟩) hS.2.2 d_Model_isPoint_9
def rm_Model_latest : Room := { frames := 0, cells := 0, slots := 0, locals := 0 }
set_option maxHeartbeats 4000000 in
set_option maxRecDepth 100000 in
theorem c_Model_latest (l : Launch) (dC : Nat → ClassId) (dI : Nat → Nat → Nat) (cI cL cC : ClassId) (h_this h_rowPoint h_rowMinute h_rowValue h_text h_kinds h_values h_names h_testCounts h_minutes h_costs h_sorts h_firsts h_seconds h_relations h_numbers h_last h_before h_heldCounts h_streaks h_faultRule h_faultBegin h_faultEnd h_order h_left h_brings : Nat) (sz : Nat) (fu : Nat) (v_thrown : Int32) (v_rows : Int32) (v_size : Int32) (v_words : Int32) (v_at : Int32) (v_ruleCount : Int32) (v_ran : Int32) (v_faults : Int32) (v_leftCount : Int32) (v_rowPoint : Nat → Int32) (v_rowMinute : Nat → Int32) (p1 : Int32) (p2 : Int32) (t : Int32) (hf : f_Model_latest fu v_rows v_rowPoint v_rowMinute p1 p2 = some t) : Met l y_Model_latest (Cond.code y_Model_latest prog_9_method_6_code 5 (some .int) :: xT) rm_Model_latest (va_Pc [.ref h_this, .int p1, .int p2] (xP (dC, dI) (xTy cI cL cC) [(h_this, .inr (7, [.int v_thrown, .int v_rows, .ref h_rowPoint, .ref h_rowMinute, .ref h_rowValue, .ref h_text, .int v_size, .ref h_kinds, .ref h_values, .int v_words, .int v_at, .ref h_names, .ref h_testCounts, .ref h_minutes, .ref h_costs, .ref h_sorts, .ref h_firsts, .ref h_seconds, .ref h_relations, .ref h_numbers, .int v_ruleCount, .ref h_last, .ref h_before, .int v_ran, .ref h_heldCounts, .ref h_streaks, .int v_faults, .ref h_faultRule, .ref h_faultBegin, .ref h_faultEnd, .ref h_order, .ref h_left, .int v_leftCount, .ref h_brings])), (h_rowPoint, .inl (cI, 120, .inl v_rowPoint)), (h_rowMinute, .inl (cI, 120, .inl v_rowMinute))] sz)) (xQ (dC, dI) [(h_this, .inr (7, [.int v_thrown, .int v_rows, .ref h_rowPoint, .ref h_rowMinute, .ref h_rowValue, .ref h_text, .int v_size, .ref h_kinds, .ref h_values, .int v_words, .int v_at, .ref h_names, .ref h_testCounts, .ref h_minutes, .ref h_costs, .ref h_sorts, .ref h_firsts, .ref h_seconds, .ref h_relations, .ref h_numbers, .int v_ruleCount, .ref h_last, .ref h_before, .int v_ran, .ref h_heldCounts, .ref h_streaks, .int v_faults, .ref h_faultRule, .ref h_faultBegin, .ref h_faultEnd, .ref h_order, .ref h_left, .int v_leftCount, .ref h_brings])), (h_rowPoint, .inl (cI, 120, .inl v_rowPoint)), (h_rowMinute, .inl (cI, 120, .inl v_rowMinute))] (va_A [(h_this, .inr (7, [.int v_thrown, .int v_rows, .ref h_rowPoint, .ref h_rowMinute, .ref h_rowValue, .ref h_text, .int v_size, .ref h_kinds, .ref h_values, .int v_words, .int v_at, .ref h_names, .ref h_testCounts, .ref h_minutes, .ref h_costs, .ref h_sorts, .ref h_firsts, .ref h_seconds, .ref h_relations, .ref h_numbers, .int v_ruleCount, .ref h_last, .ref h_before, .int v_ran, .ref h_heldCounts, .ref h_streaks, .int v_faults, .ref h_faultRule, .ref h_faultBegin, .ref h_faultEnd, .ref h_order, .ref h_left, .int v_leftCount, .ref h_brings])), (h_rowPoint, .inl (cI, 120, .inl v_rowPoint)), (h_rowMinute, .inl (cI, 120, .inl v_rowMinute))] sz) (some (.int t))) 0 0 (va_A [(h_this, .inr (7, [.int v_thrown, .int v_rows, .ref h_rowPoint, .ref h_rowMinute, .ref h_rowValue, .ref h_text, .int v_size, .ref h_kinds, .ref h_values, .int v_words, .int v_at, .ref h_names, .ref h_testCounts, .ref h_minutes, .ref h_costs, .ref h_sorts, .ref h_firsts, .ref h_seconds, .ref h_relations, .ref h_numbers, .int v_ruleCount, .ref h_last, .ref h_before, .int v_ran, .ref h_heldCounts, .ref h_streaks, .int v_faults, .ref h_faultRule, .ref h_faultBegin, .ref h_faultEnd, .ref h_order, .ref h_left, .int v_leftCount, .ref h_brings])), (h_rowPoint, .inl (cI, 120, .inl v_rowPoint)), (h_rowMinute, .inl (cI, 120, .inl v_rowMinute))] sz) := by
  refine Met.ofW (cc := prog_9_method_6_code) (maxL := 5) (ret := (some .int)) (by decide) rfl ?_
  intro p e s m args below meth c s₁ B hml hv
  obtain ⟨hargs, hsz, hP, hK, hN, hD0⟩ := hv
  have hx := B.exec
  have hb := B.bytes
  have hr := B.returns
  have hT : ∀ w ∈ xT, w.before args s = true := fun w hw => atoms_spec (ws := Cond.code y_Model_latest prog_9_method_6_code 5 (some .int) :: xT) B.pre w (List.mem_cons_of_mem _ hw)
  have hown : s.vm.findClass R_Model = some m.cls := findClass_of_methodNamed B.named
  have hlocks := B.notSynchronized
  subst hsz
  have hD := hD0.self (sz := s.heap.size)
  generalize hAe : va_A [(h_this, .inr (7, [.int v_thrown, .int v_rows, .ref h_rowPoint, .ref h_rowMinute, .ref h_rowValue, .ref h_text, .int v_size, .ref h_kinds, .ref h_values, .int v_words, .int v_at, .ref h_names, .ref h_testCounts, .ref h_minutes, .ref h_costs, .ref h_sorts, .ref h_firsts, .ref h_seconds, .ref h_relations, .ref h_numbers, .int v_ruleCount, .ref h_last, .ref h_before, .int v_ran, .ref h_heldCounts, .ref h_streaks, .int v_faults, .ref h_faultRule, .ref h_faultBegin, .ref h_faultEnd, .ref h_order, .ref h_left, .int v_leftCount, .ref h_brings])), (h_rowPoint, .inl (cI, 120, .inl v_rowPoint)), (h_rowMinute, .inl (cI, 120, .inl v_rowMinute))] s.heap.size = A at hD ⊢
  have hA : ∀ q : Nat, s.heap.size ≤ q → A q := fun q h => by rw [← hAe]; exact Or.inr h
  have hS : va_S A s.heap s.heap [] := va_S.rf
  have hP : va_P (dC, dI) vwCl [(h_this, .inr (7, [.int v_thrown, .int v_rows, .ref h_rowPoint, .ref h_rowMinute, .ref h_rowValue, .ref h_text, .int v_size, .ref h_kinds, .ref h_values, .int v_words, .int v_at, .ref h_names, .ref h_testCounts, .ref h_minutes, .ref h_costs, .ref h_sorts, .ref h_firsts, .ref h_seconds, .ref h_relations, .ref h_numbers, .int v_ruleCount, .ref h_last, .ref h_before, .int v_ran, .ref h_heldCounts, .ref h_streaks, .int v_faults, .ref h_faultRule, .ref h_faultBegin, .ref h_faultEnd, .ref h_order, .ref h_left, .int v_leftCount, .ref h_brings])), (h_rowPoint, .inl (cI, 120, .inl v_rowPoint)), (h_rowMinute, .inl (cI, 120, .inl v_rowMinute))] s.heap := hP
  have hl := lv_entry ([.ref h_this, .int p1, .int p2]) (n := 5) (Nat.le_of_ble_eq_true rfl)
  rw [show entryFrame m args 5 = entryFrame m ([.ref h_this, .int p1, .int p2] : List Value).toArray 5 from by rw [hargs], lg_entry_eq]
  generalize (lg_sl ([.ref h_this, .int p1, .int p2]) ++ List.replicate (5 - (lg_sl ([.ref h_this, .int p1, .int p2])).length) Slot.unset).toArray = ls at hl ⊢
  have hl : lv_has ls 5 [(0, .ref h_this), (1, .int p1), (2, .int p2)] := hl
  obtain ⟨Q, hQ⟩ : ∃ Q, Q = MQ below (xQ (dC, dI) [(h_this, .inr (7, [.int v_thrown, .int v_rows, .ref h_rowPoint, .ref h_rowMinute, .ref h_rowValue, .ref h_text, .int v_size, .ref h_kinds, .ref h_values, .int v_words, .int v_at, .ref h_names, .ref h_testCounts, .ref h_minutes, .ref h_costs, .ref h_sorts, .ref h_firsts, .ref h_seconds, .ref h_relations, .ref h_numbers, .int v_ruleCount, .ref h_last, .ref h_before, .int v_ran, .ref h_heldCounts, .ref h_streaks, .int v_faults, .ref h_faultRule, .ref h_faultBegin, .ref h_faultEnd, .ref h_order, .ref h_left, .int v_leftCount, .ref h_brings])), (h_rowPoint, .inl (cI, 120, .inl v_rowPoint)), (h_rowMinute, .inl (cI, 120, .inl v_rowMinute))] A (some (.int t))) args s 0 0 A := ⟨_, rfl⟩
  rw [← hQ]
  show W p l e rm_Model_latest s m args below meth c s.heap [] 0 0 Q _
  obtain ⟨H, hH⟩ : ∃ H, H = s.heap := ⟨_, rfl⟩
  obtain ⟨locs, hlocs⟩ : ∃ L : List Loc, L = [] := ⟨_, rfl⟩
  rw [← hlocs] at hS ⊢
  have hS : va_S A s.heap H locs := by rw [hH]; exact hS
  rw [← hH] at hP ⊢
  replace hf := f_Model_latest_u hf
  refine lv_iconst (v := (-1)) hx hb d_Model_latest_0 (by decide) ?_
  refine lv_istore_n (lv' := [(3, .int ((-1))), (0, .ref h_this), (1, .int p1), (2, .int p2)]) hx hb d_Model_latest_1 rfl hl (by decide) rfl (fun ls hl => ?_)
  refine lv_iconst (v := 0) hx hb d_Model_latest_2 (by decide) ?_
  refine lv_istore (lv' := [(4, .int 0), (3, .int ((-1))), (0, .ref h_this), (1, .int p1), (2, .int p2)]) hx hb d_Model_latest_3 hl (by decide) rfl (fun ls hl => ?_)
  have lp_5 : ∀ (n : Nat) (l3_5 : Int32) (l4_5 : Int32) (H : Heap) (locs : List Loc) (ls : Array Slot), L_Model_latest_5 fu v_rows v_rowPoint v_rowMinute p1 p2 n l3_5 l4_5 = some t → va_P (dC, dI) vwCl [(h_this, .inr (7, [.int v_thrown, .int v_rows, .ref h_rowPoint, .ref h_rowMinute, .ref h_rowValue, .ref h_text, .int v_size, .ref h_kinds, .ref h_values, .int v_words, .int v_at, .ref h_names, .ref h_testCounts, .ref h_minutes, .ref h_costs, .ref h_sorts, .ref h_firsts, .ref h_seconds, .ref h_relations, .ref h_numbers, .int v_ruleCount, .ref h_last, .ref h_before, .int v_ran, .ref h_heldCounts, .ref h_streaks, .int v_faults, .ref h_faultRule, .ref h_faultBegin, .ref h_faultEnd, .ref h_order, .ref h_left, .int v_leftCount, .ref h_brings])), (h_rowPoint, .inl (cI, 120, .inl v_rowPoint)), (h_rowMinute, .inl (cI, 120, .inl v_rowMinute))] H → va_D A [(h_this, .inr (7, [.int v_thrown, .int v_rows, .ref h_rowPoint, .ref h_rowMinute, .ref h_rowValue, .ref h_text, .int v_size, .ref h_kinds, .ref h_values, .int v_words, .int v_at, .ref h_names, .ref h_testCounts, .ref h_minutes, .ref h_costs, .ref h_sorts, .ref h_firsts, .ref h_seconds, .ref h_relations, .ref h_numbers, .int v_ruleCount, .ref h_last, .ref h_before, .int v_ran, .ref h_heldCounts, .ref h_streaks, .int v_faults, .ref h_faultRule, .ref h_faultBegin, .ref h_faultEnd, .ref h_order, .ref h_left, .int v_leftCount, .ref h_brings])), (h_rowPoint, .inl (cI, 120, .inl v_rowPoint)), (h_rowMinute, .inl (cI, 120, .inl v_rowMinute))] → va_S A s.heap H locs → lv_has ls 5 [(0, .ref h_this), (1, .int p1), (2, .int p2), (3, .int l3_5), (4, .int l4_5)] → W p l e rm_Model_latest s m args below meth c H locs 0 0 Q (F0 m 5 ls []) := by
    intro  n
    induction n with
    | zero => intro l3_5 l4_5 H locs ls hf; exact (L_Model_latest_5_z hf).elim
    | succ n ih =>
      intro l3_5 l4_5 H locs ls hf hP hD hS hl
      replace hf := L_Model_latest_5_u hf
      refine lv_iload hx hb d_Model_latest_5 (lv_at hl 4 rfl) ?_
      refine lv_aload_n hx hb d_Model_latest_7 rfl (lv_at hl 0 rfl) ?_
      refine va_get (D := (dC, dI)) (ci := 7) (v := .int v_rows) (C := R_Model) (T := T_Model) (N := 34) hx hb hT i_Model hown hK hP 0 rfl rfl 1 (by decide) (hT _ kF_Model_98) (fun _ h9 => h9) rfl d_Model_latest_8 ?_
      refine lv_icmp_ge (tgt := 45) hx hb d_Model_latest_11 (by decide) (fun c_1 => ?_) (fun c_1 => ?_)
      · replace hf := o_pos c_1 hf
        refine lv_iload_n hx hb d_Model_latest_45 rfl (lv_at hl 3 rfl) ?_
        rw [hQ, ← Option.some.inj hf]
        exact W.iret hx hb hr (fun t9 ht9 hW9 => ⟨rfl, by rw [ht9]; exact hP, hS.F ht9⟩) hS.2.2 d_Model_latest_46
      · replace hf := o_neg c_1 hf
        refine lv_aload_n hx hb d_Model_latest_14 rfl (lv_at hl 0 rfl) ?_
        refine va_get (D := (dC, dI)) (ci := 7) (v := .ref h_rowPoint) (C := R_Model) (T := T_Model) (N := 34) hx hb hT i_Model hown hK hP 0 rfl rfl 2 (by decide) (hT _ kF_Model_7) (fun _ h9 => h9) rfl d_Model_latest_15 ?_
        refine lv_iload hx hb d_Model_latest_18 (lv_at hl 4 rfl) ?_
        obtain ⟨hi_2, hf⟩ := o_in hf
        refine va_iald hx hb hK hP 1 0 rfl rfl hi_2 d_Model_latest_20 ?_
        refine lv_iload_n hx hb d_Model_latest_21 rfl (lv_at hl 1 rfl) ?_
        refine lv_icmp_ne (tgt := 39) hx hb d_Model_latest_22 (by decide) (fun c_3 => ?_) (fun c_3 => ?_)
        · replace hf := o_neg c_3 hf
          refine lv_iinc (v := l4_5 + 1) (lv' := [(4, .int (l4_5 + 1)), (0, .ref h_this), (1, .int p1), (2, .int p2), (3, .int l3_5)]) hx hb d_Model_latest_39 hl (k := 4) rfl rfl (by decide) rfl (fun ls hl => ?_)
          refine lv_goto (tgt := 5) hx hb d_Model_latest_42 (by decide) ?_
          exact ih l3_5 (l4_5 + 1) H locs ls hf hP hD hS (lv_sub hl [1, 2, 3, 4, 0] rfl)
        · replace hf := o_pos c_3 hf
          refine lv_aload_n hx hb d_Model_latest_25 rfl (lv_at hl 0 rfl) ?_
          refine va_get (D := (dC, dI)) (ci := 7) (v := .ref h_rowMinute) (C := R_Model) (T := T_Model) (N := 34) hx hb hT i_Model hown hK hP 0 rfl rfl 3 (by decide) (hT _ kF_Model_13) (fun _ h9 => h9) rfl d_Model_latest_26 ?_
          refine lv_iload hx hb d_Model_latest_29 (lv_at hl 4 rfl) ?_
          obtain ⟨hi_4, hf⟩ := o_in hf
          refine va_iald hx hb hK hP 2 0 rfl rfl hi_4 d_Model_latest_31 ?_
          refine lv_iload_n hx hb d_Model_latest_32 rfl (lv_at hl 2 rfl) ?_
          refine lv_icmp_gt (tgt := 39) hx hb d_Model_latest_33 (by decide) (fun c_5 => ?_) (fun c_5 => ?_)
          · replace hf := o_pos c_5 hf
            refine lv_iinc (v := l4_5 + 1) (lv' := [(4, .int (l4_5 + 1)), (0, .ref h_this), (1, .int p1), (2, .int p2), (3, .int l3_5)]) hx hb d_Model_latest_39 hl (k := 4) rfl rfl (by decide) rfl (fun ls hl => ?_)
            refine lv_goto (tgt := 5) hx hb d_Model_latest_42 (by decide) ?_
            exact ih l3_5 (l4_5 + 1) H locs ls hf hP hD hS (lv_sub hl [1, 2, 3, 4, 0] rfl)
          · replace hf := o_neg c_5 hf
            refine lv_iload hx hb d_Model_latest_36 (lv_at hl 4 rfl) ?_
            refine lv_istore_n (lv' := [(3, .int l4_5), (0, .ref h_this), (1, .int p1), (2, .int p2), (4, .int l4_5)]) hx hb d_Model_latest_38 rfl hl (by decide) rfl (fun ls hl => ?_)
            refine lv_iinc (v := l4_5 + 1) (lv' := [(4, .int (l4_5 + 1)), (3, .int l4_5), (0, .ref h_this), (1, .int p1), (2, .int p2)]) hx hb d_Model_latest_39 hl (k := 4) rfl rfl (by decide) rfl (fun ls hl => ?_)
            refine lv_goto (tgt := 5) hx hb d_Model_latest_42 (by decide) ?_
            exact ih l4_5 (l4_5 + 1) H locs ls hf hP hD hS (lv_sub hl [2, 3, 4, 1, 0] rfl)
  refine lp_5  fu ((-1)) 0 H locs ls hf hP hD hS (lv_sub hl [2, 3, 4, 1, 0] rfl)
def rm_Model_row : Room := { frames := 2, cells := 0, slots := 0, locals := 45 }
set_option maxHeartbeats 4000000 in
set_option maxRecDepth 100000 in
theorem c_Model_row (l : Launch) (dC : Nat → ClassId) (dI : Nat → Nat → Nat) (cI cL cC : ClassId) (h_this h_rowPoint h_rowMinute h_rowValue h_text h_kinds h_values h_names h_testCounts h_minutes h_costs h_sorts h_firsts h_seconds h_relations h_numbers h_last h_before h_heldCounts h_streaks h_faultRule h_faultBegin h_faultEnd h_order h_left h_brings : Nat) (sz : Nat) (fu : Nat) (v_thrown : Int32) (v_rows : Int32) (v_size : Int32) (v_words : Int32) (v_at : Int32) (v_ruleCount : Int32) (v_ran : Int32) (v_faults : Int32) (v_leftCount : Int32) (v_rowPoint : Nat → Int32) (v_rowMinute : Nat → Int32) (v_rowValue : Nat → Int32) (p1 : Int32) (p2 : Int32) (p3 : Int32) (t : Int32 × Int32 × Int32 × (Nat → Int32) × (Nat → Int32) × (Nat → Int32)) (hf : f_Model_row fu v_thrown v_rows v_rowPoint v_rowMinute v_rowValue p1 p2 p3 = some t) : Met l y_Model_row (Cond.code y_Model_row prog_9_method_7_code 6 (some .int) :: xT) rm_Model_row (va_Pc [.ref h_this, .int p1, .int p2, .int p3] (xP (dC, dI) (xTy cI cL cC) [(h_this, .inr (7, [.int v_thrown, .int v_rows, .ref h_rowPoint, .ref h_rowMinute, .ref h_rowValue, .ref h_text, .int v_size, .ref h_kinds, .ref h_values, .int v_words, .int v_at, .ref h_names, .ref h_testCounts, .ref h_minutes, .ref h_costs, .ref h_sorts, .ref h_firsts, .ref h_seconds, .ref h_relations, .ref h_numbers, .int v_ruleCount, .ref h_last, .ref h_before, .int v_ran, .ref h_heldCounts, .ref h_streaks, .int v_faults, .ref h_faultRule, .ref h_faultBegin, .ref h_faultEnd, .ref h_order, .ref h_left, .int v_leftCount, .ref h_brings])), (h_rowPoint, .inl (cI, 120, .inl v_rowPoint)), (h_rowMinute, .inl (cI, 120, .inl v_rowMinute)), (h_rowValue, .inl (cI, 120, .inl v_rowValue))] sz)) (xQ (dC, dI) [(h_this, .inr (7, [.int t.2.1, .int t.2.2.1, .ref h_rowPoint, .ref h_rowMinute, .ref h_rowValue, .ref h_text, .int v_size, .ref h_kinds, .ref h_values, .int v_words, .int v_at, .ref h_names, .ref h_testCounts, .ref h_minutes, .ref h_costs, .ref h_sorts, .ref h_firsts, .ref h_seconds, .ref h_relations, .ref h_numbers, .int v_ruleCount, .ref h_last, .ref h_before, .int v_ran, .ref h_heldCounts, .ref h_streaks, .int v_faults, .ref h_faultRule, .ref h_faultBegin, .ref h_faultEnd, .ref h_order, .ref h_left, .int v_leftCount, .ref h_brings])), (h_rowPoint, .inl (cI, 120, .inl t.2.2.2.1)), (h_rowMinute, .inl (cI, 120, .inl t.2.2.2.2.1)), (h_rowValue, .inl (cI, 120, .inl t.2.2.2.2.2))] (va_A [(h_this, .inr (7, [.int v_thrown, .int v_rows, .ref h_rowPoint, .ref h_rowMinute, .ref h_rowValue, .ref h_text, .int v_size, .ref h_kinds, .ref h_values, .int v_words, .int v_at, .ref h_names, .ref h_testCounts, .ref h_minutes, .ref h_costs, .ref h_sorts, .ref h_firsts, .ref h_seconds, .ref h_relations, .ref h_numbers, .int v_ruleCount, .ref h_last, .ref h_before, .int v_ran, .ref h_heldCounts, .ref h_streaks, .int v_faults, .ref h_faultRule, .ref h_faultBegin, .ref h_faultEnd, .ref h_order, .ref h_left, .int v_leftCount, .ref h_brings])), (h_rowPoint, .inl (cI, 120, .inl v_rowPoint)), (h_rowMinute, .inl (cI, 120, .inl v_rowMinute)), (h_rowValue, .inl (cI, 120, .inl v_rowValue))] sz) (some (.int t.1))) 0 0 (va_A [(h_this, .inr (7, [.int v_thrown, .int v_rows, .ref h_rowPoint, .ref h_rowMinute, .ref h_rowValue, .ref h_text, .int v_size, .ref h_kinds, .ref h_values, .int v_words, .int v_at, .ref h_names, .ref h_testCounts, .ref h_minutes, .ref h_costs, .ref h_sorts, .ref h_firsts, .ref h_seconds, .ref h_relations, .ref h_numbers, .int v_ruleCount, .ref h_last, .ref h_before, .int v_ran, .ref h_heldCounts, .ref h_streaks, .int v_faults, .ref h_faultRule, .ref h_faultBegin, .ref h_faultEnd, .ref h_order, .ref h_left, .int v_leftCount, .ref h_brings])), (h_rowPoint, .inl (cI, 120, .inl v_rowPoint)), (h_rowMinute, .inl (cI, 120, .inl v_rowMinute)), (h_rowValue, .inl (cI, 120, .inl v_rowValue))] sz) := by
  refine Met.ofW (cc := prog_9_method_7_code) (maxL := 6) (ret := (some .int)) (by decide) rfl ?_
  intro p e s m args below meth c s₁ B hml hv
  obtain ⟨hargs, hsz, hP, hK, hN, hD0⟩ := hv
  have hx := B.exec
  have hb := B.bytes
  have hr := B.returns
  have hT : ∀ w ∈ xT, w.before args s = true := fun w hw => atoms_spec (ws := Cond.code y_Model_row prog_9_method_7_code 6 (some .int) :: xT) B.pre w (List.mem_cons_of_mem _ hw)
  have hown : s.vm.findClass R_Model = some m.cls := findClass_of_methodNamed B.named
  have hlocks := B.notSynchronized
  subst hsz
  have hD := hD0.self (sz := s.heap.size)
  generalize hAe : va_A [(h_this, .inr (7, [.int v_thrown, .int v_rows, .ref h_rowPoint, .ref h_rowMinute, .ref h_rowValue, .ref h_text, .int v_size, .ref h_kinds, .ref h_values, .int v_words, .int v_at, .ref h_names, .ref h_testCounts, .ref h_minutes, .ref h_costs, .ref h_sorts, .ref h_firsts, .ref h_seconds, .ref h_relations, .ref h_numbers, .int v_ruleCount, .ref h_last, .ref h_before, .int v_ran, .ref h_heldCounts, .ref h_streaks, .int v_faults, .ref h_faultRule, .ref h_faultBegin, .ref h_faultEnd, .ref h_order, .ref h_left, .int v_leftCount, .ref h_brings])), (h_rowPoint, .inl (cI, 120, .inl v_rowPoint)), (h_rowMinute, .inl (cI, 120, .inl v_rowMinute)), (h_rowValue, .inl (cI, 120, .inl v_rowValue))] s.heap.size = A at hD ⊢
  have hA : ∀ q : Nat, s.heap.size ≤ q → A q := fun q h => by rw [← hAe]; exact Or.inr h
  have hS : va_S A s.heap s.heap [] := va_S.rf
  have hP : va_P (dC, dI) vwCl [(h_this, .inr (7, [.int v_thrown, .int v_rows, .ref h_rowPoint, .ref h_rowMinute, .ref h_rowValue, .ref h_text, .int v_size, .ref h_kinds, .ref h_values, .int v_words, .int v_at, .ref h_names, .ref h_testCounts, .ref h_minutes, .ref h_costs, .ref h_sorts, .ref h_firsts, .ref h_seconds, .ref h_relations, .ref h_numbers, .int v_ruleCount, .ref h_last, .ref h_before, .int v_ran, .ref h_heldCounts, .ref h_streaks, .int v_faults, .ref h_faultRule, .ref h_faultBegin, .ref h_faultEnd, .ref h_order, .ref h_left, .int v_leftCount, .ref h_brings])), (h_rowPoint, .inl (cI, 120, .inl v_rowPoint)), (h_rowMinute, .inl (cI, 120, .inl v_rowMinute)), (h_rowValue, .inl (cI, 120, .inl v_rowValue))] s.heap := hP
  have hl := lv_entry ([.ref h_this, .int p1, .int p2, .int p3]) (n := 6) (Nat.le_of_ble_eq_true rfl)
  rw [show entryFrame m args 6 = entryFrame m ([.ref h_this, .int p1, .int p2, .int p3] : List Value).toArray 6 from by rw [hargs], lg_entry_eq]
  generalize (lg_sl ([.ref h_this, .int p1, .int p2, .int p3]) ++ List.replicate (6 - (lg_sl ([.ref h_this, .int p1, .int p2, .int p3])).length) Slot.unset).toArray = ls at hl ⊢
  have hl : lv_has ls 6 [(0, .ref h_this), (1, .int p1), (2, .int p2), (3, .int p3)] := hl
  obtain ⟨Q, hQ⟩ : ∃ Q, Q = MQ below (xQ (dC, dI) [(h_this, .inr (7, [.int t.2.1, .int t.2.2.1, .ref h_rowPoint, .ref h_rowMinute, .ref h_rowValue, .ref h_text, .int v_size, .ref h_kinds, .ref h_values, .int v_words, .int v_at, .ref h_names, .ref h_testCounts, .ref h_minutes, .ref h_costs, .ref h_sorts, .ref h_firsts, .ref h_seconds, .ref h_relations, .ref h_numbers, .int v_ruleCount, .ref h_last, .ref h_before, .int v_ran, .ref h_heldCounts, .ref h_streaks, .int v_faults, .ref h_faultRule, .ref h_faultBegin, .ref h_faultEnd, .ref h_order, .ref h_left, .int v_leftCount, .ref h_brings])), (h_rowPoint, .inl (cI, 120, .inl t.2.2.2.1)), (h_rowMinute, .inl (cI, 120, .inl t.2.2.2.2.1)), (h_rowValue, .inl (cI, 120, .inl t.2.2.2.2.2))] A (some (.int t.1))) args s 0 0 A := ⟨_, rfl⟩
  rw [← hQ]
  show W p l e rm_Model_row s m args below meth c s.heap [] 0 0 Q _
  obtain ⟨H, hH⟩ : ∃ H, H = s.heap := ⟨_, rfl⟩
  obtain ⟨locs, hlocs⟩ : ∃ L : List Loc, L = [] := ⟨_, rfl⟩
  rw [← hlocs] at hS ⊢
  have hS : va_S A s.heap H locs := by rw [hH]; exact hS
  rw [← hH] at hP ⊢
  replace hf := f_Model_row_u hf
  refine lv_aload_n hx hb d_Model_row_0 rfl (lv_at hl 0 rfl) ?_
  refine lv_iload_n hx hb d_Model_row_1 rfl (lv_at hl 1 rfl) ?_
  obtain ⟨t_1, hg_1, hf⟩ := o_bind hf
  refine x_stat (w' := [(h_this, .inr (7, [.int v_thrown, .int v_rows, .ref h_rowPoint, .ref h_rowMinute, .ref h_rowValue, .ref h_text, .int v_size, .ref h_kinds, .ref h_values, .int v_words, .int v_at, .ref h_names, .ref h_testCounts, .ref h_minutes, .ref h_costs, .ref h_sorts, .ref h_firsts, .ref h_seconds, .ref h_relations, .ref h_numbers, .int v_ruleCount, .ref h_last, .ref h_before, .int v_ran, .ref h_heldCounts, .ref h_streaks, .int v_faults, .ref h_faultRule, .ref h_faultBegin, .ref h_faultEnd, .ref h_order, .ref h_left, .int v_leftCount, .ref h_brings])), (h_rowPoint, .inl (cI, 120, .inl v_rowPoint)), (h_rowMinute, .inl (cI, 120, .inl v_rowMinute)), (h_rowValue, .inl (cI, 120, .inl v_rowValue))]) (As := [.int p1]) (rest := [.ref h_this]) hx hb hml hl.1 hown hT hK hN hP hD hS hA (c_Model_isPoint l dC dI cI cL cC H.size p1 t_1 hg_1) kM_Model_101 kT_Model_isPoint kN_Model kC_Model_isPoint hd_Model_isPoint rfl ⟨Nat.le_of_ble_eq_true rfl, Nat.le_of_ble_eq_true rfl⟩ rfl rfl ⟨Nat.zero_le _, Nat.zero_le _⟩ rfl (Nat.le_of_ble_eq_true rfl) d_Model_row_2 [] rfl rfl [.inl 0, .inl 1, .inl 2, .inl 3] rfl rfl rfl (fun H locs hP hD hS => ?_)
  have jn_47 : ∀ (s1_j47 : Int32) (H : Heap) (locs : List Loc) (ls : Array Slot), J_Model_row_47 fu v_thrown v_rows v_rowPoint v_rowMinute v_rowValue p1 p2 p3 s1_j47 = some t → va_P (dC, dI) vwCl [(h_this, .inr (7, [.int v_thrown, .int v_rows, .ref h_rowPoint, .ref h_rowMinute, .ref h_rowValue, .ref h_text, .int v_size, .ref h_kinds, .ref h_values, .int v_words, .int v_at, .ref h_names, .ref h_testCounts, .ref h_minutes, .ref h_costs, .ref h_sorts, .ref h_firsts, .ref h_seconds, .ref h_relations, .ref h_numbers, .int v_ruleCount, .ref h_last, .ref h_before, .int v_ran, .ref h_heldCounts, .ref h_streaks, .int v_faults, .ref h_faultRule, .ref h_faultBegin, .ref h_faultEnd, .ref h_order, .ref h_left, .int v_leftCount, .ref h_brings])), (h_rowPoint, .inl (cI, 120, .inl v_rowPoint)), (h_rowMinute, .inl (cI, 120, .inl v_rowMinute)), (h_rowValue, .inl (cI, 120, .inl v_rowValue))] H → va_D A [(h_this, .inr (7, [.int v_thrown, .int v_rows, .ref h_rowPoint, .ref h_rowMinute, .ref h_rowValue, .ref h_text, .int v_size, .ref h_kinds, .ref h_values, .int v_words, .int v_at, .ref h_names, .ref h_testCounts, .ref h_minutes, .ref h_costs, .ref h_sorts, .ref h_firsts, .ref h_seconds, .ref h_relations, .ref h_numbers, .int v_ruleCount, .ref h_last, .ref h_before, .int v_ran, .ref h_heldCounts, .ref h_streaks, .int v_faults, .ref h_faultRule, .ref h_faultBegin, .ref h_faultEnd, .ref h_order, .ref h_left, .int v_leftCount, .ref h_brings])), (h_rowPoint, .inl (cI, 120, .inl v_rowPoint)), (h_rowMinute, .inl (cI, 120, .inl v_rowMinute)), (h_rowValue, .inl (cI, 120, .inl v_rowValue))] → va_S A s.heap H locs → lv_has ls 6 [(0, .ref h_this), (1, .int p1), (2, .int p2), (3, .int p3)] → W p l e rm_Model_row s m args below meth c H locs 0 0 Q (F0 m 47 ls [.int s1_j47, .ref h_this]) := by
    intro s1_j47 H locs ls hf hP hD hS hl
    replace hf := J_Model_row_47_u hf
    refine va_put (D := (dC, dI)) (ci := 7) (v := .int s1_j47) (ty := .int) (C := R_Model) (T := T_Model) (N := 34) hx hb hT i_Model ty_Model ty_Model_ok n_Model hown hK hP hD hS 0 rfl rfl 0 (by decide) (hT _ kF_Model_86) (fun _ h9 => h9) rfl (by decide +kernel) rfl rfl (Nat.le_of_ble_eq_true rfl) d_Model_row_47 (fun H locs hP hD hS => ?_)
    have hP : va_P (dC, dI) vwCl [(h_this, .inr (7, [.int s1_j47, .int v_rows, .ref h_rowPoint, .ref h_rowMinute, .ref h_rowValue, .ref h_text, .int v_size, .ref h_kinds, .ref h_values, .int v_words, .int v_at, .ref h_names, .ref h_testCounts, .ref h_minutes, .ref h_costs, .ref h_sorts, .ref h_firsts, .ref h_seconds, .ref h_relations, .ref h_numbers, .int v_ruleCount, .ref h_last, .ref h_before, .int v_ran, .ref h_heldCounts, .ref h_streaks, .int v_faults, .ref h_faultRule, .ref h_faultBegin, .ref h_faultEnd, .ref h_order, .ref h_left, .int v_leftCount, .ref h_brings])), (h_rowPoint, .inl (cI, 120, .inl v_rowPoint)), (h_rowMinute, .inl (cI, 120, .inl v_rowMinute)), (h_rowValue, .inl (cI, 120, .inl v_rowValue))] H := hP
    have hD : va_D A [(h_this, .inr (7, [.int s1_j47, .int v_rows, .ref h_rowPoint, .ref h_rowMinute, .ref h_rowValue, .ref h_text, .int v_size, .ref h_kinds, .ref h_values, .int v_words, .int v_at, .ref h_names, .ref h_testCounts, .ref h_minutes, .ref h_costs, .ref h_sorts, .ref h_firsts, .ref h_seconds, .ref h_relations, .ref h_numbers, .int v_ruleCount, .ref h_last, .ref h_before, .int v_ran, .ref h_heldCounts, .ref h_streaks, .int v_faults, .ref h_faultRule, .ref h_faultBegin, .ref h_faultEnd, .ref h_order, .ref h_left, .int v_leftCount, .ref h_brings])), (h_rowPoint, .inl (cI, 120, .inl v_rowPoint)), (h_rowMinute, .inl (cI, 120, .inl v_rowMinute)), (h_rowValue, .inl (cI, 120, .inl v_rowValue))] := hD
    refine lv_aload_n hx hb d_Model_row_50 rfl (lv_at hl 0 rfl) ?_
    refine va_get (D := (dC, dI)) (ci := 7) (v := .int s1_j47) (C := R_Model) (T := T_Model) (N := 34) hx hb hT i_Model hown hK hP 0 rfl rfl 0 (by decide) (hT _ kF_Model_86) (fun _ h9 => h9) rfl d_Model_row_51 ?_
    refine lv_iconst (v := 1) hx hb d_Model_row_54 (by decide) ?_
    refine lv_icmp_ne (tgt := 60) hx hb d_Model_row_55 (by decide) (fun c_2 => ?_) (fun c_2 => ?_)
    · replace hf := o_neg c_2 hf
      refine lv_iconst (v := 1) hx hb d_Model_row_60 (by decide) ?_
      refine lv_istore (lv' := [(4, .int 1), (0, .ref h_this), (1, .int p1), (2, .int p2), (3, .int p3)]) hx hb d_Model_row_61 hl (by decide) rfl (fun ls hl => ?_)
      refine lv_iconst (v := 0) hx hb d_Model_row_63 (by decide) ?_
      refine lv_istore (lv' := [(5, .int 0), (4, .int 1), (0, .ref h_this), (1, .int p1), (2, .int p2), (3, .int p3)]) hx hb d_Model_row_64 hl (by decide) rfl (fun ls hl => ?_)
      have lp_66 : ∀ (k_118 : Int32 → (Int32) → Option (Int32 × Int32 × Int32 × (Nat → Int32) × (Nat → Int32) × (Nat → Int32))) (hk_118 : ∀ (l4_66e : Int32) (v_thrown_66e : Int32) (H : Heap) (locs : List Loc) (ls : Array Slot), k_118 l4_66e v_thrown_66e = some t → va_P (dC, dI) vwCl [(h_this, .inr (7, [.int v_thrown_66e, .int v_rows, .ref h_rowPoint, .ref h_rowMinute, .ref h_rowValue, .ref h_text, .int v_size, .ref h_kinds, .ref h_values, .int v_words, .int v_at, .ref h_names, .ref h_testCounts, .ref h_minutes, .ref h_costs, .ref h_sorts, .ref h_firsts, .ref h_seconds, .ref h_relations, .ref h_numbers, .int v_ruleCount, .ref h_last, .ref h_before, .int v_ran, .ref h_heldCounts, .ref h_streaks, .int v_faults, .ref h_faultRule, .ref h_faultBegin, .ref h_faultEnd, .ref h_order, .ref h_left, .int v_leftCount, .ref h_brings])), (h_rowPoint, .inl (cI, 120, .inl v_rowPoint)), (h_rowMinute, .inl (cI, 120, .inl v_rowMinute)), (h_rowValue, .inl (cI, 120, .inl v_rowValue))] H → va_D A [(h_this, .inr (7, [.int v_thrown_66e, .int v_rows, .ref h_rowPoint, .ref h_rowMinute, .ref h_rowValue, .ref h_text, .int v_size, .ref h_kinds, .ref h_values, .int v_words, .int v_at, .ref h_names, .ref h_testCounts, .ref h_minutes, .ref h_costs, .ref h_sorts, .ref h_firsts, .ref h_seconds, .ref h_relations, .ref h_numbers, .int v_ruleCount, .ref h_last, .ref h_before, .int v_ran, .ref h_heldCounts, .ref h_streaks, .int v_faults, .ref h_faultRule, .ref h_faultBegin, .ref h_faultEnd, .ref h_order, .ref h_left, .int v_leftCount, .ref h_brings])), (h_rowPoint, .inl (cI, 120, .inl v_rowPoint)), (h_rowMinute, .inl (cI, 120, .inl v_rowMinute)), (h_rowValue, .inl (cI, 120, .inl v_rowValue))] → va_S A s.heap H locs → lv_has ls 6 [(0, .ref h_this), (1, .int p1), (2, .int p2), (3, .int p3), (4, .int l4_66e)] → W p l e rm_Model_row s m args below meth c H locs 0 0 Q (F0 m 118 ls [])), ∀ (n : Nat) (l4_66 : Int32) (l5_66 : Int32) (v_thrown_66 : Int32) (H : Heap) (locs : List Loc) (ls : Array Slot), L_Model_row_66 fu v_rows v_rowPoint v_rowMinute p1 p2 p3 k_118 n l4_66 l5_66 v_thrown_66 = some t → va_P (dC, dI) vwCl [(h_this, .inr (7, [.int v_thrown_66, .int v_rows, .ref h_rowPoint, .ref h_rowMinute, .ref h_rowValue, .ref h_text, .int v_size, .ref h_kinds, .ref h_values, .int v_words, .int v_at, .ref h_names, .ref h_testCounts, .ref h_minutes, .ref h_costs, .ref h_sorts, .ref h_firsts, .ref h_seconds, .ref h_relations, .ref h_numbers, .int v_ruleCount, .ref h_last, .ref h_before, .int v_ran, .ref h_heldCounts, .ref h_streaks, .int v_faults, .ref h_faultRule, .ref h_faultBegin, .ref h_faultEnd, .ref h_order, .ref h_left, .int v_leftCount, .ref h_brings])), (h_rowPoint, .inl (cI, 120, .inl v_rowPoint)), (h_rowMinute, .inl (cI, 120, .inl v_rowMinute)), (h_rowValue, .inl (cI, 120, .inl v_rowValue))] H → va_D A [(h_this, .inr (7, [.int v_thrown_66, .int v_rows, .ref h_rowPoint, .ref h_rowMinute, .ref h_rowValue, .ref h_text, .int v_size, .ref h_kinds, .ref h_values, .int v_words, .int v_at, .ref h_names, .ref h_testCounts, .ref h_minutes, .ref h_costs, .ref h_sorts, .ref h_firsts, .ref h_seconds, .ref h_relations, .ref h_numbers, .int v_ruleCount, .ref h_last, .ref h_before, .int v_ran, .ref h_heldCounts, .ref h_streaks, .int v_faults, .ref h_faultRule, .ref h_faultBegin, .ref h_faultEnd, .ref h_order, .ref h_left, .int v_leftCount, .ref h_brings])), (h_rowPoint, .inl (cI, 120, .inl v_rowPoint)), (h_rowMinute, .inl (cI, 120, .inl v_rowMinute)), (h_rowValue, .inl (cI, 120, .inl v_rowValue))] → va_S A s.heap H locs → lv_has ls 6 [(0, .ref h_this), (1, .int p1), (2, .int p2), (3, .int p3), (4, .int l4_66), (5, .int l5_66)] → W p l e rm_Model_row s m args below meth c H locs 0 0 Q (F0 m 66 ls []) := by
        intro k_118 hk_118 n
        induction n with
        | zero => intro l4_66 l5_66 v_thrown_66 H locs ls hf; exact (L_Model_row_66_z hf).elim
        | succ n ih =>
          intro l4_66 l5_66 v_thrown_66 H locs ls hf hP hD hS hl
          replace hf := L_Model_row_66_u hf
          refine lv_iload hx hb d_Model_row_66 (lv_at hl 5 rfl) ?_
          refine lv_aload_n hx hb d_Model_row_68 rfl (lv_at hl 0 rfl) ?_
          refine va_get (D := (dC, dI)) (ci := 7) (v := .int v_rows) (C := R_Model) (T := T_Model) (N := 34) hx hb hT i_Model hown hK hP 0 rfl rfl 1 (by decide) (hT _ kF_Model_98) (fun _ h9 => h9) rfl d_Model_row_69 ?_
          refine lv_icmp_ge (tgt := 118) hx hb d_Model_row_72 (by decide) (fun c_3 => ?_) (fun c_3 => ?_)
          · replace hf := o_pos c_3 hf
            exact hk_118 l4_66 v_thrown_66 H locs ls hf hP hD hS (lv_sub hl [0, 1, 2, 3, 4] rfl)
          · replace hf := o_neg c_3 hf
            refine lv_aload_n hx hb d_Model_row_75 rfl (lv_at hl 0 rfl) ?_
            refine va_get (D := (dC, dI)) (ci := 7) (v := .ref h_rowPoint) (C := R_Model) (T := T_Model) (N := 34) hx hb hT i_Model hown hK hP 0 rfl rfl 2 (by decide) (hT _ kF_Model_7) (fun _ h9 => h9) rfl d_Model_row_76 ?_
            refine lv_iload hx hb d_Model_row_79 (lv_at hl 5 rfl) ?_
            obtain ⟨hi_4, hf⟩ := o_in hf
            refine va_iald hx hb hK hP 1 0 rfl rfl hi_4 d_Model_row_81 ?_
            refine lv_iload_n hx hb d_Model_row_82 rfl (lv_at hl 1 rfl) ?_
            refine lv_icmp_ne (tgt := 112) hx hb d_Model_row_83 (by decide) (fun c_5 => ?_) (fun c_5 => ?_)
            · replace hf := o_neg c_5 hf
              refine lv_iinc (v := l5_66 + 1) (lv' := [(5, .int (l5_66 + 1)), (0, .ref h_this), (1, .int p1), (2, .int p2), (3, .int p3), (4, .int l4_66)]) hx hb d_Model_row_112 hl (k := 5) rfl rfl (by decide) rfl (fun ls hl => ?_)
              refine lv_goto (tgt := 66) hx hb d_Model_row_115 (by decide) ?_
              exact ih l4_66 (l5_66 + 1) v_thrown_66 H locs ls hf hP hD hS (lv_sub hl [1, 2, 3, 4, 5, 0] rfl)
            · replace hf := o_pos c_5 hf
              refine lv_iinc (v := l4_66 + 1) (lv' := [(4, .int (l4_66 + 1)), (0, .ref h_this), (1, .int p1), (2, .int p2), (3, .int p3), (5, .int l5_66)]) hx hb d_Model_row_86 hl (k := 4) rfl rfl (by decide) rfl (fun ls hl => ?_)
              refine lv_aload_n hx hb d_Model_row_89 rfl (lv_at hl 1 rfl) ?_
              refine lv_aload_n hx hb d_Model_row_90 rfl (lv_at hl 1 rfl) ?_
              refine va_get (D := (dC, dI)) (ci := 7) (v := .ref h_rowMinute) (C := R_Model) (T := T_Model) (N := 34) hx hb hT i_Model hown hK hP 0 rfl rfl 3 (by decide) (hT _ kF_Model_13) (fun _ h9 => h9) rfl d_Model_row_91 ?_
              refine lv_iload hx hb d_Model_row_94 (lv_at hl 5 rfl) ?_
              obtain ⟨hi_6, hf⟩ := o_in hf
              refine va_iald hx hb hK hP 2 0 rfl rfl hi_6 d_Model_row_96 ?_
              refine lv_iload_n hx hb d_Model_row_97 rfl (lv_at hl 3 rfl) ?_
              refine lv_icmp_lt (tgt := 105) hx hb d_Model_row_98 (by decide) (fun c_7 => ?_) (fun c_7 => ?_)
              · replace hf := o_pos c_7 hf
                refine lv_aload_n hx hb d_Model_row_105 rfl (lv_at hl 1 rfl) ?_
                refine va_get (D := (dC, dI)) (ci := 7) (v := .int v_thrown_66) (C := R_Model) (T := T_Model) (N := 34) hx hb hT i_Model hown hK hP 0 rfl rfl 0 (by decide) (hT _ kF_Model_86) (fun _ h9 => h9) rfl d_Model_row_106 ?_
                refine va_put (D := (dC, dI)) (ci := 7) (v := .int v_thrown_66) (ty := .int) (C := R_Model) (T := T_Model) (N := 34) hx hb hT i_Model ty_Model ty_Model_ok n_Model hown hK hP hD hS 0 rfl rfl 0 (by decide) (hT _ kF_Model_86) (fun _ h9 => h9) rfl (by decide +kernel) rfl rfl (Nat.le_of_ble_eq_true rfl) d_Model_row_109 (fun H locs hP hD hS => ?_)
                have hP : va_P (dC, dI) vwCl [(h_this, .inr (7, [.int v_thrown_66, .int v_rows, .ref h_rowPoint, .ref h_rowMinute, .ref h_rowValue, .ref h_text, .int v_size, .ref h_kinds, .ref h_values, .int v_words, .int v_at, .ref h_names, .ref h_testCounts, .ref h_minutes, .ref h_costs, .ref h_sorts, .ref h_firsts, .ref h_seconds, .ref h_relations, .ref h_numbers, .int v_ruleCount, .ref h_last, .ref h_before, .int v_ran, .ref h_heldCounts, .ref h_streaks, .int v_faults, .ref h_faultRule, .ref h_faultBegin, .ref h_faultEnd, .ref h_order, .ref h_left, .int v_leftCount, .ref h_brings])), (h_rowPoint, .inl (cI, 120, .inl v_rowPoint)), (h_rowMinute, .inl (cI, 120, .inl v_rowMinute)), (h_rowValue, .inl (cI, 120, .inl v_rowValue))] H := hP
                have hD : va_D A [(h_this, .inr (7, [.int v_thrown_66, .int v_rows, .ref h_rowPoint, .ref h_rowMinute, .ref h_rowValue, .ref h_text, .int v_size, .ref h_kinds, .ref h_values, .int v_words, .int v_at, .ref h_names, .ref h_testCounts, .ref h_minutes, .ref h_costs, .ref h_sorts, .ref h_firsts, .ref h_seconds, .ref h_relations, .ref h_numbers, .int v_ruleCount, .ref h_last, .ref h_before, .int v_ran, .ref h_heldCounts, .ref h_streaks, .int v_faults, .ref h_faultRule, .ref h_faultBegin, .ref h_faultEnd, .ref h_order, .ref h_left, .int v_leftCount, .ref h_brings])), (h_rowPoint, .inl (cI, 120, .inl v_rowPoint)), (h_rowMinute, .inl (cI, 120, .inl v_rowMinute)), (h_rowValue, .inl (cI, 120, .inl v_rowValue))] := hD
                refine lv_iinc (v := l5_66 + 1) (lv' := [(5, .int (l5_66 + 1)), (4, .int (l4_66 + 1)), (0, .ref h_this), (1, .int p1), (2, .int p2), (3, .int p3)]) hx hb d_Model_row_112 hl (k := 5) rfl rfl (by decide) rfl (fun ls hl => ?_)
                refine lv_goto (tgt := 66) hx hb d_Model_row_115 (by decide) ?_
                exact ih (l4_66 + 1) (l5_66 + 1) v_thrown_66 H locs ls hf hP hD hS (lv_sub hl [2, 3, 4, 5, 1, 0] rfl)
              · replace hf := o_neg c_7 hf
                refine lv_iconst (v := 2) hx hb d_Model_row_101 (by decide) ?_
                refine lv_goto (tgt := 109) hx hb d_Model_row_102 (by decide) ?_
                refine va_put (D := (dC, dI)) (ci := 7) (v := .int 2) (ty := .int) (C := R_Model) (T := T_Model) (N := 34) hx hb hT i_Model ty_Model ty_Model_ok n_Model hown hK hP hD hS 0 rfl rfl 0 (by decide) (hT _ kF_Model_86) (fun _ h9 => h9) rfl (by decide +kernel) rfl rfl (Nat.le_of_ble_eq_true rfl) d_Model_row_109 (fun H locs hP hD hS => ?_)
                have hP : va_P (dC, dI) vwCl [(h_this, .inr (7, [.int 2, .int v_rows, .ref h_rowPoint, .ref h_rowMinute, .ref h_rowValue, .ref h_text, .int v_size, .ref h_kinds, .ref h_values, .int v_words, .int v_at, .ref h_names, .ref h_testCounts, .ref h_minutes, .ref h_costs, .ref h_sorts, .ref h_firsts, .ref h_seconds, .ref h_relations, .ref h_numbers, .int v_ruleCount, .ref h_last, .ref h_before, .int v_ran, .ref h_heldCounts, .ref h_streaks, .int v_faults, .ref h_faultRule, .ref h_faultBegin, .ref h_faultEnd, .ref h_order, .ref h_left, .int v_leftCount, .ref h_brings])), (h_rowPoint, .inl (cI, 120, .inl v_rowPoint)), (h_rowMinute, .inl (cI, 120, .inl v_rowMinute)), (h_rowValue, .inl (cI, 120, .inl v_rowValue))] H := hP
                have hD : va_D A [(h_this, .inr (7, [.int 2, .int v_rows, .ref h_rowPoint, .ref h_rowMinute, .ref h_rowValue, .ref h_text, .int v_size, .ref h_kinds, .ref h_values, .int v_words, .int v_at, .ref h_names, .ref h_testCounts, .ref h_minutes, .ref h_costs, .ref h_sorts, .ref h_firsts, .ref h_seconds, .ref h_relations, .ref h_numbers, .int v_ruleCount, .ref h_last, .ref h_before, .int v_ran, .ref h_heldCounts, .ref h_streaks, .int v_faults, .ref h_faultRule, .ref h_faultBegin, .ref h_faultEnd, .ref h_order, .ref h_left, .int v_leftCount, .ref h_brings])), (h_rowPoint, .inl (cI, 120, .inl v_rowPoint)), (h_rowMinute, .inl (cI, 120, .inl v_rowMinute)), (h_rowValue, .inl (cI, 120, .inl v_rowValue))] := hD
                refine lv_iinc (v := l5_66 + 1) (lv' := [(5, .int (l5_66 + 1)), (4, .int (l4_66 + 1)), (0, .ref h_this), (1, .int p1), (2, .int p2), (3, .int p3)]) hx hb d_Model_row_112 hl (k := 5) rfl rfl (by decide) rfl (fun ls hl => ?_)
                refine lv_goto (tgt := 66) hx hb d_Model_row_115 (by decide) ?_
                exact ih (l4_66 + 1) (l5_66 + 1) 2 H locs ls hf hP hD hS (lv_sub hl [2, 3, 4, 5, 1, 0] rfl)
      refine lp_66 _ (fun l4_66e v_thrown_66e H locs ls hf hP hD hS hl => ?_) fu 1 0 s1_j47 H locs ls hf hP hD hS (lv_sub hl [2, 3, 4, 5, 1, 0] rfl)
      refine lv_aload_n hx hb d_Model_row_118 rfl (lv_at hl 0 rfl) ?_
      refine va_get (D := (dC, dI)) (ci := 7) (v := .int v_thrown_66e) (C := R_Model) (T := T_Model) (N := 34) hx hb hT i_Model hown hK hP 0 rfl rfl 0 (by decide) (hT _ kF_Model_86) (fun _ h9 => h9) rfl d_Model_row_119 ?_
      refine lv_if_le (tgt := 127) hx hb d_Model_row_122 (by decide) (fun c_8 => ?_) (fun c_8 => ?_)
      · replace hf := o_pos c_8 hf
        refine lv_aload_n hx hb d_Model_row_127 rfl (lv_at hl 0 rfl) ?_
        refine va_get (D := (dC, dI)) (ci := 7) (v := .ref h_rowPoint) (C := R_Model) (T := T_Model) (N := 34) hx hb hT i_Model hown hK hP 0 rfl rfl 2 (by decide) (hT _ kF_Model_7) (fun _ h9 => h9) rfl d_Model_row_128 ?_
        refine lv_aload_n hx hb d_Model_row_131 rfl (lv_at hl 0 rfl) ?_
        refine va_get (D := (dC, dI)) (ci := 7) (v := .int v_rows) (C := R_Model) (T := T_Model) (N := 34) hx hb hT i_Model hown hK hP 0 rfl rfl 1 (by decide) (hT _ kF_Model_98) (fun _ h9 => h9) rfl d_Model_row_132 ?_
        refine lv_iload_n hx hb d_Model_row_135 rfl (lv_at hl 1 rfl) ?_
        obtain ⟨hi_9, hf⟩ := o_in hf
        refine va_iast hx hb hK hP hD hS 1 0 rfl rfl hi_9 d_Model_row_136 (fun H locs hP hD hS => ?_)
        have hP : va_P (dC, dI) vwCl [(h_this, .inr (7, [.int v_thrown_66e, .int v_rows, .ref h_rowPoint, .ref h_rowMinute, .ref h_rowValue, .ref h_text, .int v_size, .ref h_kinds, .ref h_values, .int v_words, .int v_at, .ref h_names, .ref h_testCounts, .ref h_minutes, .ref h_costs, .ref h_sorts, .ref h_firsts, .ref h_seconds, .ref h_relations, .ref h_numbers, .int v_ruleCount, .ref h_last, .ref h_before, .int v_ran, .ref h_heldCounts, .ref h_streaks, .int v_faults, .ref h_faultRule, .ref h_faultBegin, .ref h_faultEnd, .ref h_order, .ref h_left, .int v_leftCount, .ref h_brings])), (h_rowPoint, .inl (cI, 120, .inl (upd v_rowPoint (v_rows : Int32).toNatClampNeg p1))), (h_rowMinute, .inl (cI, 120, .inl v_rowMinute)), (h_rowValue, .inl (cI, 120, .inl v_rowValue))] H := hP
        have hD : va_D A [(h_this, .inr (7, [.int v_thrown_66e, .int v_rows, .ref h_rowPoint, .ref h_rowMinute, .ref h_rowValue, .ref h_text, .int v_size, .ref h_kinds, .ref h_values, .int v_words, .int v_at, .ref h_names, .ref h_testCounts, .ref h_minutes, .ref h_costs, .ref h_sorts, .ref h_firsts, .ref h_seconds, .ref h_relations, .ref h_numbers, .int v_ruleCount, .ref h_last, .ref h_before, .int v_ran, .ref h_heldCounts, .ref h_streaks, .int v_faults, .ref h_faultRule, .ref h_faultBegin, .ref h_faultEnd, .ref h_order, .ref h_left, .int v_leftCount, .ref h_brings])), (h_rowPoint, .inl (cI, 120, .inl (upd v_rowPoint (v_rows : Int32).toNatClampNeg p1))), (h_rowMinute, .inl (cI, 120, .inl v_rowMinute)), (h_rowValue, .inl (cI, 120, .inl v_rowValue))] := hD
        refine lv_aload_n hx hb d_Model_row_137 rfl (lv_at hl 0 rfl) ?_
        refine va_get (D := (dC, dI)) (ci := 7) (v := .ref h_rowMinute) (C := R_Model) (T := T_Model) (N := 34) hx hb hT i_Model hown hK hP 0 rfl rfl 3 (by decide) (hT _ kF_Model_13) (fun _ h9 => h9) rfl d_Model_row_138 ?_
        refine lv_aload_n hx hb d_Model_row_141 rfl (lv_at hl 0 rfl) ?_
        refine va_get (D := (dC, dI)) (ci := 7) (v := .int v_rows) (C := R_Model) (T := T_Model) (N := 34) hx hb hT i_Model hown hK hP 0 rfl rfl 1 (by decide) (hT _ kF_Model_98) (fun _ h9 => h9) rfl d_Model_row_142 ?_
        refine lv_iload_n hx hb d_Model_row_145 rfl (lv_at hl 2 rfl) ?_
        obtain ⟨hi_10, hf⟩ := o_in hf
        refine va_iast hx hb hK hP hD hS 2 0 rfl rfl hi_10 d_Model_row_146 (fun H locs hP hD hS => ?_)
        have hP : va_P (dC, dI) vwCl [(h_this, .inr (7, [.int v_thrown_66e, .int v_rows, .ref h_rowPoint, .ref h_rowMinute, .ref h_rowValue, .ref h_text, .int v_size, .ref h_kinds, .ref h_values, .int v_words, .int v_at, .ref h_names, .ref h_testCounts, .ref h_minutes, .ref h_costs, .ref h_sorts, .ref h_firsts, .ref h_seconds, .ref h_relations, .ref h_numbers, .int v_ruleCount, .ref h_last, .ref h_before, .int v_ran, .ref h_heldCounts, .ref h_streaks, .int v_faults, .ref h_faultRule, .ref h_faultBegin, .ref h_faultEnd, .ref h_order, .ref h_left, .int v_leftCount, .ref h_brings])), (h_rowPoint, .inl (cI, 120, .inl (upd v_rowPoint (v_rows : Int32).toNatClampNeg p1))), (h_rowMinute, .inl (cI, 120, .inl (upd v_rowMinute (v_rows : Int32).toNatClampNeg p2))), (h_rowValue, .inl (cI, 120, .inl v_rowValue))] H := hP
        have hD : va_D A [(h_this, .inr (7, [.int v_thrown_66e, .int v_rows, .ref h_rowPoint, .ref h_rowMinute, .ref h_rowValue, .ref h_text, .int v_size, .ref h_kinds, .ref h_values, .int v_words, .int v_at, .ref h_names, .ref h_testCounts, .ref h_minutes, .ref h_costs, .ref h_sorts, .ref h_firsts, .ref h_seconds, .ref h_relations, .ref h_numbers, .int v_ruleCount, .ref h_last, .ref h_before, .int v_ran, .ref h_heldCounts, .ref h_streaks, .int v_faults, .ref h_faultRule, .ref h_faultBegin, .ref h_faultEnd, .ref h_order, .ref h_left, .int v_leftCount, .ref h_brings])), (h_rowPoint, .inl (cI, 120, .inl (upd v_rowPoint (v_rows : Int32).toNatClampNeg p1))), (h_rowMinute, .inl (cI, 120, .inl (upd v_rowMinute (v_rows : Int32).toNatClampNeg p2))), (h_rowValue, .inl (cI, 120, .inl v_rowValue))] := hD
        refine lv_aload_n hx hb d_Model_row_147 rfl (lv_at hl 0 rfl) ?_
        refine va_get (D := (dC, dI)) (ci := 7) (v := .ref h_rowValue) (C := R_Model) (T := T_Model) (N := 34) hx hb hT i_Model hown hK hP 0 rfl rfl 4 (by decide) (hT _ kF_Model_16) (fun _ h9 => h9) rfl d_Model_row_148 ?_
        refine lv_aload_n hx hb d_Model_row_151 rfl (lv_at hl 0 rfl) ?_
        refine va_get (D := (dC, dI)) (ci := 7) (v := .int v_rows) (C := R_Model) (T := T_Model) (N := 34) hx hb hT i_Model hown hK hP 0 rfl rfl 1 (by decide) (hT _ kF_Model_98) (fun _ h9 => h9) rfl d_Model_row_152 ?_
        refine lv_iload_n hx hb d_Model_row_155 rfl (lv_at hl 3 rfl) ?_
        obtain ⟨hi_11, hf⟩ := o_in hf
        refine va_iast hx hb hK hP hD hS 3 0 rfl rfl hi_11 d_Model_row_156 (fun H locs hP hD hS => ?_)
        have hP : va_P (dC, dI) vwCl [(h_this, .inr (7, [.int v_thrown_66e, .int v_rows, .ref h_rowPoint, .ref h_rowMinute, .ref h_rowValue, .ref h_text, .int v_size, .ref h_kinds, .ref h_values, .int v_words, .int v_at, .ref h_names, .ref h_testCounts, .ref h_minutes, .ref h_costs, .ref h_sorts, .ref h_firsts, .ref h_seconds, .ref h_relations, .ref h_numbers, .int v_ruleCount, .ref h_last, .ref h_before, .int v_ran, .ref h_heldCounts, .ref h_streaks, .int v_faults, .ref h_faultRule, .ref h_faultBegin, .ref h_faultEnd, .ref h_order, .ref h_left, .int v_leftCount, .ref h_brings])), (h_rowPoint, .inl (cI, 120, .inl (upd v_rowPoint (v_rows : Int32).toNatClampNeg p1))), (h_rowMinute, .inl (cI, 120, .inl (upd v_rowMinute (v_rows : Int32).toNatClampNeg p2))), (h_rowValue, .inl (cI, 120, .inl (upd v_rowValue (v_rows : Int32).toNatClampNeg p3)))] H := hP
        have hD : va_D A [(h_this, .inr (7, [.int v_thrown_66e, .int v_rows, .ref h_rowPoint, .ref h_rowMinute, .ref h_rowValue, .ref h_text, .int v_size, .ref h_kinds, .ref h_values, .int v_words, .int v_at, .ref h_names, .ref h_testCounts, .ref h_minutes, .ref h_costs, .ref h_sorts, .ref h_firsts, .ref h_seconds, .ref h_relations, .ref h_numbers, .int v_ruleCount, .ref h_last, .ref h_before, .int v_ran, .ref h_heldCounts, .ref h_streaks, .int v_faults, .ref h_faultRule, .ref h_faultBegin, .ref h_faultEnd, .ref h_order, .ref h_left, .int v_leftCount, .ref h_brings])), (h_rowPoint, .inl (cI, 120, .inl (upd v_rowPoint (v_rows : Int32).toNatClampNeg p1))), (h_rowMinute, .inl (cI, 120, .inl (upd v_rowMinute (v_rows : Int32).toNatClampNeg p2))), (h_rowValue, .inl (cI, 120, .inl (upd v_rowValue (v_rows : Int32).toNatClampNeg p3)))] := hD
        refine lv_aload_n hx hb d_Model_row_157 rfl (lv_at hl 0 rfl) ?_
        refine lv_dup hx hb d_Model_row_158 rfl ?_
        refine va_get (D := (dC, dI)) (ci := 7) (v := .int v_rows) (C := R_Model) (T := T_Model) (N := 34) hx hb hT i_Model hown hK hP 0 rfl rfl 1 (by decide) (hT _ kF_Model_98) (fun _ h9 => h9) rfl d_Model_row_159 ?_
        refine lv_iconst (v := 1) hx hb d_Model_row_162 (by decide) ?_
        refine lv_iadd hx hb d_Model_row_163 ?_
        refine va_put (D := (dC, dI)) (ci := 7) (v := .int (v_rows + 1)) (ty := .int) (C := R_Model) (T := T_Model) (N := 34) hx hb hT i_Model ty_Model ty_Model_ok n_Model hown hK hP hD hS 0 rfl rfl 1 (by decide) (hT _ kF_Model_98) (fun _ h9 => h9) rfl (by decide +kernel) rfl rfl (Nat.le_of_ble_eq_true rfl) d_Model_row_164 (fun H locs hP hD hS => ?_)
        have hP : va_P (dC, dI) vwCl [(h_this, .inr (7, [.int v_thrown_66e, .int (v_rows + 1), .ref h_rowPoint, .ref h_rowMinute, .ref h_rowValue, .ref h_text, .int v_size, .ref h_kinds, .ref h_values, .int v_words, .int v_at, .ref h_names, .ref h_testCounts, .ref h_minutes, .ref h_costs, .ref h_sorts, .ref h_firsts, .ref h_seconds, .ref h_relations, .ref h_numbers, .int v_ruleCount, .ref h_last, .ref h_before, .int v_ran, .ref h_heldCounts, .ref h_streaks, .int v_faults, .ref h_faultRule, .ref h_faultBegin, .ref h_faultEnd, .ref h_order, .ref h_left, .int v_leftCount, .ref h_brings])), (h_rowPoint, .inl (cI, 120, .inl (upd v_rowPoint (v_rows : Int32).toNatClampNeg p1))), (h_rowMinute, .inl (cI, 120, .inl (upd v_rowMinute (v_rows : Int32).toNatClampNeg p2))), (h_rowValue, .inl (cI, 120, .inl (upd v_rowValue (v_rows : Int32).toNatClampNeg p3)))] H := hP
        have hD : va_D A [(h_this, .inr (7, [.int v_thrown_66e, .int (v_rows + 1), .ref h_rowPoint, .ref h_rowMinute, .ref h_rowValue, .ref h_text, .int v_size, .ref h_kinds, .ref h_values, .int v_words, .int v_at, .ref h_names, .ref h_testCounts, .ref h_minutes, .ref h_costs, .ref h_sorts, .ref h_firsts, .ref h_seconds, .ref h_relations, .ref h_numbers, .int v_ruleCount, .ref h_last, .ref h_before, .int v_ran, .ref h_heldCounts, .ref h_streaks, .int v_faults, .ref h_faultRule, .ref h_faultBegin, .ref h_faultEnd, .ref h_order, .ref h_left, .int v_leftCount, .ref h_brings])), (h_rowPoint, .inl (cI, 120, .inl (upd v_rowPoint (v_rows : Int32).toNatClampNeg p1))), (h_rowMinute, .inl (cI, 120, .inl (upd v_rowMinute (v_rows : Int32).toNatClampNeg p2))), (h_rowValue, .inl (cI, 120, .inl (upd v_rowValue (v_rows : Int32).toNatClampNeg p3)))] := hD
        refine lv_iload hx hb d_Model_row_167 (lv_at hl 4 rfl) ?_
        rw [hQ, ← Option.some.inj hf]
        exact W.iret hx hb hr (fun t9 ht9 hW9 => ⟨rfl, by rw [ht9]; exact hP, hS.F ht9⟩) hS.2.2 d_Model_row_169
      · replace hf := o_neg c_8 hf
        refine lv_iconst (v := 0) hx hb d_Model_row_125 (by decide) ?_
        rw [hQ, ← Option.some.inj hf]
        exact W.iret hx hb hr (fun t9 ht9 hW9 => ⟨rfl, by rw [ht9]; exact hP, hS.F ht9⟩) hS.2.2 d_Model_row_126
    · replace hf := o_pos c_2 hf
      refine lv_iconst (v := 0) hx hb d_Model_row_58 (by decide) ?_
      rw [hQ, ← Option.some.inj hf]
      exact W.iret hx hb hr (fun t9 ht9 hW9 => ⟨rfl, by rw [ht9]; exact hP, hS.F ht9⟩) hS.2.2 d_Model_row_59
  refine lv_if_eq (tgt := 29) hx hb d_Model_row_5 (by decide) (fun c_12 => ?_) (fun c_12 => ?_)
  · replace hf := o_pos c_12 hf
    refine lv_iconst (v := 1) hx hb d_Model_row_29 (by decide) ?_
    refine lv_goto (tgt := 47) hx hb d_Model_row_30 (by decide) ?_
    exact jn_47 1 H locs ls hf hP hD hS (lv_sub hl [0, 1, 2, 3] rfl)
  · replace hf := o_neg c_12 hf
    refine lv_iload_n hx hb d_Model_row_8 rfl (lv_at hl 2 rfl) ?_
    obtain ⟨t_13, hg_13, hf⟩ := o_bind hf
    refine x_stat (w' := [(h_this, .inr (7, [.int v_thrown, .int v_rows, .ref h_rowPoint, .ref h_rowMinute, .ref h_rowValue, .ref h_text, .int v_size, .ref h_kinds, .ref h_values, .int v_words, .int v_at, .ref h_names, .ref h_testCounts, .ref h_minutes, .ref h_costs, .ref h_sorts, .ref h_firsts, .ref h_seconds, .ref h_relations, .ref h_numbers, .int v_ruleCount, .ref h_last, .ref h_before, .int v_ran, .ref h_heldCounts, .ref h_streaks, .int v_faults, .ref h_faultRule, .ref h_faultBegin, .ref h_faultEnd, .ref h_order, .ref h_left, .int v_leftCount, .ref h_brings])), (h_rowPoint, .inl (cI, 120, .inl v_rowPoint)), (h_rowMinute, .inl (cI, 120, .inl v_rowMinute)), (h_rowValue, .inl (cI, 120, .inl v_rowValue))]) (As := [.int p2]) (rest := [.ref h_this]) hx hb hml hl.1 hown hT hK hN hP hD hS hA (c_Model_isMinute l dC dI cI cL cC H.size p2 t_13 hg_13) kM_Model_105 kT_Model_isMinute kN_Model kC_Model_isMinute hd_Model_isMinute rfl ⟨Nat.le_of_ble_eq_true rfl, Nat.le_of_ble_eq_true rfl⟩ rfl rfl ⟨Nat.zero_le _, Nat.zero_le _⟩ rfl (Nat.le_of_ble_eq_true rfl) d_Model_row_9 [] rfl rfl [.inl 0, .inl 1, .inl 2, .inl 3] rfl rfl rfl (fun H locs hP hD hS => ?_)
    refine lv_if_eq (tgt := 29) hx hb d_Model_row_12 (by decide) (fun c_14 => ?_) (fun c_14 => ?_)
    · replace hf := o_pos c_14 hf
      refine lv_iconst (v := 1) hx hb d_Model_row_29 (by decide) ?_
      refine lv_goto (tgt := 47) hx hb d_Model_row_30 (by decide) ?_
      exact jn_47 1 H locs ls hf hP hD hS (lv_sub hl [0, 1, 2, 3] rfl)
    · replace hf := o_neg c_14 hf
      refine lv_iload_n hx hb d_Model_row_15 rfl (lv_at hl 3 rfl) ?_
      refine lv_i2l (v := (p3 : Int32).toInt64) hx hb d_Model_row_16 rfl ?_
      refine lv_ldc2 (v := (-1000000)) hx hb hown (hT _ kK_Model_108) d_Model_row_17 ?_
      refine lv_ldc2 (v := 1000000) hx hb hown (hT _ kK_Model_110) d_Model_row_20 ?_
      obtain ⟨t_15, hg_15, hf⟩ := o_bind hf
      refine x_stat (w' := [(h_this, .inr (7, [.int v_thrown, .int v_rows, .ref h_rowPoint, .ref h_rowMinute, .ref h_rowValue, .ref h_text, .int v_size, .ref h_kinds, .ref h_values, .int v_words, .int v_at, .ref h_names, .ref h_testCounts, .ref h_minutes, .ref h_costs, .ref h_sorts, .ref h_firsts, .ref h_seconds, .ref h_relations, .ref h_numbers, .int v_ruleCount, .ref h_last, .ref h_before, .int v_ran, .ref h_heldCounts, .ref h_streaks, .int v_faults, .ref h_faultRule, .ref h_faultBegin, .ref h_faultEnd, .ref h_order, .ref h_left, .int v_leftCount, .ref h_brings])), (h_rowPoint, .inl (cI, 120, .inl v_rowPoint)), (h_rowMinute, .inl (cI, 120, .inl v_rowMinute)), (h_rowValue, .inl (cI, 120, .inl v_rowValue))]) (As := [.long ((p3 : Int32).toInt64), .long ((-1000000)), .long 1000000]) (rest := [.ref h_this]) hx hb hml hl.1 hown hT hK hN hP hD hS hA (c_Model_isIn l dC dI cI cL cC H.size ((p3 : Int32).toInt64) ((-1000000)) 1000000 t_15 hg_15) kM_Model_92 kT_Model_isIn kN_Model kC_Model_isIn hd_Model_isIn rfl ⟨Nat.le_of_ble_eq_true rfl, Nat.le_of_ble_eq_true rfl⟩ rfl rfl ⟨Nat.zero_le _, Nat.zero_le _⟩ rfl (Nat.le_of_ble_eq_true rfl) d_Model_row_23 [] rfl rfl [.inl 0, .inl 1, .inl 2, .inl 3] rfl rfl rfl (fun H locs hP hD hS => ?_)
      refine lv_if_ne (tgt := 33) hx hb d_Model_row_26 (by decide) (fun c_16 => ?_) (fun c_16 => ?_)
      · replace hf := o_neg c_16 hf
        refine lv_aload_n hx hb d_Model_row_33 rfl (lv_at hl 0 rfl) ?_
        refine va_get (D := (dC, dI)) (ci := 7) (v := .int v_rows) (C := R_Model) (T := T_Model) (N := 34) hx hb hT i_Model hown hK hP 0 rfl rfl 1 (by decide) (hT _ kF_Model_98) (fun _ h9 => h9) rfl d_Model_row_34 ?_
        refine lv_bipush (v := 120) hx hb d_Model_row_37 (by decide) ?_
        refine lv_icmp_ne (tgt := 46) hx hb d_Model_row_39 (by decide) (fun c_17 => ?_) (fun c_17 => ?_)
        · replace hf := o_neg c_17 hf
          refine lv_iconst (v := 0) hx hb d_Model_row_46 (by decide) ?_
          exact jn_47 0 H locs ls hf hP hD hS (lv_sub hl [0, 1, 2, 3] rfl)
        · replace hf := o_pos c_17 hf
          refine lv_iconst (v := 2) hx hb d_Model_row_42 (by decide) ?_
          refine lv_goto (tgt := 47) hx hb d_Model_row_43 (by decide) ?_
          exact jn_47 2 H locs ls hf hP hD hS (lv_sub hl [0, 1, 2, 3] rfl)
      · replace hf := o_pos c_16 hf
        refine lv_iconst (v := 1) hx hb d_Model_row_29 (by decide) ?_
        refine lv_goto (tgt := 47) hx hb d_Model_row_30 (by decide) ?_
        exact jn_47 1 H locs ls hf hP hD hS (lv_sub hl [0, 1, 2, 3] rfl)
def rm_Model_value : Room := { frames := 2, cells := 0, slots := 0, locals := 45 }
set_option maxHeartbeats 4000000 in
set_option maxRecDepth 100000 in
theorem c_Model_value (l : Launch) (dC : Nat → ClassId) (dI : Nat → Nat → Nat) (cI cL cC : ClassId) (h_this h_rowPoint h_rowMinute h_rowValue h_text h_kinds h_values h_names h_testCounts h_minutes h_costs h_sorts h_firsts h_seconds h_relations h_numbers h_last h_before h_heldCounts h_streaks h_faultRule h_faultBegin h_faultEnd h_order h_left h_brings : Nat) (sz : Nat) (fu : Nat) (v_thrown : Int32) (v_rows : Int32) (v_size : Int32) (v_words : Int32) (v_at : Int32) (v_ruleCount : Int32) (v_ran : Int32) (v_faults : Int32) (v_leftCount : Int32) (v_rowPoint : Nat → Int32) (v_rowMinute : Nat → Int32) (v_rowValue : Nat → Int32) (p1 : Int32) (p2 : Int32) (t : Int32 × Int32) (hf : f_Model_value fu v_thrown v_rows v_rowPoint v_rowMinute v_rowValue p1 p2 = some t) : Met l y_Model_value (Cond.code y_Model_value prog_9_method_8_code 3 (some .int) :: xT) rm_Model_value (va_Pc [.ref h_this, .int p1, .int p2] (xP (dC, dI) (xTy cI cL cC) [(h_this, .inr (7, [.int v_thrown, .int v_rows, .ref h_rowPoint, .ref h_rowMinute, .ref h_rowValue, .ref h_text, .int v_size, .ref h_kinds, .ref h_values, .int v_words, .int v_at, .ref h_names, .ref h_testCounts, .ref h_minutes, .ref h_costs, .ref h_sorts, .ref h_firsts, .ref h_seconds, .ref h_relations, .ref h_numbers, .int v_ruleCount, .ref h_last, .ref h_before, .int v_ran, .ref h_heldCounts, .ref h_streaks, .int v_faults, .ref h_faultRule, .ref h_faultBegin, .ref h_faultEnd, .ref h_order, .ref h_left, .int v_leftCount, .ref h_brings])), (h_rowPoint, .inl (cI, 120, .inl v_rowPoint)), (h_rowMinute, .inl (cI, 120, .inl v_rowMinute)), (h_rowValue, .inl (cI, 120, .inl v_rowValue))] sz)) (xQ (dC, dI) [(h_this, .inr (7, [.int t.2, .int v_rows, .ref h_rowPoint, .ref h_rowMinute, .ref h_rowValue, .ref h_text, .int v_size, .ref h_kinds, .ref h_values, .int v_words, .int v_at, .ref h_names, .ref h_testCounts, .ref h_minutes, .ref h_costs, .ref h_sorts, .ref h_firsts, .ref h_seconds, .ref h_relations, .ref h_numbers, .int v_ruleCount, .ref h_last, .ref h_before, .int v_ran, .ref h_heldCounts, .ref h_streaks, .int v_faults, .ref h_faultRule, .ref h_faultBegin, .ref h_faultEnd, .ref h_order, .ref h_left, .int v_leftCount, .ref h_brings])), (h_rowPoint, .inl (cI, 120, .inl v_rowPoint)), (h_rowMinute, .inl (cI, 120, .inl v_rowMinute)), (h_rowValue, .inl (cI, 120, .inl v_rowValue))] (va_A [(h_this, .inr (7, [.int v_thrown, .int v_rows, .ref h_rowPoint, .ref h_rowMinute, .ref h_rowValue, .ref h_text, .int v_size, .ref h_kinds, .ref h_values, .int v_words, .int v_at, .ref h_names, .ref h_testCounts, .ref h_minutes, .ref h_costs, .ref h_sorts, .ref h_firsts, .ref h_seconds, .ref h_relations, .ref h_numbers, .int v_ruleCount, .ref h_last, .ref h_before, .int v_ran, .ref h_heldCounts, .ref h_streaks, .int v_faults, .ref h_faultRule, .ref h_faultBegin, .ref h_faultEnd, .ref h_order, .ref h_left, .int v_leftCount, .ref h_brings])), (h_rowPoint, .inl (cI, 120, .inl v_rowPoint)), (h_rowMinute, .inl (cI, 120, .inl v_rowMinute)), (h_rowValue, .inl (cI, 120, .inl v_rowValue))] sz) (some (.int t.1))) 0 0 (va_A [(h_this, .inr (7, [.int v_thrown, .int v_rows, .ref h_rowPoint, .ref h_rowMinute, .ref h_rowValue, .ref h_text, .int v_size, .ref h_kinds, .ref h_values, .int v_words, .int v_at, .ref h_names, .ref h_testCounts, .ref h_minutes, .ref h_costs, .ref h_sorts, .ref h_firsts, .ref h_seconds, .ref h_relations, .ref h_numbers, .int v_ruleCount, .ref h_last, .ref h_before, .int v_ran, .ref h_heldCounts, .ref h_streaks, .int v_faults, .ref h_faultRule, .ref h_faultBegin, .ref h_faultEnd, .ref h_order, .ref h_left, .int v_leftCount, .ref h_brings])), (h_rowPoint, .inl (cI, 120, .inl v_rowPoint)), (h_rowMinute, .inl (cI, 120, .inl v_rowMinute)), (h_rowValue, .inl (cI, 120, .inl v_rowValue))] sz) := by
  refine Met.ofW (cc := prog_9_method_8_code) (maxL := 3) (ret := (some .int)) (by decide) rfl ?_
  intro p e s m args below meth c s₁ B hml hv
  obtain ⟨hargs, hsz, hP, hK, hN, hD0⟩ := hv
  have hx := B.exec
  have hb := B.bytes
  have hr := B.returns
  have hT : ∀ w ∈ xT, w.before args s = true := fun w hw => atoms_spec (ws := Cond.code y_Model_value prog_9_method_8_code 3 (some .int) :: xT) B.pre w (List.mem_cons_of_mem _ hw)
  have hown : s.vm.findClass R_Model = some m.cls := findClass_of_methodNamed B.named
  have hlocks := B.notSynchronized
  subst hsz
  have hD := hD0.self (sz := s.heap.size)
  generalize hAe : va_A [(h_this, .inr (7, [.int v_thrown, .int v_rows, .ref h_rowPoint, .ref h_rowMinute, .ref h_rowValue, .ref h_text, .int v_size, .ref h_kinds, .ref h_values, .int v_words, .int v_at, .ref h_names, .ref h_testCounts, .ref h_minutes, .ref h_costs, .ref h_sorts, .ref h_firsts, .ref h_seconds, .ref h_relations, .ref h_numbers, .int v_ruleCount, .ref h_last, .ref h_before, .int v_ran, .ref h_heldCounts, .ref h_streaks, .int v_faults, .ref h_faultRule, .ref h_faultBegin, .ref h_faultEnd, .ref h_order, .ref h_left, .int v_leftCount, .ref h_brings])), (h_rowPoint, .inl (cI, 120, .inl v_rowPoint)), (h_rowMinute, .inl (cI, 120, .inl v_rowMinute)), (h_rowValue, .inl (cI, 120, .inl v_rowValue))] s.heap.size = A at hD ⊢
  have hA : ∀ q : Nat, s.heap.size ≤ q → A q := fun q h => by rw [← hAe]; exact Or.inr h
  have hS : va_S A s.heap s.heap [] := va_S.rf
  have hP : va_P (dC, dI) vwCl [(h_this, .inr (7, [.int v_thrown, .int v_rows, .ref h_rowPoint, .ref h_rowMinute, .ref h_rowValue, .ref h_text, .int v_size, .ref h_kinds, .ref h_values, .int v_words, .int v_at, .ref h_names, .ref h_testCounts, .ref h_minutes, .ref h_costs, .ref h_sorts, .ref h_firsts, .ref h_seconds, .ref h_relations, .ref h_numbers, .int v_ruleCount, .ref h_last, .ref h_before, .int v_ran, .ref h_heldCounts, .ref h_streaks, .int v_faults, .ref h_faultRule, .ref h_faultBegin, .ref h_faultEnd, .ref h_order, .ref h_left, .int v_leftCount, .ref h_brings])), (h_rowPoint, .inl (cI, 120, .inl v_rowPoint)), (h_rowMinute, .inl (cI, 120, .inl v_rowMinute)), (h_rowValue, .inl (cI, 120, .inl v_rowValue))] s.heap := hP
  have hl := lv_entry ([.ref h_this, .int p1, .int p2]) (n := 3) (Nat.le_of_ble_eq_true rfl)
  rw [show entryFrame m args 3 = entryFrame m ([.ref h_this, .int p1, .int p2] : List Value).toArray 3 from by rw [hargs], lg_entry_eq]
  generalize (lg_sl ([.ref h_this, .int p1, .int p2]) ++ List.replicate (3 - (lg_sl ([.ref h_this, .int p1, .int p2])).length) Slot.unset).toArray = ls at hl ⊢
  have hl : lv_has ls 3 [(0, .ref h_this), (1, .int p1), (2, .int p2)] := hl
  obtain ⟨Q, hQ⟩ : ∃ Q, Q = MQ below (xQ (dC, dI) [(h_this, .inr (7, [.int t.2, .int v_rows, .ref h_rowPoint, .ref h_rowMinute, .ref h_rowValue, .ref h_text, .int v_size, .ref h_kinds, .ref h_values, .int v_words, .int v_at, .ref h_names, .ref h_testCounts, .ref h_minutes, .ref h_costs, .ref h_sorts, .ref h_firsts, .ref h_seconds, .ref h_relations, .ref h_numbers, .int v_ruleCount, .ref h_last, .ref h_before, .int v_ran, .ref h_heldCounts, .ref h_streaks, .int v_faults, .ref h_faultRule, .ref h_faultBegin, .ref h_faultEnd, .ref h_order, .ref h_left, .int v_leftCount, .ref h_brings])), (h_rowPoint, .inl (cI, 120, .inl v_rowPoint)), (h_rowMinute, .inl (cI, 120, .inl v_rowMinute)), (h_rowValue, .inl (cI, 120, .inl v_rowValue))] A (some (.int t.1))) args s 0 0 A := ⟨_, rfl⟩
  rw [← hQ]
  show W p l e rm_Model_value s m args below meth c s.heap [] 0 0 Q _
  obtain ⟨H, hH⟩ : ∃ H, H = s.heap := ⟨_, rfl⟩
  obtain ⟨locs, hlocs⟩ : ∃ L : List Loc, L = [] := ⟨_, rfl⟩
  rw [← hlocs] at hS ⊢
  have hS : va_S A s.heap H locs := by rw [hH]; exact hS
  rw [← hH] at hP ⊢
  replace hf := f_Model_value_u hf
  refine lv_aload_n hx hb d_Model_value_0 rfl (lv_at hl 0 rfl) ?_
  refine lv_iload_n hx hb d_Model_value_1 rfl (lv_at hl 1 rfl) ?_
  obtain ⟨t_1, hg_1, hf⟩ := o_bind hf
  refine x_stat (w' := [(h_this, .inr (7, [.int v_thrown, .int v_rows, .ref h_rowPoint, .ref h_rowMinute, .ref h_rowValue, .ref h_text, .int v_size, .ref h_kinds, .ref h_values, .int v_words, .int v_at, .ref h_names, .ref h_testCounts, .ref h_minutes, .ref h_costs, .ref h_sorts, .ref h_firsts, .ref h_seconds, .ref h_relations, .ref h_numbers, .int v_ruleCount, .ref h_last, .ref h_before, .int v_ran, .ref h_heldCounts, .ref h_streaks, .int v_faults, .ref h_faultRule, .ref h_faultBegin, .ref h_faultEnd, .ref h_order, .ref h_left, .int v_leftCount, .ref h_brings])), (h_rowPoint, .inl (cI, 120, .inl v_rowPoint)), (h_rowMinute, .inl (cI, 120, .inl v_rowMinute)), (h_rowValue, .inl (cI, 120, .inl v_rowValue))]) (As := [.int p1]) (rest := [.ref h_this]) hx hb hml hl.1 hown hT hK hN hP hD hS hA (c_Model_isPoint l dC dI cI cL cC H.size p1 t_1 hg_1) kM_Model_101 kT_Model_isPoint kN_Model kC_Model_isPoint hd_Model_isPoint rfl ⟨Nat.le_of_ble_eq_true rfl, Nat.le_of_ble_eq_true rfl⟩ rfl rfl ⟨Nat.zero_le _, Nat.zero_le _⟩ rfl (Nat.le_of_ble_eq_true rfl) d_Model_value_2 [] rfl rfl [.inl 0, .inl 1, .inl 2, .inl 3] rfl rfl rfl (fun H locs hP hD hS => ?_)
  have jn_29 : ∀ (s1_j29 : Int32) (H : Heap) (locs : List Loc) (ls : Array Slot), J_Model_value_29 fu v_thrown v_rows v_rowPoint v_rowMinute v_rowValue p1 p2 s1_j29 = some t → va_P (dC, dI) vwCl [(h_this, .inr (7, [.int v_thrown, .int v_rows, .ref h_rowPoint, .ref h_rowMinute, .ref h_rowValue, .ref h_text, .int v_size, .ref h_kinds, .ref h_values, .int v_words, .int v_at, .ref h_names, .ref h_testCounts, .ref h_minutes, .ref h_costs, .ref h_sorts, .ref h_firsts, .ref h_seconds, .ref h_relations, .ref h_numbers, .int v_ruleCount, .ref h_last, .ref h_before, .int v_ran, .ref h_heldCounts, .ref h_streaks, .int v_faults, .ref h_faultRule, .ref h_faultBegin, .ref h_faultEnd, .ref h_order, .ref h_left, .int v_leftCount, .ref h_brings])), (h_rowPoint, .inl (cI, 120, .inl v_rowPoint)), (h_rowMinute, .inl (cI, 120, .inl v_rowMinute)), (h_rowValue, .inl (cI, 120, .inl v_rowValue))] H → va_D A [(h_this, .inr (7, [.int v_thrown, .int v_rows, .ref h_rowPoint, .ref h_rowMinute, .ref h_rowValue, .ref h_text, .int v_size, .ref h_kinds, .ref h_values, .int v_words, .int v_at, .ref h_names, .ref h_testCounts, .ref h_minutes, .ref h_costs, .ref h_sorts, .ref h_firsts, .ref h_seconds, .ref h_relations, .ref h_numbers, .int v_ruleCount, .ref h_last, .ref h_before, .int v_ran, .ref h_heldCounts, .ref h_streaks, .int v_faults, .ref h_faultRule, .ref h_faultBegin, .ref h_faultEnd, .ref h_order, .ref h_left, .int v_leftCount, .ref h_brings])), (h_rowPoint, .inl (cI, 120, .inl v_rowPoint)), (h_rowMinute, .inl (cI, 120, .inl v_rowMinute)), (h_rowValue, .inl (cI, 120, .inl v_rowValue))] → va_S A s.heap H locs → lv_has ls 3 [(0, .ref h_this), (1, .int p1), (2, .int p2)] → W p l e rm_Model_value s m args below meth c H locs 0 0 Q (F0 m 29 ls [.int s1_j29, .ref h_this]) := by
    intro s1_j29 H locs ls hf hP hD hS hl
    replace hf := J_Model_value_29_u hf
    refine va_put (D := (dC, dI)) (ci := 7) (v := .int s1_j29) (ty := .int) (C := R_Model) (T := T_Model) (N := 34) hx hb hT i_Model ty_Model ty_Model_ok n_Model hown hK hP hD hS 0 rfl rfl 0 (by decide) (hT _ kF_Model_86) (fun _ h9 => h9) rfl (by decide +kernel) rfl rfl (Nat.le_of_ble_eq_true rfl) d_Model_value_29 (fun H locs hP hD hS => ?_)
    have hP : va_P (dC, dI) vwCl [(h_this, .inr (7, [.int s1_j29, .int v_rows, .ref h_rowPoint, .ref h_rowMinute, .ref h_rowValue, .ref h_text, .int v_size, .ref h_kinds, .ref h_values, .int v_words, .int v_at, .ref h_names, .ref h_testCounts, .ref h_minutes, .ref h_costs, .ref h_sorts, .ref h_firsts, .ref h_seconds, .ref h_relations, .ref h_numbers, .int v_ruleCount, .ref h_last, .ref h_before, .int v_ran, .ref h_heldCounts, .ref h_streaks, .int v_faults, .ref h_faultRule, .ref h_faultBegin, .ref h_faultEnd, .ref h_order, .ref h_left, .int v_leftCount, .ref h_brings])), (h_rowPoint, .inl (cI, 120, .inl v_rowPoint)), (h_rowMinute, .inl (cI, 120, .inl v_rowMinute)), (h_rowValue, .inl (cI, 120, .inl v_rowValue))] H := hP
    have hD : va_D A [(h_this, .inr (7, [.int s1_j29, .int v_rows, .ref h_rowPoint, .ref h_rowMinute, .ref h_rowValue, .ref h_text, .int v_size, .ref h_kinds, .ref h_values, .int v_words, .int v_at, .ref h_names, .ref h_testCounts, .ref h_minutes, .ref h_costs, .ref h_sorts, .ref h_firsts, .ref h_seconds, .ref h_relations, .ref h_numbers, .int v_ruleCount, .ref h_last, .ref h_before, .int v_ran, .ref h_heldCounts, .ref h_streaks, .int v_faults, .ref h_faultRule, .ref h_faultBegin, .ref h_faultEnd, .ref h_order, .ref h_left, .int v_leftCount, .ref h_brings])), (h_rowPoint, .inl (cI, 120, .inl v_rowPoint)), (h_rowMinute, .inl (cI, 120, .inl v_rowMinute)), (h_rowValue, .inl (cI, 120, .inl v_rowValue))] := hD
    refine lv_aload_n hx hb d_Model_value_32 rfl (lv_at hl 0 rfl) ?_
    refine va_get (D := (dC, dI)) (ci := 7) (v := .int s1_j29) (C := R_Model) (T := T_Model) (N := 34) hx hb hT i_Model hown hK hP 0 rfl rfl 0 (by decide) (hT _ kF_Model_86) (fun _ h9 => h9) rfl d_Model_value_33 ?_
    refine lv_if_le (tgt := 43) hx hb d_Model_value_36 (by decide) (fun c_2 => ?_) (fun c_2 => ?_)
    · replace hf := o_pos c_2 hf
      refine lv_aload_n hx hb d_Model_value_43 rfl (lv_at hl 0 rfl) ?_
      refine va_get (D := (dC, dI)) (ci := 7) (v := .ref h_rowValue) (C := R_Model) (T := T_Model) (N := 34) hx hb hT i_Model hown hK hP 0 rfl rfl 4 (by decide) (hT _ kF_Model_16) (fun _ h9 => h9) rfl d_Model_value_44 ?_
      refine lv_aload_n hx hb d_Model_value_47 rfl (lv_at hl 0 rfl) ?_
      refine lv_iload_n hx hb d_Model_value_48 rfl (lv_at hl 1 rfl) ?_
      refine lv_iload_n hx hb d_Model_value_49 rfl (lv_at hl 2 rfl) ?_
      obtain ⟨t_3, hg_3, hf⟩ := o_bind hf
      refine x_virt (w' := [(h_this, .inr (7, [.int s1_j29, .int v_rows, .ref h_rowPoint, .ref h_rowMinute, .ref h_rowValue, .ref h_text, .int v_size, .ref h_kinds, .ref h_values, .int v_words, .int v_at, .ref h_names, .ref h_testCounts, .ref h_minutes, .ref h_costs, .ref h_sorts, .ref h_firsts, .ref h_seconds, .ref h_relations, .ref h_numbers, .int v_ruleCount, .ref h_last, .ref h_before, .int v_ran, .ref h_heldCounts, .ref h_streaks, .int v_faults, .ref h_faultRule, .ref h_faultBegin, .ref h_faultEnd, .ref h_order, .ref h_left, .int v_leftCount, .ref h_brings])), (h_rowPoint, .inl (cI, 120, .inl v_rowPoint)), (h_rowMinute, .inl (cI, 120, .inl v_rowMinute)), (h_rowValue, .inl (cI, 120, .inl v_rowValue))]) (As := [.int p1, .int p2]) (rest := [.ref h_rowValue]) hx hb hml hl.1 hown hT hK hN hP hD hS hA (c_Model_latest l dC dI cI cL cC h_this h_rowPoint h_rowMinute h_rowValue h_text h_kinds h_values h_names h_testCounts h_minutes h_costs h_sorts h_firsts h_seconds h_relations h_numbers h_last h_before h_heldCounts h_streaks h_faultRule h_faultBegin h_faultEnd h_order h_left h_brings H.size fu s1_j29 v_rows v_size v_words v_at v_ruleCount v_ran v_faults v_leftCount v_rowPoint v_rowMinute p1 p2 t_3 hg_3) kM_Model_112 kI_Model_latest kS_392 kN_Model kC_Model_latest hd_Model_latest rfl 0 rfl rfl rfl ⟨Nat.le_of_ble_eq_true rfl, Nat.le_of_ble_eq_true rfl⟩ rfl rfl ⟨Nat.zero_le _, Nat.zero_le _⟩ rfl (Nat.le_of_ble_eq_true rfl) d_Model_value_50 [0, 1, 2] rfl rfl [.inr 0, .inr 1, .inr 2, .inl 3] rfl rfl rfl (fun H locs hP hD hS => ?_)
      obtain ⟨hi_4, hf⟩ := o_in hf
      refine va_iald hx hb hK hP 3 0 rfl rfl hi_4 d_Model_value_53 ?_
      rw [hQ, ← Option.some.inj hf]
      exact W.iret hx hb hr (fun t9 ht9 hW9 => ⟨rfl, by rw [ht9]; exact hP, hS.F ht9⟩) hS.2.2 d_Model_value_54
    · replace hf := o_neg c_2 hf
      refine lv_iconst (v := 0) hx hb d_Model_value_39 (by decide) ?_
      refine lv_goto (tgt := 54) hx hb d_Model_value_40 (by decide) ?_
      rw [hQ, ← Option.some.inj hf]
      exact W.iret hx hb hr (fun t9 ht9 hW9 => ⟨rfl, by rw [ht9]; exact hP, hS.F ht9⟩) hS.2.2 d_Model_value_54
  refine lv_if_eq (tgt := 24) hx hb d_Model_value_5 (by decide) (fun c_5 => ?_) (fun c_5 => ?_)
  · replace hf := o_pos c_5 hf
    refine lv_iconst (v := 1) hx hb d_Model_value_24 (by decide) ?_
    refine lv_goto (tgt := 29) hx hb d_Model_value_25 (by decide) ?_
    exact jn_29 1 H locs ls hf hP hD hS (lv_sub hl [0, 1, 2] rfl)
  · replace hf := o_neg c_5 hf
    refine lv_iload_n hx hb d_Model_value_8 rfl (lv_at hl 2 rfl) ?_
    obtain ⟨t_6, hg_6, hf⟩ := o_bind hf
    refine x_stat (w' := [(h_this, .inr (7, [.int v_thrown, .int v_rows, .ref h_rowPoint, .ref h_rowMinute, .ref h_rowValue, .ref h_text, .int v_size, .ref h_kinds, .ref h_values, .int v_words, .int v_at, .ref h_names, .ref h_testCounts, .ref h_minutes, .ref h_costs, .ref h_sorts, .ref h_firsts, .ref h_seconds, .ref h_relations, .ref h_numbers, .int v_ruleCount, .ref h_last, .ref h_before, .int v_ran, .ref h_heldCounts, .ref h_streaks, .int v_faults, .ref h_faultRule, .ref h_faultBegin, .ref h_faultEnd, .ref h_order, .ref h_left, .int v_leftCount, .ref h_brings])), (h_rowPoint, .inl (cI, 120, .inl v_rowPoint)), (h_rowMinute, .inl (cI, 120, .inl v_rowMinute)), (h_rowValue, .inl (cI, 120, .inl v_rowValue))]) (As := [.int p2]) (rest := [.ref h_this]) hx hb hml hl.1 hown hT hK hN hP hD hS hA (c_Model_isMinute l dC dI cI cL cC H.size p2 t_6 hg_6) kM_Model_105 kT_Model_isMinute kN_Model kC_Model_isMinute hd_Model_isMinute rfl ⟨Nat.le_of_ble_eq_true rfl, Nat.le_of_ble_eq_true rfl⟩ rfl rfl ⟨Nat.zero_le _, Nat.zero_le _⟩ rfl (Nat.le_of_ble_eq_true rfl) d_Model_value_9 [] rfl rfl [.inl 0, .inl 1, .inl 2, .inl 3] rfl rfl rfl (fun H locs hP hD hS => ?_)
    refine lv_if_eq (tgt := 24) hx hb d_Model_value_12 (by decide) (fun c_7 => ?_) (fun c_7 => ?_)
    · replace hf := o_pos c_7 hf
      refine lv_iconst (v := 1) hx hb d_Model_value_24 (by decide) ?_
      refine lv_goto (tgt := 29) hx hb d_Model_value_25 (by decide) ?_
      exact jn_29 1 H locs ls hf hP hD hS (lv_sub hl [0, 1, 2] rfl)
    · replace hf := o_neg c_7 hf
      refine lv_aload_n hx hb d_Model_value_15 rfl (lv_at hl 0 rfl) ?_
      refine lv_iload_n hx hb d_Model_value_16 rfl (lv_at hl 1 rfl) ?_
      refine lv_iload_n hx hb d_Model_value_17 rfl (lv_at hl 2 rfl) ?_
      obtain ⟨t_8, hg_8, hf⟩ := o_bind hf
      refine x_virt (w' := [(h_this, .inr (7, [.int v_thrown, .int v_rows, .ref h_rowPoint, .ref h_rowMinute, .ref h_rowValue, .ref h_text, .int v_size, .ref h_kinds, .ref h_values, .int v_words, .int v_at, .ref h_names, .ref h_testCounts, .ref h_minutes, .ref h_costs, .ref h_sorts, .ref h_firsts, .ref h_seconds, .ref h_relations, .ref h_numbers, .int v_ruleCount, .ref h_last, .ref h_before, .int v_ran, .ref h_heldCounts, .ref h_streaks, .int v_faults, .ref h_faultRule, .ref h_faultBegin, .ref h_faultEnd, .ref h_order, .ref h_left, .int v_leftCount, .ref h_brings])), (h_rowPoint, .inl (cI, 120, .inl v_rowPoint)), (h_rowMinute, .inl (cI, 120, .inl v_rowMinute)), (h_rowValue, .inl (cI, 120, .inl v_rowValue))]) (As := [.int p1, .int p2]) (rest := [.ref h_this]) hx hb hml hl.1 hown hT hK hN hP hD hS hA (c_Model_latest l dC dI cI cL cC h_this h_rowPoint h_rowMinute h_rowValue h_text h_kinds h_values h_names h_testCounts h_minutes h_costs h_sorts h_firsts h_seconds h_relations h_numbers h_last h_before h_heldCounts h_streaks h_faultRule h_faultBegin h_faultEnd h_order h_left h_brings H.size fu v_thrown v_rows v_size v_words v_at v_ruleCount v_ran v_faults v_leftCount v_rowPoint v_rowMinute p1 p2 t_8 hg_8) kM_Model_112 kI_Model_latest kS_392 kN_Model kC_Model_latest hd_Model_latest rfl 0 rfl rfl rfl ⟨Nat.le_of_ble_eq_true rfl, Nat.le_of_ble_eq_true rfl⟩ rfl rfl ⟨Nat.zero_le _, Nat.zero_le _⟩ rfl (Nat.le_of_ble_eq_true rfl) d_Model_value_18 [0, 1, 2] rfl rfl [.inr 0, .inr 1, .inr 2, .inl 3] rfl rfl rfl (fun H locs hP hD hS => ?_)
      refine lv_if_ge (tgt := 28) hx hb d_Model_value_21 (by decide) (fun c_9 => ?_) (fun c_9 => ?_)
      · replace hf := o_pos c_9 hf
        refine lv_iconst (v := 0) hx hb d_Model_value_28 (by decide) ?_
        exact jn_29 0 H locs ls hf hP hD hS (lv_sub hl [0, 1, 2] rfl)
      · replace hf := o_neg c_9 hf
        refine lv_iconst (v := 1) hx hb d_Model_value_24 (by decide) ?_
        refine lv_goto (tgt := 29) hx hb d_Model_value_25 (by decide) ?_
        exact jn_29 1 H locs ls hf hP hD hS (lv_sub hl [0, 1, 2] rfl)
def rm_Model_say : Room := { frames := 1, cells := 0, slots := 0, locals := 25 }
set_option maxHeartbeats 4000000 in
set_option maxRecDepth 100000 in
theorem c_Model_say (l : Launch) (dC : Nat → ClassId) (dI : Nat → Nat → Nat) (cI cL cC : ClassId) (h_this h_rowPoint h_rowMinute h_rowValue h_text h_kinds h_values h_names h_testCounts h_minutes h_costs h_sorts h_firsts h_seconds h_relations h_numbers h_last h_before h_heldCounts h_streaks h_faultRule h_faultBegin h_faultEnd h_order h_left h_brings : Nat) (sz : Nat) (fu : Nat) (v_thrown : Int32) (v_rows : Int32) (v_size : Int32) (v_words : Int32) (v_at : Int32) (v_ruleCount : Int32) (v_ran : Int32) (v_faults : Int32) (v_leftCount : Int32) (v_text : Nat → Int32) (p1 : Int64) (t : Int32 × Int32 × Int32 × (Nat → Int32)) (hf : f_Model_say fu v_thrown v_size v_text p1 = some t) : Met l y_Model_say (Cond.code y_Model_say prog_9_method_9_code 6 (some .int) :: xT) rm_Model_say (va_Pc [.ref h_this, .long p1] (xP (dC, dI) (xTy cI cL cC) [(h_this, .inr (7, [.int v_thrown, .int v_rows, .ref h_rowPoint, .ref h_rowMinute, .ref h_rowValue, .ref h_text, .int v_size, .ref h_kinds, .ref h_values, .int v_words, .int v_at, .ref h_names, .ref h_testCounts, .ref h_minutes, .ref h_costs, .ref h_sorts, .ref h_firsts, .ref h_seconds, .ref h_relations, .ref h_numbers, .int v_ruleCount, .ref h_last, .ref h_before, .int v_ran, .ref h_heldCounts, .ref h_streaks, .int v_faults, .ref h_faultRule, .ref h_faultBegin, .ref h_faultEnd, .ref h_order, .ref h_left, .int v_leftCount, .ref h_brings])), (h_text, .inl (cI, 1000, .inl v_text))] sz)) (xQ (dC, dI) [(h_this, .inr (7, [.int t.2.1, .int v_rows, .ref h_rowPoint, .ref h_rowMinute, .ref h_rowValue, .ref h_text, .int t.2.2.1, .ref h_kinds, .ref h_values, .int v_words, .int v_at, .ref h_names, .ref h_testCounts, .ref h_minutes, .ref h_costs, .ref h_sorts, .ref h_firsts, .ref h_seconds, .ref h_relations, .ref h_numbers, .int v_ruleCount, .ref h_last, .ref h_before, .int v_ran, .ref h_heldCounts, .ref h_streaks, .int v_faults, .ref h_faultRule, .ref h_faultBegin, .ref h_faultEnd, .ref h_order, .ref h_left, .int v_leftCount, .ref h_brings])), (h_text, .inl (cI, 1000, .inl t.2.2.2))] (va_A [(h_this, .inr (7, [.int v_thrown, .int v_rows, .ref h_rowPoint, .ref h_rowMinute, .ref h_rowValue, .ref h_text, .int v_size, .ref h_kinds, .ref h_values, .int v_words, .int v_at, .ref h_names, .ref h_testCounts, .ref h_minutes, .ref h_costs, .ref h_sorts, .ref h_firsts, .ref h_seconds, .ref h_relations, .ref h_numbers, .int v_ruleCount, .ref h_last, .ref h_before, .int v_ran, .ref h_heldCounts, .ref h_streaks, .int v_faults, .ref h_faultRule, .ref h_faultBegin, .ref h_faultEnd, .ref h_order, .ref h_left, .int v_leftCount, .ref h_brings])), (h_text, .inl (cI, 1000, .inl v_text))] sz) (some (.int t.1))) 0 0 (va_A [(h_this, .inr (7, [.int v_thrown, .int v_rows, .ref h_rowPoint, .ref h_rowMinute, .ref h_rowValue, .ref h_text, .int v_size, .ref h_kinds, .ref h_values, .int v_words, .int v_at, .ref h_names, .ref h_testCounts, .ref h_minutes, .ref h_costs, .ref h_sorts, .ref h_firsts, .ref h_seconds, .ref h_relations, .ref h_numbers, .int v_ruleCount, .ref h_last, .ref h_before, .int v_ran, .ref h_heldCounts, .ref h_streaks, .int v_faults, .ref h_faultRule, .ref h_faultBegin, .ref h_faultEnd, .ref h_order, .ref h_left, .int v_leftCount, .ref h_brings])), (h_text, .inl (cI, 1000, .inl v_text))] sz) := by
  refine Met.ofW (cc := prog_9_method_9_code) (maxL := 6) (ret := (some .int)) (by decide) rfl ?_
  intro p e s m args below meth c s₁ B hml hv
  obtain ⟨hargs, hsz, hP, hK, hN, hD0⟩ := hv
  have hx := B.exec
  have hb := B.bytes
  have hr := B.returns
  have hT : ∀ w ∈ xT, w.before args s = true := fun w hw => atoms_spec (ws := Cond.code y_Model_say prog_9_method_9_code 6 (some .int) :: xT) B.pre w (List.mem_cons_of_mem _ hw)
  have hown : s.vm.findClass R_Model = some m.cls := findClass_of_methodNamed B.named
  have hlocks := B.notSynchronized
  subst hsz
  have hD := hD0.self (sz := s.heap.size)
  generalize hAe : va_A [(h_this, .inr (7, [.int v_thrown, .int v_rows, .ref h_rowPoint, .ref h_rowMinute, .ref h_rowValue, .ref h_text, .int v_size, .ref h_kinds, .ref h_values, .int v_words, .int v_at, .ref h_names, .ref h_testCounts, .ref h_minutes, .ref h_costs, .ref h_sorts, .ref h_firsts, .ref h_seconds, .ref h_relations, .ref h_numbers, .int v_ruleCount, .ref h_last, .ref h_before, .int v_ran, .ref h_heldCounts, .ref h_streaks, .int v_faults, .ref h_faultRule, .ref h_faultBegin, .ref h_faultEnd, .ref h_order, .ref h_left, .int v_leftCount, .ref h_brings])), (h_text, .inl (cI, 1000, .inl v_text))] s.heap.size = A at hD ⊢
  have hA : ∀ q : Nat, s.heap.size ≤ q → A q := fun q h => by rw [← hAe]; exact Or.inr h
  have hS : va_S A s.heap s.heap [] := va_S.rf
  have hP : va_P (dC, dI) vwCl [(h_this, .inr (7, [.int v_thrown, .int v_rows, .ref h_rowPoint, .ref h_rowMinute, .ref h_rowValue, .ref h_text, .int v_size, .ref h_kinds, .ref h_values, .int v_words, .int v_at, .ref h_names, .ref h_testCounts, .ref h_minutes, .ref h_costs, .ref h_sorts, .ref h_firsts, .ref h_seconds, .ref h_relations, .ref h_numbers, .int v_ruleCount, .ref h_last, .ref h_before, .int v_ran, .ref h_heldCounts, .ref h_streaks, .int v_faults, .ref h_faultRule, .ref h_faultBegin, .ref h_faultEnd, .ref h_order, .ref h_left, .int v_leftCount, .ref h_brings])), (h_text, .inl (cI, 1000, .inl v_text))] s.heap := hP
  have hl := lv_entry ([.ref h_this, .long p1]) (n := 6) (Nat.le_of_ble_eq_true rfl)
  rw [show entryFrame m args 6 = entryFrame m ([.ref h_this, .long p1] : List Value).toArray 6 from by rw [hargs], lg_entry_eq]
  generalize (lg_sl ([.ref h_this, .long p1]) ++ List.replicate (6 - (lg_sl ([.ref h_this, .long p1])).length) Slot.unset).toArray = ls at hl ⊢
  have hl : lv_has ls 6 [(0, .ref h_this), (1, .long p1)] := hl
  obtain ⟨Q, hQ⟩ : ∃ Q, Q = MQ below (xQ (dC, dI) [(h_this, .inr (7, [.int t.2.1, .int v_rows, .ref h_rowPoint, .ref h_rowMinute, .ref h_rowValue, .ref h_text, .int t.2.2.1, .ref h_kinds, .ref h_values, .int v_words, .int v_at, .ref h_names, .ref h_testCounts, .ref h_minutes, .ref h_costs, .ref h_sorts, .ref h_firsts, .ref h_seconds, .ref h_relations, .ref h_numbers, .int v_ruleCount, .ref h_last, .ref h_before, .int v_ran, .ref h_heldCounts, .ref h_streaks, .int v_faults, .ref h_faultRule, .ref h_faultBegin, .ref h_faultEnd, .ref h_order, .ref h_left, .int v_leftCount, .ref h_brings])), (h_text, .inl (cI, 1000, .inl t.2.2.2))] A (some (.int t.1))) args s 0 0 A := ⟨_, rfl⟩
  rw [← hQ]
  show W p l e rm_Model_say s m args below meth c s.heap [] 0 0 Q _
  obtain ⟨H, hH⟩ : ∃ H, H = s.heap := ⟨_, rfl⟩
  obtain ⟨locs, hlocs⟩ : ∃ L : List Loc, L = [] := ⟨_, rfl⟩
  rw [← hlocs] at hS ⊢
  have hS : va_S A s.heap H locs := by rw [hH]; exact hS
  rw [← hH] at hP ⊢
  replace hf := f_Model_say_u hf
  refine lv_iconst (v := 0) hx hb d_Model_say_0 (by decide) ?_
  refine lv_istore_n (lv' := [(3, .int 0), (0, .ref h_this), (1, .long p1)]) hx hb d_Model_say_1 rfl hl (by decide) rfl (fun ls hl => ?_)
  refine lv_aload_n hx hb d_Model_say_2 rfl (lv_at hl 1 rfl) ?_
  refine lv_iconst (v := 0) hx hb d_Model_say_3 (by decide) ?_
  refine va_put (D := (dC, dI)) (ci := 7) (v := .int 0) (ty := .int) (C := R_Model) (T := T_Model) (N := 34) hx hb hT i_Model ty_Model ty_Model_ok n_Model hown hK hP hD hS 0 rfl rfl 0 (by decide) (hT _ kF_Model_86) (fun _ h9 => h9) rfl (by decide +kernel) rfl rfl (Nat.le_of_ble_eq_true rfl) d_Model_say_4 (fun H locs hP hD hS => ?_)
  have hP : va_P (dC, dI) vwCl [(h_this, .inr (7, [.int 0, .int v_rows, .ref h_rowPoint, .ref h_rowMinute, .ref h_rowValue, .ref h_text, .int v_size, .ref h_kinds, .ref h_values, .int v_words, .int v_at, .ref h_names, .ref h_testCounts, .ref h_minutes, .ref h_costs, .ref h_sorts, .ref h_firsts, .ref h_seconds, .ref h_relations, .ref h_numbers, .int v_ruleCount, .ref h_last, .ref h_before, .int v_ran, .ref h_heldCounts, .ref h_streaks, .int v_faults, .ref h_faultRule, .ref h_faultBegin, .ref h_faultEnd, .ref h_order, .ref h_left, .int v_leftCount, .ref h_brings])), (h_text, .inl (cI, 1000, .inl v_text))] H := hP
  have hD : va_D A [(h_this, .inr (7, [.int 0, .int v_rows, .ref h_rowPoint, .ref h_rowMinute, .ref h_rowValue, .ref h_text, .int v_size, .ref h_kinds, .ref h_values, .int v_words, .int v_at, .ref h_names, .ref h_testCounts, .ref h_minutes, .ref h_costs, .ref h_sorts, .ref h_firsts, .ref h_seconds, .ref h_relations, .ref h_numbers, .int v_ruleCount, .ref h_last, .ref h_before, .int v_ran, .ref h_heldCounts, .ref h_streaks, .int v_faults, .ref h_faultRule, .ref h_faultBegin, .ref h_faultEnd, .ref h_order, .ref h_left, .int v_leftCount, .ref h_brings])), (h_text, .inl (cI, 1000, .inl v_text))] := hD
  refine lv_bipush (v := 56) hx hb d_Model_say_7 (by decide) ?_
  refine lv_istore (lv' := [(4, .int 56), (3, .int 0), (0, .ref h_this), (1, .long p1)]) hx hb d_Model_say_9 hl (by decide) rfl (fun ls hl => ?_)
  have lp_11 : ∀ (k_78 : Int32 → (Int32) → Option (Int32 × Int32 × Int32 × (Nat → Int32))) (hk_78 : ∀ (l3_11e : Int32) (v_thrown_11e : Int32) (H : Heap) (locs : List Loc) (ls : Array Slot), k_78 l3_11e v_thrown_11e = some t → va_P (dC, dI) vwCl [(h_this, .inr (7, [.int v_thrown_11e, .int v_rows, .ref h_rowPoint, .ref h_rowMinute, .ref h_rowValue, .ref h_text, .int v_size, .ref h_kinds, .ref h_values, .int v_words, .int v_at, .ref h_names, .ref h_testCounts, .ref h_minutes, .ref h_costs, .ref h_sorts, .ref h_firsts, .ref h_seconds, .ref h_relations, .ref h_numbers, .int v_ruleCount, .ref h_last, .ref h_before, .int v_ran, .ref h_heldCounts, .ref h_streaks, .int v_faults, .ref h_faultRule, .ref h_faultBegin, .ref h_faultEnd, .ref h_order, .ref h_left, .int v_leftCount, .ref h_brings])), (h_text, .inl (cI, 1000, .inl v_text))] H → va_D A [(h_this, .inr (7, [.int v_thrown_11e, .int v_rows, .ref h_rowPoint, .ref h_rowMinute, .ref h_rowValue, .ref h_text, .int v_size, .ref h_kinds, .ref h_values, .int v_words, .int v_at, .ref h_names, .ref h_testCounts, .ref h_minutes, .ref h_costs, .ref h_sorts, .ref h_firsts, .ref h_seconds, .ref h_relations, .ref h_numbers, .int v_ruleCount, .ref h_last, .ref h_before, .int v_ran, .ref h_heldCounts, .ref h_streaks, .int v_faults, .ref h_faultRule, .ref h_faultBegin, .ref h_faultEnd, .ref h_order, .ref h_left, .int v_leftCount, .ref h_brings])), (h_text, .inl (cI, 1000, .inl v_text))] → va_S A s.heap H locs → lv_has ls 6 [(0, .ref h_this), (1, .long p1), (3, .int l3_11e)] → W p l e rm_Model_say s m args below meth c H locs 0 0 Q (F0 m 78 ls [])), ∀ (n : Nat) (l3_11 : Int32) (l4_11 : Int32) (v_thrown_11 : Int32) (H : Heap) (locs : List Loc) (ls : Array Slot), L_Model_say_11 fu p1 k_78 n l3_11 l4_11 v_thrown_11 = some t → va_P (dC, dI) vwCl [(h_this, .inr (7, [.int v_thrown_11, .int v_rows, .ref h_rowPoint, .ref h_rowMinute, .ref h_rowValue, .ref h_text, .int v_size, .ref h_kinds, .ref h_values, .int v_words, .int v_at, .ref h_names, .ref h_testCounts, .ref h_minutes, .ref h_costs, .ref h_sorts, .ref h_firsts, .ref h_seconds, .ref h_relations, .ref h_numbers, .int v_ruleCount, .ref h_last, .ref h_before, .int v_ran, .ref h_heldCounts, .ref h_streaks, .int v_faults, .ref h_faultRule, .ref h_faultBegin, .ref h_faultEnd, .ref h_order, .ref h_left, .int v_leftCount, .ref h_brings])), (h_text, .inl (cI, 1000, .inl v_text))] H → va_D A [(h_this, .inr (7, [.int v_thrown_11, .int v_rows, .ref h_rowPoint, .ref h_rowMinute, .ref h_rowValue, .ref h_text, .int v_size, .ref h_kinds, .ref h_values, .int v_words, .int v_at, .ref h_names, .ref h_testCounts, .ref h_minutes, .ref h_costs, .ref h_sorts, .ref h_firsts, .ref h_seconds, .ref h_relations, .ref h_numbers, .int v_ruleCount, .ref h_last, .ref h_before, .int v_ran, .ref h_heldCounts, .ref h_streaks, .int v_faults, .ref h_faultRule, .ref h_faultBegin, .ref h_faultEnd, .ref h_order, .ref h_left, .int v_leftCount, .ref h_brings])), (h_text, .inl (cI, 1000, .inl v_text))] → va_S A s.heap H locs → lv_has ls 6 [(0, .ref h_this), (1, .long p1), (3, .int l3_11), (4, .int l4_11)] → W p l e rm_Model_say s m args below meth c H locs 0 0 Q (F0 m 11 ls []) := by
    intro k_78 hk_78 n
    induction n with
    | zero => intro l3_11 l4_11 v_thrown_11 H locs ls hf; exact (L_Model_say_11_z hf).elim
    | succ n ih =>
      intro l3_11 l4_11 v_thrown_11 H locs ls hf hP hD hS hl
      replace hf := L_Model_say_11_u hf
      refine lv_iload hx hb d_Model_say_11 (lv_at hl 3 rfl) ?_
      refine lv_if_lt (tgt := 78) hx hb d_Model_say_13 (by decide) (fun c_1 => ?_) (fun c_1 => ?_)
      · replace hf := o_pos c_1 hf
        exact hk_78 l3_11 v_thrown_11 H locs ls hf hP hD hS (lv_sub hl [0, 1, 2] rfl)
      · replace hf := o_neg c_1 hf
        refine lv_lload_n hx hb d_Model_say_16 rfl (lv_at hl 1 rfl) ?_
        refine lv_iload hx hb d_Model_say_17 (lv_at hl 3 rfl) ?_
        refine lv_lshr (v := p1 >>> ((l4_11 : Int32).toInt64 &&& 63)) hx hb d_Model_say_19 rfl ?_
        refine lv_ldc2 (v := 255) hx hb hown (hT _ kK_Model_116) d_Model_say_20 ?_
        refine lv_land hx hb d_Model_say_23 ?_
        refine lv_l2i (v := ((p1 >>> ((l4_11 : Int32).toInt64 &&& 63)) &&& 255 : Int64).toInt32) hx hb d_Model_say_24 rfl ?_
        refine lv_istore (lv' := [(5, .int (((p1 >>> ((l4_11 : Int32).toInt64 &&& 63)) &&& 255 : Int64).toInt32)), (0, .ref h_this), (1, .long p1), (3, .int l3_11), (4, .int l4_11)]) hx hb d_Model_say_25 hl (by decide) rfl (fun ls hl => ?_)
        refine lv_aload_n hx hb d_Model_say_27 rfl (lv_at hl 1 rfl) ?_
        refine lv_iload hx hb d_Model_say_28 (lv_at hl 0 rfl) ?_
        refine lv_if_eq (tgt := 52) hx hb d_Model_say_30 (by decide) (fun c_2 => ?_) (fun c_2 => ?_)
        · replace hf := o_pos c_2 hf
          refine lv_aload_n hx hb d_Model_say_52 rfl (lv_at hl 1 rfl) ?_
          refine va_get (D := (dC, dI)) (ci := 7) (v := .int v_thrown_11) (C := R_Model) (T := T_Model) (N := 34) hx hb hT i_Model hown hK hP 0 rfl rfl 0 (by decide) (hT _ kF_Model_86) (fun _ h9 => h9) rfl d_Model_say_53 ?_
          refine va_put (D := (dC, dI)) (ci := 7) (v := .int v_thrown_11) (ty := .int) (C := R_Model) (T := T_Model) (N := 34) hx hb hT i_Model ty_Model ty_Model_ok n_Model hown hK hP hD hS 0 rfl rfl 0 (by decide) (hT _ kF_Model_86) (fun _ h9 => h9) rfl (by decide +kernel) rfl rfl (Nat.le_of_ble_eq_true rfl) d_Model_say_56 (fun H locs hP hD hS => ?_)
          have hP : va_P (dC, dI) vwCl [(h_this, .inr (7, [.int v_thrown_11, .int v_rows, .ref h_rowPoint, .ref h_rowMinute, .ref h_rowValue, .ref h_text, .int v_size, .ref h_kinds, .ref h_values, .int v_words, .int v_at, .ref h_names, .ref h_testCounts, .ref h_minutes, .ref h_costs, .ref h_sorts, .ref h_firsts, .ref h_seconds, .ref h_relations, .ref h_numbers, .int v_ruleCount, .ref h_last, .ref h_before, .int v_ran, .ref h_heldCounts, .ref h_streaks, .int v_faults, .ref h_faultRule, .ref h_faultBegin, .ref h_faultEnd, .ref h_order, .ref h_left, .int v_leftCount, .ref h_brings])), (h_text, .inl (cI, 1000, .inl v_text))] H := hP
          have hD : va_D A [(h_this, .inr (7, [.int v_thrown_11, .int v_rows, .ref h_rowPoint, .ref h_rowMinute, .ref h_rowValue, .ref h_text, .int v_size, .ref h_kinds, .ref h_values, .int v_words, .int v_at, .ref h_names, .ref h_testCounts, .ref h_minutes, .ref h_costs, .ref h_sorts, .ref h_firsts, .ref h_seconds, .ref h_relations, .ref h_numbers, .int v_ruleCount, .ref h_last, .ref h_before, .int v_ran, .ref h_heldCounts, .ref h_streaks, .int v_faults, .ref h_faultRule, .ref h_faultBegin, .ref h_faultEnd, .ref h_order, .ref h_left, .int v_leftCount, .ref h_brings])), (h_text, .inl (cI, 1000, .inl v_text))] := hD
          refine lv_iload_n hx hb d_Model_say_59 rfl (lv_at hl 3 rfl) ?_
          refine lv_iload hx hb d_Model_say_60 (lv_at hl 0 rfl) ?_
          refine lv_if_eq (tgt := 69) hx hb d_Model_say_62 (by decide) (fun c_3 => ?_) (fun c_3 => ?_)
          · replace hf := o_pos c_3 hf
            refine lv_iconst (v := 0) hx hb d_Model_say_69 (by decide) ?_
            refine lv_iadd hx hb d_Model_say_70 ?_
            refine lv_istore_n (lv' := [(3, .int (l3_11 + 0)), (5, .int (((p1 >>> ((l4_11 : Int32).toInt64 &&& 63)) &&& 255 : Int64).toInt32)), (0, .ref h_this), (1, .long p1), (4, .int l4_11)]) hx hb d_Model_say_71 rfl hl (by decide) rfl (fun ls hl => ?_)
            refine lv_iinc (v := l4_11 + (-8)) (lv' := [(4, .int (l4_11 + (-8))), (3, .int (l3_11 + 0)), (5, .int (((p1 >>> ((l4_11 : Int32).toInt64 &&& 63)) &&& 255 : Int64).toInt32)), (0, .ref h_this), (1, .long p1)]) hx hb d_Model_say_72 hl (k := 4) rfl rfl (by decide) rfl (fun ls hl => ?_)
            refine lv_goto (tgt := 11) hx hb d_Model_say_75 (by decide) ?_
            exact ih (l3_11 + 0) (l4_11 + (-8)) v_thrown_11 H locs ls hf hP hD hS (lv_sub hl [3, 4, 1, 0] rfl)
          · replace hf := o_neg c_3 hf
            refine lv_iconst (v := 1) hx hb d_Model_say_65 (by decide) ?_
            refine lv_goto (tgt := 70) hx hb d_Model_say_66 (by decide) ?_
            refine lv_iadd hx hb d_Model_say_70 ?_
            refine lv_istore_n (lv' := [(3, .int (l3_11 + 1)), (5, .int (((p1 >>> ((l4_11 : Int32).toInt64 &&& 63)) &&& 255 : Int64).toInt32)), (0, .ref h_this), (1, .long p1), (4, .int l4_11)]) hx hb d_Model_say_71 rfl hl (by decide) rfl (fun ls hl => ?_)
            refine lv_iinc (v := l4_11 + (-8)) (lv' := [(4, .int (l4_11 + (-8))), (3, .int (l3_11 + 1)), (5, .int (((p1 >>> ((l4_11 : Int32).toInt64 &&& 63)) &&& 255 : Int64).toInt32)), (0, .ref h_this), (1, .long p1)]) hx hb d_Model_say_72 hl (k := 4) rfl rfl (by decide) rfl (fun ls hl => ?_)
            refine lv_goto (tgt := 11) hx hb d_Model_say_75 (by decide) ?_
            exact ih (l3_11 + 1) (l4_11 + (-8)) v_thrown_11 H locs ls hf hP hD hS (lv_sub hl [3, 4, 1, 0] rfl)
        · replace hf := o_neg c_2 hf
          refine lv_iload hx hb d_Model_say_33 (lv_at hl 0 rfl) ?_
          refine lv_i2l (v := (((p1 >>> ((l4_11 : Int32).toInt64 &&& 63)) &&& 255 : Int64).toInt32 : Int32).toInt64) hx hb d_Model_say_35 rfl ?_
          refine lv_ldc2 (v := 32) hx hb hown (hT _ kK_Model_118) d_Model_say_36 ?_
          refine lv_ldc2 (v := 126) hx hb hown (hT _ kK_Model_120) d_Model_say_39 ?_
          obtain ⟨t_4, hg_4, hf⟩ := o_bind hf
          refine x_stat (w' := [(h_this, .inr (7, [.int v_thrown_11, .int v_rows, .ref h_rowPoint, .ref h_rowMinute, .ref h_rowValue, .ref h_text, .int v_size, .ref h_kinds, .ref h_values, .int v_words, .int v_at, .ref h_names, .ref h_testCounts, .ref h_minutes, .ref h_costs, .ref h_sorts, .ref h_firsts, .ref h_seconds, .ref h_relations, .ref h_numbers, .int v_ruleCount, .ref h_last, .ref h_before, .int v_ran, .ref h_heldCounts, .ref h_streaks, .int v_faults, .ref h_faultRule, .ref h_faultBegin, .ref h_faultEnd, .ref h_order, .ref h_left, .int v_leftCount, .ref h_brings])), (h_text, .inl (cI, 1000, .inl v_text))]) (As := [.long ((((p1 >>> ((l4_11 : Int32).toInt64 &&& 63)) &&& 255 : Int64).toInt32 : Int32).toInt64), .long 32, .long 126]) (rest := [.ref h_this]) hx hb hml hl.1 hown hT hK hN hP hD hS hA (c_Model_isIn l dC dI cI cL cC H.size ((((p1 >>> ((l4_11 : Int32).toInt64 &&& 63)) &&& 255 : Int64).toInt32 : Int32).toInt64) 32 126 t_4 hg_4) kM_Model_92 kT_Model_isIn kN_Model kC_Model_isIn hd_Model_isIn rfl ⟨Nat.le_of_ble_eq_true rfl, Nat.le_of_ble_eq_true rfl⟩ rfl rfl ⟨Nat.zero_le _, Nat.zero_le _⟩ rfl (Nat.le_of_ble_eq_true rfl) d_Model_say_42 [] rfl rfl [.inl 0, .inl 1] rfl rfl rfl (fun H locs hP hD hS => ?_)
          refine lv_if_ne (tgt := 52) hx hb d_Model_say_45 (by decide) (fun c_5 => ?_) (fun c_5 => ?_)
          · replace hf := o_neg c_5 hf
            refine lv_aload_n hx hb d_Model_say_52 rfl (lv_at hl 1 rfl) ?_
            refine va_get (D := (dC, dI)) (ci := 7) (v := .int v_thrown_11) (C := R_Model) (T := T_Model) (N := 34) hx hb hT i_Model hown hK hP 0 rfl rfl 0 (by decide) (hT _ kF_Model_86) (fun _ h9 => h9) rfl d_Model_say_53 ?_
            refine va_put (D := (dC, dI)) (ci := 7) (v := .int v_thrown_11) (ty := .int) (C := R_Model) (T := T_Model) (N := 34) hx hb hT i_Model ty_Model ty_Model_ok n_Model hown hK hP hD hS 0 rfl rfl 0 (by decide) (hT _ kF_Model_86) (fun _ h9 => h9) rfl (by decide +kernel) rfl rfl (Nat.le_of_ble_eq_true rfl) d_Model_say_56 (fun H locs hP hD hS => ?_)
            have hP : va_P (dC, dI) vwCl [(h_this, .inr (7, [.int v_thrown_11, .int v_rows, .ref h_rowPoint, .ref h_rowMinute, .ref h_rowValue, .ref h_text, .int v_size, .ref h_kinds, .ref h_values, .int v_words, .int v_at, .ref h_names, .ref h_testCounts, .ref h_minutes, .ref h_costs, .ref h_sorts, .ref h_firsts, .ref h_seconds, .ref h_relations, .ref h_numbers, .int v_ruleCount, .ref h_last, .ref h_before, .int v_ran, .ref h_heldCounts, .ref h_streaks, .int v_faults, .ref h_faultRule, .ref h_faultBegin, .ref h_faultEnd, .ref h_order, .ref h_left, .int v_leftCount, .ref h_brings])), (h_text, .inl (cI, 1000, .inl v_text))] H := hP
            have hD : va_D A [(h_this, .inr (7, [.int v_thrown_11, .int v_rows, .ref h_rowPoint, .ref h_rowMinute, .ref h_rowValue, .ref h_text, .int v_size, .ref h_kinds, .ref h_values, .int v_words, .int v_at, .ref h_names, .ref h_testCounts, .ref h_minutes, .ref h_costs, .ref h_sorts, .ref h_firsts, .ref h_seconds, .ref h_relations, .ref h_numbers, .int v_ruleCount, .ref h_last, .ref h_before, .int v_ran, .ref h_heldCounts, .ref h_streaks, .int v_faults, .ref h_faultRule, .ref h_faultBegin, .ref h_faultEnd, .ref h_order, .ref h_left, .int v_leftCount, .ref h_brings])), (h_text, .inl (cI, 1000, .inl v_text))] := hD
            refine lv_iload_n hx hb d_Model_say_59 rfl (lv_at hl 3 rfl) ?_
            refine lv_iload hx hb d_Model_say_60 (lv_at hl 0 rfl) ?_
            refine lv_if_eq (tgt := 69) hx hb d_Model_say_62 (by decide) (fun c_6 => ?_) (fun c_6 => ?_)
            · replace hf := o_pos c_6 hf
              refine lv_iconst (v := 0) hx hb d_Model_say_69 (by decide) ?_
              refine lv_iadd hx hb d_Model_say_70 ?_
              refine lv_istore_n (lv' := [(3, .int (l3_11 + 0)), (5, .int (((p1 >>> ((l4_11 : Int32).toInt64 &&& 63)) &&& 255 : Int64).toInt32)), (0, .ref h_this), (1, .long p1), (4, .int l4_11)]) hx hb d_Model_say_71 rfl hl (by decide) rfl (fun ls hl => ?_)
              refine lv_iinc (v := l4_11 + (-8)) (lv' := [(4, .int (l4_11 + (-8))), (3, .int (l3_11 + 0)), (5, .int (((p1 >>> ((l4_11 : Int32).toInt64 &&& 63)) &&& 255 : Int64).toInt32)), (0, .ref h_this), (1, .long p1)]) hx hb d_Model_say_72 hl (k := 4) rfl rfl (by decide) rfl (fun ls hl => ?_)
              refine lv_goto (tgt := 11) hx hb d_Model_say_75 (by decide) ?_
              exact ih (l3_11 + 0) (l4_11 + (-8)) v_thrown_11 H locs ls hf hP hD hS (lv_sub hl [3, 4, 1, 0] rfl)
            · replace hf := o_neg c_6 hf
              refine lv_iconst (v := 1) hx hb d_Model_say_65 (by decide) ?_
              refine lv_goto (tgt := 70) hx hb d_Model_say_66 (by decide) ?_
              refine lv_iadd hx hb d_Model_say_70 ?_
              refine lv_istore_n (lv' := [(3, .int (l3_11 + 1)), (5, .int (((p1 >>> ((l4_11 : Int32).toInt64 &&& 63)) &&& 255 : Int64).toInt32)), (0, .ref h_this), (1, .long p1), (4, .int l4_11)]) hx hb d_Model_say_71 rfl hl (by decide) rfl (fun ls hl => ?_)
              refine lv_iinc (v := l4_11 + (-8)) (lv' := [(4, .int (l4_11 + (-8))), (3, .int (l3_11 + 1)), (5, .int (((p1 >>> ((l4_11 : Int32).toInt64 &&& 63)) &&& 255 : Int64).toInt32)), (0, .ref h_this), (1, .long p1)]) hx hb d_Model_say_72 hl (k := 4) rfl rfl (by decide) rfl (fun ls hl => ?_)
              refine lv_goto (tgt := 11) hx hb d_Model_say_75 (by decide) ?_
              exact ih (l3_11 + 1) (l4_11 + (-8)) v_thrown_11 H locs ls hf hP hD hS (lv_sub hl [3, 4, 1, 0] rfl)
          · replace hf := o_pos c_5 hf
            refine lv_iconst (v := 1) hx hb d_Model_say_48 (by decide) ?_
            refine lv_goto (tgt := 56) hx hb d_Model_say_49 (by decide) ?_
            refine va_put (D := (dC, dI)) (ci := 7) (v := .int 1) (ty := .int) (C := R_Model) (T := T_Model) (N := 34) hx hb hT i_Model ty_Model ty_Model_ok n_Model hown hK hP hD hS 0 rfl rfl 0 (by decide) (hT _ kF_Model_86) (fun _ h9 => h9) rfl (by decide +kernel) rfl rfl (Nat.le_of_ble_eq_true rfl) d_Model_say_56 (fun H locs hP hD hS => ?_)
            have hP : va_P (dC, dI) vwCl [(h_this, .inr (7, [.int 1, .int v_rows, .ref h_rowPoint, .ref h_rowMinute, .ref h_rowValue, .ref h_text, .int v_size, .ref h_kinds, .ref h_values, .int v_words, .int v_at, .ref h_names, .ref h_testCounts, .ref h_minutes, .ref h_costs, .ref h_sorts, .ref h_firsts, .ref h_seconds, .ref h_relations, .ref h_numbers, .int v_ruleCount, .ref h_last, .ref h_before, .int v_ran, .ref h_heldCounts, .ref h_streaks, .int v_faults, .ref h_faultRule, .ref h_faultBegin, .ref h_faultEnd, .ref h_order, .ref h_left, .int v_leftCount, .ref h_brings])), (h_text, .inl (cI, 1000, .inl v_text))] H := hP
            have hD : va_D A [(h_this, .inr (7, [.int 1, .int v_rows, .ref h_rowPoint, .ref h_rowMinute, .ref h_rowValue, .ref h_text, .int v_size, .ref h_kinds, .ref h_values, .int v_words, .int v_at, .ref h_names, .ref h_testCounts, .ref h_minutes, .ref h_costs, .ref h_sorts, .ref h_firsts, .ref h_seconds, .ref h_relations, .ref h_numbers, .int v_ruleCount, .ref h_last, .ref h_before, .int v_ran, .ref h_heldCounts, .ref h_streaks, .int v_faults, .ref h_faultRule, .ref h_faultBegin, .ref h_faultEnd, .ref h_order, .ref h_left, .int v_leftCount, .ref h_brings])), (h_text, .inl (cI, 1000, .inl v_text))] := hD
            refine lv_iload_n hx hb d_Model_say_59 rfl (lv_at hl 3 rfl) ?_
            refine lv_iload hx hb d_Model_say_60 (lv_at hl 0 rfl) ?_
            refine lv_if_eq (tgt := 69) hx hb d_Model_say_62 (by decide) (fun c_7 => ?_) (fun c_7 => ?_)
            · replace hf := o_pos c_7 hf
              refine lv_iconst (v := 0) hx hb d_Model_say_69 (by decide) ?_
              refine lv_iadd hx hb d_Model_say_70 ?_
              refine lv_istore_n (lv' := [(3, .int (l3_11 + 0)), (5, .int (((p1 >>> ((l4_11 : Int32).toInt64 &&& 63)) &&& 255 : Int64).toInt32)), (0, .ref h_this), (1, .long p1), (4, .int l4_11)]) hx hb d_Model_say_71 rfl hl (by decide) rfl (fun ls hl => ?_)
              refine lv_iinc (v := l4_11 + (-8)) (lv' := [(4, .int (l4_11 + (-8))), (3, .int (l3_11 + 0)), (5, .int (((p1 >>> ((l4_11 : Int32).toInt64 &&& 63)) &&& 255 : Int64).toInt32)), (0, .ref h_this), (1, .long p1)]) hx hb d_Model_say_72 hl (k := 4) rfl rfl (by decide) rfl (fun ls hl => ?_)
              refine lv_goto (tgt := 11) hx hb d_Model_say_75 (by decide) ?_
              exact ih (l3_11 + 0) (l4_11 + (-8)) 1 H locs ls hf hP hD hS (lv_sub hl [3, 4, 1, 0] rfl)
            · replace hf := o_neg c_7 hf
              refine lv_iconst (v := 1) hx hb d_Model_say_65 (by decide) ?_
              refine lv_goto (tgt := 70) hx hb d_Model_say_66 (by decide) ?_
              refine lv_iadd hx hb d_Model_say_70 ?_
              refine lv_istore_n (lv' := [(3, .int (l3_11 + 1)), (5, .int (((p1 >>> ((l4_11 : Int32).toInt64 &&& 63)) &&& 255 : Int64).toInt32)), (0, .ref h_this), (1, .long p1), (4, .int l4_11)]) hx hb d_Model_say_71 rfl hl (by decide) rfl (fun ls hl => ?_)
              refine lv_iinc (v := l4_11 + (-8)) (lv' := [(4, .int (l4_11 + (-8))), (3, .int (l3_11 + 1)), (5, .int (((p1 >>> ((l4_11 : Int32).toInt64 &&& 63)) &&& 255 : Int64).toInt32)), (0, .ref h_this), (1, .long p1)]) hx hb d_Model_say_72 hl (k := 4) rfl rfl (by decide) rfl (fun ls hl => ?_)
              refine lv_goto (tgt := 11) hx hb d_Model_say_75 (by decide) ?_
              exact ih (l3_11 + 1) (l4_11 + (-8)) 1 H locs ls hf hP hD hS (lv_sub hl [3, 4, 1, 0] rfl)
  refine lp_11 _ (fun l3_11e v_thrown_11e H locs ls hf hP hD hS hl => ?_) fu 0 56 0 H locs ls hf hP hD hS (lv_sub hl [2, 3, 1, 0] rfl)
  refine lv_aload_n hx hb d_Model_say_78 rfl (lv_at hl 0 rfl) ?_
  refine lv_aload_n hx hb d_Model_say_79 rfl (lv_at hl 0 rfl) ?_
  refine va_get (D := (dC, dI)) (ci := 7) (v := .int v_thrown_11e) (C := R_Model) (T := T_Model) (N := 34) hx hb hT i_Model hown hK hP 0 rfl rfl 0 (by decide) (hT _ kF_Model_86) (fun _ h9 => h9) rfl d_Model_say_80 ?_
  have jn_106 : ∀ (s1_j106 : Int32) (H : Heap) (locs : List Loc) (ls : Array Slot), J_Model_say_106 fu v_thrown_11e v_size v_text p1 s1_j106 = some t → va_P (dC, dI) vwCl [(h_this, .inr (7, [.int v_thrown_11e, .int v_rows, .ref h_rowPoint, .ref h_rowMinute, .ref h_rowValue, .ref h_text, .int v_size, .ref h_kinds, .ref h_values, .int v_words, .int v_at, .ref h_names, .ref h_testCounts, .ref h_minutes, .ref h_costs, .ref h_sorts, .ref h_firsts, .ref h_seconds, .ref h_relations, .ref h_numbers, .int v_ruleCount, .ref h_last, .ref h_before, .int v_ran, .ref h_heldCounts, .ref h_streaks, .int v_faults, .ref h_faultRule, .ref h_faultBegin, .ref h_faultEnd, .ref h_order, .ref h_left, .int v_leftCount, .ref h_brings])), (h_text, .inl (cI, 1000, .inl v_text))] H → va_D A [(h_this, .inr (7, [.int v_thrown_11e, .int v_rows, .ref h_rowPoint, .ref h_rowMinute, .ref h_rowValue, .ref h_text, .int v_size, .ref h_kinds, .ref h_values, .int v_words, .int v_at, .ref h_names, .ref h_testCounts, .ref h_minutes, .ref h_costs, .ref h_sorts, .ref h_firsts, .ref h_seconds, .ref h_relations, .ref h_numbers, .int v_ruleCount, .ref h_last, .ref h_before, .int v_ran, .ref h_heldCounts, .ref h_streaks, .int v_faults, .ref h_faultRule, .ref h_faultBegin, .ref h_faultEnd, .ref h_order, .ref h_left, .int v_leftCount, .ref h_brings])), (h_text, .inl (cI, 1000, .inl v_text))] → va_S A s.heap H locs → lv_has ls 6 [(0, .ref h_this), (1, .long p1)] → W p l e rm_Model_say s m args below meth c H locs 0 0 Q (F0 m 106 ls [.int s1_j106, .ref h_this]) := by
    intro s1_j106 H locs ls hf hP hD hS hl
    replace hf := J_Model_say_106_u hf
    refine va_put (D := (dC, dI)) (ci := 7) (v := .int s1_j106) (ty := .int) (C := R_Model) (T := T_Model) (N := 34) hx hb hT i_Model ty_Model ty_Model_ok n_Model hown hK hP hD hS 0 rfl rfl 0 (by decide) (hT _ kF_Model_86) (fun _ h9 => h9) rfl (by decide +kernel) rfl rfl (Nat.le_of_ble_eq_true rfl) d_Model_say_106 (fun H locs hP hD hS => ?_)
    have hP : va_P (dC, dI) vwCl [(h_this, .inr (7, [.int s1_j106, .int v_rows, .ref h_rowPoint, .ref h_rowMinute, .ref h_rowValue, .ref h_text, .int v_size, .ref h_kinds, .ref h_values, .int v_words, .int v_at, .ref h_names, .ref h_testCounts, .ref h_minutes, .ref h_costs, .ref h_sorts, .ref h_firsts, .ref h_seconds, .ref h_relations, .ref h_numbers, .int v_ruleCount, .ref h_last, .ref h_before, .int v_ran, .ref h_heldCounts, .ref h_streaks, .int v_faults, .ref h_faultRule, .ref h_faultBegin, .ref h_faultEnd, .ref h_order, .ref h_left, .int v_leftCount, .ref h_brings])), (h_text, .inl (cI, 1000, .inl v_text))] H := hP
    have hD : va_D A [(h_this, .inr (7, [.int s1_j106, .int v_rows, .ref h_rowPoint, .ref h_rowMinute, .ref h_rowValue, .ref h_text, .int v_size, .ref h_kinds, .ref h_values, .int v_words, .int v_at, .ref h_names, .ref h_testCounts, .ref h_minutes, .ref h_costs, .ref h_sorts, .ref h_firsts, .ref h_seconds, .ref h_relations, .ref h_numbers, .int v_ruleCount, .ref h_last, .ref h_before, .int v_ran, .ref h_heldCounts, .ref h_streaks, .int v_faults, .ref h_faultRule, .ref h_faultBegin, .ref h_faultEnd, .ref h_order, .ref h_left, .int v_leftCount, .ref h_brings])), (h_text, .inl (cI, 1000, .inl v_text))] := hD
    refine lv_aload_n hx hb d_Model_say_109 rfl (lv_at hl 0 rfl) ?_
    refine va_get (D := (dC, dI)) (ci := 7) (v := .int s1_j106) (C := R_Model) (T := T_Model) (N := 34) hx hb hT i_Model hown hK hP 0 rfl rfl 0 (by decide) (hT _ kF_Model_86) (fun _ h9 => h9) rfl d_Model_say_110 ?_
    refine lv_if_le (tgt := 118) hx hb d_Model_say_113 (by decide) (fun c_8 => ?_) (fun c_8 => ?_)
    · replace hf := o_pos c_8 hf
      refine lv_bipush (v := 56) hx hb d_Model_say_118 (by decide) ?_
      refine lv_istore (lv' := [(4, .int 56), (0, .ref h_this), (1, .long p1)]) hx hb d_Model_say_120 hl (by decide) rfl (fun ls hl => ?_)
      have lp_122 : ∀ (n : Nat) (l4_122 : Int32) (v_size_122 : Int32) (v_text_122 : Nat → Int32) (H : Heap) (locs : List Loc) (ls : Array Slot), L_Model_say_122 fu s1_j106 p1 n l4_122 v_size_122 v_text_122 = some t → va_P (dC, dI) vwCl [(h_this, .inr (7, [.int s1_j106, .int v_rows, .ref h_rowPoint, .ref h_rowMinute, .ref h_rowValue, .ref h_text, .int v_size_122, .ref h_kinds, .ref h_values, .int v_words, .int v_at, .ref h_names, .ref h_testCounts, .ref h_minutes, .ref h_costs, .ref h_sorts, .ref h_firsts, .ref h_seconds, .ref h_relations, .ref h_numbers, .int v_ruleCount, .ref h_last, .ref h_before, .int v_ran, .ref h_heldCounts, .ref h_streaks, .int v_faults, .ref h_faultRule, .ref h_faultBegin, .ref h_faultEnd, .ref h_order, .ref h_left, .int v_leftCount, .ref h_brings])), (h_text, .inl (cI, 1000, .inl v_text_122))] H → va_D A [(h_this, .inr (7, [.int s1_j106, .int v_rows, .ref h_rowPoint, .ref h_rowMinute, .ref h_rowValue, .ref h_text, .int v_size_122, .ref h_kinds, .ref h_values, .int v_words, .int v_at, .ref h_names, .ref h_testCounts, .ref h_minutes, .ref h_costs, .ref h_sorts, .ref h_firsts, .ref h_seconds, .ref h_relations, .ref h_numbers, .int v_ruleCount, .ref h_last, .ref h_before, .int v_ran, .ref h_heldCounts, .ref h_streaks, .int v_faults, .ref h_faultRule, .ref h_faultBegin, .ref h_faultEnd, .ref h_order, .ref h_left, .int v_leftCount, .ref h_brings])), (h_text, .inl (cI, 1000, .inl v_text_122))] → va_S A s.heap H locs → lv_has ls 6 [(0, .ref h_this), (1, .long p1), (4, .int l4_122)] → W p l e rm_Model_say s m args below meth c H locs 0 0 Q (F0 m 122 ls []) := by
        intro  n
        induction n with
        | zero => intro l4_122 v_size_122 v_text_122 H locs ls hf; exact (L_Model_say_122_z hf).elim
        | succ n ih =>
          intro l4_122 v_size_122 v_text_122 H locs ls hf hP hD hS hl
          replace hf := L_Model_say_122_u hf
          refine lv_iload hx hb d_Model_say_122 (lv_at hl 2 rfl) ?_
          refine lv_if_lt (tgt := 170) hx hb d_Model_say_124 (by decide) (fun c_9 => ?_) (fun c_9 => ?_)
          · replace hf := o_pos c_9 hf
            refine lv_aload_n hx hb d_Model_say_170 rfl (lv_at hl 0 rfl) ?_
            refine va_get (D := (dC, dI)) (ci := 7) (v := .int v_size_122) (C := R_Model) (T := T_Model) (N := 34) hx hb hT i_Model hown hK hP 0 rfl rfl 6 (by decide) (hT _ kF_Model_122) (fun _ h9 => h9) rfl d_Model_say_171 ?_
            rw [hQ, ← Option.some.inj hf]
            exact W.iret hx hb hr (fun t9 ht9 hW9 => ⟨rfl, by rw [ht9]; exact hP, hS.F ht9⟩) hS.2.2 d_Model_say_174
          · replace hf := o_neg c_9 hf
            refine lv_lload_n hx hb d_Model_say_127 rfl (lv_at hl 1 rfl) ?_
            refine lv_iload hx hb d_Model_say_128 (lv_at hl 2 rfl) ?_
            refine lv_lshr (v := p1 >>> ((l4_122 : Int32).toInt64 &&& 63)) hx hb d_Model_say_130 rfl ?_
            refine lv_ldc2 (v := 255) hx hb hown (hT _ kK_Model_116) d_Model_say_131 ?_
            refine lv_land hx hb d_Model_say_134 ?_
            refine lv_l2i (v := ((p1 >>> ((l4_122 : Int32).toInt64 &&& 63)) &&& 255 : Int64).toInt32) hx hb d_Model_say_135 rfl ?_
            refine lv_istore (lv' := [(5, .int (((p1 >>> ((l4_122 : Int32).toInt64 &&& 63)) &&& 255 : Int64).toInt32)), (0, .ref h_this), (1, .long p1), (4, .int l4_122)]) hx hb d_Model_say_136 hl (by decide) rfl (fun ls hl => ?_)
            refine lv_iload hx hb d_Model_say_138 (lv_at hl 0 rfl) ?_
            refine lv_if_eq (tgt := 164) hx hb d_Model_say_140 (by decide) (fun c_10 => ?_) (fun c_10 => ?_)
            · replace hf := o_pos c_10 hf
              refine lv_iinc (v := l4_122 + (-8)) (lv' := [(4, .int (l4_122 + (-8))), (5, .int (((p1 >>> ((l4_122 : Int32).toInt64 &&& 63)) &&& 255 : Int64).toInt32)), (0, .ref h_this), (1, .long p1)]) hx hb d_Model_say_164 hl (k := 3) rfl rfl (by decide) rfl (fun ls hl => ?_)
              refine lv_goto (tgt := 122) hx hb d_Model_say_167 (by decide) ?_
              exact ih (l4_122 + (-8)) v_size_122 v_text_122 H locs ls hf hP hD hS (lv_sub hl [2, 3, 0] rfl)
            · replace hf := o_neg c_10 hf
              refine lv_aload_n hx hb d_Model_say_143 rfl (lv_at hl 1 rfl) ?_
              refine va_get (D := (dC, dI)) (ci := 7) (v := .ref h_text) (C := R_Model) (T := T_Model) (N := 34) hx hb hT i_Model hown hK hP 0 rfl rfl 5 (by decide) (hT _ kF_Model_19) (fun _ h9 => h9) rfl d_Model_say_144 ?_
              refine lv_aload_n hx hb d_Model_say_147 rfl (lv_at hl 1 rfl) ?_
              refine va_get (D := (dC, dI)) (ci := 7) (v := .int v_size_122) (C := R_Model) (T := T_Model) (N := 34) hx hb hT i_Model hown hK hP 0 rfl rfl 6 (by decide) (hT _ kF_Model_122) (fun _ h9 => h9) rfl d_Model_say_148 ?_
              refine lv_iload hx hb d_Model_say_151 (lv_at hl 0 rfl) ?_
              obtain ⟨hi_11, hf⟩ := o_in hf
              refine va_iast hx hb hK hP hD hS 1 0 rfl rfl hi_11 d_Model_say_153 (fun H locs hP hD hS => ?_)
              have hP : va_P (dC, dI) vwCl [(h_this, .inr (7, [.int s1_j106, .int v_rows, .ref h_rowPoint, .ref h_rowMinute, .ref h_rowValue, .ref h_text, .int v_size_122, .ref h_kinds, .ref h_values, .int v_words, .int v_at, .ref h_names, .ref h_testCounts, .ref h_minutes, .ref h_costs, .ref h_sorts, .ref h_firsts, .ref h_seconds, .ref h_relations, .ref h_numbers, .int v_ruleCount, .ref h_last, .ref h_before, .int v_ran, .ref h_heldCounts, .ref h_streaks, .int v_faults, .ref h_faultRule, .ref h_faultBegin, .ref h_faultEnd, .ref h_order, .ref h_left, .int v_leftCount, .ref h_brings])), (h_text, .inl (cI, 1000, .inl (upd v_text_122 (v_size_122 : Int32).toNatClampNeg (((p1 >>> ((l4_122 : Int32).toInt64 &&& 63)) &&& 255 : Int64).toInt32))))] H := hP
              have hD : va_D A [(h_this, .inr (7, [.int s1_j106, .int v_rows, .ref h_rowPoint, .ref h_rowMinute, .ref h_rowValue, .ref h_text, .int v_size_122, .ref h_kinds, .ref h_values, .int v_words, .int v_at, .ref h_names, .ref h_testCounts, .ref h_minutes, .ref h_costs, .ref h_sorts, .ref h_firsts, .ref h_seconds, .ref h_relations, .ref h_numbers, .int v_ruleCount, .ref h_last, .ref h_before, .int v_ran, .ref h_heldCounts, .ref h_streaks, .int v_faults, .ref h_faultRule, .ref h_faultBegin, .ref h_faultEnd, .ref h_order, .ref h_left, .int v_leftCount, .ref h_brings])), (h_text, .inl (cI, 1000, .inl (upd v_text_122 (v_size_122 : Int32).toNatClampNeg (((p1 >>> ((l4_122 : Int32).toInt64 &&& 63)) &&& 255 : Int64).toInt32))))] := hD
              refine lv_aload_n hx hb d_Model_say_154 rfl (lv_at hl 1 rfl) ?_
              refine lv_dup hx hb d_Model_say_155 rfl ?_
              refine va_get (D := (dC, dI)) (ci := 7) (v := .int v_size_122) (C := R_Model) (T := T_Model) (N := 34) hx hb hT i_Model hown hK hP 0 rfl rfl 6 (by decide) (hT _ kF_Model_122) (fun _ h9 => h9) rfl d_Model_say_156 ?_
              refine lv_iconst (v := 1) hx hb d_Model_say_159 (by decide) ?_
              refine lv_iadd hx hb d_Model_say_160 ?_
              refine va_put (D := (dC, dI)) (ci := 7) (v := .int (v_size_122 + 1)) (ty := .int) (C := R_Model) (T := T_Model) (N := 34) hx hb hT i_Model ty_Model ty_Model_ok n_Model hown hK hP hD hS 0 rfl rfl 6 (by decide) (hT _ kF_Model_122) (fun _ h9 => h9) rfl (by decide +kernel) rfl rfl (Nat.le_of_ble_eq_true rfl) d_Model_say_161 (fun H locs hP hD hS => ?_)
              have hP : va_P (dC, dI) vwCl [(h_this, .inr (7, [.int s1_j106, .int v_rows, .ref h_rowPoint, .ref h_rowMinute, .ref h_rowValue, .ref h_text, .int (v_size_122 + 1), .ref h_kinds, .ref h_values, .int v_words, .int v_at, .ref h_names, .ref h_testCounts, .ref h_minutes, .ref h_costs, .ref h_sorts, .ref h_firsts, .ref h_seconds, .ref h_relations, .ref h_numbers, .int v_ruleCount, .ref h_last, .ref h_before, .int v_ran, .ref h_heldCounts, .ref h_streaks, .int v_faults, .ref h_faultRule, .ref h_faultBegin, .ref h_faultEnd, .ref h_order, .ref h_left, .int v_leftCount, .ref h_brings])), (h_text, .inl (cI, 1000, .inl (upd v_text_122 (v_size_122 : Int32).toNatClampNeg (((p1 >>> ((l4_122 : Int32).toInt64 &&& 63)) &&& 255 : Int64).toInt32))))] H := hP
              have hD : va_D A [(h_this, .inr (7, [.int s1_j106, .int v_rows, .ref h_rowPoint, .ref h_rowMinute, .ref h_rowValue, .ref h_text, .int (v_size_122 + 1), .ref h_kinds, .ref h_values, .int v_words, .int v_at, .ref h_names, .ref h_testCounts, .ref h_minutes, .ref h_costs, .ref h_sorts, .ref h_firsts, .ref h_seconds, .ref h_relations, .ref h_numbers, .int v_ruleCount, .ref h_last, .ref h_before, .int v_ran, .ref h_heldCounts, .ref h_streaks, .int v_faults, .ref h_faultRule, .ref h_faultBegin, .ref h_faultEnd, .ref h_order, .ref h_left, .int v_leftCount, .ref h_brings])), (h_text, .inl (cI, 1000, .inl (upd v_text_122 (v_size_122 : Int32).toNatClampNeg (((p1 >>> ((l4_122 : Int32).toInt64 &&& 63)) &&& 255 : Int64).toInt32))))] := hD
              refine lv_iinc (v := l4_122 + (-8)) (lv' := [(4, .int (l4_122 + (-8))), (5, .int (((p1 >>> ((l4_122 : Int32).toInt64 &&& 63)) &&& 255 : Int64).toInt32)), (0, .ref h_this), (1, .long p1)]) hx hb d_Model_say_164 hl (k := 3) rfl rfl (by decide) rfl (fun ls hl => ?_)
              refine lv_goto (tgt := 122) hx hb d_Model_say_167 (by decide) ?_
              exact ih (l4_122 + (-8)) (v_size_122 + 1) (upd v_text_122 (v_size_122 : Int32).toNatClampNeg (((p1 >>> ((l4_122 : Int32).toInt64 &&& 63)) &&& 255 : Int64).toInt32)) H locs ls hf hP hD hS (lv_sub hl [2, 3, 0] rfl)
      refine lp_122  fu 56 v_size v_text H locs ls hf hP hD hS (lv_sub hl [1, 2, 0] rfl)
    · replace hf := o_neg c_8 hf
      refine lv_iconst (v := 0) hx hb d_Model_say_116 (by decide) ?_
      rw [hQ, ← Option.some.inj hf]
      exact W.iret hx hb hr (fun t9 ht9 hW9 => ⟨rfl, by rw [ht9]; exact hP, hS.F ht9⟩) hS.2.2 d_Model_say_117
  refine lv_if_ne (tgt := 102) hx hb d_Model_say_83 (by decide) (fun c_12 => ?_) (fun c_12 => ?_)
  · replace hf := o_neg c_12 hf
    refine lv_aload_n hx hb d_Model_say_102 rfl (lv_at hl 0 rfl) ?_
    refine va_get (D := (dC, dI)) (ci := 7) (v := .int v_thrown_11e) (C := R_Model) (T := T_Model) (N := 34) hx hb hT i_Model hown hK hP 0 rfl rfl 0 (by decide) (hT _ kF_Model_86) (fun _ h9 => h9) rfl d_Model_say_103 ?_
    exact jn_106 v_thrown_11e H locs ls hf hP hD hS (lv_sub hl [0, 1] rfl)
  · replace hf := o_pos c_12 hf
    refine lv_aload_n hx hb d_Model_say_86 rfl (lv_at hl 0 rfl) ?_
    refine va_get (D := (dC, dI)) (ci := 7) (v := .int v_size) (C := R_Model) (T := T_Model) (N := 34) hx hb hT i_Model hown hK hP 0 rfl rfl 6 (by decide) (hT _ kF_Model_122) (fun _ h9 => h9) rfl d_Model_say_87 ?_
    refine lv_iload_n hx hb d_Model_say_90 rfl (lv_at hl 2 rfl) ?_
    refine lv_iadd hx hb d_Model_say_91 ?_
    refine lv_sipush (v := 1000) hx hb d_Model_say_92 (by decide) ?_
    refine lv_icmp_le (tgt := 102) hx hb d_Model_say_95 (by decide) (fun c_13 => ?_) (fun c_13 => ?_)
    · replace hf := o_pos c_13 hf
      refine lv_aload_n hx hb d_Model_say_102 rfl (lv_at hl 0 rfl) ?_
      refine va_get (D := (dC, dI)) (ci := 7) (v := .int v_thrown_11e) (C := R_Model) (T := T_Model) (N := 34) hx hb hT i_Model hown hK hP 0 rfl rfl 0 (by decide) (hT _ kF_Model_86) (fun _ h9 => h9) rfl d_Model_say_103 ?_
      exact jn_106 v_thrown_11e H locs ls hf hP hD hS (lv_sub hl [0, 1] rfl)
    · replace hf := o_neg c_13 hf
      refine lv_iconst (v := 2) hx hb d_Model_say_98 (by decide) ?_
      refine lv_goto (tgt := 106) hx hb d_Model_say_99 (by decide) ?_
      exact jn_106 2 H locs ls hf hP hD hS (lv_sub hl [0, 1] rfl)
