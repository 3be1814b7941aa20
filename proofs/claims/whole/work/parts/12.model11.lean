def J_Model_fault_30 (v_thrown : Int32) (v_faults : Int32) (v_costs : Nat → Int32) (v_faultRule : Nat → Int32) (v_faultBegin : Nat → Int32) (v_faultEnd : Nat → Int32) (v_order : Nat → Int32) (l1_j30 : Int32) (l2_j30 : Int32) (s1_j30 : Int32) : Option (Int32 × Int32) :=
  (if s1_j30 ≤ 0 then (if l1_j30 < v_faults then (bd l1_j30 6000 (if l2_j30 = 0 then (bd (v_order (l1_j30 : Int32).toNatClampNeg) 6000 (some (v_faultRule (v_order (l1_j30 : Int32).toNatClampNeg : Int32).toNatClampNeg, s1_j30))) else (if l2_j30 = 1 then (bd (v_order (l1_j30 : Int32).toNatClampNeg) 6000 (some (v_faultBegin (v_order (l1_j30 : Int32).toNatClampNeg : Int32).toNatClampNeg, s1_j30))) else (if l2_j30 = 2 then (bd (v_order (l1_j30 : Int32).toNatClampNeg) 6000 (some (v_faultEnd (v_order (l1_j30 : Int32).toNatClampNeg : Int32).toNatClampNeg, s1_j30))) else ((f_Model_costOf v_costs v_faultRule v_faultBegin v_faultEnd (v_order (l1_j30 : Int32).toNatClampNeg)).bind (fun t_7 => (some (t_7, s1_j30)))))))) else (some ((-1), s1_j30))) else (some (0, s1_j30)))
theorem J_Model_fault_30_u {v_thrown : Int32} {v_faults : Int32} {v_costs : Nat → Int32} {v_faultRule : Nat → Int32} {v_faultBegin : Nat → Int32} {v_faultEnd : Nat → Int32} {v_order : Nat → Int32} {l1_j30 : Int32} {l2_j30 : Int32} {s1_j30 : Int32} {t : Int32 × Int32} (h : J_Model_fault_30 v_thrown v_faults v_costs v_faultRule v_faultBegin v_faultEnd v_order l1_j30 l2_j30 s1_j30 = some t) : (if s1_j30 ≤ 0 then (if l1_j30 < v_faults then (bd l1_j30 6000 (if l2_j30 = 0 then (bd (v_order (l1_j30 : Int32).toNatClampNeg) 6000 (some (v_faultRule (v_order (l1_j30 : Int32).toNatClampNeg : Int32).toNatClampNeg, s1_j30))) else (if l2_j30 = 1 then (bd (v_order (l1_j30 : Int32).toNatClampNeg) 6000 (some (v_faultBegin (v_order (l1_j30 : Int32).toNatClampNeg : Int32).toNatClampNeg, s1_j30))) else (if l2_j30 = 2 then (bd (v_order (l1_j30 : Int32).toNatClampNeg) 6000 (some (v_faultEnd (v_order (l1_j30 : Int32).toNatClampNeg : Int32).toNatClampNeg, s1_j30))) else ((f_Model_costOf v_costs v_faultRule v_faultBegin v_faultEnd (v_order (l1_j30 : Int32).toNatClampNeg)).bind (fun t_7 => (some (t_7, s1_j30)))))))) else (some ((-1), s1_j30))) else (some (0, s1_j30))) = some t := h
def f_Model_fault (v_thrown : Int32) (v_ran : Int32) (v_faults : Int32) (v_costs : Nat → Int32) (v_faultRule : Nat → Int32) (v_faultBegin : Nat → Int32) (v_faultEnd : Nat → Int32) (v_order : Nat → Int32) (p1 : Int32) (p2 : Int32) : Option (Int32 × Int32) :=
  (if p1 < 0 then (J_Model_fault_30 v_thrown v_faults v_costs v_faultRule v_faultBegin v_faultEnd v_order p1 p2 1) else (if p2 < 0 then (J_Model_fault_30 v_thrown v_faults v_costs v_faultRule v_faultBegin v_faultEnd v_order p1 p2 1) else (if p2 ≤ 3 then (if v_ran = 0 then (J_Model_fault_30 v_thrown v_faults v_costs v_faultRule v_faultBegin v_faultEnd v_order p1 p2 2) else (J_Model_fault_30 v_thrown v_faults v_costs v_faultRule v_faultBegin v_faultEnd v_order p1 p2 0)) else (J_Model_fault_30 v_thrown v_faults v_costs v_faultRule v_faultBegin v_faultEnd v_order p1 p2 1))))
theorem f_Model_fault_u {v_thrown : Int32} {v_ran : Int32} {v_faults : Int32} {v_costs : Nat → Int32} {v_faultRule : Nat → Int32} {v_faultBegin : Nat → Int32} {v_faultEnd : Nat → Int32} {v_order : Nat → Int32} {p1 : Int32} {p2 : Int32} {t : Int32 × Int32} (h : f_Model_fault v_thrown v_ran v_faults v_costs v_faultRule v_faultBegin v_faultEnd v_order p1 p2 = some t) : (if p1 < 0 then (J_Model_fault_30 v_thrown v_faults v_costs v_faultRule v_faultBegin v_faultEnd v_order p1 p2 1) else (if p2 < 0 then (J_Model_fault_30 v_thrown v_faults v_costs v_faultRule v_faultBegin v_faultEnd v_order p1 p2 1) else (if p2 ≤ 3 then (if v_ran = 0 then (J_Model_fault_30 v_thrown v_faults v_costs v_faultRule v_faultBegin v_faultEnd v_order p1 p2 2) else (J_Model_fault_30 v_thrown v_faults v_costs v_faultRule v_faultBegin v_faultEnd v_order p1 p2 0)) else (J_Model_fault_30 v_thrown v_faults v_costs v_faultRule v_faultBegin v_faultEnd v_order p1 p2 1)))) = some t := h
def L_Model_money_20 (fu : Nat) (v_thrown : Int32) (v_ran : Int32) (v_faults : Int32) (v_costs : Nat → Int32) (v_faultRule : Nat → Int32) (v_faultBegin : Nat → Int32) (v_faultEnd : Nat → Int32) : Nat → Int32 → Int32 → Option (Int32 × Int32)
  | 0, _, _ => none
  | n + 1, l1_20, l2_20 => (if v_faults ≤ l2_20 then (some (l1_20, v_thrown)) else (if v_ran = 0 then (some (l1_20, v_thrown)) else ((f_Model_costOf v_costs v_faultRule v_faultBegin v_faultEnd l2_20).bind (fun t_3 => ((L_Model_money_20 fu v_thrown v_ran v_faults v_costs v_faultRule v_faultBegin v_faultEnd n) (l1_20 + t_3) (l2_20 + 1))))))
theorem L_Model_money_20_z {fu : Nat} {v_thrown : Int32} {v_ran : Int32} {v_faults : Int32} {v_costs : Nat → Int32} {v_faultRule : Nat → Int32} {v_faultBegin : Nat → Int32} {v_faultEnd : Nat → Int32} {l1_20 : Int32} {l2_20 : Int32} {t : Int32 × Int32} (h : L_Model_money_20 fu v_thrown v_ran v_faults v_costs v_faultRule v_faultBegin v_faultEnd 0 l1_20 l2_20 = some t) : False := by cases (show (none : Option (Int32 × Int32)) = some t from h)
theorem L_Model_money_20_u {fu : Nat} {v_thrown : Int32} {v_ran : Int32} {v_faults : Int32} {v_costs : Nat → Int32} {v_faultRule : Nat → Int32} {v_faultBegin : Nat → Int32} {v_faultEnd : Nat → Int32} {n : Nat} {l1_20 : Int32} {l2_20 : Int32} {t : Int32 × Int32} (h : L_Model_money_20 fu v_thrown v_ran v_faults v_costs v_faultRule v_faultBegin v_faultEnd (n + 1) l1_20 l2_20 = some t) : (if v_faults ≤ l2_20 then (some (l1_20, v_thrown)) else (if v_ran = 0 then (some (l1_20, v_thrown)) else ((f_Model_costOf v_costs v_faultRule v_faultBegin v_faultEnd l2_20).bind (fun t_3 => ((L_Model_money_20 fu v_thrown v_ran v_faults v_costs v_faultRule v_faultBegin v_faultEnd n) (l1_20 + t_3) (l2_20 + 1)))))) = some t := h
def J_Model_money_13 (fu : Nat) (v_thrown : Int32) (v_ran : Int32) (v_faults : Int32) (v_costs : Nat → Int32) (v_faultRule : Nat → Int32) (v_faultBegin : Nat → Int32) (v_faultEnd : Nat → Int32) (s1_j13 : Int32) : Option (Int32 × Int32) :=
  (L_Model_money_20 fu s1_j13 v_ran v_faults v_costs v_faultRule v_faultBegin v_faultEnd fu 0 0)
theorem J_Model_money_13_u {fu : Nat} {v_thrown : Int32} {v_ran : Int32} {v_faults : Int32} {v_costs : Nat → Int32} {v_faultRule : Nat → Int32} {v_faultBegin : Nat → Int32} {v_faultEnd : Nat → Int32} {s1_j13 : Int32} {t : Int32 × Int32} (h : J_Model_money_13 fu v_thrown v_ran v_faults v_costs v_faultRule v_faultBegin v_faultEnd s1_j13 = some t) : (L_Model_money_20 fu s1_j13 v_ran v_faults v_costs v_faultRule v_faultBegin v_faultEnd fu 0 0) = some t := h
def f_Model_money (fu : Nat) (v_thrown : Int32) (v_ran : Int32) (v_faults : Int32) (v_costs : Nat → Int32) (v_faultRule : Nat → Int32) (v_faultBegin : Nat → Int32) (v_faultEnd : Nat → Int32) : Option (Int32 × Int32) :=
  (if v_ran = 0 then (J_Model_money_13 fu v_thrown v_ran v_faults v_costs v_faultRule v_faultBegin v_faultEnd 1) else (J_Model_money_13 fu v_thrown v_ran v_faults v_costs v_faultRule v_faultBegin v_faultEnd 0))
theorem f_Model_money_u {fu : Nat} {v_thrown : Int32} {v_ran : Int32} {v_faults : Int32} {v_costs : Nat → Int32} {v_faultRule : Nat → Int32} {v_faultBegin : Nat → Int32} {v_faultEnd : Nat → Int32} {t : Int32 × Int32} (h : f_Model_money fu v_thrown v_ran v_faults v_costs v_faultRule v_faultBegin v_faultEnd = some t) : (if v_ran = 0 then (J_Model_money_13 fu v_thrown v_ran v_faults v_costs v_faultRule v_faultBegin v_faultEnd 1) else (J_Model_money_13 fu v_thrown v_ran v_faults v_costs v_faultRule v_faultBegin v_faultEnd 0)) = some t := h
def f_Model_held (v_thrown : Int32) (v_ruleCount : Int32) (v_ran : Int32) (v_heldCounts : Nat → Int32) (p1 : Int32) : Option (Int32 × Int32) :=
  (if p1 < 0 then (if (1 : Int32) ≤ 0 then (bd p1 6 (some (v_heldCounts (p1 : Int32).toNatClampNeg, 1))) else (some (0, 1))) else (if p1 < v_ruleCount then (if v_ran = 0 then (if (2 : Int32) ≤ 0 then (bd p1 6 (some (v_heldCounts (p1 : Int32).toNatClampNeg, 2))) else (some (0, 2))) else (if (0 : Int32) ≤ 0 then (bd p1 6 (some (v_heldCounts (p1 : Int32).toNatClampNeg, 0))) else (some (0, 0)))) else (if (1 : Int32) ≤ 0 then (bd p1 6 (some (v_heldCounts (p1 : Int32).toNatClampNeg, 1))) else (some (0, 1)))))
theorem f_Model_held_u {v_thrown : Int32} {v_ruleCount : Int32} {v_ran : Int32} {v_heldCounts : Nat → Int32} {p1 : Int32} {t : Int32 × Int32} (h : f_Model_held v_thrown v_ruleCount v_ran v_heldCounts p1 = some t) : (if p1 < 0 then (if (1 : Int32) ≤ 0 then (bd p1 6 (some (v_heldCounts (p1 : Int32).toNatClampNeg, 1))) else (some (0, 1))) else (if p1 < v_ruleCount then (if v_ran = 0 then (if (2 : Int32) ≤ 0 then (bd p1 6 (some (v_heldCounts (p1 : Int32).toNatClampNeg, 2))) else (some (0, 2))) else (if (0 : Int32) ≤ 0 then (bd p1 6 (some (v_heldCounts (p1 : Int32).toNatClampNeg, 0))) else (some (0, 0)))) else (if (1 : Int32) ≤ 0 then (bd p1 6 (some (v_heldCounts (p1 : Int32).toNatClampNeg, 1))) else (some (0, 1))))) = some t := h
def L_Model_leftAt_2 (fu : Nat) (v_leftCount : Int32) (v_left : Nat → Int32) (l1_2 : Int32) : Nat → Int32 → Option (Int32)
  | 0, _ => none
  | n + 1, l2_2 => (if v_leftCount ≤ l2_2 then (some l2_2) else (bd l2_2 100 (if (v_left (l2_2 : Int32).toNatClampNeg) = l1_2 then (some l2_2) else ((L_Model_leftAt_2 fu v_leftCount v_left l1_2 n) (l2_2 + 1)))))
theorem L_Model_leftAt_2_z {fu : Nat} {v_leftCount : Int32} {v_left : Nat → Int32} {l1_2 : Int32} {l2_2 : Int32} {t : Int32} (h : L_Model_leftAt_2 fu v_leftCount v_left l1_2 0 l2_2 = some t) : False := by cases (show (none : Option (Int32)) = some t from h)
theorem L_Model_leftAt_2_u {fu : Nat} {v_leftCount : Int32} {v_left : Nat → Int32} {l1_2 : Int32} {n : Nat} {l2_2 : Int32} {t : Int32} (h : L_Model_leftAt_2 fu v_leftCount v_left l1_2 (n + 1) l2_2 = some t) : (if v_leftCount ≤ l2_2 then (some l2_2) else (bd l2_2 100 (if (v_left (l2_2 : Int32).toNatClampNeg) = l1_2 then (some l2_2) else ((L_Model_leftAt_2 fu v_leftCount v_left l1_2 n) (l2_2 + 1))))) = some t := h
def f_Model_leftAt (fu : Nat) (v_leftCount : Int32) (v_left : Nat → Int32) (p1 : Int32) : Option (Int32) :=
  (L_Model_leftAt_2 fu v_leftCount v_left p1 fu 0)
theorem f_Model_leftAt_u {fu : Nat} {v_leftCount : Int32} {v_left : Nat → Int32} {p1 : Int32} {t : Int32} (h : f_Model_leftAt fu v_leftCount v_left p1 = some t) : (L_Model_leftAt_2 fu v_leftCount v_left p1 fu 0) = some t := h
def J_Model_leave_70 (fu : Nat) (v_thrown : Int32) (v_leftCount : Int32) (v_left : Nat → Int32) (l1_j70 : Int32) (l2_j70 : Int32) (l3_j70 : Int32) (l4_j70 : Int32) (s1_j70 : Int32) : Option (Int32 × Int32 × Int32 × (Nat → Int32)) :=
  (if s1_j70 ≤ 0 then (bd v_leftCount 100 (if l2_j70 = 0 then (if l4_j70 = 0 then (zb l4_j70 (some (l4_j70, s1_j70, v_leftCount + 1, upd v_left (v_leftCount : Int32).toNatClampNeg l1_j70))) else (bd ((v_leftCount + 1) - 1) 100 (bd l3_j70 100 (zb l4_j70 (some (l4_j70, s1_j70, (v_leftCount + 1) - 1, upd (upd v_left (v_leftCount : Int32).toNatClampNeg l1_j70) (l3_j70 : Int32).toNatClampNeg ((upd v_left (v_leftCount : Int32).toNatClampNeg l1_j70) ((v_leftCount + 1) - 1 : Int32).toNatClampNeg))))))) else (zb l4_j70 (some (l4_j70, s1_j70, v_leftCount + 1, upd v_left (v_leftCount : Int32).toNatClampNeg l1_j70))))) else (some (0, s1_j70, v_leftCount, v_left)))
theorem J_Model_leave_70_u {fu : Nat} {v_thrown : Int32} {v_leftCount : Int32} {v_left : Nat → Int32} {l1_j70 : Int32} {l2_j70 : Int32} {l3_j70 : Int32} {l4_j70 : Int32} {s1_j70 : Int32} {t : Int32 × Int32 × Int32 × (Nat → Int32)} (h : J_Model_leave_70 fu v_thrown v_leftCount v_left l1_j70 l2_j70 l3_j70 l4_j70 s1_j70 = some t) : (if s1_j70 ≤ 0 then (bd v_leftCount 100 (if l2_j70 = 0 then (if l4_j70 = 0 then (zb l4_j70 (some (l4_j70, s1_j70, v_leftCount + 1, upd v_left (v_leftCount : Int32).toNatClampNeg l1_j70))) else (bd ((v_leftCount + 1) - 1) 100 (bd l3_j70 100 (zb l4_j70 (some (l4_j70, s1_j70, (v_leftCount + 1) - 1, upd (upd v_left (v_leftCount : Int32).toNatClampNeg l1_j70) (l3_j70 : Int32).toNatClampNeg ((upd v_left (v_leftCount : Int32).toNatClampNeg l1_j70) ((v_leftCount + 1) - 1 : Int32).toNatClampNeg))))))) else (zb l4_j70 (some (l4_j70, s1_j70, v_leftCount + 1, upd v_left (v_leftCount : Int32).toNatClampNeg l1_j70))))) else (some (0, s1_j70, v_leftCount, v_left))) = some t := h
def J_Model_leave_44 (fu : Nat) (v_thrown : Int32) (v_leftCount : Int32) (v_left : Nat → Int32) (l1_j44 : Int32) (l2_j44 : Int32) (l3_j44 : Int32) (s0_j44 : Int32) : Option (Int32 × Int32 × Int32 × (Nat → Int32)) :=
  (if l2_j44 = 0 then (if l2_j44 = 0 then (if s0_j44 = 0 then (zb s0_j44 (some (s0_j44, v_thrown, v_leftCount, v_left))) else (bd (v_leftCount - 1) 100 (bd l3_j44 100 (zb s0_j44 (some (s0_j44, v_thrown, v_leftCount - 1, upd v_left (l3_j44 : Int32).toNatClampNeg (v_left (v_leftCount - 1 : Int32).toNatClampNeg))))))) else (zb s0_j44 (some (s0_j44, v_thrown, v_leftCount, v_left)))) else (if s0_j44 = 0 then (if v_leftCount = 100 then (J_Model_leave_70 fu v_thrown v_leftCount v_left l1_j44 l2_j44 l3_j44 s0_j44 2) else (J_Model_leave_70 fu v_thrown v_leftCount v_left l1_j44 l2_j44 l3_j44 s0_j44 0)) else (if l2_j44 = 0 then (if s0_j44 = 0 then (zb s0_j44 (some (s0_j44, v_thrown, v_leftCount, v_left))) else (bd (v_leftCount - 1) 100 (bd l3_j44 100 (zb s0_j44 (some (s0_j44, v_thrown, v_leftCount - 1, upd v_left (l3_j44 : Int32).toNatClampNeg (v_left (v_leftCount - 1 : Int32).toNatClampNeg))))))) else (zb s0_j44 (some (s0_j44, v_thrown, v_leftCount, v_left))))))
theorem J_Model_leave_44_u {fu : Nat} {v_thrown : Int32} {v_leftCount : Int32} {v_left : Nat → Int32} {l1_j44 : Int32} {l2_j44 : Int32} {l3_j44 : Int32} {s0_j44 : Int32} {t : Int32 × Int32 × Int32 × (Nat → Int32)} (h : J_Model_leave_44 fu v_thrown v_leftCount v_left l1_j44 l2_j44 l3_j44 s0_j44 = some t) : (if l2_j44 = 0 then (if l2_j44 = 0 then (if s0_j44 = 0 then (zb s0_j44 (some (s0_j44, v_thrown, v_leftCount, v_left))) else (bd (v_leftCount - 1) 100 (bd l3_j44 100 (zb s0_j44 (some (s0_j44, v_thrown, v_leftCount - 1, upd v_left (l3_j44 : Int32).toNatClampNeg (v_left (v_leftCount - 1 : Int32).toNatClampNeg))))))) else (zb s0_j44 (some (s0_j44, v_thrown, v_leftCount, v_left)))) else (if s0_j44 = 0 then (if v_leftCount = 100 then (J_Model_leave_70 fu v_thrown v_leftCount v_left l1_j44 l2_j44 l3_j44 s0_j44 2) else (J_Model_leave_70 fu v_thrown v_leftCount v_left l1_j44 l2_j44 l3_j44 s0_j44 0)) else (if l2_j44 = 0 then (if s0_j44 = 0 then (zb s0_j44 (some (s0_j44, v_thrown, v_leftCount, v_left))) else (bd (v_leftCount - 1) 100 (bd l3_j44 100 (zb s0_j44 (some (s0_j44, v_thrown, v_leftCount - 1, upd v_left (l3_j44 : Int32).toNatClampNeg (v_left (v_leftCount - 1 : Int32).toNatClampNeg))))))) else (zb s0_j44 (some (s0_j44, v_thrown, v_leftCount, v_left)))))) = some t := h
def J_Model_leave_13 (fu : Nat) (v_thrown : Int32) (v_leftCount : Int32) (v_left : Nat → Int32) (l1_j13 : Int32) (l2_j13 : Int32) (s1_j13 : Int32) : Option (Int32 × Int32 × Int32 × (Nat → Int32)) :=
  (if s1_j13 ≤ 0 then ((f_Model_leftAt fu v_leftCount v_left l1_j13).bind (fun t_3 => (if v_leftCount ≤ t_3 then (J_Model_leave_44 fu s1_j13 v_leftCount v_left l1_j13 l2_j13 t_3 0) else (J_Model_leave_44 fu s1_j13 v_leftCount v_left l1_j13 l2_j13 t_3 1)))) else (some (0, s1_j13, v_leftCount, v_left)))
theorem J_Model_leave_13_u {fu : Nat} {v_thrown : Int32} {v_leftCount : Int32} {v_left : Nat → Int32} {l1_j13 : Int32} {l2_j13 : Int32} {s1_j13 : Int32} {t : Int32 × Int32 × Int32 × (Nat → Int32)} (h : J_Model_leave_13 fu v_thrown v_leftCount v_left l1_j13 l2_j13 s1_j13 = some t) : (if s1_j13 ≤ 0 then ((f_Model_leftAt fu v_leftCount v_left l1_j13).bind (fun t_3 => (if v_leftCount ≤ t_3 then (J_Model_leave_44 fu s1_j13 v_leftCount v_left l1_j13 l2_j13 t_3 0) else (J_Model_leave_44 fu s1_j13 v_leftCount v_left l1_j13 l2_j13 t_3 1)))) else (some (0, s1_j13, v_leftCount, v_left))) = some t := h
def f_Model_leave (fu : Nat) (v_thrown : Int32) (v_leftCount : Int32) (v_left : Nat → Int32) (p1 : Int32) (p2 : Int32) : Option (Int32 × Int32 × Int32 × (Nat → Int32)) :=
  ((f_Model_isMinute p1).bind (fun t_1 => (if t_1 = 0 then (J_Model_leave_13 fu v_thrown v_leftCount v_left p1 p2 1) else (J_Model_leave_13 fu v_thrown v_leftCount v_left p1 p2 0))))
theorem f_Model_leave_u {fu : Nat} {v_thrown : Int32} {v_leftCount : Int32} {v_left : Nat → Int32} {p1 : Int32} {p2 : Int32} {t : Int32 × Int32 × Int32 × (Nat → Int32)} (h : f_Model_leave fu v_thrown v_leftCount v_left p1 p2 = some t) : ((f_Model_isMinute p1).bind (fun t_1 => (if t_1 = 0 then (J_Model_leave_13 fu v_thrown v_leftCount v_left p1 p2 1) else (J_Model_leave_13 fu v_thrown v_leftCount v_left p1 p2 0)))) = some t := h
def rm_Model_fault : Room := { frames := 2, cells := 0, slots := 0, locals := 42 }
set_option maxHeartbeats 4000000 in
set_option maxRecDepth 100000 in
theorem c_Model_fault (l : Launch) (dC : Nat → ClassId) (dI : Nat → Nat → Nat) (cI cL cC : ClassId) (h_this h_rowPoint h_rowMinute h_rowValue h_text h_kinds h_values h_names h_testCounts h_minutes h_costs h_sorts h_firsts h_seconds h_relations h_numbers h_last h_before h_heldCounts h_streaks h_faultRule h_faultBegin h_faultEnd h_order h_left h_brings : Nat) (sz : Nat) (v_thrown : Int32) (v_rows : Int32) (v_size : Int32) (v_words : Int32) (v_at : Int32) (v_ruleCount : Int32) (v_ran : Int32) (v_faults : Int32) (v_leftCount : Int32) (v_costs : Nat → Int32) (v_faultRule : Nat → Int32) (v_faultBegin : Nat → Int32) (v_faultEnd : Nat → Int32) (v_order : Nat → Int32) (p1 : Int32) (p2 : Int32) (t : Int32 × Int32) (hf : f_Model_fault v_thrown v_ran v_faults v_costs v_faultRule v_faultBegin v_faultEnd v_order p1 p2 = some t) : Met l y_Model_fault (Cond.code y_Model_fault prog_9_method_42_code 4 (some .int) :: xT) rm_Model_fault (va_Pc [.ref h_this, .int p1, .int p2] (xP (dC, dI) (xTy cI cL cC) [(h_this, .inr (7, [.int v_thrown, .int v_rows, .ref h_rowPoint, .ref h_rowMinute, .ref h_rowValue, .ref h_text, .int v_size, .ref h_kinds, .ref h_values, .int v_words, .int v_at, .ref h_names, .ref h_testCounts, .ref h_minutes, .ref h_costs, .ref h_sorts, .ref h_firsts, .ref h_seconds, .ref h_relations, .ref h_numbers, .int v_ruleCount, .ref h_last, .ref h_before, .int v_ran, .ref h_heldCounts, .ref h_streaks, .int v_faults, .ref h_faultRule, .ref h_faultBegin, .ref h_faultEnd, .ref h_order, .ref h_left, .int v_leftCount, .ref h_brings])), (h_costs, .inl (cI, 12, .inl v_costs)), (h_faultRule, .inl (cI, 6000, .inl v_faultRule)), (h_faultBegin, .inl (cI, 6000, .inl v_faultBegin)), (h_faultEnd, .inl (cI, 6000, .inl v_faultEnd)), (h_order, .inl (cI, 6000, .inl v_order))] sz)) (xQ (dC, dI) [(h_this, .inr (7, [.int t.2, .int v_rows, .ref h_rowPoint, .ref h_rowMinute, .ref h_rowValue, .ref h_text, .int v_size, .ref h_kinds, .ref h_values, .int v_words, .int v_at, .ref h_names, .ref h_testCounts, .ref h_minutes, .ref h_costs, .ref h_sorts, .ref h_firsts, .ref h_seconds, .ref h_relations, .ref h_numbers, .int v_ruleCount, .ref h_last, .ref h_before, .int v_ran, .ref h_heldCounts, .ref h_streaks, .int v_faults, .ref h_faultRule, .ref h_faultBegin, .ref h_faultEnd, .ref h_order, .ref h_left, .int v_leftCount, .ref h_brings])), (h_costs, .inl (cI, 12, .inl v_costs)), (h_faultRule, .inl (cI, 6000, .inl v_faultRule)), (h_faultBegin, .inl (cI, 6000, .inl v_faultBegin)), (h_faultEnd, .inl (cI, 6000, .inl v_faultEnd)), (h_order, .inl (cI, 6000, .inl v_order))] (va_A [(h_this, .inr (7, [.int v_thrown, .int v_rows, .ref h_rowPoint, .ref h_rowMinute, .ref h_rowValue, .ref h_text, .int v_size, .ref h_kinds, .ref h_values, .int v_words, .int v_at, .ref h_names, .ref h_testCounts, .ref h_minutes, .ref h_costs, .ref h_sorts, .ref h_firsts, .ref h_seconds, .ref h_relations, .ref h_numbers, .int v_ruleCount, .ref h_last, .ref h_before, .int v_ran, .ref h_heldCounts, .ref h_streaks, .int v_faults, .ref h_faultRule, .ref h_faultBegin, .ref h_faultEnd, .ref h_order, .ref h_left, .int v_leftCount, .ref h_brings])), (h_costs, .inl (cI, 12, .inl v_costs)), (h_faultRule, .inl (cI, 6000, .inl v_faultRule)), (h_faultBegin, .inl (cI, 6000, .inl v_faultBegin)), (h_faultEnd, .inl (cI, 6000, .inl v_faultEnd)), (h_order, .inl (cI, 6000, .inl v_order))] sz) (some (.int t.1))) 0 0 (va_A [(h_this, .inr (7, [.int v_thrown, .int v_rows, .ref h_rowPoint, .ref h_rowMinute, .ref h_rowValue, .ref h_text, .int v_size, .ref h_kinds, .ref h_values, .int v_words, .int v_at, .ref h_names, .ref h_testCounts, .ref h_minutes, .ref h_costs, .ref h_sorts, .ref h_firsts, .ref h_seconds, .ref h_relations, .ref h_numbers, .int v_ruleCount, .ref h_last, .ref h_before, .int v_ran, .ref h_heldCounts, .ref h_streaks, .int v_faults, .ref h_faultRule, .ref h_faultBegin, .ref h_faultEnd, .ref h_order, .ref h_left, .int v_leftCount, .ref h_brings])), (h_costs, .inl (cI, 12, .inl v_costs)), (h_faultRule, .inl (cI, 6000, .inl v_faultRule)), (h_faultBegin, .inl (cI, 6000, .inl v_faultBegin)), (h_faultEnd, .inl (cI, 6000, .inl v_faultEnd)), (h_order, .inl (cI, 6000, .inl v_order))] sz) := by
  refine Met.ofW (cc := prog_9_method_42_code) (maxL := 4) (ret := (some .int)) (by decide) rfl ?_
  intro p e s m args below meth c s₁ B hml hv
  obtain ⟨hargs, hsz, hP, hK, hN, hD0⟩ := hv
  have hx := B.exec
  have hb := B.bytes
  have hr := B.returns
  have hT : ∀ w ∈ xT, w.before args s = true := fun w hw => atoms_spec (ws := Cond.code y_Model_fault prog_9_method_42_code 4 (some .int) :: xT) B.pre w (List.mem_cons_of_mem _ hw)
  have hown : s.vm.findClass R_Model = some m.cls := findClass_of_methodNamed B.named
  have hlocks := B.notSynchronized
  subst hsz
  have hD := hD0.self (sz := s.heap.size)
  generalize hAe : va_A [(h_this, .inr (7, [.int v_thrown, .int v_rows, .ref h_rowPoint, .ref h_rowMinute, .ref h_rowValue, .ref h_text, .int v_size, .ref h_kinds, .ref h_values, .int v_words, .int v_at, .ref h_names, .ref h_testCounts, .ref h_minutes, .ref h_costs, .ref h_sorts, .ref h_firsts, .ref h_seconds, .ref h_relations, .ref h_numbers, .int v_ruleCount, .ref h_last, .ref h_before, .int v_ran, .ref h_heldCounts, .ref h_streaks, .int v_faults, .ref h_faultRule, .ref h_faultBegin, .ref h_faultEnd, .ref h_order, .ref h_left, .int v_leftCount, .ref h_brings])), (h_costs, .inl (cI, 12, .inl v_costs)), (h_faultRule, .inl (cI, 6000, .inl v_faultRule)), (h_faultBegin, .inl (cI, 6000, .inl v_faultBegin)), (h_faultEnd, .inl (cI, 6000, .inl v_faultEnd)), (h_order, .inl (cI, 6000, .inl v_order))] s.heap.size = A at hD ⊢
  have hA : ∀ q : Nat, s.heap.size ≤ q → A q := fun q h => by rw [← hAe]; exact Or.inr h
  have hS : va_S A s.heap s.heap [] := va_S.rf
  have hP : va_P (dC, dI) vwCl [(h_this, .inr (7, [.int v_thrown, .int v_rows, .ref h_rowPoint, .ref h_rowMinute, .ref h_rowValue, .ref h_text, .int v_size, .ref h_kinds, .ref h_values, .int v_words, .int v_at, .ref h_names, .ref h_testCounts, .ref h_minutes, .ref h_costs, .ref h_sorts, .ref h_firsts, .ref h_seconds, .ref h_relations, .ref h_numbers, .int v_ruleCount, .ref h_last, .ref h_before, .int v_ran, .ref h_heldCounts, .ref h_streaks, .int v_faults, .ref h_faultRule, .ref h_faultBegin, .ref h_faultEnd, .ref h_order, .ref h_left, .int v_leftCount, .ref h_brings])), (h_costs, .inl (cI, 12, .inl v_costs)), (h_faultRule, .inl (cI, 6000, .inl v_faultRule)), (h_faultBegin, .inl (cI, 6000, .inl v_faultBegin)), (h_faultEnd, .inl (cI, 6000, .inl v_faultEnd)), (h_order, .inl (cI, 6000, .inl v_order))] s.heap := hP
  have hl := lv_entry ([.ref h_this, .int p1, .int p2]) (n := 4) (Nat.le_of_ble_eq_true rfl)
  rw [show entryFrame m args 4 = entryFrame m ([.ref h_this, .int p1, .int p2] : List Value).toArray 4 from by rw [hargs], lg_entry_eq]
  generalize (lg_sl ([.ref h_this, .int p1, .int p2]) ++ List.replicate (4 - (lg_sl ([.ref h_this, .int p1, .int p2])).length) Slot.unset).toArray = ls at hl ⊢
  have hl : lv_has ls 4 [(0, .ref h_this), (1, .int p1), (2, .int p2)] := hl
  obtain ⟨Q, hQ⟩ : ∃ Q, Q = MQ below (xQ (dC, dI) [(h_this, .inr (7, [.int t.2, .int v_rows, .ref h_rowPoint, .ref h_rowMinute, .ref h_rowValue, .ref h_text, .int v_size, .ref h_kinds, .ref h_values, .int v_words, .int v_at, .ref h_names, .ref h_testCounts, .ref h_minutes, .ref h_costs, .ref h_sorts, .ref h_firsts, .ref h_seconds, .ref h_relations, .ref h_numbers, .int v_ruleCount, .ref h_last, .ref h_before, .int v_ran, .ref h_heldCounts, .ref h_streaks, .int v_faults, .ref h_faultRule, .ref h_faultBegin, .ref h_faultEnd, .ref h_order, .ref h_left, .int v_leftCount, .ref h_brings])), (h_costs, .inl (cI, 12, .inl v_costs)), (h_faultRule, .inl (cI, 6000, .inl v_faultRule)), (h_faultBegin, .inl (cI, 6000, .inl v_faultBegin)), (h_faultEnd, .inl (cI, 6000, .inl v_faultEnd)), (h_order, .inl (cI, 6000, .inl v_order))] A (some (.int t.1))) args s 0 0 A := ⟨_, rfl⟩
  rw [← hQ]
  show W p l e rm_Model_fault s m args below meth c s.heap [] 0 0 Q _
  obtain ⟨H, hH⟩ : ∃ H, H = s.heap := ⟨_, rfl⟩
  obtain ⟨locs, hlocs⟩ : ∃ L : List Loc, L = [] := ⟨_, rfl⟩
  rw [← hlocs] at hS ⊢
  have hS : va_S A s.heap H locs := by rw [hH]; exact hS
  rw [← hH] at hP ⊢
  replace hf := f_Model_fault_u hf
  refine lv_aload_n hx hb d_Model_fault_0 rfl (lv_at hl 0 rfl) ?_
  refine lv_iload_n hx hb d_Model_fault_1 rfl (lv_at hl 1 rfl) ?_
  have jn_30 : ∀ (s1_j30 : Int32) (H : Heap) (locs : List Loc) (ls : Array Slot), J_Model_fault_30 v_thrown v_faults v_costs v_faultRule v_faultBegin v_faultEnd v_order p1 p2 s1_j30 = some t → va_P (dC, dI) vwCl [(h_this, .inr (7, [.int v_thrown, .int v_rows, .ref h_rowPoint, .ref h_rowMinute, .ref h_rowValue, .ref h_text, .int v_size, .ref h_kinds, .ref h_values, .int v_words, .int v_at, .ref h_names, .ref h_testCounts, .ref h_minutes, .ref h_costs, .ref h_sorts, .ref h_firsts, .ref h_seconds, .ref h_relations, .ref h_numbers, .int v_ruleCount, .ref h_last, .ref h_before, .int v_ran, .ref h_heldCounts, .ref h_streaks, .int v_faults, .ref h_faultRule, .ref h_faultBegin, .ref h_faultEnd, .ref h_order, .ref h_left, .int v_leftCount, .ref h_brings])), (h_costs, .inl (cI, 12, .inl v_costs)), (h_faultRule, .inl (cI, 6000, .inl v_faultRule)), (h_faultBegin, .inl (cI, 6000, .inl v_faultBegin)), (h_faultEnd, .inl (cI, 6000, .inl v_faultEnd)), (h_order, .inl (cI, 6000, .inl v_order))] H → va_D A [(h_this, .inr (7, [.int v_thrown, .int v_rows, .ref h_rowPoint, .ref h_rowMinute, .ref h_rowValue, .ref h_text, .int v_size, .ref h_kinds, .ref h_values, .int v_words, .int v_at, .ref h_names, .ref h_testCounts, .ref h_minutes, .ref h_costs, .ref h_sorts, .ref h_firsts, .ref h_seconds, .ref h_relations, .ref h_numbers, .int v_ruleCount, .ref h_last, .ref h_before, .int v_ran, .ref h_heldCounts, .ref h_streaks, .int v_faults, .ref h_faultRule, .ref h_faultBegin, .ref h_faultEnd, .ref h_order, .ref h_left, .int v_leftCount, .ref h_brings])), (h_costs, .inl (cI, 12, .inl v_costs)), (h_faultRule, .inl (cI, 6000, .inl v_faultRule)), (h_faultBegin, .inl (cI, 6000, .inl v_faultBegin)), (h_faultEnd, .inl (cI, 6000, .inl v_faultEnd)), (h_order, .inl (cI, 6000, .inl v_order))] → va_S A s.heap H locs → lv_has ls 4 [(0, .ref h_this), (1, .int p1), (2, .int p2)] → W p l e rm_Model_fault s m args below meth c H locs 0 0 Q (F0 m 30 ls [.int s1_j30, .ref h_this]) := by
    intro s1_j30 H locs ls hf hP hD hS hl
    replace hf := J_Model_fault_30_u hf
    refine va_put (D := (dC, dI)) (ci := 7) (v := .int s1_j30) (ty := .int) (C := R_Model) (T := T_Model) (N := 34) hx hb hT i_Model ty_Model ty_Model_ok n_Model hown hK hP hD hS 0 rfl rfl 0 (by decide) (hT _ kF_Model_86) (fun _ h9 => h9) rfl (by decide +kernel) rfl rfl (Nat.le_of_ble_eq_true rfl) d_Model_fault_30 (fun H locs hP hD hS => ?_)
    have hP : va_P (dC, dI) vwCl [(h_this, .inr (7, [.int s1_j30, .int v_rows, .ref h_rowPoint, .ref h_rowMinute, .ref h_rowValue, .ref h_text, .int v_size, .ref h_kinds, .ref h_values, .int v_words, .int v_at, .ref h_names, .ref h_testCounts, .ref h_minutes, .ref h_costs, .ref h_sorts, .ref h_firsts, .ref h_seconds, .ref h_relations, .ref h_numbers, .int v_ruleCount, .ref h_last, .ref h_before, .int v_ran, .ref h_heldCounts, .ref h_streaks, .int v_faults, .ref h_faultRule, .ref h_faultBegin, .ref h_faultEnd, .ref h_order, .ref h_left, .int v_leftCount, .ref h_brings])), (h_costs, .inl (cI, 12, .inl v_costs)), (h_faultRule, .inl (cI, 6000, .inl v_faultRule)), (h_faultBegin, .inl (cI, 6000, .inl v_faultBegin)), (h_faultEnd, .inl (cI, 6000, .inl v_faultEnd)), (h_order, .inl (cI, 6000, .inl v_order))] H := hP
    have hD : va_D A [(h_this, .inr (7, [.int s1_j30, .int v_rows, .ref h_rowPoint, .ref h_rowMinute, .ref h_rowValue, .ref h_text, .int v_size, .ref h_kinds, .ref h_values, .int v_words, .int v_at, .ref h_names, .ref h_testCounts, .ref h_minutes, .ref h_costs, .ref h_sorts, .ref h_firsts, .ref h_seconds, .ref h_relations, .ref h_numbers, .int v_ruleCount, .ref h_last, .ref h_before, .int v_ran, .ref h_heldCounts, .ref h_streaks, .int v_faults, .ref h_faultRule, .ref h_faultBegin, .ref h_faultEnd, .ref h_order, .ref h_left, .int v_leftCount, .ref h_brings])), (h_costs, .inl (cI, 12, .inl v_costs)), (h_faultRule, .inl (cI, 6000, .inl v_faultRule)), (h_faultBegin, .inl (cI, 6000, .inl v_faultBegin)), (h_faultEnd, .inl (cI, 6000, .inl v_faultEnd)), (h_order, .inl (cI, 6000, .inl v_order))] := hD
    refine lv_aload_n hx hb d_Model_fault_33 rfl (lv_at hl 0 rfl) ?_
    refine va_get (D := (dC, dI)) (ci := 7) (v := .int s1_j30) (C := R_Model) (T := T_Model) (N := 34) hx hb hT i_Model hown hK hP 0 rfl rfl 0 (by decide) (hT _ kF_Model_86) (fun _ h9 => h9) rfl d_Model_fault_34 ?_
    refine lv_if_le (tgt := 42) hx hb d_Model_fault_37 (by decide) (fun c_1 => ?_) (fun c_1 => ?_)
    · replace hf := o_pos c_1 hf
      refine lv_iload_n hx hb d_Model_fault_42 rfl (lv_at hl 1 rfl) ?_
      refine lv_aload_n hx hb d_Model_fault_43 rfl (lv_at hl 0 rfl) ?_
      refine va_get (D := (dC, dI)) (ci := 7) (v := .int v_faults) (C := R_Model) (T := T_Model) (N := 34) hx hb hT i_Model hown hK hP 0 rfl rfl 26 (by decide) (hT _ kF_Model_260) (fun _ h9 => h9) rfl d_Model_fault_44 ?_
      refine lv_icmp_lt (tgt := 52) hx hb d_Model_fault_47 (by decide) (fun c_2 => ?_) (fun c_2 => ?_)
      · replace hf := o_pos c_2 hf
        refine lv_aload_n hx hb d_Model_fault_52 rfl (lv_at hl 0 rfl) ?_
        refine va_get (D := (dC, dI)) (ci := 7) (v := .ref h_order) (C := R_Model) (T := T_Model) (N := 34) hx hb hT i_Model hown hK hP 0 rfl rfl 30 (by decide) (hT _ kF_Model_77) (fun _ h9 => h9) rfl d_Model_fault_53 ?_
        refine lv_iload_n hx hb d_Model_fault_56 rfl (lv_at hl 1 rfl) ?_
        obtain ⟨hi_3, hf⟩ := o_in hf
        refine va_iald hx hb hK hP 5 0 rfl rfl hi_3 d_Model_fault_57 ?_
        refine lv_istore_n (lv' := [(3, .int (v_order (p1 : Int32).toNatClampNeg)), (0, .ref h_this), (1, .int p1), (2, .int p2)]) hx hb d_Model_fault_58 rfl hl (by decide) rfl (fun ls hl => ?_)
        refine lv_iload_n hx hb d_Model_fault_59 rfl (lv_at hl 3 rfl) ?_
        refine lv_if_ne (tgt := 72) hx hb d_Model_fault_60 (by decide) (fun c_4 => ?_) (fun c_4 => ?_)
        · replace hf := o_neg c_4 hf
          refine lv_iload_n hx hb d_Model_fault_72 rfl (lv_at hl 3 rfl) ?_
          refine lv_iconst (v := 1) hx hb d_Model_fault_73 (by decide) ?_
          refine lv_icmp_ne (tgt := 86) hx hb d_Model_fault_74 (by decide) (fun c_5 => ?_) (fun c_5 => ?_)
          · replace hf := o_neg c_5 hf
            refine lv_iload_n hx hb d_Model_fault_86 rfl (lv_at hl 3 rfl) ?_
            refine lv_iconst (v := 2) hx hb d_Model_fault_87 (by decide) ?_
            refine lv_icmp_ne (tgt := 100) hx hb d_Model_fault_88 (by decide) (fun c_6 => ?_) (fun c_6 => ?_)
            · replace hf := o_neg c_6 hf
              refine lv_aload_n hx hb d_Model_fault_100 rfl (lv_at hl 1 rfl) ?_
              refine lv_iload_n hx hb d_Model_fault_101 rfl (lv_at hl 0 rfl) ?_
              obtain ⟨t_7, hg_7, hf⟩ := o_bind hf
              refine x_virt (w' := [(h_this, .inr (7, [.int s1_j30, .int v_rows, .ref h_rowPoint, .ref h_rowMinute, .ref h_rowValue, .ref h_text, .int v_size, .ref h_kinds, .ref h_values, .int v_words, .int v_at, .ref h_names, .ref h_testCounts, .ref h_minutes, .ref h_costs, .ref h_sorts, .ref h_firsts, .ref h_seconds, .ref h_relations, .ref h_numbers, .int v_ruleCount, .ref h_last, .ref h_before, .int v_ran, .ref h_heldCounts, .ref h_streaks, .int v_faults, .ref h_faultRule, .ref h_faultBegin, .ref h_faultEnd, .ref h_order, .ref h_left, .int v_leftCount, .ref h_brings])), (h_costs, .inl (cI, 12, .inl v_costs)), (h_faultRule, .inl (cI, 6000, .inl v_faultRule)), (h_faultBegin, .inl (cI, 6000, .inl v_faultBegin)), (h_faultEnd, .inl (cI, 6000, .inl v_faultEnd)), (h_order, .inl (cI, 6000, .inl v_order))]) (As := [.int (v_order (p1 : Int32).toNatClampNeg)]) (rest := []) hx hb hml hl.1 hown hT hK hN hP hD hS hA (c_Model_costOf l dC dI cI cL cC h_this h_rowPoint h_rowMinute h_rowValue h_text h_kinds h_values h_names h_testCounts h_minutes h_costs h_sorts h_firsts h_seconds h_relations h_numbers h_last h_before h_heldCounts h_streaks h_faultRule h_faultBegin h_faultEnd h_order h_left h_brings H.size s1_j30 v_rows v_size v_words v_at v_ruleCount v_ran v_faults v_leftCount v_costs v_faultRule v_faultBegin v_faultEnd (v_order (p1 : Int32).toNatClampNeg) t_7 hg_7) kM_Model_257 kI_Model_costOf kS_535 kN_Model kC_Model_costOf hd_Model_costOf rfl 0 rfl rfl rfl ⟨Nat.le_of_ble_eq_true rfl, Nat.le_of_ble_eq_true rfl⟩ rfl rfl ⟨Nat.zero_le _, Nat.zero_le _⟩ rfl (Nat.le_of_ble_eq_true rfl) d_Model_fault_102 [0, 1, 2, 3, 4] rfl rfl [.inr 0, .inr 1, .inr 2, .inr 3, .inr 4, .inl 5] rfl rfl rfl (fun H locs hP hD hS => ?_)
              rw [hQ, ← Option.some.inj hf]
              exact W.iret hx hb hr (fun t9 ht9 hW9 => ⟨rfl, by rw [ht9]; exact hP, hS.F ht9⟩) hS.2.2 d_Model_fault_105
            · replace hf := o_pos c_6 hf
              refine lv_aload_n hx hb d_Model_fault_91 rfl (lv_at hl 1 rfl) ?_
              refine va_get (D := (dC, dI)) (ci := 7) (v := .ref h_faultEnd) (C := R_Model) (T := T_Model) (N := 34) hx hb hT i_Model hown hK hP 0 rfl rfl 29 (by decide) (hT _ kF_Model_74) (fun _ h9 => h9) rfl d_Model_fault_92 ?_
              refine lv_iload_n hx hb d_Model_fault_95 rfl (lv_at hl 0 rfl) ?_
              obtain ⟨hi_8, hf⟩ := o_in hf
              refine va_iald hx hb hK hP 4 0 rfl rfl hi_8 d_Model_fault_96 ?_
              refine lv_goto (tgt := 105) hx hb d_Model_fault_97 (by decide) ?_
              rw [hQ, ← Option.some.inj hf]
              exact W.iret hx hb hr (fun t9 ht9 hW9 => ⟨rfl, by rw [ht9]; exact hP, hS.F ht9⟩) hS.2.2 d_Model_fault_105
          · replace hf := o_pos c_5 hf
            refine lv_aload_n hx hb d_Model_fault_77 rfl (lv_at hl 1 rfl) ?_
            refine va_get (D := (dC, dI)) (ci := 7) (v := .ref h_faultBegin) (C := R_Model) (T := T_Model) (N := 34) hx hb hT i_Model hown hK hP 0 rfl rfl 28 (by decide) (hT _ kF_Model_71) (fun _ h9 => h9) rfl d_Model_fault_78 ?_
            refine lv_iload_n hx hb d_Model_fault_81 rfl (lv_at hl 0 rfl) ?_
            obtain ⟨hi_9, hf⟩ := o_in hf
            refine va_iald hx hb hK hP 3 0 rfl rfl hi_9 d_Model_fault_82 ?_
            refine lv_goto (tgt := 105) hx hb d_Model_fault_83 (by decide) ?_
            rw [hQ, ← Option.some.inj hf]
            exact W.iret hx hb hr (fun t9 ht9 hW9 => ⟨rfl, by rw [ht9]; exact hP, hS.F ht9⟩) hS.2.2 d_Model_fault_105
        · replace hf := o_pos c_4 hf
          refine lv_aload_n hx hb d_Model_fault_63 rfl (lv_at hl 1 rfl) ?_
          refine va_get (D := (dC, dI)) (ci := 7) (v := .ref h_faultRule) (C := R_Model) (T := T_Model) (N := 34) hx hb hT i_Model hown hK hP 0 rfl rfl 27 (by decide) (hT _ kF_Model_68) (fun _ h9 => h9) rfl d_Model_fault_64 ?_
          refine lv_iload_n hx hb d_Model_fault_67 rfl (lv_at hl 0 rfl) ?_
          obtain ⟨hi_10, hf⟩ := o_in hf
          refine va_iald hx hb hK hP 2 0 rfl rfl hi_10 d_Model_fault_68 ?_
          refine lv_goto (tgt := 105) hx hb d_Model_fault_69 (by decide) ?_
          rw [hQ, ← Option.some.inj hf]
          exact W.iret hx hb hr (fun t9 ht9 hW9 => ⟨rfl, by rw [ht9]; exact hP, hS.F ht9⟩) hS.2.2 d_Model_fault_105
      · replace hf := o_neg c_2 hf
        refine lv_iconst (v := (-1)) hx hb d_Model_fault_50 (by decide) ?_
        rw [hQ, ← Option.some.inj hf]
        exact W.iret hx hb hr (fun t9 ht9 hW9 => ⟨rfl, by rw [ht9]; exact hP, hS.F ht9⟩) hS.2.2 d_Model_fault_51
    · replace hf := o_neg c_1 hf
      refine lv_iconst (v := 0) hx hb d_Model_fault_40 (by decide) ?_
      rw [hQ, ← Option.some.inj hf]
      exact W.iret hx hb hr (fun t9 ht9 hW9 => ⟨rfl, by rw [ht9]; exact hP, hS.F ht9⟩) hS.2.2 d_Model_fault_41
  refine lv_if_lt (tgt := 14) hx hb d_Model_fault_2 (by decide) (fun c_11 => ?_) (fun c_11 => ?_)
  · replace hf := o_pos c_11 hf
    refine lv_iconst (v := 1) hx hb d_Model_fault_14 (by decide) ?_
    refine lv_goto (tgt := 30) hx hb d_Model_fault_15 (by decide) ?_
    exact jn_30 1 H locs ls hf hP hD hS (lv_sub hl [0, 1, 2] rfl)
  · replace hf := o_neg c_11 hf
    refine lv_iload_n hx hb d_Model_fault_5 rfl (lv_at hl 2 rfl) ?_
    refine lv_if_lt (tgt := 14) hx hb d_Model_fault_6 (by decide) (fun c_12 => ?_) (fun c_12 => ?_)
    · replace hf := o_pos c_12 hf
      refine lv_iconst (v := 1) hx hb d_Model_fault_14 (by decide) ?_
      refine lv_goto (tgt := 30) hx hb d_Model_fault_15 (by decide) ?_
      exact jn_30 1 H locs ls hf hP hD hS (lv_sub hl [0, 1, 2] rfl)
    · replace hf := o_neg c_12 hf
      refine lv_iload_n hx hb d_Model_fault_9 rfl (lv_at hl 2 rfl) ?_
      refine lv_iconst (v := 3) hx hb d_Model_fault_10 (by decide) ?_
      refine lv_icmp_le (tgt := 18) hx hb d_Model_fault_11 (by decide) (fun c_13 => ?_) (fun c_13 => ?_)
      · replace hf := o_pos c_13 hf
        refine lv_aload_n hx hb d_Model_fault_18 rfl (lv_at hl 0 rfl) ?_
        refine va_get (D := (dC, dI)) (ci := 7) (v := .int v_ran) (C := R_Model) (T := T_Model) (N := 34) hx hb hT i_Model hown hK hP 0 rfl rfl 23 (by decide) (hT _ kF_Model_236) (fun _ h9 => h9) rfl d_Model_fault_19 ?_
        refine lv_if_ne (tgt := 29) hx hb d_Model_fault_22 (by decide) (fun c_14 => ?_) (fun c_14 => ?_)
        · replace hf := o_neg c_14 hf
          refine lv_iconst (v := 0) hx hb d_Model_fault_29 (by decide) ?_
          exact jn_30 0 H locs ls hf hP hD hS (lv_sub hl [0, 1, 2] rfl)
        · replace hf := o_pos c_14 hf
          refine lv_iconst (v := 2) hx hb d_Model_fault_25 (by decide) ?_
          refine lv_goto (tgt := 30) hx hb d_Model_fault_26 (by decide) ?_
          exact jn_30 2 H locs ls hf hP hD hS (lv_sub hl [0, 1, 2] rfl)
      · replace hf := o_neg c_13 hf
        refine lv_iconst (v := 1) hx hb d_Model_fault_14 (by decide) ?_
        refine lv_goto (tgt := 30) hx hb d_Model_fault_15 (by decide) ?_
        exact jn_30 1 H locs ls hf hP hD hS (lv_sub hl [0, 1, 2] rfl)
def rm_Model_money : Room := { frames := 2, cells := 0, slots := 0, locals := 42 }
set_option maxHeartbeats 4000000 in
set_option maxRecDepth 100000 in
theorem c_Model_money (l : Launch) (dC : Nat → ClassId) (dI : Nat → Nat → Nat) (cI cL cC : ClassId) (h_this h_rowPoint h_rowMinute h_rowValue h_text h_kinds h_values h_names h_testCounts h_minutes h_costs h_sorts h_firsts h_seconds h_relations h_numbers h_last h_before h_heldCounts h_streaks h_faultRule h_faultBegin h_faultEnd h_order h_left h_brings : Nat) (sz : Nat) (fu : Nat) (v_thrown : Int32) (v_rows : Int32) (v_size : Int32) (v_words : Int32) (v_at : Int32) (v_ruleCount : Int32) (v_ran : Int32) (v_faults : Int32) (v_leftCount : Int32) (v_costs : Nat → Int32) (v_faultRule : Nat → Int32) (v_faultBegin : Nat → Int32) (v_faultEnd : Nat → Int32) (t : Int32 × Int32) (hf : f_Model_money fu v_thrown v_ran v_faults v_costs v_faultRule v_faultBegin v_faultEnd = some t) : Met l y_Model_money (Cond.code y_Model_money prog_9_method_43_code 3 (some .int) :: xT) rm_Model_money (va_Pc [.ref h_this] (xP (dC, dI) (xTy cI cL cC) [(h_this, .inr (7, [.int v_thrown, .int v_rows, .ref h_rowPoint, .ref h_rowMinute, .ref h_rowValue, .ref h_text, .int v_size, .ref h_kinds, .ref h_values, .int v_words, .int v_at, .ref h_names, .ref h_testCounts, .ref h_minutes, .ref h_costs, .ref h_sorts, .ref h_firsts, .ref h_seconds, .ref h_relations, .ref h_numbers, .int v_ruleCount, .ref h_last, .ref h_before, .int v_ran, .ref h_heldCounts, .ref h_streaks, .int v_faults, .ref h_faultRule, .ref h_faultBegin, .ref h_faultEnd, .ref h_order, .ref h_left, .int v_leftCount, .ref h_brings])), (h_costs, .inl (cI, 12, .inl v_costs)), (h_faultRule, .inl (cI, 6000, .inl v_faultRule)), (h_faultBegin, .inl (cI, 6000, .inl v_faultBegin)), (h_faultEnd, .inl (cI, 6000, .inl v_faultEnd))] sz)) (xQ (dC, dI) [(h_this, .inr (7, [.int t.2, .int v_rows, .ref h_rowPoint, .ref h_rowMinute, .ref h_rowValue, .ref h_text, .int v_size, .ref h_kinds, .ref h_values, .int v_words, .int v_at, .ref h_names, .ref h_testCounts, .ref h_minutes, .ref h_costs, .ref h_sorts, .ref h_firsts, .ref h_seconds, .ref h_relations, .ref h_numbers, .int v_ruleCount, .ref h_last, .ref h_before, .int v_ran, .ref h_heldCounts, .ref h_streaks, .int v_faults, .ref h_faultRule, .ref h_faultBegin, .ref h_faultEnd, .ref h_order, .ref h_left, .int v_leftCount, .ref h_brings])), (h_costs, .inl (cI, 12, .inl v_costs)), (h_faultRule, .inl (cI, 6000, .inl v_faultRule)), (h_faultBegin, .inl (cI, 6000, .inl v_faultBegin)), (h_faultEnd, .inl (cI, 6000, .inl v_faultEnd))] (va_A [(h_this, .inr (7, [.int v_thrown, .int v_rows, .ref h_rowPoint, .ref h_rowMinute, .ref h_rowValue, .ref h_text, .int v_size, .ref h_kinds, .ref h_values, .int v_words, .int v_at, .ref h_names, .ref h_testCounts, .ref h_minutes, .ref h_costs, .ref h_sorts, .ref h_firsts, .ref h_seconds, .ref h_relations, .ref h_numbers, .int v_ruleCount, .ref h_last, .ref h_before, .int v_ran, .ref h_heldCounts, .ref h_streaks, .int v_faults, .ref h_faultRule, .ref h_faultBegin, .ref h_faultEnd, .ref h_order, .ref h_left, .int v_leftCount, .ref h_brings])), (h_costs, .inl (cI, 12, .inl v_costs)), (h_faultRule, .inl (cI, 6000, .inl v_faultRule)), (h_faultBegin, .inl (cI, 6000, .inl v_faultBegin)), (h_faultEnd, .inl (cI, 6000, .inl v_faultEnd))] sz) (some (.int t.1))) 0 0 (va_A [(h_this, .inr (7, [.int v_thrown, .int v_rows, .ref h_rowPoint, .ref h_rowMinute, .ref h_rowValue, .ref h_text, .int v_size, .ref h_kinds, .ref h_values, .int v_words, .int v_at, .ref h_names, .ref h_testCounts, .ref h_minutes, .ref h_costs, .ref h_sorts, .ref h_firsts, .ref h_seconds, .ref h_relations, .ref h_numbers, .int v_ruleCount, .ref h_last, .ref h_before, .int v_ran, .ref h_heldCounts, .ref h_streaks, .int v_faults, .ref h_faultRule, .ref h_faultBegin, .ref h_faultEnd, .ref h_order, .ref h_left, .int v_leftCount, .ref h_brings])), (h_costs, .inl (cI, 12, .inl v_costs)), (h_faultRule, .inl (cI, 6000, .inl v_faultRule)), (h_faultBegin, .inl (cI, 6000, .inl v_faultBegin)), (h_faultEnd, .inl (cI, 6000, .inl v_faultEnd))] sz) := by
  refine Met.ofW (cc := prog_9_method_43_code) (maxL := 3) (ret := (some .int)) (by decide) rfl ?_
  intro p e s m args below meth c s₁ B hml hv
  obtain ⟨hargs, hsz, hP, hK, hN, hD0⟩ := hv
  have hx := B.exec
  have hb := B.bytes
  have hr := B.returns
  have hT : ∀ w ∈ xT, w.before args s = true := fun w hw => atoms_spec (ws := Cond.code y_Model_money prog_9_method_43_code 3 (some .int) :: xT) B.pre w (List.mem_cons_of_mem _ hw)
  have hown : s.vm.findClass R_Model = some m.cls := findClass_of_methodNamed B.named
  have hlocks := B.notSynchronized
  subst hsz
  have hD := hD0.self (sz := s.heap.size)
  generalize hAe : va_A [(h_this, .inr (7, [.int v_thrown, .int v_rows, .ref h_rowPoint, .ref h_rowMinute, .ref h_rowValue, .ref h_text, .int v_size, .ref h_kinds, .ref h_values, .int v_words, .int v_at, .ref h_names, .ref h_testCounts, .ref h_minutes, .ref h_costs, .ref h_sorts, .ref h_firsts, .ref h_seconds, .ref h_relations, .ref h_numbers, .int v_ruleCount, .ref h_last, .ref h_before, .int v_ran, .ref h_heldCounts, .ref h_streaks, .int v_faults, .ref h_faultRule, .ref h_faultBegin, .ref h_faultEnd, .ref h_order, .ref h_left, .int v_leftCount, .ref h_brings])), (h_costs, .inl (cI, 12, .inl v_costs)), (h_faultRule, .inl (cI, 6000, .inl v_faultRule)), (h_faultBegin, .inl (cI, 6000, .inl v_faultBegin)), (h_faultEnd, .inl (cI, 6000, .inl v_faultEnd))] s.heap.size = A at hD ⊢
  have hA : ∀ q : Nat, s.heap.size ≤ q → A q := fun q h => by rw [← hAe]; exact Or.inr h
  have hS : va_S A s.heap s.heap [] := va_S.rf
  have hP : va_P (dC, dI) vwCl [(h_this, .inr (7, [.int v_thrown, .int v_rows, .ref h_rowPoint, .ref h_rowMinute, .ref h_rowValue, .ref h_text, .int v_size, .ref h_kinds, .ref h_values, .int v_words, .int v_at, .ref h_names, .ref h_testCounts, .ref h_minutes, .ref h_costs, .ref h_sorts, .ref h_firsts, .ref h_seconds, .ref h_relations, .ref h_numbers, .int v_ruleCount, .ref h_last, .ref h_before, .int v_ran, .ref h_heldCounts, .ref h_streaks, .int v_faults, .ref h_faultRule, .ref h_faultBegin, .ref h_faultEnd, .ref h_order, .ref h_left, .int v_leftCount, .ref h_brings])), (h_costs, .inl (cI, 12, .inl v_costs)), (h_faultRule, .inl (cI, 6000, .inl v_faultRule)), (h_faultBegin, .inl (cI, 6000, .inl v_faultBegin)), (h_faultEnd, .inl (cI, 6000, .inl v_faultEnd))] s.heap := hP
  have hl := lv_entry ([.ref h_this]) (n := 3) (Nat.le_of_ble_eq_true rfl)
  rw [show entryFrame m args 3 = entryFrame m ([.ref h_this] : List Value).toArray 3 from by rw [hargs], lg_entry_eq]
  generalize (lg_sl ([.ref h_this]) ++ List.replicate (3 - (lg_sl ([.ref h_this])).length) Slot.unset).toArray = ls at hl ⊢
  have hl : lv_has ls 3 [(0, .ref h_this)] := hl
  obtain ⟨Q, hQ⟩ : ∃ Q, Q = MQ below (xQ (dC, dI) [(h_this, .inr (7, [.int t.2, .int v_rows, .ref h_rowPoint, .ref h_rowMinute, .ref h_rowValue, .ref h_text, .int v_size, .ref h_kinds, .ref h_values, .int v_words, .int v_at, .ref h_names, .ref h_testCounts, .ref h_minutes, .ref h_costs, .ref h_sorts, .ref h_firsts, .ref h_seconds, .ref h_relations, .ref h_numbers, .int v_ruleCount, .ref h_last, .ref h_before, .int v_ran, .ref h_heldCounts, .ref h_streaks, .int v_faults, .ref h_faultRule, .ref h_faultBegin, .ref h_faultEnd, .ref h_order, .ref h_left, .int v_leftCount, .ref h_brings])), (h_costs, .inl (cI, 12, .inl v_costs)), (h_faultRule, .inl (cI, 6000, .inl v_faultRule)), (h_faultBegin, .inl (cI, 6000, .inl v_faultBegin)), (h_faultEnd, .inl (cI, 6000, .inl v_faultEnd))] A (some (.int t.1))) args s 0 0 A := ⟨_, rfl⟩
  rw [← hQ]
  show W p l e rm_Model_money s m args below meth c s.heap [] 0 0 Q _
  obtain ⟨H, hH⟩ : ∃ H, H = s.heap := ⟨_, rfl⟩
  obtain ⟨locs, hlocs⟩ : ∃ L : List Loc, L = [] := ⟨_, rfl⟩
  rw [← hlocs] at hS ⊢
  have hS : va_S A s.heap H locs := by rw [hH]; exact hS
  rw [← hH] at hP ⊢
  replace hf := f_Model_money_u hf
  refine lv_aload_n hx hb d_Model_money_0 rfl (lv_at hl 0 rfl) ?_
  refine lv_aload_n hx hb d_Model_money_1 rfl (lv_at hl 0 rfl) ?_
  refine va_get (D := (dC, dI)) (ci := 7) (v := .int v_ran) (C := R_Model) (T := T_Model) (N := 34) hx hb hT i_Model hown hK hP 0 rfl rfl 23 (by decide) (hT _ kF_Model_236) (fun _ h9 => h9) rfl d_Model_money_2 ?_
  have jn_13 : ∀ (s1_j13 : Int32) (H : Heap) (locs : List Loc) (ls : Array Slot), J_Model_money_13 fu v_thrown v_ran v_faults v_costs v_faultRule v_faultBegin v_faultEnd s1_j13 = some t → va_P (dC, dI) vwCl [(h_this, .inr (7, [.int v_thrown, .int v_rows, .ref h_rowPoint, .ref h_rowMinute, .ref h_rowValue, .ref h_text, .int v_size, .ref h_kinds, .ref h_values, .int v_words, .int v_at, .ref h_names, .ref h_testCounts, .ref h_minutes, .ref h_costs, .ref h_sorts, .ref h_firsts, .ref h_seconds, .ref h_relations, .ref h_numbers, .int v_ruleCount, .ref h_last, .ref h_before, .int v_ran, .ref h_heldCounts, .ref h_streaks, .int v_faults, .ref h_faultRule, .ref h_faultBegin, .ref h_faultEnd, .ref h_order, .ref h_left, .int v_leftCount, .ref h_brings])), (h_costs, .inl (cI, 12, .inl v_costs)), (h_faultRule, .inl (cI, 6000, .inl v_faultRule)), (h_faultBegin, .inl (cI, 6000, .inl v_faultBegin)), (h_faultEnd, .inl (cI, 6000, .inl v_faultEnd))] H → va_D A [(h_this, .inr (7, [.int v_thrown, .int v_rows, .ref h_rowPoint, .ref h_rowMinute, .ref h_rowValue, .ref h_text, .int v_size, .ref h_kinds, .ref h_values, .int v_words, .int v_at, .ref h_names, .ref h_testCounts, .ref h_minutes, .ref h_costs, .ref h_sorts, .ref h_firsts, .ref h_seconds, .ref h_relations, .ref h_numbers, .int v_ruleCount, .ref h_last, .ref h_before, .int v_ran, .ref h_heldCounts, .ref h_streaks, .int v_faults, .ref h_faultRule, .ref h_faultBegin, .ref h_faultEnd, .ref h_order, .ref h_left, .int v_leftCount, .ref h_brings])), (h_costs, .inl (cI, 12, .inl v_costs)), (h_faultRule, .inl (cI, 6000, .inl v_faultRule)), (h_faultBegin, .inl (cI, 6000, .inl v_faultBegin)), (h_faultEnd, .inl (cI, 6000, .inl v_faultEnd))] → va_S A s.heap H locs → lv_has ls 3 [(0, .ref h_this)] → W p l e rm_Model_money s m args below meth c H locs 0 0 Q (F0 m 13 ls [.int s1_j13, .ref h_this]) := by
    intro s1_j13 H locs ls hf hP hD hS hl
    replace hf := J_Model_money_13_u hf
    refine va_put (D := (dC, dI)) (ci := 7) (v := .int s1_j13) (ty := .int) (C := R_Model) (T := T_Model) (N := 34) hx hb hT i_Model ty_Model ty_Model_ok n_Model hown hK hP hD hS 0 rfl rfl 0 (by decide) (hT _ kF_Model_86) (fun _ h9 => h9) rfl (by decide +kernel) rfl rfl (Nat.le_of_ble_eq_true rfl) d_Model_money_13 (fun H locs hP hD hS => ?_)
    have hP : va_P (dC, dI) vwCl [(h_this, .inr (7, [.int s1_j13, .int v_rows, .ref h_rowPoint, .ref h_rowMinute, .ref h_rowValue, .ref h_text, .int v_size, .ref h_kinds, .ref h_values, .int v_words, .int v_at, .ref h_names, .ref h_testCounts, .ref h_minutes, .ref h_costs, .ref h_sorts, .ref h_firsts, .ref h_seconds, .ref h_relations, .ref h_numbers, .int v_ruleCount, .ref h_last, .ref h_before, .int v_ran, .ref h_heldCounts, .ref h_streaks, .int v_faults, .ref h_faultRule, .ref h_faultBegin, .ref h_faultEnd, .ref h_order, .ref h_left, .int v_leftCount, .ref h_brings])), (h_costs, .inl (cI, 12, .inl v_costs)), (h_faultRule, .inl (cI, 6000, .inl v_faultRule)), (h_faultBegin, .inl (cI, 6000, .inl v_faultBegin)), (h_faultEnd, .inl (cI, 6000, .inl v_faultEnd))] H := hP
    have hD : va_D A [(h_this, .inr (7, [.int s1_j13, .int v_rows, .ref h_rowPoint, .ref h_rowMinute, .ref h_rowValue, .ref h_text, .int v_size, .ref h_kinds, .ref h_values, .int v_words, .int v_at, .ref h_names, .ref h_testCounts, .ref h_minutes, .ref h_costs, .ref h_sorts, .ref h_firsts, .ref h_seconds, .ref h_relations, .ref h_numbers, .int v_ruleCount, .ref h_last, .ref h_before, .int v_ran, .ref h_heldCounts, .ref h_streaks, .int v_faults, .ref h_faultRule, .ref h_faultBegin, .ref h_faultEnd, .ref h_order, .ref h_left, .int v_leftCount, .ref h_brings])), (h_costs, .inl (cI, 12, .inl v_costs)), (h_faultRule, .inl (cI, 6000, .inl v_faultRule)), (h_faultBegin, .inl (cI, 6000, .inl v_faultBegin)), (h_faultEnd, .inl (cI, 6000, .inl v_faultEnd))] := hD
    refine lv_iconst (v := 0) hx hb d_Model_money_16 (by decide) ?_
    refine lv_istore_n (lv' := [(1, .int 0), (0, .ref h_this)]) hx hb d_Model_money_17 rfl hl (by decide) rfl (fun ls hl => ?_)
    refine lv_iconst (v := 0) hx hb d_Model_money_18 (by decide) ?_
    refine lv_istore_n (lv' := [(2, .int 0), (1, .int 0), (0, .ref h_this)]) hx hb d_Model_money_19 rfl hl (by decide) rfl (fun ls hl => ?_)
    have lp_20 : ∀ (n : Nat) (l1_20 : Int32) (l2_20 : Int32) (H : Heap) (locs : List Loc) (ls : Array Slot), L_Model_money_20 fu s1_j13 v_ran v_faults v_costs v_faultRule v_faultBegin v_faultEnd n l1_20 l2_20 = some t → va_P (dC, dI) vwCl [(h_this, .inr (7, [.int s1_j13, .int v_rows, .ref h_rowPoint, .ref h_rowMinute, .ref h_rowValue, .ref h_text, .int v_size, .ref h_kinds, .ref h_values, .int v_words, .int v_at, .ref h_names, .ref h_testCounts, .ref h_minutes, .ref h_costs, .ref h_sorts, .ref h_firsts, .ref h_seconds, .ref h_relations, .ref h_numbers, .int v_ruleCount, .ref h_last, .ref h_before, .int v_ran, .ref h_heldCounts, .ref h_streaks, .int v_faults, .ref h_faultRule, .ref h_faultBegin, .ref h_faultEnd, .ref h_order, .ref h_left, .int v_leftCount, .ref h_brings])), (h_costs, .inl (cI, 12, .inl v_costs)), (h_faultRule, .inl (cI, 6000, .inl v_faultRule)), (h_faultBegin, .inl (cI, 6000, .inl v_faultBegin)), (h_faultEnd, .inl (cI, 6000, .inl v_faultEnd))] H → va_D A [(h_this, .inr (7, [.int s1_j13, .int v_rows, .ref h_rowPoint, .ref h_rowMinute, .ref h_rowValue, .ref h_text, .int v_size, .ref h_kinds, .ref h_values, .int v_words, .int v_at, .ref h_names, .ref h_testCounts, .ref h_minutes, .ref h_costs, .ref h_sorts, .ref h_firsts, .ref h_seconds, .ref h_relations, .ref h_numbers, .int v_ruleCount, .ref h_last, .ref h_before, .int v_ran, .ref h_heldCounts, .ref h_streaks, .int v_faults, .ref h_faultRule, .ref h_faultBegin, .ref h_faultEnd, .ref h_order, .ref h_left, .int v_leftCount, .ref h_brings])), (h_costs, .inl (cI, 12, .inl v_costs)), (h_faultRule, .inl (cI, 6000, .inl v_faultRule)), (h_faultBegin, .inl (cI, 6000, .inl v_faultBegin)), (h_faultEnd, .inl (cI, 6000, .inl v_faultEnd))] → va_S A s.heap H locs → lv_has ls 3 [(0, .ref h_this), (1, .int l1_20), (2, .int l2_20)] → W p l e rm_Model_money s m args below meth c H locs 0 0 Q (F0 m 20 ls []) := by
      intro  n
      induction n with
      | zero => intro l1_20 l2_20 H locs ls hf; exact (L_Model_money_20_z hf).elim
      | succ n ih =>
        intro l1_20 l2_20 H locs ls hf hP hD hS hl
        replace hf := L_Model_money_20_u hf
        refine lv_iload_n hx hb d_Model_money_20 rfl (lv_at hl 2 rfl) ?_
        refine lv_aload_n hx hb d_Model_money_21 rfl (lv_at hl 0 rfl) ?_
        refine va_get (D := (dC, dI)) (ci := 7) (v := .int v_faults) (C := R_Model) (T := T_Model) (N := 34) hx hb hT i_Model hown hK hP 0 rfl rfl 26 (by decide) (hT _ kF_Model_260) (fun _ h9 => h9) rfl d_Model_money_22 ?_
        refine lv_icmp_ge (tgt := 49) hx hb d_Model_money_25 (by decide) (fun c_1 => ?_) (fun c_1 => ?_)
        · replace hf := o_pos c_1 hf
          refine lv_iload_n hx hb d_Model_money_49 rfl (lv_at hl 1 rfl) ?_
          rw [hQ, ← Option.some.inj hf]
          exact W.iret hx hb hr (fun t9 ht9 hW9 => ⟨rfl, by rw [ht9]; exact hP, hS.F ht9⟩) hS.2.2 d_Model_money_50
        · replace hf := o_neg c_1 hf
          refine lv_aload_n hx hb d_Model_money_28 rfl (lv_at hl 0 rfl) ?_
          refine va_get (D := (dC, dI)) (ci := 7) (v := .int v_ran) (C := R_Model) (T := T_Model) (N := 34) hx hb hT i_Model hown hK hP 0 rfl rfl 23 (by decide) (hT _ kF_Model_236) (fun _ h9 => h9) rfl d_Model_money_29 ?_
          refine lv_if_eq (tgt := 49) hx hb d_Model_money_32 (by decide) (fun c_2 => ?_) (fun c_2 => ?_)
          · replace hf := o_pos c_2 hf
            refine lv_iload_n hx hb d_Model_money_49 rfl (lv_at hl 1 rfl) ?_
            rw [hQ, ← Option.some.inj hf]
            exact W.iret hx hb hr (fun t9 ht9 hW9 => ⟨rfl, by rw [ht9]; exact hP, hS.F ht9⟩) hS.2.2 d_Model_money_50
          · replace hf := o_neg c_2 hf
            refine lv_iload_n hx hb d_Model_money_35 rfl (lv_at hl 1 rfl) ?_
            refine lv_aload_n hx hb d_Model_money_36 rfl (lv_at hl 0 rfl) ?_
            refine lv_iload_n hx hb d_Model_money_37 rfl (lv_at hl 2 rfl) ?_
            obtain ⟨t_3, hg_3, hf⟩ := o_bind hf
            refine x_virt (w' := [(h_this, .inr (7, [.int s1_j13, .int v_rows, .ref h_rowPoint, .ref h_rowMinute, .ref h_rowValue, .ref h_text, .int v_size, .ref h_kinds, .ref h_values, .int v_words, .int v_at, .ref h_names, .ref h_testCounts, .ref h_minutes, .ref h_costs, .ref h_sorts, .ref h_firsts, .ref h_seconds, .ref h_relations, .ref h_numbers, .int v_ruleCount, .ref h_last, .ref h_before, .int v_ran, .ref h_heldCounts, .ref h_streaks, .int v_faults, .ref h_faultRule, .ref h_faultBegin, .ref h_faultEnd, .ref h_order, .ref h_left, .int v_leftCount, .ref h_brings])), (h_costs, .inl (cI, 12, .inl v_costs)), (h_faultRule, .inl (cI, 6000, .inl v_faultRule)), (h_faultBegin, .inl (cI, 6000, .inl v_faultBegin)), (h_faultEnd, .inl (cI, 6000, .inl v_faultEnd))]) (As := [.int l2_20]) (rest := [.int l1_20]) hx hb hml hl.1 hown hT hK hN hP hD hS hA (c_Model_costOf l dC dI cI cL cC h_this h_rowPoint h_rowMinute h_rowValue h_text h_kinds h_values h_names h_testCounts h_minutes h_costs h_sorts h_firsts h_seconds h_relations h_numbers h_last h_before h_heldCounts h_streaks h_faultRule h_faultBegin h_faultEnd h_order h_left h_brings H.size s1_j13 v_rows v_size v_words v_at v_ruleCount v_ran v_faults v_leftCount v_costs v_faultRule v_faultBegin v_faultEnd l2_20 t_3 hg_3) kM_Model_257 kI_Model_costOf kS_535 kN_Model kC_Model_costOf hd_Model_costOf rfl 0 rfl rfl rfl ⟨Nat.le_of_ble_eq_true rfl, Nat.le_of_ble_eq_true rfl⟩ rfl rfl ⟨Nat.zero_le _, Nat.zero_le _⟩ rfl (Nat.le_of_ble_eq_true rfl) d_Model_money_38 [0, 1, 2, 3, 4] rfl rfl [.inr 0, .inr 1, .inr 2, .inr 3, .inr 4] rfl rfl rfl (fun H locs hP hD hS => ?_)
            refine lv_iadd hx hb d_Model_money_41 ?_
            refine lv_istore_n (lv' := [(1, .int (l1_20 + t_3)), (0, .ref h_this), (2, .int l2_20)]) hx hb d_Model_money_42 rfl hl (by decide) rfl (fun ls hl => ?_)
            refine lv_iinc (v := l2_20 + 1) (lv' := [(2, .int (l2_20 + 1)), (1, .int (l1_20 + t_3)), (0, .ref h_this)]) hx hb d_Model_money_43 hl (k := 2) rfl rfl (by decide) rfl (fun ls hl => ?_)
            refine lv_goto (tgt := 20) hx hb d_Model_money_46 (by decide) ?_
            exact ih (l1_20 + t_3) (l2_20 + 1) H locs ls hf hP hD hS (lv_sub hl [2, 1, 0] rfl)
    refine lp_20  fu 0 0 H locs ls hf hP hD hS (lv_sub hl [2, 1, 0] rfl)
  refine lv_if_eq (tgt := 12) hx hb d_Model_money_5 (by decide) (fun c_4 => ?_) (fun c_4 => ?_)
  · replace hf := o_pos c_4 hf
    refine lv_iconst (v := 1) hx hb d_Model_money_12 (by decide) ?_
    exact jn_13 1 H locs ls hf hP hD hS (lv_sub hl [0] rfl)
  · replace hf := o_neg c_4 hf
    refine lv_iconst (v := 0) hx hb d_Model_money_8 (by decide) ?_
    refine lv_goto (tgt := 13) hx hb d_Model_money_9 (by decide) ?_
    exact jn_13 0 H locs ls hf hP hD hS (lv_sub hl [0] rfl)
def rm_Model_held : Room := { frames := 0, cells := 0, slots := 0, locals := 0 }
set_option maxHeartbeats 4000000 in
set_option maxRecDepth 100000 in
theorem c_Model_held (l : Launch) (dC : Nat → ClassId) (dI : Nat → Nat → Nat) (cI cL cC : ClassId) (h_this h_rowPoint h_rowMinute h_rowValue h_text h_kinds h_values h_names h_testCounts h_minutes h_costs h_sorts h_firsts h_seconds h_relations h_numbers h_last h_before h_heldCounts h_streaks h_faultRule h_faultBegin h_faultEnd h_order h_left h_brings : Nat) (sz : Nat) (v_thrown : Int32) (v_rows : Int32) (v_size : Int32) (v_words : Int32) (v_at : Int32) (v_ruleCount : Int32) (v_ran : Int32) (v_faults : Int32) (v_leftCount : Int32) (v_heldCounts : Nat → Int32) (p1 : Int32) (t : Int32 × Int32) (hf : f_Model_held v_thrown v_ruleCount v_ran v_heldCounts p1 = some t) : Met l y_Model_held (Cond.code y_Model_held prog_9_method_44_code 2 (some .int) :: xT) rm_Model_held (va_Pc [.ref h_this, .int p1] (xP (dC, dI) (xTy cI cL cC) [(h_this, .inr (7, [.int v_thrown, .int v_rows, .ref h_rowPoint, .ref h_rowMinute, .ref h_rowValue, .ref h_text, .int v_size, .ref h_kinds, .ref h_values, .int v_words, .int v_at, .ref h_names, .ref h_testCounts, .ref h_minutes, .ref h_costs, .ref h_sorts, .ref h_firsts, .ref h_seconds, .ref h_relations, .ref h_numbers, .int v_ruleCount, .ref h_last, .ref h_before, .int v_ran, .ref h_heldCounts, .ref h_streaks, .int v_faults, .ref h_faultRule, .ref h_faultBegin, .ref h_faultEnd, .ref h_order, .ref h_left, .int v_leftCount, .ref h_brings])), (h_heldCounts, .inl (cI, 6, .inl v_heldCounts))] sz)) (xQ (dC, dI) [(h_this, .inr (7, [.int t.2, .int v_rows, .ref h_rowPoint, .ref h_rowMinute, .ref h_rowValue, .ref h_text, .int v_size, .ref h_kinds, .ref h_values, .int v_words, .int v_at, .ref h_names, .ref h_testCounts, .ref h_minutes, .ref h_costs, .ref h_sorts, .ref h_firsts, .ref h_seconds, .ref h_relations, .ref h_numbers, .int v_ruleCount, .ref h_last, .ref h_before, .int v_ran, .ref h_heldCounts, .ref h_streaks, .int v_faults, .ref h_faultRule, .ref h_faultBegin, .ref h_faultEnd, .ref h_order, .ref h_left, .int v_leftCount, .ref h_brings])), (h_heldCounts, .inl (cI, 6, .inl v_heldCounts))] (va_A [(h_this, .inr (7, [.int v_thrown, .int v_rows, .ref h_rowPoint, .ref h_rowMinute, .ref h_rowValue, .ref h_text, .int v_size, .ref h_kinds, .ref h_values, .int v_words, .int v_at, .ref h_names, .ref h_testCounts, .ref h_minutes, .ref h_costs, .ref h_sorts, .ref h_firsts, .ref h_seconds, .ref h_relations, .ref h_numbers, .int v_ruleCount, .ref h_last, .ref h_before, .int v_ran, .ref h_heldCounts, .ref h_streaks, .int v_faults, .ref h_faultRule, .ref h_faultBegin, .ref h_faultEnd, .ref h_order, .ref h_left, .int v_leftCount, .ref h_brings])), (h_heldCounts, .inl (cI, 6, .inl v_heldCounts))] sz) (some (.int t.1))) 0 0 (va_A [(h_this, .inr (7, [.int v_thrown, .int v_rows, .ref h_rowPoint, .ref h_rowMinute, .ref h_rowValue, .ref h_text, .int v_size, .ref h_kinds, .ref h_values, .int v_words, .int v_at, .ref h_names, .ref h_testCounts, .ref h_minutes, .ref h_costs, .ref h_sorts, .ref h_firsts, .ref h_seconds, .ref h_relations, .ref h_numbers, .int v_ruleCount, .ref h_last, .ref h_before, .int v_ran, .ref h_heldCounts, .ref h_streaks, .int v_faults, .ref h_faultRule, .ref h_faultBegin, .ref h_faultEnd, .ref h_order, .ref h_left, .int v_leftCount, .ref h_brings])), (h_heldCounts, .inl (cI, 6, .inl v_heldCounts))] sz) := by
  refine Met.ofW (cc := prog_9_method_44_code) (maxL := 2) (ret := (some .int)) (by decide) rfl ?_
  intro p e s m args below meth c s₁ B hml hv
  obtain ⟨hargs, hsz, hP, hK, hN, hD0⟩ := hv
  have hx := B.exec
  have hb := B.bytes
  have hr := B.returns
  have hT : ∀ w ∈ xT, w.before args s = true := fun w hw => atoms_spec (ws := Cond.code y_Model_held prog_9_method_44_code 2 (some .int) :: xT) B.pre w (List.mem_cons_of_mem _ hw)
  have hown : s.vm.findClass R_Model = some m.cls := findClass_of_methodNamed B.named
  have hlocks := B.notSynchronized
  subst hsz
  have hD := hD0.self (sz := s.heap.size)
  generalize hAe : va_A [(h_this, .inr (7, [.int v_thrown, .int v_rows, .ref h_rowPoint, .ref h_rowMinute, .ref h_rowValue, .ref h_text, .int v_size, .ref h_kinds, .ref h_values, .int v_words, .int v_at, .ref h_names, .ref h_testCounts, .ref h_minutes, .ref h_costs, .ref h_sorts, .ref h_firsts, .ref h_seconds, .ref h_relations, .ref h_numbers, .int v_ruleCount, .ref h_last, .ref h_before, .int v_ran, .ref h_heldCounts, .ref h_streaks, .int v_faults, .ref h_faultRule, .ref h_faultBegin, .ref h_faultEnd, .ref h_order, .ref h_left, .int v_leftCount, .ref h_brings])), (h_heldCounts, .inl (cI, 6, .inl v_heldCounts))] s.heap.size = A at hD ⊢
  have hA : ∀ q : Nat, s.heap.size ≤ q → A q := fun q h => by rw [← hAe]; exact Or.inr h
  have hS : va_S A s.heap s.heap [] := va_S.rf
  have hP : va_P (dC, dI) vwCl [(h_this, .inr (7, [.int v_thrown, .int v_rows, .ref h_rowPoint, .ref h_rowMinute, .ref h_rowValue, .ref h_text, .int v_size, .ref h_kinds, .ref h_values, .int v_words, .int v_at, .ref h_names, .ref h_testCounts, .ref h_minutes, .ref h_costs, .ref h_sorts, .ref h_firsts, .ref h_seconds, .ref h_relations, .ref h_numbers, .int v_ruleCount, .ref h_last, .ref h_before, .int v_ran, .ref h_heldCounts, .ref h_streaks, .int v_faults, .ref h_faultRule, .ref h_faultBegin, .ref h_faultEnd, .ref h_order, .ref h_left, .int v_leftCount, .ref h_brings])), (h_heldCounts, .inl (cI, 6, .inl v_heldCounts))] s.heap := hP
  have hl := lv_entry ([.ref h_this, .int p1]) (n := 2) (Nat.le_of_ble_eq_true rfl)
  rw [show entryFrame m args 2 = entryFrame m ([.ref h_this, .int p1] : List Value).toArray 2 from by rw [hargs], lg_entry_eq]
  generalize (lg_sl ([.ref h_this, .int p1]) ++ List.replicate (2 - (lg_sl ([.ref h_this, .int p1])).length) Slot.unset).toArray = ls at hl ⊢
  have hl : lv_has ls 2 [(0, .ref h_this), (1, .int p1)] := hl
  obtain ⟨Q, hQ⟩ : ∃ Q, Q = MQ below (xQ (dC, dI) [(h_this, .inr (7, [.int t.2, .int v_rows, .ref h_rowPoint, .ref h_rowMinute, .ref h_rowValue, .ref h_text, .int v_size, .ref h_kinds, .ref h_values, .int v_words, .int v_at, .ref h_names, .ref h_testCounts, .ref h_minutes, .ref h_costs, .ref h_sorts, .ref h_firsts, .ref h_seconds, .ref h_relations, .ref h_numbers, .int v_ruleCount, .ref h_last, .ref h_before, .int v_ran, .ref h_heldCounts, .ref h_streaks, .int v_faults, .ref h_faultRule, .ref h_faultBegin, .ref h_faultEnd, .ref h_order, .ref h_left, .int v_leftCount, .ref h_brings])), (h_heldCounts, .inl (cI, 6, .inl v_heldCounts))] A (some (.int t.1))) args s 0 0 A := ⟨_, rfl⟩
  rw [← hQ]
  show W p l e rm_Model_held s m args below meth c s.heap [] 0 0 Q _
  obtain ⟨H, hH⟩ : ∃ H, H = s.heap := ⟨_, rfl⟩
  obtain ⟨locs, hlocs⟩ : ∃ L : List Loc, L = [] := ⟨_, rfl⟩
  rw [← hlocs] at hS ⊢
  have hS : va_S A s.heap H locs := by rw [hH]; exact hS
  rw [← hH] at hP ⊢
  replace hf := f_Model_held_u hf
  refine lv_aload_n hx hb d_Model_held_0 rfl (lv_at hl 0 rfl) ?_
  refine lv_iload_n hx hb d_Model_held_1 rfl (lv_at hl 1 rfl) ?_
  refine lv_if_lt (tgt := 13) hx hb d_Model_held_2 (by decide) (fun c_1 => ?_) (fun c_1 => ?_)
  · replace hf := o_pos c_1 hf
    refine lv_iconst (v := 1) hx hb d_Model_held_13 (by decide) ?_
    refine lv_goto (tgt := 29) hx hb d_Model_held_14 (by decide) ?_
    refine va_put (D := (dC, dI)) (ci := 7) (v := .int 1) (ty := .int) (C := R_Model) (T := T_Model) (N := 34) hx hb hT i_Model ty_Model ty_Model_ok n_Model hown hK hP hD hS 0 rfl rfl 0 (by decide) (hT _ kF_Model_86) (fun _ h9 => h9) rfl (by decide +kernel) rfl rfl (Nat.le_of_ble_eq_true rfl) d_Model_held_29 (fun H locs hP hD hS => ?_)
    have hP : va_P (dC, dI) vwCl [(h_this, .inr (7, [.int 1, .int v_rows, .ref h_rowPoint, .ref h_rowMinute, .ref h_rowValue, .ref h_text, .int v_size, .ref h_kinds, .ref h_values, .int v_words, .int v_at, .ref h_names, .ref h_testCounts, .ref h_minutes, .ref h_costs, .ref h_sorts, .ref h_firsts, .ref h_seconds, .ref h_relations, .ref h_numbers, .int v_ruleCount, .ref h_last, .ref h_before, .int v_ran, .ref h_heldCounts, .ref h_streaks, .int v_faults, .ref h_faultRule, .ref h_faultBegin, .ref h_faultEnd, .ref h_order, .ref h_left, .int v_leftCount, .ref h_brings])), (h_heldCounts, .inl (cI, 6, .inl v_heldCounts))] H := hP
    have hD : va_D A [(h_this, .inr (7, [.int 1, .int v_rows, .ref h_rowPoint, .ref h_rowMinute, .ref h_rowValue, .ref h_text, .int v_size, .ref h_kinds, .ref h_values, .int v_words, .int v_at, .ref h_names, .ref h_testCounts, .ref h_minutes, .ref h_costs, .ref h_sorts, .ref h_firsts, .ref h_seconds, .ref h_relations, .ref h_numbers, .int v_ruleCount, .ref h_last, .ref h_before, .int v_ran, .ref h_heldCounts, .ref h_streaks, .int v_faults, .ref h_faultRule, .ref h_faultBegin, .ref h_faultEnd, .ref h_order, .ref h_left, .int v_leftCount, .ref h_brings])), (h_heldCounts, .inl (cI, 6, .inl v_heldCounts))] := hD
    refine lv_aload_n hx hb d_Model_held_32 rfl (lv_at hl 0 rfl) ?_
    refine va_get (D := (dC, dI)) (ci := 7) (v := .int 1) (C := R_Model) (T := T_Model) (N := 34) hx hb hT i_Model hown hK hP 0 rfl rfl 0 (by decide) (hT _ kF_Model_86) (fun _ h9 => h9) rfl d_Model_held_33 ?_
    refine lv_if_le (tgt := 43) hx hb d_Model_held_36 (by decide) (fun c_2 => ?_) (fun c_2 => ?_)
    · replace hf := o_pos c_2 hf
      refine lv_aload_n hx hb d_Model_held_43 rfl (lv_at hl 0 rfl) ?_
      refine va_get (D := (dC, dI)) (ci := 7) (v := .ref h_heldCounts) (C := R_Model) (T := T_Model) (N := 34) hx hb hT i_Model hown hK hP 0 rfl rfl 24 (by decide) (hT _ kF_Model_62) (fun _ h9 => h9) rfl d_Model_held_44 ?_
      refine lv_iload_n hx hb d_Model_held_47 rfl (lv_at hl 1 rfl) ?_
      obtain ⟨hi_3, hf⟩ := o_in hf
      refine va_iald hx hb hK hP 1 0 rfl rfl hi_3 d_Model_held_48 ?_
      rw [hQ, ← Option.some.inj hf]
      exact W.iret hx hb hr (fun t9 ht9 hW9 => ⟨rfl, by rw [ht9]; exact hP, hS.F ht9⟩) hS.2.2 d_Model_held_49
    · replace hf := o_neg c_2 hf
      refine lv_iconst (v := 0) hx hb d_Model_held_39 (by decide) ?_
      refine lv_goto (tgt := 49) hx hb d_Model_held_40 (by decide) ?_
      rw [hQ, ← Option.some.inj hf]
      exact W.iret hx hb hr (fun t9 ht9 hW9 => ⟨rfl, by rw [ht9]; exact hP, hS.F ht9⟩) hS.2.2 d_Model_held_49
  · replace hf := o_neg c_1 hf
    refine lv_iload_n hx hb d_Model_held_5 rfl (lv_at hl 1 rfl) ?_
    refine lv_aload_n hx hb d_Model_held_6 rfl (lv_at hl 0 rfl) ?_
    refine va_get (D := (dC, dI)) (ci := 7) (v := .int v_ruleCount) (C := R_Model) (T := T_Model) (N := 34) hx hb hT i_Model hown hK hP 0 rfl rfl 20 (by decide) (hT _ kF_Model_233) (fun _ h9 => h9) rfl d_Model_held_7 ?_
    refine lv_icmp_lt (tgt := 17) hx hb d_Model_held_10 (by decide) (fun c_4 => ?_) (fun c_4 => ?_)
    · replace hf := o_pos c_4 hf
      refine lv_aload_n hx hb d_Model_held_17 rfl (lv_at hl 0 rfl) ?_
      refine va_get (D := (dC, dI)) (ci := 7) (v := .int v_ran) (C := R_Model) (T := T_Model) (N := 34) hx hb hT i_Model hown hK hP 0 rfl rfl 23 (by decide) (hT _ kF_Model_236) (fun _ h9 => h9) rfl d_Model_held_18 ?_
      refine lv_if_ne (tgt := 28) hx hb d_Model_held_21 (by decide) (fun c_5 => ?_) (fun c_5 => ?_)
      · replace hf := o_neg c_5 hf
        refine lv_iconst (v := 0) hx hb d_Model_held_28 (by decide) ?_
        refine va_put (D := (dC, dI)) (ci := 7) (v := .int 0) (ty := .int) (C := R_Model) (T := T_Model) (N := 34) hx hb hT i_Model ty_Model ty_Model_ok n_Model hown hK hP hD hS 0 rfl rfl 0 (by decide) (hT _ kF_Model_86) (fun _ h9 => h9) rfl (by decide +kernel) rfl rfl (Nat.le_of_ble_eq_true rfl) d_Model_held_29 (fun H locs hP hD hS => ?_)
        have hP : va_P (dC, dI) vwCl [(h_this, .inr (7, [.int 0, .int v_rows, .ref h_rowPoint, .ref h_rowMinute, .ref h_rowValue, .ref h_text, .int v_size, .ref h_kinds, .ref h_values, .int v_words, .int v_at, .ref h_names, .ref h_testCounts, .ref h_minutes, .ref h_costs, .ref h_sorts, .ref h_firsts, .ref h_seconds, .ref h_relations, .ref h_numbers, .int v_ruleCount, .ref h_last, .ref h_before, .int v_ran, .ref h_heldCounts, .ref h_streaks, .int v_faults, .ref h_faultRule, .ref h_faultBegin, .ref h_faultEnd, .ref h_order, .ref h_left, .int v_leftCount, .ref h_brings])), (h_heldCounts, .inl (cI, 6, .inl v_heldCounts))] H := hP
        have hD : va_D A [(h_this, .inr (7, [.int 0, .int v_rows, .ref h_rowPoint, .ref h_rowMinute, .ref h_rowValue, .ref h_text, .int v_size, .ref h_kinds, .ref h_values, .int v_words, .int v_at, .ref h_names, .ref h_testCounts, .ref h_minutes, .ref h_costs, .ref h_sorts, .ref h_firsts, .ref h_seconds, .ref h_relations, .ref h_numbers, .int v_ruleCount, .ref h_last, .ref h_before, .int v_ran, .ref h_heldCounts, .ref h_streaks, .int v_faults, .ref h_faultRule, .ref h_faultBegin, .ref h_faultEnd, .ref h_order, .ref h_left, .int v_leftCount, .ref h_brings])), (h_heldCounts, .inl (cI, 6, .inl v_heldCounts))] := hD
        refine lv_aload_n hx hb d_Model_held_32 rfl (lv_at hl 0 rfl) ?_
        refine va_get (D := (dC, dI)) (ci := 7) (v := .int 0) (C := R_Model) (T := T_Model) (N := 34) hx hb hT i_Model hown hK hP 0 rfl rfl 0 (by decide) (hT _ kF_Model_86) (fun _ h9 => h9) rfl d_Model_held_33 ?_
        refine lv_if_le (tgt := 43) hx hb d_Model_held_36 (by decide) (fun c_6 => ?_) (fun c_6 => ?_)
        · replace hf := o_pos c_6 hf
          refine lv_aload_n hx hb d_Model_held_43 rfl (lv_at hl 0 rfl) ?_
          refine va_get (D := (dC, dI)) (ci := 7) (v := .ref h_heldCounts) (C := R_Model) (T := T_Model) (N := 34) hx hb hT i_Model hown hK hP 0 rfl rfl 24 (by decide) (hT _ kF_Model_62) (fun _ h9 => h9) rfl d_Model_held_44 ?_
          refine lv_iload_n hx hb d_Model_held_47 rfl (lv_at hl 1 rfl) ?_
          obtain ⟨hi_7, hf⟩ := o_in hf
          refine va_iald hx hb hK hP 1 0 rfl rfl hi_7 d_Model_held_48 ?_
          rw [hQ, ← Option.some.inj hf]
          exact W.iret hx hb hr (fun t9 ht9 hW9 => ⟨rfl, by rw [ht9]; exact hP, hS.F ht9⟩) hS.2.2 d_Model_held_49
        · replace hf := o_neg c_6 hf
          refine lv_iconst (v := 0) hx hb d_Model_held_39 (by decide) ?_
          refine lv_goto (tgt := 49) hx hb d_Model_held_40 (by decide) ?_
          rw [hQ, ← Option.some.inj hf]
          exact W.iret hx hb hr (fun t9 ht9 hW9 => ⟨rfl, by rw [ht9]; exact hP, hS.F ht9⟩) hS.2.2 d_Model_held_49
      · replace hf := o_pos c_5 hf
        refine lv_iconst (v := 2) hx hb d_Model_held_24 (by decide) ?_
        refine lv_goto (tgt := 29) hx hb d_Model_held_25 (by decide) ?_
        refine va_put (D := (dC, dI)) (ci := 7) (v := .int 2) (ty := .int) (C := R_Model) (T := T_Model) (N := 34) hx hb hT i_Model ty_Model ty_Model_ok n_Model hown hK hP hD hS 0 rfl rfl 0 (by decide) (hT _ kF_Model_86) (fun _ h9 => h9) rfl (by decide +kernel) rfl rfl (Nat.le_of_ble_eq_true rfl) d_Model_held_29 (fun H locs hP hD hS => ?_)
        have hP : va_P (dC, dI) vwCl [(h_this, .inr (7, [.int 2, .int v_rows, .ref h_rowPoint, .ref h_rowMinute, .ref h_rowValue, .ref h_text, .int v_size, .ref h_kinds, .ref h_values, .int v_words, .int v_at, .ref h_names, .ref h_testCounts, .ref h_minutes, .ref h_costs, .ref h_sorts, .ref h_firsts, .ref h_seconds, .ref h_relations, .ref h_numbers, .int v_ruleCount, .ref h_last, .ref h_before, .int v_ran, .ref h_heldCounts, .ref h_streaks, .int v_faults, .ref h_faultRule, .ref h_faultBegin, .ref h_faultEnd, .ref h_order, .ref h_left, .int v_leftCount, .ref h_brings])), (h_heldCounts, .inl (cI, 6, .inl v_heldCounts))] H := hP
        have hD : va_D A [(h_this, .inr (7, [.int 2, .int v_rows, .ref h_rowPoint, .ref h_rowMinute, .ref h_rowValue, .ref h_text, .int v_size, .ref h_kinds, .ref h_values, .int v_words, .int v_at, .ref h_names, .ref h_testCounts, .ref h_minutes, .ref h_costs, .ref h_sorts, .ref h_firsts, .ref h_seconds, .ref h_relations, .ref h_numbers, .int v_ruleCount, .ref h_last, .ref h_before, .int v_ran, .ref h_heldCounts, .ref h_streaks, .int v_faults, .ref h_faultRule, .ref h_faultBegin, .ref h_faultEnd, .ref h_order, .ref h_left, .int v_leftCount, .ref h_brings])), (h_heldCounts, .inl (cI, 6, .inl v_heldCounts))] := hD
        refine lv_aload_n hx hb d_Model_held_32 rfl (lv_at hl 0 rfl) ?_
        refine va_get (D := (dC, dI)) (ci := 7) (v := .int 2) (C := R_Model) (T := T_Model) (N := 34) hx hb hT i_Model hown hK hP 0 rfl rfl 0 (by decide) (hT _ kF_Model_86) (fun _ h9 => h9) rfl d_Model_held_33 ?_
        refine lv_if_le (tgt := 43) hx hb d_Model_held_36 (by decide) (fun c_8 => ?_) (fun c_8 => ?_)
        · replace hf := o_pos c_8 hf
          refine lv_aload_n hx hb d_Model_held_43 rfl (lv_at hl 0 rfl) ?_
          refine va_get (D := (dC, dI)) (ci := 7) (v := .ref h_heldCounts) (C := R_Model) (T := T_Model) (N := 34) hx hb hT i_Model hown hK hP 0 rfl rfl 24 (by decide) (hT _ kF_Model_62) (fun _ h9 => h9) rfl d_Model_held_44 ?_
          refine lv_iload_n hx hb d_Model_held_47 rfl (lv_at hl 1 rfl) ?_
          obtain ⟨hi_9, hf⟩ := o_in hf
          refine va_iald hx hb hK hP 1 0 rfl rfl hi_9 d_Model_held_48 ?_
          rw [hQ, ← Option.some.inj hf]
          exact W.iret hx hb hr (fun t9 ht9 hW9 => ⟨rfl, by rw [ht9]; exact hP, hS.F ht9⟩) hS.2.2 d_Model_held_49
        · replace hf := o_neg c_8 hf
          refine lv_iconst (v := 0) hx hb d_Model_held_39 (by decide) ?_
          refine lv_goto (tgt := 49) hx hb d_Model_held_40 (by decide) ?_
          rw [hQ, ← Option.some.inj hf]
          exact W.iret hx hb hr (fun t9 ht9 hW9 => ⟨rfl, by rw [ht9]; exact hP, hS.F ht9⟩) hS.2.2 d_Model_held_49
    · replace hf := o_neg c_4 hf
      refine lv_iconst (v := 1) hx hb d_Model_held_13 (by decide) ?_
      refine lv_goto (tgt := 29) hx hb d_Model_held_14 (by decide) ?_
      refine va_put (D := (dC, dI)) (ci := 7) (v := .int 1) (ty := .int) (C := R_Model) (T := T_Model) (N := 34) hx hb hT i_Model ty_Model ty_Model_ok n_Model hown hK hP hD hS 0 rfl rfl 0 (by decide) (hT _ kF_Model_86) (fun _ h9 => h9) rfl (by decide +kernel) rfl rfl (Nat.le_of_ble_eq_true rfl) d_Model_held_29 (fun H locs hP hD hS => ?_)
      have hP : va_P (dC, dI) vwCl [(h_this, .inr (7, [.int 1, .int v_rows, .ref h_rowPoint, .ref h_rowMinute, .ref h_rowValue, .ref h_text, .int v_size, .ref h_kinds, .ref h_values, .int v_words, .int v_at, .ref h_names, .ref h_testCounts, .ref h_minutes, .ref h_costs, .ref h_sorts, .ref h_firsts, .ref h_seconds, .ref h_relations, .ref h_numbers, .int v_ruleCount, .ref h_last, .ref h_before, .int v_ran, .ref h_heldCounts, .ref h_streaks, .int v_faults, .ref h_faultRule, .ref h_faultBegin, .ref h_faultEnd, .ref h_order, .ref h_left, .int v_leftCount, .ref h_brings])), (h_heldCounts, .inl (cI, 6, .inl v_heldCounts))] H := hP
      have hD : va_D A [(h_this, .inr (7, [.int 1, .int v_rows, .ref h_rowPoint, .ref h_rowMinute, .ref h_rowValue, .ref h_text, .int v_size, .ref h_kinds, .ref h_values, .int v_words, .int v_at, .ref h_names, .ref h_testCounts, .ref h_minutes, .ref h_costs, .ref h_sorts, .ref h_firsts, .ref h_seconds, .ref h_relations, .ref h_numbers, .int v_ruleCount, .ref h_last, .ref h_before, .int v_ran, .ref h_heldCounts, .ref h_streaks, .int v_faults, .ref h_faultRule, .ref h_faultBegin, .ref h_faultEnd, .ref h_order, .ref h_left, .int v_leftCount, .ref h_brings])), (h_heldCounts, .inl (cI, 6, .inl v_heldCounts))] := hD
      refine lv_aload_n hx hb d_Model_held_32 rfl (lv_at hl 0 rfl) ?_
      refine va_get (D := (dC, dI)) (ci := 7) (v := .int 1) (C := R_Model) (T := T_Model) (N := 34) hx hb hT i_Model hown hK hP 0 rfl rfl 0 (by decide) (hT _ kF_Model_86) (fun _ h9 => h9) rfl d_Model_held_33 ?_
      refine lv_if_le (tgt := 43) hx hb d_Model_held_36 (by decide) (fun c_10 => ?_) (fun c_10 => ?_)
      · replace hf := o_pos c_10 hf
        refine lv_aload_n hx hb d_Model_held_43 rfl (lv_at hl 0 rfl) ?_
        refine va_get (D := (dC, dI)) (ci := 7) (v := .ref h_heldCounts) (C := R_Model) (T := T_Model) (N := 34) hx hb hT i_Model hown hK hP 0 rfl rfl 24 (by decide) (hT _ kF_Model_62) (fun _ h9 => h9) rfl d_Model_held_44 ?_
        refine lv_iload_n hx hb d_Model_held_47 rfl (lv_at hl 1 rfl) ?_
        obtain ⟨hi_11, hf⟩ := o_in hf
        refine va_iald hx hb hK hP 1 0 rfl rfl hi_11 d_Model_held_48 ?_
        rw [hQ, ← Option.some.inj hf]
        exact W.iret hx hb hr (fun t9 ht9 hW9 => ⟨rfl, by rw [ht9]; exact hP, hS.F ht9⟩) hS.2.2 d_Model_held_49
      · replace hf := o_neg c_10 hf
        refine lv_iconst (v := 0) hx hb d_Model_held_39 (by decide) ?_
        refine lv_goto (tgt := 49) hx hb d_Model_held_40 (by decide) ?_
        rw [hQ, ← Option.some.inj hf]
        exact W.iret hx hb hr (fun t9 ht9 hW9 => ⟨rfl, by rw [ht9]; exact hP, hS.F ht9⟩) hS.2.2 d_Model_held_49
def rm_Model_leftAt : Room := { frames := 0, cells := 0, slots := 0, locals := 0 }
set_option maxHeartbeats 4000000 in
set_option maxRecDepth 100000 in
theorem c_Model_leftAt (l : Launch) (dC : Nat → ClassId) (dI : Nat → Nat → Nat) (cI cL cC : ClassId) (h_this h_rowPoint h_rowMinute h_rowValue h_text h_kinds h_values h_names h_testCounts h_minutes h_costs h_sorts h_firsts h_seconds h_relations h_numbers h_last h_before h_heldCounts h_streaks h_faultRule h_faultBegin h_faultEnd h_order h_left h_brings : Nat) (sz : Nat) (fu : Nat) (v_thrown : Int32) (v_rows : Int32) (v_size : Int32) (v_words : Int32) (v_at : Int32) (v_ruleCount : Int32) (v_ran : Int32) (v_faults : Int32) (v_leftCount : Int32) (v_left : Nat → Int32) (p1 : Int32) (t : Int32) (hf : f_Model_leftAt fu v_leftCount v_left p1 = some t) : Met l y_Model_leftAt (Cond.code y_Model_leftAt prog_9_method_45_code 3 (some .int) :: xT) rm_Model_leftAt (va_Pc [.ref h_this, .int p1] (xP (dC, dI) (xTy cI cL cC) [(h_this, .inr (7, [.int v_thrown, .int v_rows, .ref h_rowPoint, .ref h_rowMinute, .ref h_rowValue, .ref h_text, .int v_size, .ref h_kinds, .ref h_values, .int v_words, .int v_at, .ref h_names, .ref h_testCounts, .ref h_minutes, .ref h_costs, .ref h_sorts, .ref h_firsts, .ref h_seconds, .ref h_relations, .ref h_numbers, .int v_ruleCount, .ref h_last, .ref h_before, .int v_ran, .ref h_heldCounts, .ref h_streaks, .int v_faults, .ref h_faultRule, .ref h_faultBegin, .ref h_faultEnd, .ref h_order, .ref h_left, .int v_leftCount, .ref h_brings])), (h_left, .inl (cI, 100, .inl v_left))] sz)) (xQ (dC, dI) [(h_this, .inr (7, [.int v_thrown, .int v_rows, .ref h_rowPoint, .ref h_rowMinute, .ref h_rowValue, .ref h_text, .int v_size, .ref h_kinds, .ref h_values, .int v_words, .int v_at, .ref h_names, .ref h_testCounts, .ref h_minutes, .ref h_costs, .ref h_sorts, .ref h_firsts, .ref h_seconds, .ref h_relations, .ref h_numbers, .int v_ruleCount, .ref h_last, .ref h_before, .int v_ran, .ref h_heldCounts, .ref h_streaks, .int v_faults, .ref h_faultRule, .ref h_faultBegin, .ref h_faultEnd, .ref h_order, .ref h_left, .int v_leftCount, .ref h_brings])), (h_left, .inl (cI, 100, .inl v_left))] (va_A [(h_this, .inr (7, [.int v_thrown, .int v_rows, .ref h_rowPoint, .ref h_rowMinute, .ref h_rowValue, .ref h_text, .int v_size, .ref h_kinds, .ref h_values, .int v_words, .int v_at, .ref h_names, .ref h_testCounts, .ref h_minutes, .ref h_costs, .ref h_sorts, .ref h_firsts, .ref h_seconds, .ref h_relations, .ref h_numbers, .int v_ruleCount, .ref h_last, .ref h_before, .int v_ran, .ref h_heldCounts, .ref h_streaks, .int v_faults, .ref h_faultRule, .ref h_faultBegin, .ref h_faultEnd, .ref h_order, .ref h_left, .int v_leftCount, .ref h_brings])), (h_left, .inl (cI, 100, .inl v_left))] sz) (some (.int t))) 0 0 (va_A [(h_this, .inr (7, [.int v_thrown, .int v_rows, .ref h_rowPoint, .ref h_rowMinute, .ref h_rowValue, .ref h_text, .int v_size, .ref h_kinds, .ref h_values, .int v_words, .int v_at, .ref h_names, .ref h_testCounts, .ref h_minutes, .ref h_costs, .ref h_sorts, .ref h_firsts, .ref h_seconds, .ref h_relations, .ref h_numbers, .int v_ruleCount, .ref h_last, .ref h_before, .int v_ran, .ref h_heldCounts, .ref h_streaks, .int v_faults, .ref h_faultRule, .ref h_faultBegin, .ref h_faultEnd, .ref h_order, .ref h_left, .int v_leftCount, .ref h_brings])), (h_left, .inl (cI, 100, .inl v_left))] sz) := by
  refine Met.ofW (cc := prog_9_method_45_code) (maxL := 3) (ret := (some .int)) (by decide) rfl ?_
  intro p e s m args below meth c s₁ B hml hv
  obtain ⟨hargs, hsz, hP, hK, hN, hD0⟩ := hv
  have hx := B.exec
  have hb := B.bytes
  have hr := B.returns
  have hT : ∀ w ∈ xT, w.before args s = true := fun w hw => atoms_spec (ws := Cond.code y_Model_leftAt prog_9_method_45_code 3 (some .int) :: xT) B.pre w (List.mem_cons_of_mem _ hw)
  have hown : s.vm.findClass R_Model = some m.cls := findClass_of_methodNamed B.named
  have hlocks := B.notSynchronized
  subst hsz
  have hD := hD0.self (sz := s.heap.size)
  generalize hAe : va_A [(h_this, .inr (7, [.int v_thrown, .int v_rows, .ref h_rowPoint, .ref h_rowMinute, .ref h_rowValue, .ref h_text, .int v_size, .ref h_kinds, .ref h_values, .int v_words, .int v_at, .ref h_names, .ref h_testCounts, .ref h_minutes, .ref h_costs, .ref h_sorts, .ref h_firsts, .ref h_seconds, .ref h_relations, .ref h_numbers, .int v_ruleCount, .ref h_last, .ref h_before, .int v_ran, .ref h_heldCounts, .ref h_streaks, .int v_faults, .ref h_faultRule, .ref h_faultBegin, .ref h_faultEnd, .ref h_order, .ref h_left, .int v_leftCount, .ref h_brings])), (h_left, .inl (cI, 100, .inl v_left))] s.heap.size = A at hD ⊢
  have hA : ∀ q : Nat, s.heap.size ≤ q → A q := fun q h => by rw [← hAe]; exact Or.inr h
  have hS : va_S A s.heap s.heap [] := va_S.rf
  have hP : va_P (dC, dI) vwCl [(h_this, .inr (7, [.int v_thrown, .int v_rows, .ref h_rowPoint, .ref h_rowMinute, .ref h_rowValue, .ref h_text, .int v_size, .ref h_kinds, .ref h_values, .int v_words, .int v_at, .ref h_names, .ref h_testCounts, .ref h_minutes, .ref h_costs, .ref h_sorts, .ref h_firsts, .ref h_seconds, .ref h_relations, .ref h_numbers, .int v_ruleCount, .ref h_last, .ref h_before, .int v_ran, .ref h_heldCounts, .ref h_streaks, .int v_faults, .ref h_faultRule, .ref h_faultBegin, .ref h_faultEnd, .ref h_order, .ref h_left, .int v_leftCount, .ref h_brings])), (h_left, .inl (cI, 100, .inl v_left))] s.heap := hP
  have hl := lv_entry ([.ref h_this, .int p1]) (n := 3) (Nat.le_of_ble_eq_true rfl)
  rw [show entryFrame m args 3 = entryFrame m ([.ref h_this, .int p1] : List Value).toArray 3 from by rw [hargs], lg_entry_eq]
  generalize (lg_sl ([.ref h_this, .int p1]) ++ List.replicate (3 - (lg_sl ([.ref h_this, .int p1])).length) Slot.unset).toArray = ls at hl ⊢
  have hl : lv_has ls 3 [(0, .ref h_this), (1, .int p1)] := hl
  obtain ⟨Q, hQ⟩ : ∃ Q, Q = MQ below (xQ (dC, dI) [(h_this, .inr (7, [.int v_thrown, .int v_rows, .ref h_rowPoint, .ref h_rowMinute, .ref h_rowValue, .ref h_text, .int v_size, .ref h_kinds, .ref h_values, .int v_words, .int v_at, .ref h_names, .ref h_testCounts, .ref h_minutes, .ref h_costs, .ref h_sorts, .ref h_firsts, .ref h_seconds, .ref h_relations, .ref h_numbers, .int v_ruleCount, .ref h_last, .ref h_before, .int v_ran, .ref h_heldCounts, .ref h_streaks, .int v_faults, .ref h_faultRule, .ref h_faultBegin, .ref h_faultEnd, .ref h_order, .ref h_left, .int v_leftCount, .ref h_brings])), (h_left, .inl (cI, 100, .inl v_left))] A (some (.int t))) args s 0 0 A := ⟨_, rfl⟩
  rw [← hQ]
  show W p l e rm_Model_leftAt s m args below meth c s.heap [] 0 0 Q _
  obtain ⟨H, hH⟩ : ∃ H, H = s.heap := ⟨_, rfl⟩
  obtain ⟨locs, hlocs⟩ : ∃ L : List Loc, L = [] := ⟨_, rfl⟩
  rw [← hlocs] at hS ⊢
  have hS : va_S A s.heap H locs := by rw [hH]; exact hS
  rw [← hH] at hP ⊢
  replace hf := f_Model_leftAt_u hf
  refine lv_iconst (v := 0) hx hb d_Model_leftAt_0 (by decide) ?_
  refine lv_istore_n (lv' := [(2, .int 0), (0, .ref h_this), (1, .int p1)]) hx hb d_Model_leftAt_1 rfl hl (by decide) rfl (fun ls hl => ?_)
  have lp_2 : ∀ (n : Nat) (l2_2 : Int32) (H : Heap) (locs : List Loc) (ls : Array Slot), L_Model_leftAt_2 fu v_leftCount v_left p1 n l2_2 = some t → va_P (dC, dI) vwCl [(h_this, .inr (7, [.int v_thrown, .int v_rows, .ref h_rowPoint, .ref h_rowMinute, .ref h_rowValue, .ref h_text, .int v_size, .ref h_kinds, .ref h_values, .int v_words, .int v_at, .ref h_names, .ref h_testCounts, .ref h_minutes, .ref h_costs, .ref h_sorts, .ref h_firsts, .ref h_seconds, .ref h_relations, .ref h_numbers, .int v_ruleCount, .ref h_last, .ref h_before, .int v_ran, .ref h_heldCounts, .ref h_streaks, .int v_faults, .ref h_faultRule, .ref h_faultBegin, .ref h_faultEnd, .ref h_order, .ref h_left, .int v_leftCount, .ref h_brings])), (h_left, .inl (cI, 100, .inl v_left))] H → va_D A [(h_this, .inr (7, [.int v_thrown, .int v_rows, .ref h_rowPoint, .ref h_rowMinute, .ref h_rowValue, .ref h_text, .int v_size, .ref h_kinds, .ref h_values, .int v_words, .int v_at, .ref h_names, .ref h_testCounts, .ref h_minutes, .ref h_costs, .ref h_sorts, .ref h_firsts, .ref h_seconds, .ref h_relations, .ref h_numbers, .int v_ruleCount, .ref h_last, .ref h_before, .int v_ran, .ref h_heldCounts, .ref h_streaks, .int v_faults, .ref h_faultRule, .ref h_faultBegin, .ref h_faultEnd, .ref h_order, .ref h_left, .int v_leftCount, .ref h_brings])), (h_left, .inl (cI, 100, .inl v_left))] → va_S A s.heap H locs → lv_has ls 3 [(0, .ref h_this), (1, .int p1), (2, .int l2_2)] → W p l e rm_Model_leftAt s m args below meth c H locs 0 0 Q (F0 m 2 ls []) := by
    intro  n
    induction n with
    | zero => intro l2_2 H locs ls hf; exact (L_Model_leftAt_2_z hf).elim
    | succ n ih =>
      intro l2_2 H locs ls hf hP hD hS hl
      replace hf := L_Model_leftAt_2_u hf
      refine lv_iload_n hx hb d_Model_leftAt_2 rfl (lv_at hl 2 rfl) ?_
      refine lv_aload_n hx hb d_Model_leftAt_3 rfl (lv_at hl 0 rfl) ?_
      refine va_get (D := (dC, dI)) (ci := 7) (v := .int v_leftCount) (C := R_Model) (T := T_Model) (N := 34) hx hb hT i_Model hown hK hP 0 rfl rfl 32 (by decide) (hT _ kF_Model_277) (fun _ h9 => h9) rfl d_Model_leftAt_4 ?_
      refine lv_icmp_ge (tgt := 26) hx hb d_Model_leftAt_7 (by decide) (fun c_1 => ?_) (fun c_1 => ?_)
      · replace hf := o_pos c_1 hf
        refine lv_iload_n hx hb d_Model_leftAt_26 rfl (lv_at hl 2 rfl) ?_
        rw [hQ, ← Option.some.inj hf]
        exact W.iret hx hb hr (fun t9 ht9 hW9 => ⟨rfl, by rw [ht9]; exact hP, hS.F ht9⟩) hS.2.2 d_Model_leftAt_27
      · replace hf := o_neg c_1 hf
        refine lv_aload_n hx hb d_Model_leftAt_10 rfl (lv_at hl 0 rfl) ?_
        refine va_get (D := (dC, dI)) (ci := 7) (v := .ref h_left) (C := R_Model) (T := T_Model) (N := 34) hx hb hT i_Model hown hK hP 0 rfl rfl 31 (by decide) (hT _ kF_Model_80) (fun _ h9 => h9) rfl d_Model_leftAt_11 ?_
        refine lv_iload_n hx hb d_Model_leftAt_14 rfl (lv_at hl 2 rfl) ?_
        obtain ⟨hi_2, hf⟩ := o_in hf
        refine va_iald hx hb hK hP 1 0 rfl rfl hi_2 d_Model_leftAt_15 ?_
        refine lv_iload_n hx hb d_Model_leftAt_16 rfl (lv_at hl 1 rfl) ?_
        refine lv_icmp_eq (tgt := 26) hx hb d_Model_leftAt_17 (by decide) (fun c_3 => ?_) (fun c_3 => ?_)
        · replace hf := o_pos c_3 hf
          refine lv_iload_n hx hb d_Model_leftAt_26 rfl (lv_at hl 2 rfl) ?_
          rw [hQ, ← Option.some.inj hf]
          exact W.iret hx hb hr (fun t9 ht9 hW9 => ⟨rfl, by rw [ht9]; exact hP, hS.F ht9⟩) hS.2.2 d_Model_leftAt_27
        · replace hf := o_neg c_3 hf
          refine lv_iinc (v := l2_2 + 1) (lv' := [(2, .int (l2_2 + 1)), (0, .ref h_this), (1, .int p1)]) hx hb d_Model_leftAt_20 hl (k := 2) rfl rfl (by decide) rfl (fun ls hl => ?_)
          refine lv_goto (tgt := 2) hx hb d_Model_leftAt_23 (by decide) ?_
          exact ih (l2_2 + 1) H locs ls hf hP hD hS (lv_sub hl [1, 2, 0] rfl)
  refine lp_2  fu 0 H locs ls hf hP hD hS (lv_sub hl [1, 2, 0] rfl)
def rm_Model_leave : Room := { frames := 2, cells := 0, slots := 0, locals := 45 }
set_option maxHeartbeats 4000000 in
set_option maxRecDepth 100000 in
theorem c_Model_leave (l : Launch) (dC : Nat → ClassId) (dI : Nat → Nat → Nat) (cI cL cC : ClassId) (h_this h_rowPoint h_rowMinute h_rowValue h_text h_kinds h_values h_names h_testCounts h_minutes h_costs h_sorts h_firsts h_seconds h_relations h_numbers h_last h_before h_heldCounts h_streaks h_faultRule h_faultBegin h_faultEnd h_order h_left h_brings : Nat) (sz : Nat) (fu : Nat) (v_thrown : Int32) (v_rows : Int32) (v_size : Int32) (v_words : Int32) (v_at : Int32) (v_ruleCount : Int32) (v_ran : Int32) (v_faults : Int32) (v_leftCount : Int32) (v_left : Nat → Int32) (p1 : Int32) (p2 : Int32) (t : Int32 × Int32 × Int32 × (Nat → Int32)) (hf : f_Model_leave fu v_thrown v_leftCount v_left p1 p2 = some t) : Met l y_Model_leave (Cond.code y_Model_leave prog_9_method_46_code 5 (some .boolean) :: xT) rm_Model_leave (va_Pc [.ref h_this, .int p1, .int p2] (xP (dC, dI) (xTy cI cL cC) [(h_this, .inr (7, [.int v_thrown, .int v_rows, .ref h_rowPoint, .ref h_rowMinute, .ref h_rowValue, .ref h_text, .int v_size, .ref h_kinds, .ref h_values, .int v_words, .int v_at, .ref h_names, .ref h_testCounts, .ref h_minutes, .ref h_costs, .ref h_sorts, .ref h_firsts, .ref h_seconds, .ref h_relations, .ref h_numbers, .int v_ruleCount, .ref h_last, .ref h_before, .int v_ran, .ref h_heldCounts, .ref h_streaks, .int v_faults, .ref h_faultRule, .ref h_faultBegin, .ref h_faultEnd, .ref h_order, .ref h_left, .int v_leftCount, .ref h_brings])), (h_left, .inl (cI, 100, .inl v_left))] sz)) (xQ (dC, dI) [(h_this, .inr (7, [.int t.2.1, .int v_rows, .ref h_rowPoint, .ref h_rowMinute, .ref h_rowValue, .ref h_text, .int v_size, .ref h_kinds, .ref h_values, .int v_words, .int v_at, .ref h_names, .ref h_testCounts, .ref h_minutes, .ref h_costs, .ref h_sorts, .ref h_firsts, .ref h_seconds, .ref h_relations, .ref h_numbers, .int v_ruleCount, .ref h_last, .ref h_before, .int v_ran, .ref h_heldCounts, .ref h_streaks, .int v_faults, .ref h_faultRule, .ref h_faultBegin, .ref h_faultEnd, .ref h_order, .ref h_left, .int t.2.2.1, .ref h_brings])), (h_left, .inl (cI, 100, .inl t.2.2.2))] (va_A [(h_this, .inr (7, [.int v_thrown, .int v_rows, .ref h_rowPoint, .ref h_rowMinute, .ref h_rowValue, .ref h_text, .int v_size, .ref h_kinds, .ref h_values, .int v_words, .int v_at, .ref h_names, .ref h_testCounts, .ref h_minutes, .ref h_costs, .ref h_sorts, .ref h_firsts, .ref h_seconds, .ref h_relations, .ref h_numbers, .int v_ruleCount, .ref h_last, .ref h_before, .int v_ran, .ref h_heldCounts, .ref h_streaks, .int v_faults, .ref h_faultRule, .ref h_faultBegin, .ref h_faultEnd, .ref h_order, .ref h_left, .int v_leftCount, .ref h_brings])), (h_left, .inl (cI, 100, .inl v_left))] sz) (some (.int t.1))) 0 0 (va_A [(h_this, .inr (7, [.int v_thrown, .int v_rows, .ref h_rowPoint, .ref h_rowMinute, .ref h_rowValue, .ref h_text, .int v_size, .ref h_kinds, .ref h_values, .int v_words, .int v_at, .ref h_names, .ref h_testCounts, .ref h_minutes, .ref h_costs, .ref h_sorts, .ref h_firsts, .ref h_seconds, .ref h_relations, .ref h_numbers, .int v_ruleCount, .ref h_last, .ref h_before, .int v_ran, .ref h_heldCounts, .ref h_streaks, .int v_faults, .ref h_faultRule, .ref h_faultBegin, .ref h_faultEnd, .ref h_order, .ref h_left, .int v_leftCount, .ref h_brings])), (h_left, .inl (cI, 100, .inl v_left))] sz) := by
  refine Met.ofW (cc := prog_9_method_46_code) (maxL := 5) (ret := (some .boolean)) (by decide) rfl ?_
  intro p e s m args below meth c s₁ B hml hv
  obtain ⟨hargs, hsz, hP, hK, hN, hD0⟩ := hv
  have hx := B.exec
  have hb := B.bytes
  have hr := B.returns
  have hT : ∀ w ∈ xT, w.before args s = true := fun w hw => atoms_spec (ws := Cond.code y_Model_leave prog_9_method_46_code 5 (some .boolean) :: xT) B.pre w (List.mem_cons_of_mem _ hw)
  have hown : s.vm.findClass R_Model = some m.cls := findClass_of_methodNamed B.named
  have hlocks := B.notSynchronized
  subst hsz
  have hD := hD0.self (sz := s.heap.size)
  generalize hAe : va_A [(h_this, .inr (7, [.int v_thrown, .int v_rows, .ref h_rowPoint, .ref h_rowMinute, .ref h_rowValue, .ref h_text, .int v_size, .ref h_kinds, .ref h_values, .int v_words, .int v_at, .ref h_names, .ref h_testCounts, .ref h_minutes, .ref h_costs, .ref h_sorts, .ref h_firsts, .ref h_seconds, .ref h_relations, .ref h_numbers, .int v_ruleCount, .ref h_last, .ref h_before, .int v_ran, .ref h_heldCounts, .ref h_streaks, .int v_faults, .ref h_faultRule, .ref h_faultBegin, .ref h_faultEnd, .ref h_order, .ref h_left, .int v_leftCount, .ref h_brings])), (h_left, .inl (cI, 100, .inl v_left))] s.heap.size = A at hD ⊢
  have hA : ∀ q : Nat, s.heap.size ≤ q → A q := fun q h => by rw [← hAe]; exact Or.inr h
  have hS : va_S A s.heap s.heap [] := va_S.rf
  have hP : va_P (dC, dI) vwCl [(h_this, .inr (7, [.int v_thrown, .int v_rows, .ref h_rowPoint, .ref h_rowMinute, .ref h_rowValue, .ref h_text, .int v_size, .ref h_kinds, .ref h_values, .int v_words, .int v_at, .ref h_names, .ref h_testCounts, .ref h_minutes, .ref h_costs, .ref h_sorts, .ref h_firsts, .ref h_seconds, .ref h_relations, .ref h_numbers, .int v_ruleCount, .ref h_last, .ref h_before, .int v_ran, .ref h_heldCounts, .ref h_streaks, .int v_faults, .ref h_faultRule, .ref h_faultBegin, .ref h_faultEnd, .ref h_order, .ref h_left, .int v_leftCount, .ref h_brings])), (h_left, .inl (cI, 100, .inl v_left))] s.heap := hP
  have hl := lv_entry ([.ref h_this, .int p1, .int p2]) (n := 5) (Nat.le_of_ble_eq_true rfl)
  rw [show entryFrame m args 5 = entryFrame m ([.ref h_this, .int p1, .int p2] : List Value).toArray 5 from by rw [hargs], lg_entry_eq]
  generalize (lg_sl ([.ref h_this, .int p1, .int p2]) ++ List.replicate (5 - (lg_sl ([.ref h_this, .int p1, .int p2])).length) Slot.unset).toArray = ls at hl ⊢
  have hl : lv_has ls 5 [(0, .ref h_this), (1, .int p1), (2, .int p2)] := hl
  obtain ⟨Q, hQ⟩ : ∃ Q, Q = MQ below (xQ (dC, dI) [(h_this, .inr (7, [.int t.2.1, .int v_rows, .ref h_rowPoint, .ref h_rowMinute, .ref h_rowValue, .ref h_text, .int v_size, .ref h_kinds, .ref h_values, .int v_words, .int v_at, .ref h_names, .ref h_testCounts, .ref h_minutes, .ref h_costs, .ref h_sorts, .ref h_firsts, .ref h_seconds, .ref h_relations, .ref h_numbers, .int v_ruleCount, .ref h_last, .ref h_before, .int v_ran, .ref h_heldCounts, .ref h_streaks, .int v_faults, .ref h_faultRule, .ref h_faultBegin, .ref h_faultEnd, .ref h_order, .ref h_left, .int t.2.2.1, .ref h_brings])), (h_left, .inl (cI, 100, .inl t.2.2.2))] A (some (.int t.1))) args s 0 0 A := ⟨_, rfl⟩
  rw [← hQ]
  show W p l e rm_Model_leave s m args below meth c s.heap [] 0 0 Q _
  obtain ⟨H, hH⟩ : ∃ H, H = s.heap := ⟨_, rfl⟩
  obtain ⟨locs, hlocs⟩ : ∃ L : List Loc, L = [] := ⟨_, rfl⟩
  rw [← hlocs] at hS ⊢
  have hS : va_S A s.heap H locs := by rw [hH]; exact hS
  rw [← hH] at hP ⊢
  replace hf := f_Model_leave_u hf
  refine lv_aload_n hx hb d_Model_leave_0 rfl (lv_at hl 0 rfl) ?_
  refine lv_iload_n hx hb d_Model_leave_1 rfl (lv_at hl 1 rfl) ?_
  obtain ⟨t_1, hg_1, hf⟩ := o_bind hf
  refine x_stat (w' := [(h_this, .inr (7, [.int v_thrown, .int v_rows, .ref h_rowPoint, .ref h_rowMinute, .ref h_rowValue, .ref h_text, .int v_size, .ref h_kinds, .ref h_values, .int v_words, .int v_at, .ref h_names, .ref h_testCounts, .ref h_minutes, .ref h_costs, .ref h_sorts, .ref h_firsts, .ref h_seconds, .ref h_relations, .ref h_numbers, .int v_ruleCount, .ref h_last, .ref h_before, .int v_ran, .ref h_heldCounts, .ref h_streaks, .int v_faults, .ref h_faultRule, .ref h_faultBegin, .ref h_faultEnd, .ref h_order, .ref h_left, .int v_leftCount, .ref h_brings])), (h_left, .inl (cI, 100, .inl v_left))]) (As := [.int p1]) (rest := [.ref h_this]) hx hb hml hl.1 hown hT hK hN hP hD hS hA (c_Model_isMinute l dC dI cI cL cC H.size p1 t_1 hg_1) kM_Model_105 kT_Model_isMinute kN_Model kC_Model_isMinute hd_Model_isMinute rfl ⟨Nat.le_of_ble_eq_true rfl, Nat.le_of_ble_eq_true rfl⟩ rfl rfl ⟨Nat.zero_le _, Nat.zero_le _⟩ rfl (Nat.le_of_ble_eq_true rfl) d_Model_leave_2 [] rfl rfl [.inl 0, .inl 1] rfl rfl rfl (fun H locs hP hD hS => ?_)
  have jn_13 : ∀ (s1_j13 : Int32) (H : Heap) (locs : List Loc) (ls : Array Slot), J_Model_leave_13 fu v_thrown v_leftCount v_left p1 p2 s1_j13 = some t → va_P (dC, dI) vwCl [(h_this, .inr (7, [.int v_thrown, .int v_rows, .ref h_rowPoint, .ref h_rowMinute, .ref h_rowValue, .ref h_text, .int v_size, .ref h_kinds, .ref h_values, .int v_words, .int v_at, .ref h_names, .ref h_testCounts, .ref h_minutes, .ref h_costs, .ref h_sorts, .ref h_firsts, .ref h_seconds, .ref h_relations, .ref h_numbers, .int v_ruleCount, .ref h_last, .ref h_before, .int v_ran, .ref h_heldCounts, .ref h_streaks, .int v_faults, .ref h_faultRule, .ref h_faultBegin, .ref h_faultEnd, .ref h_order, .ref h_left, .int v_leftCount, .ref h_brings])), (h_left, .inl (cI, 100, .inl v_left))] H → va_D A [(h_this, .inr (7, [.int v_thrown, .int v_rows, .ref h_rowPoint, .ref h_rowMinute, .ref h_rowValue, .ref h_text, .int v_size, .ref h_kinds, .ref h_values, .int v_words, .int v_at, .ref h_names, .ref h_testCounts, .ref h_minutes, .ref h_costs, .ref h_sorts, .ref h_firsts, .ref h_seconds, .ref h_relations, .ref h_numbers, .int v_ruleCount, .ref h_last, .ref h_before, .int v_ran, .ref h_heldCounts, .ref h_streaks, .int v_faults, .ref h_faultRule, .ref h_faultBegin, .ref h_faultEnd, .ref h_order, .ref h_left, .int v_leftCount, .ref h_brings])), (h_left, .inl (cI, 100, .inl v_left))] → va_S A s.heap H locs → lv_has ls 5 [(0, .ref h_this), (1, .int p1), (2, .int p2)] → W p l e rm_Model_leave s m args below meth c H locs 0 0 Q (F0 m 13 ls [.int s1_j13, .ref h_this]) := by
    intro s1_j13 H locs ls hf hP hD hS hl
    replace hf := J_Model_leave_13_u hf
    refine va_put (D := (dC, dI)) (ci := 7) (v := .int s1_j13) (ty := .int) (C := R_Model) (T := T_Model) (N := 34) hx hb hT i_Model ty_Model ty_Model_ok n_Model hown hK hP hD hS 0 rfl rfl 0 (by decide) (hT _ kF_Model_86) (fun _ h9 => h9) rfl (by decide +kernel) rfl rfl (Nat.le_of_ble_eq_true rfl) d_Model_leave_13 (fun H locs hP hD hS => ?_)
    have hP : va_P (dC, dI) vwCl [(h_this, .inr (7, [.int s1_j13, .int v_rows, .ref h_rowPoint, .ref h_rowMinute, .ref h_rowValue, .ref h_text, .int v_size, .ref h_kinds, .ref h_values, .int v_words, .int v_at, .ref h_names, .ref h_testCounts, .ref h_minutes, .ref h_costs, .ref h_sorts, .ref h_firsts, .ref h_seconds, .ref h_relations, .ref h_numbers, .int v_ruleCount, .ref h_last, .ref h_before, .int v_ran, .ref h_heldCounts, .ref h_streaks, .int v_faults, .ref h_faultRule, .ref h_faultBegin, .ref h_faultEnd, .ref h_order, .ref h_left, .int v_leftCount, .ref h_brings])), (h_left, .inl (cI, 100, .inl v_left))] H := hP
    have hD : va_D A [(h_this, .inr (7, [.int s1_j13, .int v_rows, .ref h_rowPoint, .ref h_rowMinute, .ref h_rowValue, .ref h_text, .int v_size, .ref h_kinds, .ref h_values, .int v_words, .int v_at, .ref h_names, .ref h_testCounts, .ref h_minutes, .ref h_costs, .ref h_sorts, .ref h_firsts, .ref h_seconds, .ref h_relations, .ref h_numbers, .int v_ruleCount, .ref h_last, .ref h_before, .int v_ran, .ref h_heldCounts, .ref h_streaks, .int v_faults, .ref h_faultRule, .ref h_faultBegin, .ref h_faultEnd, .ref h_order, .ref h_left, .int v_leftCount, .ref h_brings])), (h_left, .inl (cI, 100, .inl v_left))] := hD
    refine lv_aload_n hx hb d_Model_leave_16 rfl (lv_at hl 0 rfl) ?_
    refine va_get (D := (dC, dI)) (ci := 7) (v := .int s1_j13) (C := R_Model) (T := T_Model) (N := 34) hx hb hT i_Model hown hK hP 0 rfl rfl 0 (by decide) (hT _ kF_Model_86) (fun _ h9 => h9) rfl d_Model_leave_17 ?_
    refine lv_if_le (tgt := 25) hx hb d_Model_leave_20 (by decide) (fun c_2 => ?_) (fun c_2 => ?_)
    · replace hf := o_pos c_2 hf
      refine lv_aload_n hx hb d_Model_leave_25 rfl (lv_at hl 0 rfl) ?_
      refine lv_iload_n hx hb d_Model_leave_26 rfl (lv_at hl 1 rfl) ?_
      obtain ⟨t_3, hg_3, hf⟩ := o_bind hf
      refine x_virt (w' := [(h_this, .inr (7, [.int s1_j13, .int v_rows, .ref h_rowPoint, .ref h_rowMinute, .ref h_rowValue, .ref h_text, .int v_size, .ref h_kinds, .ref h_values, .int v_words, .int v_at, .ref h_names, .ref h_testCounts, .ref h_minutes, .ref h_costs, .ref h_sorts, .ref h_firsts, .ref h_seconds, .ref h_relations, .ref h_numbers, .int v_ruleCount, .ref h_last, .ref h_before, .int v_ran, .ref h_heldCounts, .ref h_streaks, .int v_faults, .ref h_faultRule, .ref h_faultBegin, .ref h_faultEnd, .ref h_order, .ref h_left, .int v_leftCount, .ref h_brings])), (h_left, .inl (cI, 100, .inl v_left))]) (As := [.int p1]) (rest := []) hx hb hml hl.1 hown hT hK hN hP hD hS hA (c_Model_leftAt l dC dI cI cL cC h_this h_rowPoint h_rowMinute h_rowValue h_text h_kinds h_values h_names h_testCounts h_minutes h_costs h_sorts h_firsts h_seconds h_relations h_numbers h_last h_before h_heldCounts h_streaks h_faultRule h_faultBegin h_faultEnd h_order h_left h_brings H.size fu s1_j13 v_rows v_size v_words v_at v_ruleCount v_ran v_faults v_leftCount v_left p1 t_3 hg_3) kM_Model_280 kI_Model_leftAt kS_565 kN_Model kC_Model_leftAt hd_Model_leftAt rfl 0 rfl rfl rfl ⟨Nat.le_of_ble_eq_true rfl, Nat.le_of_ble_eq_true rfl⟩ rfl rfl ⟨Nat.zero_le _, Nat.zero_le _⟩ rfl (Nat.le_of_ble_eq_true rfl) d_Model_leave_27 [0, 1] rfl rfl [.inr 0, .inr 1] rfl rfl rfl (fun H locs hP hD hS => ?_)
      refine lv_istore_n (lv' := [(3, .int t_3), (0, .ref h_this), (1, .int p1), (2, .int p2)]) hx hb d_Model_leave_30 rfl hl (by decide) rfl (fun ls hl => ?_)
      refine lv_iload_n hx hb d_Model_leave_31 rfl (lv_at hl 0 rfl) ?_
      refine lv_aload_n hx hb d_Model_leave_32 rfl (lv_at hl 1 rfl) ?_
      refine va_get (D := (dC, dI)) (ci := 7) (v := .int v_leftCount) (C := R_Model) (T := T_Model) (N := 34) hx hb hT i_Model hown hK hP 0 rfl rfl 32 (by decide) (hT _ kF_Model_277) (fun _ h9 => h9) rfl d_Model_leave_33 ?_
      have jn_44 : ∀ (s0_j44 : Int32) (H : Heap) (locs : List Loc) (ls : Array Slot), J_Model_leave_44 fu s1_j13 v_leftCount v_left p1 p2 t_3 s0_j44 = some t → va_P (dC, dI) vwCl [(h_this, .inr (7, [.int s1_j13, .int v_rows, .ref h_rowPoint, .ref h_rowMinute, .ref h_rowValue, .ref h_text, .int v_size, .ref h_kinds, .ref h_values, .int v_words, .int v_at, .ref h_names, .ref h_testCounts, .ref h_minutes, .ref h_costs, .ref h_sorts, .ref h_firsts, .ref h_seconds, .ref h_relations, .ref h_numbers, .int v_ruleCount, .ref h_last, .ref h_before, .int v_ran, .ref h_heldCounts, .ref h_streaks, .int v_faults, .ref h_faultRule, .ref h_faultBegin, .ref h_faultEnd, .ref h_order, .ref h_left, .int v_leftCount, .ref h_brings])), (h_left, .inl (cI, 100, .inl v_left))] H → va_D A [(h_this, .inr (7, [.int s1_j13, .int v_rows, .ref h_rowPoint, .ref h_rowMinute, .ref h_rowValue, .ref h_text, .int v_size, .ref h_kinds, .ref h_values, .int v_words, .int v_at, .ref h_names, .ref h_testCounts, .ref h_minutes, .ref h_costs, .ref h_sorts, .ref h_firsts, .ref h_seconds, .ref h_relations, .ref h_numbers, .int v_ruleCount, .ref h_last, .ref h_before, .int v_ran, .ref h_heldCounts, .ref h_streaks, .int v_faults, .ref h_faultRule, .ref h_faultBegin, .ref h_faultEnd, .ref h_order, .ref h_left, .int v_leftCount, .ref h_brings])), (h_left, .inl (cI, 100, .inl v_left))] → va_S A s.heap H locs → lv_has ls 5 [(0, .ref h_this), (1, .int p1), (2, .int p2), (3, .int t_3)] → W p l e rm_Model_leave s m args below meth c H locs 0 0 Q (F0 m 44 ls [.int s0_j44]) := by
        intro s0_j44 H locs ls hf hP hD hS hl
        replace hf := J_Model_leave_44_u hf
        refine lv_istore (lv' := [(4, .int s0_j44), (0, .ref h_this), (1, .int p1), (2, .int p2), (3, .int t_3)]) hx hb d_Model_leave_44 hl (by decide) rfl (fun ls hl => ?_)
        refine lv_iload_n hx hb d_Model_leave_46 rfl (lv_at hl 3 rfl) ?_
        refine lv_if_eq (tgt := 102) hx hb d_Model_leave_47 (by decide) (fun c_4 => ?_) (fun c_4 => ?_)
        · replace hf := o_pos c_4 hf
          refine lv_iload_n hx hb d_Model_leave_102 rfl (lv_at hl 3 rfl) ?_
          refine lv_if_ne (tgt := 136) hx hb d_Model_leave_103 (by decide) (fun c_5 => ?_) (fun c_5 => ?_)
          · replace hf := o_neg c_5 hf
            refine lv_iload hx hb d_Model_leave_136 (lv_at hl 0 rfl) ?_
            obtain ⟨hz_6, hf⟩ := o_zb hf
            rw [hQ, ← Option.some.inj hf]
            exact W.zret (ty := .boolean) hx hb hr hz_6 (fun t9 ht9 hW9 => ⟨rfl, by rw [ht9]; exact hP, hS.F ht9⟩) hS.2.2 d_Model_leave_138
          · replace hf := o_pos c_5 hf
            refine lv_iload hx hb d_Model_leave_106 (lv_at hl 0 rfl) ?_
            refine lv_if_eq (tgt := 136) hx hb d_Model_leave_108 (by decide) (fun c_7 => ?_) (fun c_7 => ?_)
            · replace hf := o_pos c_7 hf
              refine lv_iload hx hb d_Model_leave_136 (lv_at hl 0 rfl) ?_
              obtain ⟨hz_8, hf⟩ := o_zb hf
              rw [hQ, ← Option.some.inj hf]
              exact W.zret (ty := .boolean) hx hb hr hz_8 (fun t9 ht9 hW9 => ⟨rfl, by rw [ht9]; exact hP, hS.F ht9⟩) hS.2.2 d_Model_leave_138
            · replace hf := o_neg c_7 hf
              refine lv_aload_n hx hb d_Model_leave_111 rfl (lv_at hl 1 rfl) ?_
              refine lv_dup hx hb d_Model_leave_112 rfl ?_
              refine va_get (D := (dC, dI)) (ci := 7) (v := .int v_leftCount) (C := R_Model) (T := T_Model) (N := 34) hx hb hT i_Model hown hK hP 0 rfl rfl 32 (by decide) (hT _ kF_Model_277) (fun _ h9 => h9) rfl d_Model_leave_113 ?_
              refine lv_iconst (v := 1) hx hb d_Model_leave_116 (by decide) ?_
              refine lv_isub hx hb d_Model_leave_117 ?_
              refine va_put (D := (dC, dI)) (ci := 7) (v := .int (v_leftCount - 1)) (ty := .int) (C := R_Model) (T := T_Model) (N := 34) hx hb hT i_Model ty_Model ty_Model_ok n_Model hown hK hP hD hS 0 rfl rfl 32 (by decide) (hT _ kF_Model_277) (fun _ h9 => h9) rfl (by decide +kernel) rfl rfl (Nat.le_of_ble_eq_true rfl) d_Model_leave_118 (fun H locs hP hD hS => ?_)
              have hP : va_P (dC, dI) vwCl [(h_this, .inr (7, [.int s1_j13, .int v_rows, .ref h_rowPoint, .ref h_rowMinute, .ref h_rowValue, .ref h_text, .int v_size, .ref h_kinds, .ref h_values, .int v_words, .int v_at, .ref h_names, .ref h_testCounts, .ref h_minutes, .ref h_costs, .ref h_sorts, .ref h_firsts, .ref h_seconds, .ref h_relations, .ref h_numbers, .int v_ruleCount, .ref h_last, .ref h_before, .int v_ran, .ref h_heldCounts, .ref h_streaks, .int v_faults, .ref h_faultRule, .ref h_faultBegin, .ref h_faultEnd, .ref h_order, .ref h_left, .int (v_leftCount - 1), .ref h_brings])), (h_left, .inl (cI, 100, .inl v_left))] H := hP
              have hD : va_D A [(h_this, .inr (7, [.int s1_j13, .int v_rows, .ref h_rowPoint, .ref h_rowMinute, .ref h_rowValue, .ref h_text, .int v_size, .ref h_kinds, .ref h_values, .int v_words, .int v_at, .ref h_names, .ref h_testCounts, .ref h_minutes, .ref h_costs, .ref h_sorts, .ref h_firsts, .ref h_seconds, .ref h_relations, .ref h_numbers, .int v_ruleCount, .ref h_last, .ref h_before, .int v_ran, .ref h_heldCounts, .ref h_streaks, .int v_faults, .ref h_faultRule, .ref h_faultBegin, .ref h_faultEnd, .ref h_order, .ref h_left, .int (v_leftCount - 1), .ref h_brings])), (h_left, .inl (cI, 100, .inl v_left))] := hD
              refine lv_aload_n hx hb d_Model_leave_121 rfl (lv_at hl 1 rfl) ?_
              refine va_get (D := (dC, dI)) (ci := 7) (v := .ref h_left) (C := R_Model) (T := T_Model) (N := 34) hx hb hT i_Model hown hK hP 0 rfl rfl 31 (by decide) (hT _ kF_Model_80) (fun _ h9 => h9) rfl d_Model_leave_122 ?_
              refine lv_iload_n hx hb d_Model_leave_125 rfl (lv_at hl 4 rfl) ?_
              refine lv_aload_n hx hb d_Model_leave_126 rfl (lv_at hl 1 rfl) ?_
              refine va_get (D := (dC, dI)) (ci := 7) (v := .ref h_left) (C := R_Model) (T := T_Model) (N := 34) hx hb hT i_Model hown hK hP 0 rfl rfl 31 (by decide) (hT _ kF_Model_80) (fun _ h9 => h9) rfl d_Model_leave_127 ?_
              refine lv_aload_n hx hb d_Model_leave_130 rfl (lv_at hl 1 rfl) ?_
              refine va_get (D := (dC, dI)) (ci := 7) (v := .int (v_leftCount - 1)) (C := R_Model) (T := T_Model) (N := 34) hx hb hT i_Model hown hK hP 0 rfl rfl 32 (by decide) (hT _ kF_Model_277) (fun _ h9 => h9) rfl d_Model_leave_131 ?_
              obtain ⟨hi_9, hf⟩ := o_in hf
              refine va_iald hx hb hK hP 1 0 rfl rfl hi_9 d_Model_leave_134 ?_
              obtain ⟨hi_10, hf⟩ := o_in hf
              refine va_iast hx hb hK hP hD hS 1 0 rfl rfl hi_10 d_Model_leave_135 (fun H locs hP hD hS => ?_)
              have hP : va_P (dC, dI) vwCl [(h_this, .inr (7, [.int s1_j13, .int v_rows, .ref h_rowPoint, .ref h_rowMinute, .ref h_rowValue, .ref h_text, .int v_size, .ref h_kinds, .ref h_values, .int v_words, .int v_at, .ref h_names, .ref h_testCounts, .ref h_minutes, .ref h_costs, .ref h_sorts, .ref h_firsts, .ref h_seconds, .ref h_relations, .ref h_numbers, .int v_ruleCount, .ref h_last, .ref h_before, .int v_ran, .ref h_heldCounts, .ref h_streaks, .int v_faults, .ref h_faultRule, .ref h_faultBegin, .ref h_faultEnd, .ref h_order, .ref h_left, .int (v_leftCount - 1), .ref h_brings])), (h_left, .inl (cI, 100, .inl (upd v_left (t_3 : Int32).toNatClampNeg (v_left (v_leftCount - 1 : Int32).toNatClampNeg))))] H := hP
              have hD : va_D A [(h_this, .inr (7, [.int s1_j13, .int v_rows, .ref h_rowPoint, .ref h_rowMinute, .ref h_rowValue, .ref h_text, .int v_size, .ref h_kinds, .ref h_values, .int v_words, .int v_at, .ref h_names, .ref h_testCounts, .ref h_minutes, .ref h_costs, .ref h_sorts, .ref h_firsts, .ref h_seconds, .ref h_relations, .ref h_numbers, .int v_ruleCount, .ref h_last, .ref h_before, .int v_ran, .ref h_heldCounts, .ref h_streaks, .int v_faults, .ref h_faultRule, .ref h_faultBegin, .ref h_faultEnd, .ref h_order, .ref h_left, .int (v_leftCount - 1), .ref h_brings])), (h_left, .inl (cI, 100, .inl (upd v_left (t_3 : Int32).toNatClampNeg (v_left (v_leftCount - 1 : Int32).toNatClampNeg))))] := hD
              refine lv_iload hx hb d_Model_leave_136 (lv_at hl 0 rfl) ?_
              obtain ⟨hz_11, hf⟩ := o_zb hf
              rw [hQ, ← Option.some.inj hf]
              exact W.zret (ty := .boolean) hx hb hr hz_11 (fun t9 ht9 hW9 => ⟨rfl, by rw [ht9]; exact hP, hS.F ht9⟩) hS.2.2 d_Model_leave_138
        · replace hf := o_neg c_4 hf
          refine lv_iload hx hb d_Model_leave_50 (lv_at hl 0 rfl) ?_
          refine lv_if_ne (tgt := 102) hx hb d_Model_leave_52 (by decide) (fun c_12 => ?_) (fun c_12 => ?_)
          · replace hf := o_neg c_12 hf
            refine lv_iload_n hx hb d_Model_leave_102 rfl (lv_at hl 3 rfl) ?_
            refine lv_if_ne (tgt := 136) hx hb d_Model_leave_103 (by decide) (fun c_13 => ?_) (fun c_13 => ?_)
            · replace hf := o_neg c_13 hf
              refine lv_iload hx hb d_Model_leave_136 (lv_at hl 0 rfl) ?_
              obtain ⟨hz_14, hf⟩ := o_zb hf
              rw [hQ, ← Option.some.inj hf]
              exact W.zret (ty := .boolean) hx hb hr hz_14 (fun t9 ht9 hW9 => ⟨rfl, by rw [ht9]; exact hP, hS.F ht9⟩) hS.2.2 d_Model_leave_138
            · replace hf := o_pos c_13 hf
              refine lv_iload hx hb d_Model_leave_106 (lv_at hl 0 rfl) ?_
              refine lv_if_eq (tgt := 136) hx hb d_Model_leave_108 (by decide) (fun c_15 => ?_) (fun c_15 => ?_)
              · replace hf := o_pos c_15 hf
                refine lv_iload hx hb d_Model_leave_136 (lv_at hl 0 rfl) ?_
                obtain ⟨hz_16, hf⟩ := o_zb hf
                rw [hQ, ← Option.some.inj hf]
                exact W.zret (ty := .boolean) hx hb hr hz_16 (fun t9 ht9 hW9 => ⟨rfl, by rw [ht9]; exact hP, hS.F ht9⟩) hS.2.2 d_Model_leave_138
              · replace hf := o_neg c_15 hf
                refine lv_aload_n hx hb d_Model_leave_111 rfl (lv_at hl 1 rfl) ?_
                refine lv_dup hx hb d_Model_leave_112 rfl ?_
                refine va_get (D := (dC, dI)) (ci := 7) (v := .int v_leftCount) (C := R_Model) (T := T_Model) (N := 34) hx hb hT i_Model hown hK hP 0 rfl rfl 32 (by decide) (hT _ kF_Model_277) (fun _ h9 => h9) rfl d_Model_leave_113 ?_
                refine lv_iconst (v := 1) hx hb d_Model_leave_116 (by decide) ?_
                refine lv_isub hx hb d_Model_leave_117 ?_
                refine va_put (D := (dC, dI)) (ci := 7) (v := .int (v_leftCount - 1)) (ty := .int) (C := R_Model) (T := T_Model) (N := 34) hx hb hT i_Model ty_Model ty_Model_ok n_Model hown hK hP hD hS 0 rfl rfl 32 (by decide) (hT _ kF_Model_277) (fun _ h9 => h9) rfl (by decide +kernel) rfl rfl (Nat.le_of_ble_eq_true rfl) d_Model_leave_118 (fun H locs hP hD hS => ?_)
                have hP : va_P (dC, dI) vwCl [(h_this, .inr (7, [.int s1_j13, .int v_rows, .ref h_rowPoint, .ref h_rowMinute, .ref h_rowValue, .ref h_text, .int v_size, .ref h_kinds, .ref h_values, .int v_words, .int v_at, .ref h_names, .ref h_testCounts, .ref h_minutes, .ref h_costs, .ref h_sorts, .ref h_firsts, .ref h_seconds, .ref h_relations, .ref h_numbers, .int v_ruleCount, .ref h_last, .ref h_before, .int v_ran, .ref h_heldCounts, .ref h_streaks, .int v_faults, .ref h_faultRule, .ref h_faultBegin, .ref h_faultEnd, .ref h_order, .ref h_left, .int (v_leftCount - 1), .ref h_brings])), (h_left, .inl (cI, 100, .inl v_left))] H := hP
                have hD : va_D A [(h_this, .inr (7, [.int s1_j13, .int v_rows, .ref h_rowPoint, .ref h_rowMinute, .ref h_rowValue, .ref h_text, .int v_size, .ref h_kinds, .ref h_values, .int v_words, .int v_at, .ref h_names, .ref h_testCounts, .ref h_minutes, .ref h_costs, .ref h_sorts, .ref h_firsts, .ref h_seconds, .ref h_relations, .ref h_numbers, .int v_ruleCount, .ref h_last, .ref h_before, .int v_ran, .ref h_heldCounts, .ref h_streaks, .int v_faults, .ref h_faultRule, .ref h_faultBegin, .ref h_faultEnd, .ref h_order, .ref h_left, .int (v_leftCount - 1), .ref h_brings])), (h_left, .inl (cI, 100, .inl v_left))] := hD
                refine lv_aload_n hx hb d_Model_leave_121 rfl (lv_at hl 1 rfl) ?_
                refine va_get (D := (dC, dI)) (ci := 7) (v := .ref h_left) (C := R_Model) (T := T_Model) (N := 34) hx hb hT i_Model hown hK hP 0 rfl rfl 31 (by decide) (hT _ kF_Model_80) (fun _ h9 => h9) rfl d_Model_leave_122 ?_
                refine lv_iload_n hx hb d_Model_leave_125 rfl (lv_at hl 4 rfl) ?_
                refine lv_aload_n hx hb d_Model_leave_126 rfl (lv_at hl 1 rfl) ?_
                refine va_get (D := (dC, dI)) (ci := 7) (v := .ref h_left) (C := R_Model) (T := T_Model) (N := 34) hx hb hT i_Model hown hK hP 0 rfl rfl 31 (by decide) (hT _ kF_Model_80) (fun _ h9 => h9) rfl d_Model_leave_127 ?_
                refine lv_aload_n hx hb d_Model_leave_130 rfl (lv_at hl 1 rfl) ?_
                refine va_get (D := (dC, dI)) (ci := 7) (v := .int (v_leftCount - 1)) (C := R_Model) (T := T_Model) (N := 34) hx hb hT i_Model hown hK hP 0 rfl rfl 32 (by decide) (hT _ kF_Model_277) (fun _ h9 => h9) rfl d_Model_leave_131 ?_
                obtain ⟨hi_17, hf⟩ := o_in hf
                refine va_iald hx hb hK hP 1 0 rfl rfl hi_17 d_Model_leave_134 ?_
                obtain ⟨hi_18, hf⟩ := o_in hf
                refine va_iast hx hb hK hP hD hS 1 0 rfl rfl hi_18 d_Model_leave_135 (fun H locs hP hD hS => ?_)
                have hP : va_P (dC, dI) vwCl [(h_this, .inr (7, [.int s1_j13, .int v_rows, .ref h_rowPoint, .ref h_rowMinute, .ref h_rowValue, .ref h_text, .int v_size, .ref h_kinds, .ref h_values, .int v_words, .int v_at, .ref h_names, .ref h_testCounts, .ref h_minutes, .ref h_costs, .ref h_sorts, .ref h_firsts, .ref h_seconds, .ref h_relations, .ref h_numbers, .int v_ruleCount, .ref h_last, .ref h_before, .int v_ran, .ref h_heldCounts, .ref h_streaks, .int v_faults, .ref h_faultRule, .ref h_faultBegin, .ref h_faultEnd, .ref h_order, .ref h_left, .int (v_leftCount - 1), .ref h_brings])), (h_left, .inl (cI, 100, .inl (upd v_left (t_3 : Int32).toNatClampNeg (v_left (v_leftCount - 1 : Int32).toNatClampNeg))))] H := hP
                have hD : va_D A [(h_this, .inr (7, [.int s1_j13, .int v_rows, .ref h_rowPoint, .ref h_rowMinute, .ref h_rowValue, .ref h_text, .int v_size, .ref h_kinds, .ref h_values, .int v_words, .int v_at, .ref h_names, .ref h_testCounts, .ref h_minutes, .ref h_costs, .ref h_sorts, .ref h_firsts, .ref h_seconds, .ref h_relations, .ref h_numbers, .int v_ruleCount, .ref h_last, .ref h_before, .int v_ran, .ref h_heldCounts, .ref h_streaks, .int v_faults, .ref h_faultRule, .ref h_faultBegin, .ref h_faultEnd, .ref h_order, .ref h_left, .int (v_leftCount - 1), .ref h_brings])), (h_left, .inl (cI, 100, .inl (upd v_left (t_3 : Int32).toNatClampNeg (v_left (v_leftCount - 1 : Int32).toNatClampNeg))))] := hD
                refine lv_iload hx hb d_Model_leave_136 (lv_at hl 0 rfl) ?_
                obtain ⟨hz_19, hf⟩ := o_zb hf
                rw [hQ, ← Option.some.inj hf]
                exact W.zret (ty := .boolean) hx hb hr hz_19 (fun t9 ht9 hW9 => ⟨rfl, by rw [ht9]; exact hP, hS.F ht9⟩) hS.2.2 d_Model_leave_138
          · replace hf := o_pos c_12 hf
            refine lv_aload_n hx hb d_Model_leave_55 rfl (lv_at hl 1 rfl) ?_
            refine lv_aload_n hx hb d_Model_leave_56 rfl (lv_at hl 1 rfl) ?_
            refine va_get (D := (dC, dI)) (ci := 7) (v := .int v_leftCount) (C := R_Model) (T := T_Model) (N := 34) hx hb hT i_Model hown hK hP 0 rfl rfl 32 (by decide) (hT _ kF_Model_277) (fun _ h9 => h9) rfl d_Model_leave_57 ?_
            refine lv_bipush (v := 100) hx hb d_Model_leave_60 (by decide) ?_
            have jn_70 : ∀ (s1_j70 : Int32) (H : Heap) (locs : List Loc) (ls : Array Slot), J_Model_leave_70 fu s1_j13 v_leftCount v_left p1 p2 t_3 s0_j44 s1_j70 = some t → va_P (dC, dI) vwCl [(h_this, .inr (7, [.int s1_j13, .int v_rows, .ref h_rowPoint, .ref h_rowMinute, .ref h_rowValue, .ref h_text, .int v_size, .ref h_kinds, .ref h_values, .int v_words, .int v_at, .ref h_names, .ref h_testCounts, .ref h_minutes, .ref h_costs, .ref h_sorts, .ref h_firsts, .ref h_seconds, .ref h_relations, .ref h_numbers, .int v_ruleCount, .ref h_last, .ref h_before, .int v_ran, .ref h_heldCounts, .ref h_streaks, .int v_faults, .ref h_faultRule, .ref h_faultBegin, .ref h_faultEnd, .ref h_order, .ref h_left, .int v_leftCount, .ref h_brings])), (h_left, .inl (cI, 100, .inl v_left))] H → va_D A [(h_this, .inr (7, [.int s1_j13, .int v_rows, .ref h_rowPoint, .ref h_rowMinute, .ref h_rowValue, .ref h_text, .int v_size, .ref h_kinds, .ref h_values, .int v_words, .int v_at, .ref h_names, .ref h_testCounts, .ref h_minutes, .ref h_costs, .ref h_sorts, .ref h_firsts, .ref h_seconds, .ref h_relations, .ref h_numbers, .int v_ruleCount, .ref h_last, .ref h_before, .int v_ran, .ref h_heldCounts, .ref h_streaks, .int v_faults, .ref h_faultRule, .ref h_faultBegin, .ref h_faultEnd, .ref h_order, .ref h_left, .int v_leftCount, .ref h_brings])), (h_left, .inl (cI, 100, .inl v_left))] → va_S A s.heap H locs → lv_has ls 5 [(0, .ref h_this), (1, .int p1), (2, .int p2), (3, .int t_3), (4, .int s0_j44)] → W p l e rm_Model_leave s m args below meth c H locs 0 0 Q (F0 m 70 ls [.int s1_j70, .ref h_this]) := by
              intro s1_j70 H locs ls hf hP hD hS hl
              replace hf := J_Model_leave_70_u hf
              refine va_put (D := (dC, dI)) (ci := 7) (v := .int s1_j70) (ty := .int) (C := R_Model) (T := T_Model) (N := 34) hx hb hT i_Model ty_Model ty_Model_ok n_Model hown hK hP hD hS 0 rfl rfl 0 (by decide) (hT _ kF_Model_86) (fun _ h9 => h9) rfl (by decide +kernel) rfl rfl (Nat.le_of_ble_eq_true rfl) d_Model_leave_70 (fun H locs hP hD hS => ?_)
              have hP : va_P (dC, dI) vwCl [(h_this, .inr (7, [.int s1_j70, .int v_rows, .ref h_rowPoint, .ref h_rowMinute, .ref h_rowValue, .ref h_text, .int v_size, .ref h_kinds, .ref h_values, .int v_words, .int v_at, .ref h_names, .ref h_testCounts, .ref h_minutes, .ref h_costs, .ref h_sorts, .ref h_firsts, .ref h_seconds, .ref h_relations, .ref h_numbers, .int v_ruleCount, .ref h_last, .ref h_before, .int v_ran, .ref h_heldCounts, .ref h_streaks, .int v_faults, .ref h_faultRule, .ref h_faultBegin, .ref h_faultEnd, .ref h_order, .ref h_left, .int v_leftCount, .ref h_brings])), (h_left, .inl (cI, 100, .inl v_left))] H := hP
              have hD : va_D A [(h_this, .inr (7, [.int s1_j70, .int v_rows, .ref h_rowPoint, .ref h_rowMinute, .ref h_rowValue, .ref h_text, .int v_size, .ref h_kinds, .ref h_values, .int v_words, .int v_at, .ref h_names, .ref h_testCounts, .ref h_minutes, .ref h_costs, .ref h_sorts, .ref h_firsts, .ref h_seconds, .ref h_relations, .ref h_numbers, .int v_ruleCount, .ref h_last, .ref h_before, .int v_ran, .ref h_heldCounts, .ref h_streaks, .int v_faults, .ref h_faultRule, .ref h_faultBegin, .ref h_faultEnd, .ref h_order, .ref h_left, .int v_leftCount, .ref h_brings])), (h_left, .inl (cI, 100, .inl v_left))] := hD
              refine lv_aload_n hx hb d_Model_leave_73 rfl (lv_at hl 0 rfl) ?_
              refine va_get (D := (dC, dI)) (ci := 7) (v := .int s1_j70) (C := R_Model) (T := T_Model) (N := 34) hx hb hT i_Model hown hK hP 0 rfl rfl 0 (by decide) (hT _ kF_Model_86) (fun _ h9 => h9) rfl d_Model_leave_74 ?_
              refine lv_if_le (tgt := 82) hx hb d_Model_leave_77 (by decide) (fun c_20 => ?_) (fun c_20 => ?_)
              · replace hf := o_pos c_20 hf
                refine lv_aload_n hx hb d_Model_leave_82 rfl (lv_at hl 0 rfl) ?_
                refine va_get (D := (dC, dI)) (ci := 7) (v := .ref h_left) (C := R_Model) (T := T_Model) (N := 34) hx hb hT i_Model hown hK hP 0 rfl rfl 31 (by decide) (hT _ kF_Model_80) (fun _ h9 => h9) rfl d_Model_leave_83 ?_
                refine lv_aload_n hx hb d_Model_leave_86 rfl (lv_at hl 0 rfl) ?_
                refine va_get (D := (dC, dI)) (ci := 7) (v := .int v_leftCount) (C := R_Model) (T := T_Model) (N := 34) hx hb hT i_Model hown hK hP 0 rfl rfl 32 (by decide) (hT _ kF_Model_277) (fun _ h9 => h9) rfl d_Model_leave_87 ?_
                refine lv_iload_n hx hb d_Model_leave_90 rfl (lv_at hl 1 rfl) ?_
                obtain ⟨hi_21, hf⟩ := o_in hf
                refine va_iast hx hb hK hP hD hS 1 0 rfl rfl hi_21 d_Model_leave_91 (fun H locs hP hD hS => ?_)
                have hP : va_P (dC, dI) vwCl [(h_this, .inr (7, [.int s1_j70, .int v_rows, .ref h_rowPoint, .ref h_rowMinute, .ref h_rowValue, .ref h_text, .int v_size, .ref h_kinds, .ref h_values, .int v_words, .int v_at, .ref h_names, .ref h_testCounts, .ref h_minutes, .ref h_costs, .ref h_sorts, .ref h_firsts, .ref h_seconds, .ref h_relations, .ref h_numbers, .int v_ruleCount, .ref h_last, .ref h_before, .int v_ran, .ref h_heldCounts, .ref h_streaks, .int v_faults, .ref h_faultRule, .ref h_faultBegin, .ref h_faultEnd, .ref h_order, .ref h_left, .int v_leftCount, .ref h_brings])), (h_left, .inl (cI, 100, .inl (upd v_left (v_leftCount : Int32).toNatClampNeg p1)))] H := hP
                have hD : va_D A [(h_this, .inr (7, [.int s1_j70, .int v_rows, .ref h_rowPoint, .ref h_rowMinute, .ref h_rowValue, .ref h_text, .int v_size, .ref h_kinds, .ref h_values, .int v_words, .int v_at, .ref h_names, .ref h_testCounts, .ref h_minutes, .ref h_costs, .ref h_sorts, .ref h_firsts, .ref h_seconds, .ref h_relations, .ref h_numbers, .int v_ruleCount, .ref h_last, .ref h_before, .int v_ran, .ref h_heldCounts, .ref h_streaks, .int v_faults, .ref h_faultRule, .ref h_faultBegin, .ref h_faultEnd, .ref h_order, .ref h_left, .int v_leftCount, .ref h_brings])), (h_left, .inl (cI, 100, .inl (upd v_left (v_leftCount : Int32).toNatClampNeg p1)))] := hD
                refine lv_aload_n hx hb d_Model_leave_92 rfl (lv_at hl 0 rfl) ?_
                refine lv_dup hx hb d_Model_leave_93 rfl ?_
                refine va_get (D := (dC, dI)) (ci := 7) (v := .int v_leftCount) (C := R_Model) (T := T_Model) (N := 34) hx hb hT i_Model hown hK hP 0 rfl rfl 32 (by decide) (hT _ kF_Model_277) (fun _ h9 => h9) rfl d_Model_leave_94 ?_
                refine lv_iconst (v := 1) hx hb d_Model_leave_97 (by decide) ?_
                refine lv_iadd hx hb d_Model_leave_98 ?_
                refine va_put (D := (dC, dI)) (ci := 7) (v := .int (v_leftCount + 1)) (ty := .int) (C := R_Model) (T := T_Model) (N := 34) hx hb hT i_Model ty_Model ty_Model_ok n_Model hown hK hP hD hS 0 rfl rfl 32 (by decide) (hT _ kF_Model_277) (fun _ h9 => h9) rfl (by decide +kernel) rfl rfl (Nat.le_of_ble_eq_true rfl) d_Model_leave_99 (fun H locs hP hD hS => ?_)
                have hP : va_P (dC, dI) vwCl [(h_this, .inr (7, [.int s1_j70, .int v_rows, .ref h_rowPoint, .ref h_rowMinute, .ref h_rowValue, .ref h_text, .int v_size, .ref h_kinds, .ref h_values, .int v_words, .int v_at, .ref h_names, .ref h_testCounts, .ref h_minutes, .ref h_costs, .ref h_sorts, .ref h_firsts, .ref h_seconds, .ref h_relations, .ref h_numbers, .int v_ruleCount, .ref h_last, .ref h_before, .int v_ran, .ref h_heldCounts, .ref h_streaks, .int v_faults, .ref h_faultRule, .ref h_faultBegin, .ref h_faultEnd, .ref h_order, .ref h_left, .int (v_leftCount + 1), .ref h_brings])), (h_left, .inl (cI, 100, .inl (upd v_left (v_leftCount : Int32).toNatClampNeg p1)))] H := hP
                have hD : va_D A [(h_this, .inr (7, [.int s1_j70, .int v_rows, .ref h_rowPoint, .ref h_rowMinute, .ref h_rowValue, .ref h_text, .int v_size, .ref h_kinds, .ref h_values, .int v_words, .int v_at, .ref h_names, .ref h_testCounts, .ref h_minutes, .ref h_costs, .ref h_sorts, .ref h_firsts, .ref h_seconds, .ref h_relations, .ref h_numbers, .int v_ruleCount, .ref h_last, .ref h_before, .int v_ran, .ref h_heldCounts, .ref h_streaks, .int v_faults, .ref h_faultRule, .ref h_faultBegin, .ref h_faultEnd, .ref h_order, .ref h_left, .int (v_leftCount + 1), .ref h_brings])), (h_left, .inl (cI, 100, .inl (upd v_left (v_leftCount : Int32).toNatClampNeg p1)))] := hD
                refine lv_iload_n hx hb d_Model_leave_102 rfl (lv_at hl 2 rfl) ?_
                refine lv_if_ne (tgt := 136) hx hb d_Model_leave_103 (by decide) (fun c_22 => ?_) (fun c_22 => ?_)
                · replace hf := o_neg c_22 hf
                  refine lv_iload hx hb d_Model_leave_136 (lv_at hl 4 rfl) ?_
                  obtain ⟨hz_23, hf⟩ := o_zb hf
                  rw [hQ, ← Option.some.inj hf]
                  exact W.zret (ty := .boolean) hx hb hr hz_23 (fun t9 ht9 hW9 => ⟨rfl, by rw [ht9]; exact hP, hS.F ht9⟩) hS.2.2 d_Model_leave_138
                · replace hf := o_pos c_22 hf
                  refine lv_iload hx hb d_Model_leave_106 (lv_at hl 4 rfl) ?_
                  refine lv_if_eq (tgt := 136) hx hb d_Model_leave_108 (by decide) (fun c_24 => ?_) (fun c_24 => ?_)
                  · replace hf := o_pos c_24 hf
                    refine lv_iload hx hb d_Model_leave_136 (lv_at hl 4 rfl) ?_
                    obtain ⟨hz_25, hf⟩ := o_zb hf
                    rw [hQ, ← Option.some.inj hf]
                    exact W.zret (ty := .boolean) hx hb hr hz_25 (fun t9 ht9 hW9 => ⟨rfl, by rw [ht9]; exact hP, hS.F ht9⟩) hS.2.2 d_Model_leave_138
                  · replace hf := o_neg c_24 hf
                    refine lv_aload_n hx hb d_Model_leave_111 rfl (lv_at hl 0 rfl) ?_
                    refine lv_dup hx hb d_Model_leave_112 rfl ?_
                    refine va_get (D := (dC, dI)) (ci := 7) (v := .int (v_leftCount + 1)) (C := R_Model) (T := T_Model) (N := 34) hx hb hT i_Model hown hK hP 0 rfl rfl 32 (by decide) (hT _ kF_Model_277) (fun _ h9 => h9) rfl d_Model_leave_113 ?_
                    refine lv_iconst (v := 1) hx hb d_Model_leave_116 (by decide) ?_
                    refine lv_isub hx hb d_Model_leave_117 ?_
                    refine va_put (D := (dC, dI)) (ci := 7) (v := .int ((v_leftCount + 1) - 1)) (ty := .int) (C := R_Model) (T := T_Model) (N := 34) hx hb hT i_Model ty_Model ty_Model_ok n_Model hown hK hP hD hS 0 rfl rfl 32 (by decide) (hT _ kF_Model_277) (fun _ h9 => h9) rfl (by decide +kernel) rfl rfl (Nat.le_of_ble_eq_true rfl) d_Model_leave_118 (fun H locs hP hD hS => ?_)
                    have hP : va_P (dC, dI) vwCl [(h_this, .inr (7, [.int s1_j70, .int v_rows, .ref h_rowPoint, .ref h_rowMinute, .ref h_rowValue, .ref h_text, .int v_size, .ref h_kinds, .ref h_values, .int v_words, .int v_at, .ref h_names, .ref h_testCounts, .ref h_minutes, .ref h_costs, .ref h_sorts, .ref h_firsts, .ref h_seconds, .ref h_relations, .ref h_numbers, .int v_ruleCount, .ref h_last, .ref h_before, .int v_ran, .ref h_heldCounts, .ref h_streaks, .int v_faults, .ref h_faultRule, .ref h_faultBegin, .ref h_faultEnd, .ref h_order, .ref h_left, .int ((v_leftCount + 1) - 1), .ref h_brings])), (h_left, .inl (cI, 100, .inl (upd v_left (v_leftCount : Int32).toNatClampNeg p1)))] H := hP
                    have hD : va_D A [(h_this, .inr (7, [.int s1_j70, .int v_rows, .ref h_rowPoint, .ref h_rowMinute, .ref h_rowValue, .ref h_text, .int v_size, .ref h_kinds, .ref h_values, .int v_words, .int v_at, .ref h_names, .ref h_testCounts, .ref h_minutes, .ref h_costs, .ref h_sorts, .ref h_firsts, .ref h_seconds, .ref h_relations, .ref h_numbers, .int v_ruleCount, .ref h_last, .ref h_before, .int v_ran, .ref h_heldCounts, .ref h_streaks, .int v_faults, .ref h_faultRule, .ref h_faultBegin, .ref h_faultEnd, .ref h_order, .ref h_left, .int ((v_leftCount + 1) - 1), .ref h_brings])), (h_left, .inl (cI, 100, .inl (upd v_left (v_leftCount : Int32).toNatClampNeg p1)))] := hD
                    refine lv_aload_n hx hb d_Model_leave_121 rfl (lv_at hl 0 rfl) ?_
                    refine va_get (D := (dC, dI)) (ci := 7) (v := .ref h_left) (C := R_Model) (T := T_Model) (N := 34) hx hb hT i_Model hown hK hP 0 rfl rfl 31 (by decide) (hT _ kF_Model_80) (fun _ h9 => h9) rfl d_Model_leave_122 ?_
                    refine lv_iload_n hx hb d_Model_leave_125 rfl (lv_at hl 3 rfl) ?_
                    refine lv_aload_n hx hb d_Model_leave_126 rfl (lv_at hl 0 rfl) ?_
                    refine va_get (D := (dC, dI)) (ci := 7) (v := .ref h_left) (C := R_Model) (T := T_Model) (N := 34) hx hb hT i_Model hown hK hP 0 rfl rfl 31 (by decide) (hT _ kF_Model_80) (fun _ h9 => h9) rfl d_Model_leave_127 ?_
                    refine lv_aload_n hx hb d_Model_leave_130 rfl (lv_at hl 0 rfl) ?_
                    refine va_get (D := (dC, dI)) (ci := 7) (v := .int ((v_leftCount + 1) - 1)) (C := R_Model) (T := T_Model) (N := 34) hx hb hT i_Model hown hK hP 0 rfl rfl 32 (by decide) (hT _ kF_Model_277) (fun _ h9 => h9) rfl d_Model_leave_131 ?_
                    obtain ⟨hi_26, hf⟩ := o_in hf
                    refine va_iald hx hb hK hP 1 0 rfl rfl hi_26 d_Model_leave_134 ?_
                    obtain ⟨hi_27, hf⟩ := o_in hf
                    refine va_iast hx hb hK hP hD hS 1 0 rfl rfl hi_27 d_Model_leave_135 (fun H locs hP hD hS => ?_)
                    have hP : va_P (dC, dI) vwCl [(h_this, .inr (7, [.int s1_j70, .int v_rows, .ref h_rowPoint, .ref h_rowMinute, .ref h_rowValue, .ref h_text, .int v_size, .ref h_kinds, .ref h_values, .int v_words, .int v_at, .ref h_names, .ref h_testCounts, .ref h_minutes, .ref h_costs, .ref h_sorts, .ref h_firsts, .ref h_seconds, .ref h_relations, .ref h_numbers, .int v_ruleCount, .ref h_last, .ref h_before, .int v_ran, .ref h_heldCounts, .ref h_streaks, .int v_faults, .ref h_faultRule, .ref h_faultBegin, .ref h_faultEnd, .ref h_order, .ref h_left, .int ((v_leftCount + 1) - 1), .ref h_brings])), (h_left, .inl (cI, 100, .inl (upd (upd v_left (v_leftCount : Int32).toNatClampNeg p1) (t_3 : Int32).toNatClampNeg ((upd v_left (v_leftCount : Int32).toNatClampNeg p1) ((v_leftCount + 1) - 1 : Int32).toNatClampNeg))))] H := hP
                    have hD : va_D A [(h_this, .inr (7, [.int s1_j70, .int v_rows, .ref h_rowPoint, .ref h_rowMinute, .ref h_rowValue, .ref h_text, .int v_size, .ref h_kinds, .ref h_values, .int v_words, .int v_at, .ref h_names, .ref h_testCounts, .ref h_minutes, .ref h_costs, .ref h_sorts, .ref h_firsts, .ref h_seconds, .ref h_relations, .ref h_numbers, .int v_ruleCount, .ref h_last, .ref h_before, .int v_ran, .ref h_heldCounts, .ref h_streaks, .int v_faults, .ref h_faultRule, .ref h_faultBegin, .ref h_faultEnd, .ref h_order, .ref h_left, .int ((v_leftCount + 1) - 1), .ref h_brings])), (h_left, .inl (cI, 100, .inl (upd (upd v_left (v_leftCount : Int32).toNatClampNeg p1) (t_3 : Int32).toNatClampNeg ((upd v_left (v_leftCount : Int32).toNatClampNeg p1) ((v_leftCount + 1) - 1 : Int32).toNatClampNeg))))] := hD
                    refine lv_iload hx hb d_Model_leave_136 (lv_at hl 4 rfl) ?_
                    obtain ⟨hz_28, hf⟩ := o_zb hf
                    rw [hQ, ← Option.some.inj hf]
                    exact W.zret (ty := .boolean) hx hb hr hz_28 (fun t9 ht9 hW9 => ⟨rfl, by rw [ht9]; exact hP, hS.F ht9⟩) hS.2.2 d_Model_leave_138
              · replace hf := o_neg c_20 hf
                refine lv_iconst (v := 0) hx hb d_Model_leave_80 (by decide) ?_
                rw [hQ, ← Option.some.inj hf]
                exact W.zret (ty := .boolean) hx hb hr rfl (fun t9 ht9 hW9 => ⟨rfl, by rw [ht9]; exact hP, hS.F ht9⟩) hS.2.2 d_Model_leave_81
            refine lv_icmp_ne (tgt := 69) hx hb d_Model_leave_62 (by decide) (fun c_29 => ?_) (fun c_29 => ?_)
            · replace hf := o_neg c_29 hf
              refine lv_iconst (v := 0) hx hb d_Model_leave_69 (by decide) ?_
              exact jn_70 0 H locs ls hf hP hD hS (lv_sub hl [1, 2, 3, 4, 0] rfl)
            · replace hf := o_pos c_29 hf
              refine lv_iconst (v := 2) hx hb d_Model_leave_65 (by decide) ?_
              refine lv_goto (tgt := 70) hx hb d_Model_leave_66 (by decide) ?_
              exact jn_70 2 H locs ls hf hP hD hS (lv_sub hl [1, 2, 3, 4, 0] rfl)
      refine lv_icmp_ge (tgt := 43) hx hb d_Model_leave_36 (by decide) (fun c_30 => ?_) (fun c_30 => ?_)
      · replace hf := o_pos c_30 hf
        refine lv_iconst (v := 0) hx hb d_Model_leave_43 (by decide) ?_
        exact jn_44 0 H locs ls hf hP hD hS (lv_sub hl [1, 2, 3, 0] rfl)
      · replace hf := o_neg c_30 hf
        refine lv_iconst (v := 1) hx hb d_Model_leave_39 (by decide) ?_
        refine lv_goto (tgt := 44) hx hb d_Model_leave_40 (by decide) ?_
        exact jn_44 1 H locs ls hf hP hD hS (lv_sub hl [1, 2, 3, 0] rfl)
    · replace hf := o_neg c_2 hf
      refine lv_iconst (v := 0) hx hb d_Model_leave_23 (by decide) ?_
      rw [hQ, ← Option.some.inj hf]
      exact W.zret (ty := .boolean) hx hb hr rfl (fun t9 ht9 hW9 => ⟨rfl, by rw [ht9]; exact hP, hS.F ht9⟩) hS.2.2 d_Model_leave_24
  refine lv_if_eq (tgt := 12) hx hb d_Model_leave_5 (by decide) (fun c_31 => ?_) (fun c_31 => ?_)
  · replace hf := o_pos c_31 hf
    refine lv_iconst (v := 1) hx hb d_Model_leave_12 (by decide) ?_
    exact jn_13 1 H locs ls hf hP hD hS (lv_sub hl [0, 1, 2] rfl)
  · replace hf := o_neg c_31 hf
    refine lv_iconst (v := 0) hx hb d_Model_leave_8 (by decide) ?_
    refine lv_goto (tgt := 13) hx hb d_Model_leave_9 (by decide) ?_
    exact jn_13 0 H locs ls hf hP hD hS (lv_sub hl [0, 1, 2] rfl)
