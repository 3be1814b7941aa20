def f_Reader_makeDue (v_due : Int32) (p1 : Int32) : Option (Int32 × Int32) :=
  (some (1, p1))
theorem f_Reader_makeDue_u {v_due : Int32} {p1 : Int32} {t : Int32 × Int32} (h : f_Reader_makeDue v_due p1 = some t) : (some (1, p1)) = some t := h
def f_Reader_takesSemicolon (v_due : Int32) (v_p1_kind : Int32) (v_p2_count : Int32) : Option (Int32 × Int32 × Int32) :=
  (if v_p1_kind = 7 then ((f_Reader_makeDue v_due 0).bind (fun t_2 => (zb t_2.1 (some (t_2.1, t_2.2, v_p2_count + 1))))) else (some (0, v_due, v_p2_count)))
theorem f_Reader_takesSemicolon_u {v_due : Int32} {v_p1_kind : Int32} {v_p2_count : Int32} {t : Int32 × Int32 × Int32} (h : f_Reader_takesSemicolon v_due v_p1_kind v_p2_count = some t) : (if v_p1_kind = 7 then ((f_Reader_makeDue v_due 0).bind (fun t_2 => (zb t_2.1 (some (t_2.1, t_2.2, v_p2_count + 1))))) else (some (0, v_due, v_p2_count))) = some t := h
def f_Reader_isRuleNumber (v_p1_kind : Int32) (v_p1_amount : Int32) : Option (Int32) :=
  (if v_p1_kind = 3 then (if v_p1_amount < 1 then (some 0) else (if 9999 < v_p1_amount then (some 0) else (some 1))) else (some 0))
theorem f_Reader_isRuleNumber_u {v_p1_kind : Int32} {v_p1_amount : Int32} {t : Int32} (h : f_Reader_isRuleNumber v_p1_kind v_p1_amount = some t) : (if v_p1_kind = 3 then (if v_p1_amount < 1 then (some 0) else (if 9999 < v_p1_amount then (some 0) else (some 1))) else (some 0)) = some t := h
def f_Reader_takesCost (v_due : Int32) (v_p1_kind : Int32) (v_p1_amount : Int32) (v_p2_count : Int32) (v_p2_costs : Nat → Int32) : Option (Int32 × Int32 × (Nat → Int32)) :=
  (bd v_p2_count 6 ((f_Reader_isRuleNumber v_p1_kind v_p1_amount).bind (fun t_2 => (if t_2 = 0 then (some (0, v_due, upd v_p2_costs (v_p2_count : Int32).toNatClampNeg v_p1_amount)) else ((f_Reader_makeDue v_due 13).bind (fun t_4 => (if t_4.1 = 0 then (some (0, t_4.2, upd v_p2_costs (v_p2_count : Int32).toNatClampNeg v_p1_amount)) else (some (1, t_4.2, upd v_p2_costs (v_p2_count : Int32).toNatClampNeg v_p1_amount)))))))))
theorem f_Reader_takesCost_u {v_due : Int32} {v_p1_kind : Int32} {v_p1_amount : Int32} {v_p2_count : Int32} {v_p2_costs : Nat → Int32} {t : Int32 × Int32 × (Nat → Int32)} (h : f_Reader_takesCost v_due v_p1_kind v_p1_amount v_p2_count v_p2_costs = some t) : (bd v_p2_count 6 ((f_Reader_isRuleNumber v_p1_kind v_p1_amount).bind (fun t_2 => (if t_2 = 0 then (some (0, v_due, upd v_p2_costs (v_p2_count : Int32).toNatClampNeg v_p1_amount)) else ((f_Reader_makeDue v_due 13).bind (fun t_4 => (if t_4.1 = 0 then (some (0, t_4.2, upd v_p2_costs (v_p2_count : Int32).toNatClampNeg v_p1_amount)) else (some (1, t_4.2, upd v_p2_costs (v_p2_count : Int32).toNatClampNeg v_p1_amount))))))))) = some t := h
def f_Reader_takesSpan (v_due : Int32) (v_p1_kind : Int32) (v_p1_amount : Int32) (v_p2_count : Int32) (v_p2_spans : Nat → Int32) : Option (Int32 × Int32 × (Nat → Int32)) :=
  (bd v_p2_count 6 ((f_Reader_isRuleNumber v_p1_kind v_p1_amount).bind (fun t_2 => (if t_2 = 0 then (some (0, v_due, upd v_p2_spans (v_p2_count : Int32).toNatClampNeg v_p1_amount)) else ((f_Reader_makeDue v_due 11).bind (fun t_4 => (if t_4.1 = 0 then (some (0, t_4.2, upd v_p2_spans (v_p2_count : Int32).toNatClampNeg v_p1_amount)) else (some (1, t_4.2, upd v_p2_spans (v_p2_count : Int32).toNatClampNeg v_p1_amount)))))))))
theorem f_Reader_takesSpan_u {v_due : Int32} {v_p1_kind : Int32} {v_p1_amount : Int32} {v_p2_count : Int32} {v_p2_spans : Nat → Int32} {t : Int32 × Int32 × (Nat → Int32)} (h : f_Reader_takesSpan v_due v_p1_kind v_p1_amount v_p2_count v_p2_spans = some t) : (bd v_p2_count 6 ((f_Reader_isRuleNumber v_p1_kind v_p1_amount).bind (fun t_2 => (if t_2 = 0 then (some (0, v_due, upd v_p2_spans (v_p2_count : Int32).toNatClampNeg v_p1_amount)) else ((f_Reader_makeDue v_due 11).bind (fun t_4 => (if t_4.1 = 0 then (some (0, t_4.2, upd v_p2_spans (v_p2_count : Int32).toNatClampNeg v_p1_amount)) else (some (1, t_4.2, upd v_p2_spans (v_p2_count : Int32).toNatClampNeg v_p1_amount))))))))) = some t := h
def f_Reader_takesAndOrFor (v_due : Int32) (v_p1_kind : Int32) (v_p2_count : Int32) (v_p2_sizes : Nat → Int32) : Option (Int32 × Int32) :=
  (if v_p1_kind = 6 then (bd v_p2_count 6 (if 6 ≤ (v_p2_sizes (v_p2_count : Int32).toNatClampNeg) then (some (0, v_due)) else ((f_Reader_makeDue v_due 2).bind (fun t_7 => (if t_7.1 = 0 then (some (0, t_7.2)) else (some (1, t_7.2))))))) else (if v_p1_kind = 9 then ((f_Reader_makeDue v_due 10).bind (fun t_3 => (if t_3.1 = 0 then (some (0, t_3.2)) else (some (1, t_3.2))))) else (some (0, v_due))))
theorem f_Reader_takesAndOrFor_u {v_due : Int32} {v_p1_kind : Int32} {v_p2_count : Int32} {v_p2_sizes : Nat → Int32} {t : Int32 × Int32} (h : f_Reader_takesAndOrFor v_due v_p1_kind v_p2_count v_p2_sizes = some t) : (if v_p1_kind = 6 then (bd v_p2_count 6 (if 6 ≤ (v_p2_sizes (v_p2_count : Int32).toNatClampNeg) then (some (0, v_due)) else ((f_Reader_makeDue v_due 2).bind (fun t_7 => (if t_7.1 = 0 then (some (0, t_7.2)) else (some (1, t_7.2))))))) else (if v_p1_kind = 9 then ((f_Reader_makeDue v_due 10).bind (fun t_3 => (if t_3.1 = 0 then (some (0, t_3.2)) else (some (1, t_3.2))))) else (some (0, v_due)))) = some t := h
def f_Reader_takesWatchedPoint (v_due : Int32) (v_p1_kind : Int32) (v_p1_amount : Int32) (v_p2_count : Int32) (v_p2_sizes : Nat → Int32) (v_p2_firsts : Nat → Int32) : Option (Int32 × Int32 × (Nat → Int32)) :=
  ((f_RuleSet_openTest v_p2_count v_p2_sizes).bind (fun t_1 => (bd t_1 36 (if v_p1_kind = 4 then ((f_Reader_makeDue v_due 7).bind (fun t_4 => (if t_4.1 = 0 then (some (0, t_4.2, upd v_p2_firsts (t_1 : Int32).toNatClampNeg v_p1_amount)) else (some (1, t_4.2, upd v_p2_firsts (t_1 : Int32).toNatClampNeg v_p1_amount))))) else (some (0, v_due, upd v_p2_firsts (t_1 : Int32).toNatClampNeg v_p1_amount))))))
theorem f_Reader_takesWatchedPoint_u {v_due : Int32} {v_p1_kind : Int32} {v_p1_amount : Int32} {v_p2_count : Int32} {v_p2_sizes : Nat → Int32} {v_p2_firsts : Nat → Int32} {t : Int32 × Int32 × (Nat → Int32)} (h : f_Reader_takesWatchedPoint v_due v_p1_kind v_p1_amount v_p2_count v_p2_sizes v_p2_firsts = some t) : ((f_RuleSet_openTest v_p2_count v_p2_sizes).bind (fun t_1 => (bd t_1 36 (if v_p1_kind = 4 then ((f_Reader_makeDue v_due 7).bind (fun t_4 => (if t_4.1 = 0 then (some (0, t_4.2, upd v_p2_firsts (t_1 : Int32).toNatClampNeg v_p1_amount)) else (some (1, t_4.2, upd v_p2_firsts (t_1 : Int32).toNatClampNeg v_p1_amount))))) else (some (0, v_due, upd v_p2_firsts (t_1 : Int32).toNatClampNeg v_p1_amount)))))) = some t := h
def J_Reader_takesNumber_37 (v_due : Int32) (v_p2_count : Int32) (v_p2_sizes : Nat → Int32) (v_p2_numbers : Nat → Int32) (s1_j37 : Int32) (s2_j37 : Int32) : Option (Int32 × Int32 × (Nat → Int32) × (Nat → Int32)) :=
  (bd s1_j37 36 (bd v_p2_count 6 (bd v_p2_count 6 ((f_Reader_makeDue v_due 9).bind (fun t_6 => (zb t_6.1 (some (t_6.1, t_6.2, upd v_p2_sizes (v_p2_count : Int32).toNatClampNeg ((v_p2_sizes (v_p2_count : Int32).toNatClampNeg) + 1), upd v_p2_numbers (s1_j37 : Int32).toNatClampNeg s2_j37))))))))
theorem J_Reader_takesNumber_37_u {v_due : Int32} {v_p2_count : Int32} {v_p2_sizes : Nat → Int32} {v_p2_numbers : Nat → Int32} {s1_j37 : Int32} {s2_j37 : Int32} {t : Int32 × Int32 × (Nat → Int32) × (Nat → Int32)} (h : J_Reader_takesNumber_37 v_due v_p2_count v_p2_sizes v_p2_numbers s1_j37 s2_j37 = some t) : (bd s1_j37 36 (bd v_p2_count 6 (bd v_p2_count 6 ((f_Reader_makeDue v_due 9).bind (fun t_6 => (zb t_6.1 (some (t_6.1, t_6.2, upd v_p2_sizes (v_p2_count : Int32).toNatClampNeg ((v_p2_sizes (v_p2_count : Int32).toNatClampNeg) + 1), upd v_p2_numbers (s1_j37 : Int32).toNatClampNeg s2_j37)))))))) = some t := h
def f_Reader_takesNumber (v_due : Int32) (v_isNegative : Int32) (v_p1_kind : Int32) (v_p1_amount : Int32) (v_p2_count : Int32) (v_p2_sizes : Nat → Int32) (v_p2_numbers : Nat → Int32) : Option (Int32 × Int32 × (Nat → Int32) × (Nat → Int32)) :=
  (if v_p1_kind = 3 then ((f_RuleSet_openTest v_p2_count v_p2_sizes).bind (fun t_2 => (if v_isNegative = 0 then (J_Reader_takesNumber_37 v_due v_p2_count v_p2_sizes v_p2_numbers t_2 v_p1_amount) else (J_Reader_takesNumber_37 v_due v_p2_count v_p2_sizes v_p2_numbers t_2 (-v_p1_amount))))) else (some (0, v_due, v_p2_sizes, v_p2_numbers)))
theorem f_Reader_takesNumber_u {v_due : Int32} {v_isNegative : Int32} {v_p1_kind : Int32} {v_p1_amount : Int32} {v_p2_count : Int32} {v_p2_sizes : Nat → Int32} {v_p2_numbers : Nat → Int32} {t : Int32 × Int32 × (Nat → Int32) × (Nat → Int32)} (h : f_Reader_takesNumber v_due v_isNegative v_p1_kind v_p1_amount v_p2_count v_p2_sizes v_p2_numbers = some t) : (if v_p1_kind = 3 then ((f_RuleSet_openTest v_p2_count v_p2_sizes).bind (fun t_2 => (if v_isNegative = 0 then (J_Reader_takesNumber_37 v_due v_p2_count v_p2_sizes v_p2_numbers t_2 v_p1_amount) else (J_Reader_takesNumber_37 v_due v_p2_count v_p2_sizes v_p2_numbers t_2 (-v_p1_amount))))) else (some (0, v_due, v_p2_sizes, v_p2_numbers))) = some t := h
def f_Reader_takesMinus (v_due : Int32) (v_isNegative : Int32) : Option (Int32 × Int32 × Int32) :=
  ((f_Reader_makeDue v_due 7).bind (fun t_1 => (zb t_1.1 (some (t_1.1, t_1.2, 1)))))
theorem f_Reader_takesMinus_u {v_due : Int32} {v_isNegative : Int32} {t : Int32 × Int32 × Int32} (h : f_Reader_takesMinus v_due v_isNegative = some t) : ((f_Reader_makeDue v_due 7).bind (fun t_1 => (zb t_1.1 (some (t_1.1, t_1.2, 1))))) = some t := h
def f_Reader_takesRelation (v_due : Int32) (v_p1_kind : Int32) (v_p2_count : Int32) (v_p2_sizes : Nat → Int32) (v_p2_kinds : Nat → Int32) : Option (Int32 × Int32 × (Nat → Int32)) :=
  ((f_RuleSet_openTest v_p2_count v_p2_sizes).bind (fun t_1 => (bd t_1 36 (if v_p1_kind < 11 then (some (0, v_due, upd v_p2_kinds (t_1 : Int32).toNatClampNeg v_p1_kind)) else (if 15 < v_p1_kind then (some (0, v_due, upd v_p2_kinds (t_1 : Int32).toNatClampNeg v_p1_kind)) else ((f_Reader_makeDue v_due 6).bind (fun t_5 => (if t_5.1 = 0 then (some (0, t_5.2, upd v_p2_kinds (t_1 : Int32).toNatClampNeg v_p1_kind)) else (some (1, t_5.2, upd v_p2_kinds (t_1 : Int32).toNatClampNeg v_p1_kind))))))))))
theorem f_Reader_takesRelation_u {v_due : Int32} {v_p1_kind : Int32} {v_p2_count : Int32} {v_p2_sizes : Nat → Int32} {v_p2_kinds : Nat → Int32} {t : Int32 × Int32 × (Nat → Int32)} (h : f_Reader_takesRelation v_due v_p1_kind v_p2_count v_p2_sizes v_p2_kinds = some t) : ((f_RuleSet_openTest v_p2_count v_p2_sizes).bind (fun t_1 => (bd t_1 36 (if v_p1_kind < 11 then (some (0, v_due, upd v_p2_kinds (t_1 : Int32).toNatClampNeg v_p1_kind)) else (if 15 < v_p1_kind then (some (0, v_due, upd v_p2_kinds (t_1 : Int32).toNatClampNeg v_p1_kind)) else ((f_Reader_makeDue v_due 6).bind (fun t_5 => (if t_5.1 = 0 then (some (0, t_5.2, upd v_p2_kinds (t_1 : Int32).toNatClampNeg v_p1_kind)) else (some (1, t_5.2, upd v_p2_kinds (t_1 : Int32).toNatClampNeg v_p1_kind)))))))))) = some t := h
def f_Reader_takesSecondPoint (v_due : Int32) (v_p1_kind : Int32) (v_p1_amount : Int32) (v_p2_count : Int32) (v_p2_sizes : Nat → Int32) (v_p2_seconds : Nat → Int32) : Option (Int32 × Int32 × (Nat → Int32)) :=
  ((f_RuleSet_openTest v_p2_count v_p2_sizes).bind (fun t_1 => (bd t_1 36 (if v_p1_kind = 4 then ((f_Reader_makeDue v_due 5).bind (fun t_4 => (if t_4.1 = 0 then (some (0, t_4.2, upd v_p2_seconds (t_1 : Int32).toNatClampNeg v_p1_amount)) else (some (1, t_4.2, upd v_p2_seconds (t_1 : Int32).toNatClampNeg v_p1_amount))))) else (some (0, v_due, upd v_p2_seconds (t_1 : Int32).toNatClampNeg v_p1_amount))))))
theorem f_Reader_takesSecondPoint_u {v_due : Int32} {v_p1_kind : Int32} {v_p1_amount : Int32} {v_p2_count : Int32} {v_p2_sizes : Nat → Int32} {v_p2_seconds : Nat → Int32} {t : Int32 × Int32 × (Nat → Int32)} (h : f_Reader_takesSecondPoint v_due v_p1_kind v_p1_amount v_p2_count v_p2_sizes v_p2_seconds = some t) : ((f_RuleSet_openTest v_p2_count v_p2_sizes).bind (fun t_1 => (bd t_1 36 (if v_p1_kind = 4 then ((f_Reader_makeDue v_due 5).bind (fun t_4 => (if t_4.1 = 0 then (some (0, t_4.2, upd v_p2_seconds (t_1 : Int32).toNatClampNeg v_p1_amount)) else (some (1, t_4.2, upd v_p2_seconds (t_1 : Int32).toNatClampNeg v_p1_amount))))) else (some (0, v_due, upd v_p2_seconds (t_1 : Int32).toNatClampNeg v_p1_amount)))))) = some t := h
def f_Reader_takesTest (v_due : Int32) (v_isNegative : Int32) (v_p1_kind : Int32) (v_p1_amount : Int32) (v_p2_count : Int32) (v_p2_sizes : Nat → Int32) (v_p2_kinds : Nat → Int32) (v_p2_firsts : Nat → Int32) (v_p2_seconds : Nat → Int32) : Option (Int32 × Int32 × Int32 × (Nat → Int32) × (Nat → Int32) × (Nat → Int32)) :=
  ((f_RuleSet_openTest v_p2_count v_p2_sizes).bind (fun t_1 => (bd t_1 36 (if v_p1_kind = 4 then (bd t_1 36 ((f_Reader_makeDue v_due 3).bind (fun t_21 => (zb t_21.1 (some (t_21.1, t_21.2, 0, v_p2_kinds, upd v_p2_firsts (t_1 : Int32).toNatClampNeg v_p1_amount, upd v_p2_seconds (t_1 : Int32).toNatClampNeg ((-1)))))))) else (bd t_1 36 (if v_p1_kind = 16 then (if (1 : Int32) = 0 then (some (0, v_due, 0, upd v_p2_kinds (t_1 : Int32).toNatClampNeg v_p1_kind, v_p2_firsts, upd v_p2_seconds (t_1 : Int32).toNatClampNeg ((-1)))) else ((f_Reader_makeDue v_due 8).bind (fun t_7 => (if t_7.1 = 0 then (some (0, t_7.2, 0, upd v_p2_kinds (t_1 : Int32).toNatClampNeg v_p1_kind, v_p2_firsts, upd v_p2_seconds (t_1 : Int32).toNatClampNeg ((-1)))) else (some (1, t_7.2, 0, upd v_p2_kinds (t_1 : Int32).toNatClampNeg v_p1_kind, v_p2_firsts, upd v_p2_seconds (t_1 : Int32).toNatClampNeg ((-1)))))))) else (if v_p1_kind = 17 then (if (1 : Int32) = 0 then (some (0, v_due, 0, upd v_p2_kinds (t_1 : Int32).toNatClampNeg v_p1_kind, v_p2_firsts, upd v_p2_seconds (t_1 : Int32).toNatClampNeg ((-1)))) else ((f_Reader_makeDue v_due 8).bind (fun t_11 => (if t_11.1 = 0 then (some (0, t_11.2, 0, upd v_p2_kinds (t_1 : Int32).toNatClampNeg v_p1_kind, v_p2_firsts, upd v_p2_seconds (t_1 : Int32).toNatClampNeg ((-1)))) else (some (1, t_11.2, 0, upd v_p2_kinds (t_1 : Int32).toNatClampNeg v_p1_kind, v_p2_firsts, upd v_p2_seconds (t_1 : Int32).toNatClampNeg ((-1)))))))) else (if v_p1_kind = 18 then (if (1 : Int32) = 0 then (some (0, v_due, 0, upd v_p2_kinds (t_1 : Int32).toNatClampNeg v_p1_kind, v_p2_firsts, upd v_p2_seconds (t_1 : Int32).toNatClampNeg ((-1)))) else ((f_Reader_makeDue v_due 8).bind (fun t_18 => (if t_18.1 = 0 then (some (0, t_18.2, 0, upd v_p2_kinds (t_1 : Int32).toNatClampNeg v_p1_kind, v_p2_firsts, upd v_p2_seconds (t_1 : Int32).toNatClampNeg ((-1)))) else (some (1, t_18.2, 0, upd v_p2_kinds (t_1 : Int32).toNatClampNeg v_p1_kind, v_p2_firsts, upd v_p2_seconds (t_1 : Int32).toNatClampNeg ((-1)))))))) else (if (0 : Int32) = 0 then (some (0, v_due, 0, upd v_p2_kinds (t_1 : Int32).toNatClampNeg v_p1_kind, v_p2_firsts, upd v_p2_seconds (t_1 : Int32).toNatClampNeg ((-1)))) else ((f_Reader_makeDue v_due 8).bind (fun t_15 => (if t_15.1 = 0 then (some (0, t_15.2, 0, upd v_p2_kinds (t_1 : Int32).toNatClampNeg v_p1_kind, v_p2_firsts, upd v_p2_seconds (t_1 : Int32).toNatClampNeg ((-1)))) else (some (1, t_15.2, 0, upd v_p2_kinds (t_1 : Int32).toNatClampNeg v_p1_kind, v_p2_firsts, upd v_p2_seconds (t_1 : Int32).toNatClampNeg ((-1))))))))))))))))
theorem f_Reader_takesTest_u {v_due : Int32} {v_isNegative : Int32} {v_p1_kind : Int32} {v_p1_amount : Int32} {v_p2_count : Int32} {v_p2_sizes : Nat → Int32} {v_p2_kinds : Nat → Int32} {v_p2_firsts : Nat → Int32} {v_p2_seconds : Nat → Int32} {t : Int32 × Int32 × Int32 × (Nat → Int32) × (Nat → Int32) × (Nat → Int32)} (h : f_Reader_takesTest v_due v_isNegative v_p1_kind v_p1_amount v_p2_count v_p2_sizes v_p2_kinds v_p2_firsts v_p2_seconds = some t) : ((f_RuleSet_openTest v_p2_count v_p2_sizes).bind (fun t_1 => (bd t_1 36 (if v_p1_kind = 4 then (bd t_1 36 ((f_Reader_makeDue v_due 3).bind (fun t_21 => (zb t_21.1 (some (t_21.1, t_21.2, 0, v_p2_kinds, upd v_p2_firsts (t_1 : Int32).toNatClampNeg v_p1_amount, upd v_p2_seconds (t_1 : Int32).toNatClampNeg ((-1)))))))) else (bd t_1 36 (if v_p1_kind = 16 then (if (1 : Int32) = 0 then (some (0, v_due, 0, upd v_p2_kinds (t_1 : Int32).toNatClampNeg v_p1_kind, v_p2_firsts, upd v_p2_seconds (t_1 : Int32).toNatClampNeg ((-1)))) else ((f_Reader_makeDue v_due 8).bind (fun t_7 => (if t_7.1 = 0 then (some (0, t_7.2, 0, upd v_p2_kinds (t_1 : Int32).toNatClampNeg v_p1_kind, v_p2_firsts, upd v_p2_seconds (t_1 : Int32).toNatClampNeg ((-1)))) else (some (1, t_7.2, 0, upd v_p2_kinds (t_1 : Int32).toNatClampNeg v_p1_kind, v_p2_firsts, upd v_p2_seconds (t_1 : Int32).toNatClampNeg ((-1)))))))) else (if v_p1_kind = 17 then (if (1 : Int32) = 0 then (some (0, v_due, 0, upd v_p2_kinds (t_1 : Int32).toNatClampNeg v_p1_kind, v_p2_firsts, upd v_p2_seconds (t_1 : Int32).toNatClampNeg ((-1)))) else ((f_Reader_makeDue v_due 8).bind (fun t_11 => (if t_11.1 = 0 then (some (0, t_11.2, 0, upd v_p2_kinds (t_1 : Int32).toNatClampNeg v_p1_kind, v_p2_firsts, upd v_p2_seconds (t_1 : Int32).toNatClampNeg ((-1)))) else (some (1, t_11.2, 0, upd v_p2_kinds (t_1 : Int32).toNatClampNeg v_p1_kind, v_p2_firsts, upd v_p2_seconds (t_1 : Int32).toNatClampNeg ((-1)))))))) else (if v_p1_kind = 18 then (if (1 : Int32) = 0 then (some (0, v_due, 0, upd v_p2_kinds (t_1 : Int32).toNatClampNeg v_p1_kind, v_p2_firsts, upd v_p2_seconds (t_1 : Int32).toNatClampNeg ((-1)))) else ((f_Reader_makeDue v_due 8).bind (fun t_18 => (if t_18.1 = 0 then (some (0, t_18.2, 0, upd v_p2_kinds (t_1 : Int32).toNatClampNeg v_p1_kind, v_p2_firsts, upd v_p2_seconds (t_1 : Int32).toNatClampNeg ((-1)))) else (some (1, t_18.2, 0, upd v_p2_kinds (t_1 : Int32).toNatClampNeg v_p1_kind, v_p2_firsts, upd v_p2_seconds (t_1 : Int32).toNatClampNeg ((-1)))))))) else (if (0 : Int32) = 0 then (some (0, v_due, 0, upd v_p2_kinds (t_1 : Int32).toNatClampNeg v_p1_kind, v_p2_firsts, upd v_p2_seconds (t_1 : Int32).toNatClampNeg ((-1)))) else ((f_Reader_makeDue v_due 8).bind (fun t_15 => (if t_15.1 = 0 then (some (0, t_15.2, 0, upd v_p2_kinds (t_1 : Int32).toNatClampNeg v_p1_kind, v_p2_firsts, upd v_p2_seconds (t_1 : Int32).toNatClampNeg ((-1)))) else (some (1, t_15.2, 0, upd v_p2_kinds (t_1 : Int32).toNatClampNeg v_p1_kind, v_p2_firsts, upd v_p2_seconds (t_1 : Int32).toNatClampNeg ((-1)))))))))))))))) = some t := h
def f_Reader_takesName (fu : Nat) (v_due : Int32) (v_p1_kind : Int32) (v_p1_letters : Int64) (v_p2_count : Int32) (v_p2_names : Nat → Int64) (v_p2_sizes : Nat → Int32) : Option (Int32 × Int32 × (Nat → Int64) × (Nat → Int32)) :=
  (if v_p1_kind = 2 then (if 6 ≤ v_p2_count then (some (0, v_due, v_p2_names, v_p2_sizes)) else ((f_RuleSet_hasName fu v_p2_count v_p2_names v_p1_letters).bind (fun t_3 => (if t_3 = 0 then (bd v_p2_count 6 (bd v_p2_count 6 ((f_Reader_makeDue v_due 1).bind (fun t_7 => (zb t_7.1 (some (t_7.1, t_7.2, vp_updL v_p2_names (v_p2_count : Int32).toNatClampNeg v_p1_letters, upd v_p2_sizes (v_p2_count : Int32).toNatClampNeg 0))))))) else (some (0, v_due, v_p2_names, v_p2_sizes)))))) else (some (0, v_due, v_p2_names, v_p2_sizes)))
theorem f_Reader_takesName_u {fu : Nat} {v_due : Int32} {v_p1_kind : Int32} {v_p1_letters : Int64} {v_p2_count : Int32} {v_p2_names : Nat → Int64} {v_p2_sizes : Nat → Int32} {t : Int32 × Int32 × (Nat → Int64) × (Nat → Int32)} (h : f_Reader_takesName fu v_due v_p1_kind v_p1_letters v_p2_count v_p2_names v_p2_sizes = some t) : (if v_p1_kind = 2 then (if 6 ≤ v_p2_count then (some (0, v_due, v_p2_names, v_p2_sizes)) else ((f_RuleSet_hasName fu v_p2_count v_p2_names v_p1_letters).bind (fun t_3 => (if t_3 = 0 then (bd v_p2_count 6 (bd v_p2_count 6 ((f_Reader_makeDue v_due 1).bind (fun t_7 => (zb t_7.1 (some (t_7.1, t_7.2, vp_updL v_p2_names (v_p2_count : Int32).toNatClampNeg v_p1_letters, upd v_p2_sizes (v_p2_count : Int32).toNatClampNeg 0))))))) else (some (0, v_due, v_p2_names, v_p2_sizes)))))) else (some (0, v_due, v_p2_names, v_p2_sizes))) = some t := h
def f_Reader_takes (fu : Nat) (v_due : Int32) (v_isNegative : Int32) (v_p1_kind : Int32) (v_p1_amount : Int32) (v_p1_letters : Int64) (v_p2_count : Int32) (v_p2_names : Nat → Int64) (v_p2_spans : Nat → Int32) (v_p2_costs : Nat → Int32) (v_p2_sizes : Nat → Int32) (v_p2_kinds : Nat → Int32) (v_p2_firsts : Nat → Int32) (v_p2_seconds : Nat → Int32) (v_p2_numbers : Nat → Int32) : Option (Int32 × Int32 × Int32 × Int32 × (Nat → Int64) × (Nat → Int32) × (Nat → Int32) × (Nat → Int32) × (Nat → Int32) × (Nat → Int32) × (Nat → Int32) × (Nat → Int32)) :=
  (if v_due = 0 then ((f_Reader_takesName fu v_due v_p1_kind v_p1_letters v_p2_count v_p2_names v_p2_sizes).bind (fun t_2 => (zb t_2.1 (some (t_2.1, t_2.2.1, v_isNegative, v_p2_count, t_2.2.2.1, v_p2_spans, v_p2_costs, t_2.2.2.2, v_p2_kinds, v_p2_firsts, v_p2_seconds, v_p2_numbers))))) else (if v_due = 1 then (if v_p1_kind = 5 then ((f_Reader_makeDue v_due 2).bind (fun t_6 => (if t_6.1 = 0 then (some (0, t_6.2, v_isNegative, v_p2_count, v_p2_names, v_p2_spans, v_p2_costs, v_p2_sizes, v_p2_kinds, v_p2_firsts, v_p2_seconds, v_p2_numbers)) else (some (1, t_6.2, v_isNegative, v_p2_count, v_p2_names, v_p2_spans, v_p2_costs, v_p2_sizes, v_p2_kinds, v_p2_firsts, v_p2_seconds, v_p2_numbers))))) else (some (0, v_due, v_isNegative, v_p2_count, v_p2_names, v_p2_spans, v_p2_costs, v_p2_sizes, v_p2_kinds, v_p2_firsts, v_p2_seconds, v_p2_numbers))) else (if v_due = 2 then ((f_Reader_takesTest v_due v_isNegative v_p1_kind v_p1_amount v_p2_count v_p2_sizes v_p2_kinds v_p2_firsts v_p2_seconds).bind (fun t_9 => (zb t_9.1 (some (t_9.1, t_9.2.1, t_9.2.2.1, v_p2_count, v_p2_names, v_p2_spans, v_p2_costs, v_p2_sizes, t_9.2.2.2.1, t_9.2.2.2.2.1, t_9.2.2.2.2.2, v_p2_numbers))))) else (if v_due = 3 then (if v_p1_kind = 8 then ((f_Reader_makeDue v_due 4).bind (fun t_15 => (zb t_15.1 (some (t_15.1, t_15.2, v_isNegative, v_p2_count, v_p2_names, v_p2_spans, v_p2_costs, v_p2_sizes, v_p2_kinds, v_p2_firsts, v_p2_seconds, v_p2_numbers))))) else ((f_Reader_takesRelation v_due v_p1_kind v_p2_count v_p2_sizes v_p2_kinds).bind (fun t_13 => (zb t_13.1 (some (t_13.1, t_13.2.1, v_isNegative, v_p2_count, v_p2_names, v_p2_spans, v_p2_costs, v_p2_sizes, t_13.2.2, v_p2_firsts, v_p2_seconds, v_p2_numbers)))))) else (if v_due = 4 then ((f_Reader_takesSecondPoint v_due v_p1_kind v_p1_amount v_p2_count v_p2_sizes v_p2_seconds).bind (fun t_18 => (zb t_18.1 (some (t_18.1, t_18.2.1, v_isNegative, v_p2_count, v_p2_names, v_p2_spans, v_p2_costs, v_p2_sizes, v_p2_kinds, v_p2_firsts, t_18.2.2, v_p2_numbers))))) else (if v_due = 5 then ((f_Reader_takesRelation v_due v_p1_kind v_p2_count v_p2_sizes v_p2_kinds).bind (fun t_21 => (zb t_21.1 (some (t_21.1, t_21.2.1, v_isNegative, v_p2_count, v_p2_names, v_p2_spans, v_p2_costs, v_p2_sizes, t_21.2.2, v_p2_firsts, v_p2_seconds, v_p2_numbers))))) else (if v_due = 6 then (if v_p1_kind = 8 then ((f_Reader_takesMinus v_due v_isNegative).bind (fun t_27 => (zb t_27.1 (some (t_27.1, t_27.2.1, t_27.2.2, v_p2_count, v_p2_names, v_p2_spans, v_p2_costs, v_p2_sizes, v_p2_kinds, v_p2_firsts, v_p2_seconds, v_p2_numbers))))) else ((f_Reader_takesNumber v_due v_isNegative v_p1_kind v_p1_amount v_p2_count v_p2_sizes v_p2_numbers).bind (fun t_25 => (zb t_25.1 (some (t_25.1, t_25.2.1, v_isNegative, v_p2_count, v_p2_names, v_p2_spans, v_p2_costs, t_25.2.2.1, v_p2_kinds, v_p2_firsts, v_p2_seconds, t_25.2.2.2)))))) else (if v_due = 7 then ((f_Reader_takesNumber v_due v_isNegative v_p1_kind v_p1_amount v_p2_count v_p2_sizes v_p2_numbers).bind (fun t_30 => (zb t_30.1 (some (t_30.1, t_30.2.1, v_isNegative, v_p2_count, v_p2_names, v_p2_spans, v_p2_costs, t_30.2.2.1, v_p2_kinds, v_p2_firsts, v_p2_seconds, t_30.2.2.2))))) else (if v_due = 8 then ((f_Reader_takesWatchedPoint v_due v_p1_kind v_p1_amount v_p2_count v_p2_sizes v_p2_firsts).bind (fun t_33 => (zb t_33.1 (some (t_33.1, t_33.2.1, v_isNegative, v_p2_count, v_p2_names, v_p2_spans, v_p2_costs, v_p2_sizes, v_p2_kinds, t_33.2.2, v_p2_seconds, v_p2_numbers))))) else (if v_due = 9 then ((f_Reader_takesAndOrFor v_due v_p1_kind v_p2_count v_p2_sizes).bind (fun t_36 => (zb t_36.1 (some (t_36.1, t_36.2, v_isNegative, v_p2_count, v_p2_names, v_p2_spans, v_p2_costs, v_p2_sizes, v_p2_kinds, v_p2_firsts, v_p2_seconds, v_p2_numbers))))) else (if v_due = 10 then ((f_Reader_takesSpan v_due v_p1_kind v_p1_amount v_p2_count v_p2_spans).bind (fun t_39 => (zb t_39.1 (some (t_39.1, t_39.2.1, v_isNegative, v_p2_count, v_p2_names, t_39.2.2, v_p2_costs, v_p2_sizes, v_p2_kinds, v_p2_firsts, v_p2_seconds, v_p2_numbers))))) else (if v_due = 11 then (if v_p1_kind = 10 then ((f_Reader_makeDue v_due 12).bind (fun t_43 => (if t_43.1 = 0 then (some (0, t_43.2, v_isNegative, v_p2_count, v_p2_names, v_p2_spans, v_p2_costs, v_p2_sizes, v_p2_kinds, v_p2_firsts, v_p2_seconds, v_p2_numbers)) else (some (1, t_43.2, v_isNegative, v_p2_count, v_p2_names, v_p2_spans, v_p2_costs, v_p2_sizes, v_p2_kinds, v_p2_firsts, v_p2_seconds, v_p2_numbers))))) else (some (0, v_due, v_isNegative, v_p2_count, v_p2_names, v_p2_spans, v_p2_costs, v_p2_sizes, v_p2_kinds, v_p2_firsts, v_p2_seconds, v_p2_numbers))) else (if v_due = 12 then ((f_Reader_takesCost v_due v_p1_kind v_p1_amount v_p2_count v_p2_costs).bind (fun t_46 => (zb t_46.1 (some (t_46.1, t_46.2.1, v_isNegative, v_p2_count, v_p2_names, v_p2_spans, t_46.2.2, v_p2_sizes, v_p2_kinds, v_p2_firsts, v_p2_seconds, v_p2_numbers))))) else (if v_due = 13 then ((f_Reader_takesSemicolon v_due v_p1_kind v_p2_count).bind (fun t_49 => (zb t_49.1 (some (t_49.1, t_49.2.1, v_isNegative, t_49.2.2, v_p2_names, v_p2_spans, v_p2_costs, v_p2_sizes, v_p2_kinds, v_p2_firsts, v_p2_seconds, v_p2_numbers))))) else (some (0, v_due, v_isNegative, v_p2_count, v_p2_names, v_p2_spans, v_p2_costs, v_p2_sizes, v_p2_kinds, v_p2_firsts, v_p2_seconds, v_p2_numbers))))))))))))))))
theorem f_Reader_takes_u {fu : Nat} {v_due : Int32} {v_isNegative : Int32} {v_p1_kind : Int32} {v_p1_amount : Int32} {v_p1_letters : Int64} {v_p2_count : Int32} {v_p2_names : Nat → Int64} {v_p2_spans : Nat → Int32} {v_p2_costs : Nat → Int32} {v_p2_sizes : Nat → Int32} {v_p2_kinds : Nat → Int32} {v_p2_firsts : Nat → Int32} {v_p2_seconds : Nat → Int32} {v_p2_numbers : Nat → Int32} {t : Int32 × Int32 × Int32 × Int32 × (Nat → Int64) × (Nat → Int32) × (Nat → Int32) × (Nat → Int32) × (Nat → Int32) × (Nat → Int32) × (Nat → Int32) × (Nat → Int32)} (h : f_Reader_takes fu v_due v_isNegative v_p1_kind v_p1_amount v_p1_letters v_p2_count v_p2_names v_p2_spans v_p2_costs v_p2_sizes v_p2_kinds v_p2_firsts v_p2_seconds v_p2_numbers = some t) : (if v_due = 0 then ((f_Reader_takesName fu v_due v_p1_kind v_p1_letters v_p2_count v_p2_names v_p2_sizes).bind (fun t_2 => (zb t_2.1 (some (t_2.1, t_2.2.1, v_isNegative, v_p2_count, t_2.2.2.1, v_p2_spans, v_p2_costs, t_2.2.2.2, v_p2_kinds, v_p2_firsts, v_p2_seconds, v_p2_numbers))))) else (if v_due = 1 then (if v_p1_kind = 5 then ((f_Reader_makeDue v_due 2).bind (fun t_6 => (if t_6.1 = 0 then (some (0, t_6.2, v_isNegative, v_p2_count, v_p2_names, v_p2_spans, v_p2_costs, v_p2_sizes, v_p2_kinds, v_p2_firsts, v_p2_seconds, v_p2_numbers)) else (some (1, t_6.2, v_isNegative, v_p2_count, v_p2_names, v_p2_spans, v_p2_costs, v_p2_sizes, v_p2_kinds, v_p2_firsts, v_p2_seconds, v_p2_numbers))))) else (some (0, v_due, v_isNegative, v_p2_count, v_p2_names, v_p2_spans, v_p2_costs, v_p2_sizes, v_p2_kinds, v_p2_firsts, v_p2_seconds, v_p2_numbers))) else (if v_due = 2 then ((f_Reader_takesTest v_due v_isNegative v_p1_kind v_p1_amount v_p2_count v_p2_sizes v_p2_kinds v_p2_firsts v_p2_seconds).bind (fun t_9 => (zb t_9.1 (some (t_9.1, t_9.2.1, t_9.2.2.1, v_p2_count, v_p2_names, v_p2_spans, v_p2_costs, v_p2_sizes, t_9.2.2.2.1, t_9.2.2.2.2.1, t_9.2.2.2.2.2, v_p2_numbers))))) else (if v_due = 3 then (if v_p1_kind = 8 then ((f_Reader_makeDue v_due 4).bind (fun t_15 => (zb t_15.1 (some (t_15.1, t_15.2, v_isNegative, v_p2_count, v_p2_names, v_p2_spans, v_p2_costs, v_p2_sizes, v_p2_kinds, v_p2_firsts, v_p2_seconds, v_p2_numbers))))) else ((f_Reader_takesRelation v_due v_p1_kind v_p2_count v_p2_sizes v_p2_kinds).bind (fun t_13 => (zb t_13.1 (some (t_13.1, t_13.2.1, v_isNegative, v_p2_count, v_p2_names, v_p2_spans, v_p2_costs, v_p2_sizes, t_13.2.2, v_p2_firsts, v_p2_seconds, v_p2_numbers)))))) else (if v_due = 4 then ((f_Reader_takesSecondPoint v_due v_p1_kind v_p1_amount v_p2_count v_p2_sizes v_p2_seconds).bind (fun t_18 => (zb t_18.1 (some (t_18.1, t_18.2.1, v_isNegative, v_p2_count, v_p2_names, v_p2_spans, v_p2_costs, v_p2_sizes, v_p2_kinds, v_p2_firsts, t_18.2.2, v_p2_numbers))))) else (if v_due = 5 then ((f_Reader_takesRelation v_due v_p1_kind v_p2_count v_p2_sizes v_p2_kinds).bind (fun t_21 => (zb t_21.1 (some (t_21.1, t_21.2.1, v_isNegative, v_p2_count, v_p2_names, v_p2_spans, v_p2_costs, v_p2_sizes, t_21.2.2, v_p2_firsts, v_p2_seconds, v_p2_numbers))))) else (if v_due = 6 then (if v_p1_kind = 8 then ((f_Reader_takesMinus v_due v_isNegative).bind (fun t_27 => (zb t_27.1 (some (t_27.1, t_27.2.1, t_27.2.2, v_p2_count, v_p2_names, v_p2_spans, v_p2_costs, v_p2_sizes, v_p2_kinds, v_p2_firsts, v_p2_seconds, v_p2_numbers))))) else ((f_Reader_takesNumber v_due v_isNegative v_p1_kind v_p1_amount v_p2_count v_p2_sizes v_p2_numbers).bind (fun t_25 => (zb t_25.1 (some (t_25.1, t_25.2.1, v_isNegative, v_p2_count, v_p2_names, v_p2_spans, v_p2_costs, t_25.2.2.1, v_p2_kinds, v_p2_firsts, v_p2_seconds, t_25.2.2.2)))))) else (if v_due = 7 then ((f_Reader_takesNumber v_due v_isNegative v_p1_kind v_p1_amount v_p2_count v_p2_sizes v_p2_numbers).bind (fun t_30 => (zb t_30.1 (some (t_30.1, t_30.2.1, v_isNegative, v_p2_count, v_p2_names, v_p2_spans, v_p2_costs, t_30.2.2.1, v_p2_kinds, v_p2_firsts, v_p2_seconds, t_30.2.2.2))))) else (if v_due = 8 then ((f_Reader_takesWatchedPoint v_due v_p1_kind v_p1_amount v_p2_count v_p2_sizes v_p2_firsts).bind (fun t_33 => (zb t_33.1 (some (t_33.1, t_33.2.1, v_isNegative, v_p2_count, v_p2_names, v_p2_spans, v_p2_costs, v_p2_sizes, v_p2_kinds, t_33.2.2, v_p2_seconds, v_p2_numbers))))) else (if v_due = 9 then ((f_Reader_takesAndOrFor v_due v_p1_kind v_p2_count v_p2_sizes).bind (fun t_36 => (zb t_36.1 (some (t_36.1, t_36.2, v_isNegative, v_p2_count, v_p2_names, v_p2_spans, v_p2_costs, v_p2_sizes, v_p2_kinds, v_p2_firsts, v_p2_seconds, v_p2_numbers))))) else (if v_due = 10 then ((f_Reader_takesSpan v_due v_p1_kind v_p1_amount v_p2_count v_p2_spans).bind (fun t_39 => (zb t_39.1 (some (t_39.1, t_39.2.1, v_isNegative, v_p2_count, v_p2_names, t_39.2.2, v_p2_costs, v_p2_sizes, v_p2_kinds, v_p2_firsts, v_p2_seconds, v_p2_numbers))))) else (if v_due = 11 then (if v_p1_kind = 10 then ((f_Reader_makeDue v_due 12).bind (fun t_43 => (if t_43.1 = 0 then (some (0, t_43.2, v_isNegative, v_p2_count, v_p2_names, v_p2_spans, v_p2_costs, v_p2_sizes, v_p2_kinds, v_p2_firsts, v_p2_seconds, v_p2_numbers)) else (some (1, t_43.2, v_isNegative, v_p2_count, v_p2_names, v_p2_spans, v_p2_costs, v_p2_sizes, v_p2_kinds, v_p2_firsts, v_p2_seconds, v_p2_numbers))))) else (some (0, v_due, v_isNegative, v_p2_count, v_p2_names, v_p2_spans, v_p2_costs, v_p2_sizes, v_p2_kinds, v_p2_firsts, v_p2_seconds, v_p2_numbers))) else (if v_due = 12 then ((f_Reader_takesCost v_due v_p1_kind v_p1_amount v_p2_count v_p2_costs).bind (fun t_46 => (zb t_46.1 (some (t_46.1, t_46.2.1, v_isNegative, v_p2_count, v_p2_names, v_p2_spans, t_46.2.2, v_p2_sizes, v_p2_kinds, v_p2_firsts, v_p2_seconds, v_p2_numbers))))) else (if v_due = 13 then ((f_Reader_takesSemicolon v_due v_p1_kind v_p2_count).bind (fun t_49 => (zb t_49.1 (some (t_49.1, t_49.2.1, v_isNegative, t_49.2.2, v_p2_names, v_p2_spans, v_p2_costs, v_p2_sizes, v_p2_kinds, v_p2_firsts, v_p2_seconds, v_p2_numbers))))) else (some (0, v_due, v_isNegative, v_p2_count, v_p2_names, v_p2_spans, v_p2_costs, v_p2_sizes, v_p2_kinds, v_p2_firsts, v_p2_seconds, v_p2_numbers)))))))))))))))) = some t := h
def L_Reader_read_16 (fu : Nat) (v_p1_size : Int32) (v_p1_signs : Nat → Int32) (k_49 : Int32 → (Int32) → (Int32) → (Int32) → (Int32) → (Int32) → (Int64) → (Int32) → (Nat → Int64) → (Nat → Int32) → (Nat → Int32) → (Nat → Int32) → (Nat → Int32) → (Nat → Int32) → (Nat → Int32) → (Nat → Int32) → Option (Int32 × Int32 × Int32 × Int32 × Int32 × Int32 × Int64 × Int32 × (Nat → Int64) × (Nat → Int32) × (Nat → Int32) × (Nat → Int32) × (Nat → Int32) × (Nat → Int32) × (Nat → Int32) × (Nat → Int32))) : Nat → Int32 → Int32 → Int32 → Int32 → Int32 → Int32 → Int64 → Int32 → (Nat → Int64) → (Nat → Int32) → (Nat → Int32) → (Nat → Int32) → (Nat → Int32) → (Nat → Int32) → (Nat → Int32) → (Nat → Int32) → Option (Int32 × Int32 × Int32 × Int32 × Int32 × Int32 × Int64 × Int32 × (Nat → Int64) × (Nat → Int32) × (Nat → Int32) × (Nat → Int32) × (Nat → Int32) × (Nat → Int32) × (Nat → Int32) × (Nat → Int32))
  | 0, _, _, _, _, _, _, _, _, _, _, _, _, _, _, _, _ => none
  | n + 1, l3_16, v_due_16, v_isNegative_16, v_p1_at_16, v_p1_kind_16, v_p1_amount_16, v_p1_letters_16, v_p2_count_16, v_p2_names_16, v_p2_spans_16, v_p2_costs_16, v_p2_sizes_16, v_p2_kinds_16, v_p2_firsts_16, v_p2_seconds_16, v_p2_numbers_16 => (if 1000 ≤ l3_16 then (k_49 l3_16 v_due_16 v_isNegative_16 v_p1_at_16 v_p1_kind_16 v_p1_amount_16 v_p1_letters_16 v_p2_count_16 v_p2_names_16 v_p2_spans_16 v_p2_costs_16 v_p2_sizes_16 v_p2_kinds_16 v_p2_firsts_16 v_p2_seconds_16 v_p2_numbers_16) else (if v_p1_kind_16 = 0 then (k_49 l3_16 v_due_16 v_isNegative_16 v_p1_at_16 v_p1_kind_16 v_p1_amount_16 v_p1_letters_16 v_p2_count_16 v_p2_names_16 v_p2_spans_16 v_p2_costs_16 v_p2_sizes_16 v_p2_kinds_16 v_p2_firsts_16 v_p2_seconds_16 v_p2_numbers_16) else ((f_Reader_takes fu v_due_16 v_isNegative_16 v_p1_kind_16 v_p1_amount_16 v_p1_letters_16 v_p2_count_16 v_p2_names_16 v_p2_spans_16 v_p2_costs_16 v_p2_sizes_16 v_p2_kinds_16 v_p2_firsts_16 v_p2_seconds_16 v_p2_numbers_16).bind (fun t_4 => (if t_4.1 = 0 then (k_49 l3_16 t_4.2.1 t_4.2.2.1 v_p1_at_16 v_p1_kind_16 v_p1_amount_16 v_p1_letters_16 t_4.2.2.2.1 t_4.2.2.2.2.1 t_4.2.2.2.2.2.1 t_4.2.2.2.2.2.2.1 t_4.2.2.2.2.2.2.2.1 t_4.2.2.2.2.2.2.2.2.1 t_4.2.2.2.2.2.2.2.2.2.1 t_4.2.2.2.2.2.2.2.2.2.2.1 t_4.2.2.2.2.2.2.2.2.2.2.2) else ((f_Text_readNext fu v_p1_size v_p1_at_16 v_p1_kind_16 v_p1_amount_16 v_p1_letters_16 v_p1_signs).bind (fun t_6 => ((L_Reader_read_16 fu v_p1_size v_p1_signs k_49 n) (l3_16 + 1) t_4.2.1 t_4.2.2.1 t_6.1 t_6.2.1 t_6.2.2.1 t_6.2.2.2 t_4.2.2.2.1 t_4.2.2.2.2.1 t_4.2.2.2.2.2.1 t_4.2.2.2.2.2.2.1 t_4.2.2.2.2.2.2.2.1 t_4.2.2.2.2.2.2.2.2.1 t_4.2.2.2.2.2.2.2.2.2.1 t_4.2.2.2.2.2.2.2.2.2.2.1 t_4.2.2.2.2.2.2.2.2.2.2.2))))))))
theorem L_Reader_read_16_z {fu : Nat} {v_p1_size : Int32} {v_p1_signs : Nat → Int32} {k_49 : Int32 → (Int32) → (Int32) → (Int32) → (Int32) → (Int32) → (Int64) → (Int32) → (Nat → Int64) → (Nat → Int32) → (Nat → Int32) → (Nat → Int32) → (Nat → Int32) → (Nat → Int32) → (Nat → Int32) → (Nat → Int32) → Option (Int32 × Int32 × Int32 × Int32 × Int32 × Int32 × Int64 × Int32 × (Nat → Int64) × (Nat → Int32) × (Nat → Int32) × (Nat → Int32) × (Nat → Int32) × (Nat → Int32) × (Nat → Int32) × (Nat → Int32))} {l3_16 : Int32} {v_due_16 : Int32} {v_isNegative_16 : Int32} {v_p1_at_16 : Int32} {v_p1_kind_16 : Int32} {v_p1_amount_16 : Int32} {v_p1_letters_16 : Int64} {v_p2_count_16 : Int32} {v_p2_names_16 : Nat → Int64} {v_p2_spans_16 : Nat → Int32} {v_p2_costs_16 : Nat → Int32} {v_p2_sizes_16 : Nat → Int32} {v_p2_kinds_16 : Nat → Int32} {v_p2_firsts_16 : Nat → Int32} {v_p2_seconds_16 : Nat → Int32} {v_p2_numbers_16 : Nat → Int32} {t : Int32 × Int32 × Int32 × Int32 × Int32 × Int32 × Int64 × Int32 × (Nat → Int64) × (Nat → Int32) × (Nat → Int32) × (Nat → Int32) × (Nat → Int32) × (Nat → Int32) × (Nat → Int32) × (Nat → Int32)} (h : L_Reader_read_16 fu v_p1_size v_p1_signs k_49 0 l3_16 v_due_16 v_isNegative_16 v_p1_at_16 v_p1_kind_16 v_p1_amount_16 v_p1_letters_16 v_p2_count_16 v_p2_names_16 v_p2_spans_16 v_p2_costs_16 v_p2_sizes_16 v_p2_kinds_16 v_p2_firsts_16 v_p2_seconds_16 v_p2_numbers_16 = some t) : False := by cases (show (none : Option (Int32 × Int32 × Int32 × Int32 × Int32 × Int32 × Int64 × Int32 × (Nat → Int64) × (Nat → Int32) × (Nat → Int32) × (Nat → Int32) × (Nat → Int32) × (Nat → Int32) × (Nat → Int32) × (Nat → Int32))) = some t from h)
theorem L_Reader_read_16_u {fu : Nat} {v_p1_size : Int32} {v_p1_signs : Nat → Int32} {k_49 : Int32 → (Int32) → (Int32) → (Int32) → (Int32) → (Int32) → (Int64) → (Int32) → (Nat → Int64) → (Nat → Int32) → (Nat → Int32) → (Nat → Int32) → (Nat → Int32) → (Nat → Int32) → (Nat → Int32) → (Nat → Int32) → Option (Int32 × Int32 × Int32 × Int32 × Int32 × Int32 × Int64 × Int32 × (Nat → Int64) × (Nat → Int32) × (Nat → Int32) × (Nat → Int32) × (Nat → Int32) × (Nat → Int32) × (Nat → Int32) × (Nat → Int32))} {n : Nat} {l3_16 : Int32} {v_due_16 : Int32} {v_isNegative_16 : Int32} {v_p1_at_16 : Int32} {v_p1_kind_16 : Int32} {v_p1_amount_16 : Int32} {v_p1_letters_16 : Int64} {v_p2_count_16 : Int32} {v_p2_names_16 : Nat → Int64} {v_p2_spans_16 : Nat → Int32} {v_p2_costs_16 : Nat → Int32} {v_p2_sizes_16 : Nat → Int32} {v_p2_kinds_16 : Nat → Int32} {v_p2_firsts_16 : Nat → Int32} {v_p2_seconds_16 : Nat → Int32} {v_p2_numbers_16 : Nat → Int32} {t : Int32 × Int32 × Int32 × Int32 × Int32 × Int32 × Int64 × Int32 × (Nat → Int64) × (Nat → Int32) × (Nat → Int32) × (Nat → Int32) × (Nat → Int32) × (Nat → Int32) × (Nat → Int32) × (Nat → Int32)} (h : L_Reader_read_16 fu v_p1_size v_p1_signs k_49 (n + 1) l3_16 v_due_16 v_isNegative_16 v_p1_at_16 v_p1_kind_16 v_p1_amount_16 v_p1_letters_16 v_p2_count_16 v_p2_names_16 v_p2_spans_16 v_p2_costs_16 v_p2_sizes_16 v_p2_kinds_16 v_p2_firsts_16 v_p2_seconds_16 v_p2_numbers_16 = some t) : (if 1000 ≤ l3_16 then (k_49 l3_16 v_due_16 v_isNegative_16 v_p1_at_16 v_p1_kind_16 v_p1_amount_16 v_p1_letters_16 v_p2_count_16 v_p2_names_16 v_p2_spans_16 v_p2_costs_16 v_p2_sizes_16 v_p2_kinds_16 v_p2_firsts_16 v_p2_seconds_16 v_p2_numbers_16) else (if v_p1_kind_16 = 0 then (k_49 l3_16 v_due_16 v_isNegative_16 v_p1_at_16 v_p1_kind_16 v_p1_amount_16 v_p1_letters_16 v_p2_count_16 v_p2_names_16 v_p2_spans_16 v_p2_costs_16 v_p2_sizes_16 v_p2_kinds_16 v_p2_firsts_16 v_p2_seconds_16 v_p2_numbers_16) else ((f_Reader_takes fu v_due_16 v_isNegative_16 v_p1_kind_16 v_p1_amount_16 v_p1_letters_16 v_p2_count_16 v_p2_names_16 v_p2_spans_16 v_p2_costs_16 v_p2_sizes_16 v_p2_kinds_16 v_p2_firsts_16 v_p2_seconds_16 v_p2_numbers_16).bind (fun t_4 => (if t_4.1 = 0 then (k_49 l3_16 t_4.2.1 t_4.2.2.1 v_p1_at_16 v_p1_kind_16 v_p1_amount_16 v_p1_letters_16 t_4.2.2.2.1 t_4.2.2.2.2.1 t_4.2.2.2.2.2.1 t_4.2.2.2.2.2.2.1 t_4.2.2.2.2.2.2.2.1 t_4.2.2.2.2.2.2.2.2.1 t_4.2.2.2.2.2.2.2.2.2.1 t_4.2.2.2.2.2.2.2.2.2.2.1 t_4.2.2.2.2.2.2.2.2.2.2.2) else ((f_Text_readNext fu v_p1_size v_p1_at_16 v_p1_kind_16 v_p1_amount_16 v_p1_letters_16 v_p1_signs).bind (fun t_6 => ((L_Reader_read_16 fu v_p1_size v_p1_signs k_49 n) (l3_16 + 1) t_4.2.1 t_4.2.2.1 t_6.1 t_6.2.1 t_6.2.2.1 t_6.2.2.2 t_4.2.2.2.1 t_4.2.2.2.2.1 t_4.2.2.2.2.2.1 t_4.2.2.2.2.2.2.1 t_4.2.2.2.2.2.2.2.1 t_4.2.2.2.2.2.2.2.2.1 t_4.2.2.2.2.2.2.2.2.2.1 t_4.2.2.2.2.2.2.2.2.2.2.1 t_4.2.2.2.2.2.2.2.2.2.2.2)))))))) = some t := h
def f_Reader_read (fu : Nat) (v_due : Int32) (v_isNegative : Int32) (v_p1_size : Int32) (v_p1_at : Int32) (v_p1_kind : Int32) (v_p1_amount : Int32) (v_p1_letters : Int64) (v_p1_signs : Nat → Int32) (v_p2_count : Int32) (v_p2_names : Nat → Int64) (v_p2_spans : Nat → Int32) (v_p2_costs : Nat → Int32) (v_p2_sizes : Nat → Int32) (v_p2_kinds : Nat → Int32) (v_p2_firsts : Nat → Int32) (v_p2_seconds : Nat → Int32) (v_p2_numbers : Nat → Int32) : Option (Int32 × Int32 × Int32 × Int32 × Int32 × Int32 × Int64 × Int32 × (Nat → Int64) × (Nat → Int32) × (Nat → Int32) × (Nat → Int32) × (Nat → Int32) × (Nat → Int32) × (Nat → Int32) × (Nat → Int32)) :=
  ((f_Text_readFirst fu v_p1_size v_p1_at v_p1_kind v_p1_amount v_p1_letters v_p1_signs).bind (fun t_1 => (L_Reader_read_16 fu v_p1_size v_p1_signs (fun (l3_16x7 : Int32) (v_due_16x8 : Int32) (v_isNegative_16x9 : Int32) (v_p1_at_16x10 : Int32) (v_p1_kind_16x11 : Int32) (v_p1_amount_16x12 : Int32) (v_p1_letters_16x13 : Int64) (v_p2_count_16x14 : Int32) (v_p2_names_16x15 : Nat → Int64) (v_p2_spans_16x16 : Nat → Int32) (v_p2_costs_16x17 : Nat → Int32) (v_p2_sizes_16x18 : Nat → Int32) (v_p2_kinds_16x19 : Nat → Int32) (v_p2_firsts_16x20 : Nat → Int32) (v_p2_seconds_16x21 : Nat → Int32) (v_p2_numbers_16x22 : Nat → Int32) => (if v_p1_kind_16x11 = 0 then (if v_due_16x8 = 0 then (some (v_p2_count_16x14, v_due_16x8, v_isNegative_16x9, v_p1_at_16x10, v_p1_kind_16x11, v_p1_amount_16x12, v_p1_letters_16x13, v_p2_count_16x14, v_p2_names_16x15, v_p2_spans_16x16, v_p2_costs_16x17, v_p2_sizes_16x18, v_p2_kinds_16x19, v_p2_firsts_16x20, v_p2_seconds_16x21, v_p2_numbers_16x22)) else (some (((-1)) - l3_16x7, v_due_16x8, v_isNegative_16x9, v_p1_at_16x10, v_p1_kind_16x11, v_p1_amount_16x12, v_p1_letters_16x13, v_p2_count_16x14, v_p2_names_16x15, v_p2_spans_16x16, v_p2_costs_16x17, v_p2_sizes_16x18, v_p2_kinds_16x19, v_p2_firsts_16x20, v_p2_seconds_16x21, v_p2_numbers_16x22))) else (some (((-1)) - l3_16x7, v_due_16x8, v_isNegative_16x9, v_p1_at_16x10, v_p1_kind_16x11, v_p1_amount_16x12, v_p1_letters_16x13, v_p2_count_16x14, v_p2_names_16x15, v_p2_spans_16x16, v_p2_costs_16x17, v_p2_sizes_16x18, v_p2_kinds_16x19, v_p2_firsts_16x20, v_p2_seconds_16x21, v_p2_numbers_16x22)))) fu 0 0 v_isNegative t_1.1 t_1.2.1 t_1.2.2.1 t_1.2.2.2 0 v_p2_names v_p2_spans v_p2_costs v_p2_sizes v_p2_kinds v_p2_firsts v_p2_seconds v_p2_numbers)))
theorem f_Reader_read_u {fu : Nat} {v_due : Int32} {v_isNegative : Int32} {v_p1_size : Int32} {v_p1_at : Int32} {v_p1_kind : Int32} {v_p1_amount : Int32} {v_p1_letters : Int64} {v_p1_signs : Nat → Int32} {v_p2_count : Int32} {v_p2_names : Nat → Int64} {v_p2_spans : Nat → Int32} {v_p2_costs : Nat → Int32} {v_p2_sizes : Nat → Int32} {v_p2_kinds : Nat → Int32} {v_p2_firsts : Nat → Int32} {v_p2_seconds : Nat → Int32} {v_p2_numbers : Nat → Int32} {t : Int32 × Int32 × Int32 × Int32 × Int32 × Int32 × Int64 × Int32 × (Nat → Int64) × (Nat → Int32) × (Nat → Int32) × (Nat → Int32) × (Nat → Int32) × (Nat → Int32) × (Nat → Int32) × (Nat → Int32)} (h : f_Reader_read fu v_due v_isNegative v_p1_size v_p1_at v_p1_kind v_p1_amount v_p1_letters v_p1_signs v_p2_count v_p2_names v_p2_spans v_p2_costs v_p2_sizes v_p2_kinds v_p2_firsts v_p2_seconds v_p2_numbers = some t) : ((f_Text_readFirst fu v_p1_size v_p1_at v_p1_kind v_p1_amount v_p1_letters v_p1_signs).bind (fun t_1 => (L_Reader_read_16 fu v_p1_size v_p1_signs (fun (l3_16x7 : Int32) (v_due_16x8 : Int32) (v_isNegative_16x9 : Int32) (v_p1_at_16x10 : Int32) (v_p1_kind_16x11 : Int32) (v_p1_amount_16x12 : Int32) (v_p1_letters_16x13 : Int64) (v_p2_count_16x14 : Int32) (v_p2_names_16x15 : Nat → Int64) (v_p2_spans_16x16 : Nat → Int32) (v_p2_costs_16x17 : Nat → Int32) (v_p2_sizes_16x18 : Nat → Int32) (v_p2_kinds_16x19 : Nat → Int32) (v_p2_firsts_16x20 : Nat → Int32) (v_p2_seconds_16x21 : Nat → Int32) (v_p2_numbers_16x22 : Nat → Int32) => (if v_p1_kind_16x11 = 0 then (if v_due_16x8 = 0 then (some (v_p2_count_16x14, v_due_16x8, v_isNegative_16x9, v_p1_at_16x10, v_p1_kind_16x11, v_p1_amount_16x12, v_p1_letters_16x13, v_p2_count_16x14, v_p2_names_16x15, v_p2_spans_16x16, v_p2_costs_16x17, v_p2_sizes_16x18, v_p2_kinds_16x19, v_p2_firsts_16x20, v_p2_seconds_16x21, v_p2_numbers_16x22)) else (some (((-1)) - l3_16x7, v_due_16x8, v_isNegative_16x9, v_p1_at_16x10, v_p1_kind_16x11, v_p1_amount_16x12, v_p1_letters_16x13, v_p2_count_16x14, v_p2_names_16x15, v_p2_spans_16x16, v_p2_costs_16x17, v_p2_sizes_16x18, v_p2_kinds_16x19, v_p2_firsts_16x20, v_p2_seconds_16x21, v_p2_numbers_16x22))) else (some (((-1)) - l3_16x7, v_due_16x8, v_isNegative_16x9, v_p1_at_16x10, v_p1_kind_16x11, v_p1_amount_16x12, v_p1_letters_16x13, v_p2_count_16x14, v_p2_names_16x15, v_p2_spans_16x16, v_p2_costs_16x17, v_p2_sizes_16x18, v_p2_kinds_16x19, v_p2_firsts_16x20, v_p2_seconds_16x21, v_p2_numbers_16x22)))) fu 0 0 v_isNegative t_1.1 t_1.2.1 t_1.2.2.1 t_1.2.2.2 0 v_p2_names v_p2_spans v_p2_costs v_p2_sizes v_p2_kinds v_p2_firsts v_p2_seconds v_p2_numbers))) = some t := h
def rm_Reader_makeDue : Room := { frames := 0, cells := 0, slots := 0, locals := 0 }
set_option maxHeartbeats 4000000 in
set_option maxRecDepth 100000 in
theorem c_Reader_makeDue (l : Launch) (dC : Nat → ClassId) (dI : Nat → Nat → Nat) (cI cL cC : ClassId) (h_this : Nat) (sz : Nat) (v_due : Int32) (v_isNegative : Int32) (p1 : Int32) (t : Int32 × Int32) (hf : f_Reader_makeDue v_due p1 = some t) : Met l y_Reader_makeDue (Cond.code y_Reader_makeDue prog_3_method_4_code 2 (some .boolean) :: xT) rm_Reader_makeDue (va_Pc [.ref h_this, .int p1] (xP (dC, dI) (xTy cI cL cC) [(h_this, .inr (1, [.int v_due, .int v_isNegative]))] sz)) (xQ (dC, dI) [(h_this, .inr (1, [.int t.2, .int v_isNegative]))] (va_A [(h_this, .inr (1, [.int v_due, .int v_isNegative]))] sz) (some (.int t.1))) 0 0 (va_A [(h_this, .inr (1, [.int v_due, .int v_isNegative]))] sz) := by
  refine Met.ofW (cc := prog_3_method_4_code) (maxL := 2) (ret := (some .boolean)) (by decide) rfl ?_
  intro p e s m args below meth c s₁ B hml hv
  obtain ⟨hargs, hsz, hP, hK, hN, hD0⟩ := hv
  have hx := B.exec
  have hb := B.bytes
  have hr := B.returns
  have hT : ∀ w ∈ xT, w.before args s = true := fun w hw => atoms_spec (ws := Cond.code y_Reader_makeDue prog_3_method_4_code 2 (some .boolean) :: xT) B.pre w (List.mem_cons_of_mem _ hw)
  have hown : s.vm.findClass R_Reader = some m.cls := findClass_of_methodNamed B.named
  have hlocks := B.notSynchronized
  subst hsz
  have hD := hD0.self (sz := s.heap.size)
  generalize hAe : va_A [(h_this, .inr (1, [.int v_due, .int v_isNegative]))] s.heap.size = A at hD ⊢
  have hA : ∀ q : Nat, s.heap.size ≤ q → A q := fun q h => by rw [← hAe]; exact Or.inr h
  have hS : va_S A s.heap s.heap [] := va_S.rf
  have hP : va_P (dC, dI) vwCl [(h_this, .inr (1, [.int v_due, .int v_isNegative]))] s.heap := hP
  have hl := lv_entry ([.ref h_this, .int p1]) (n := 2) (Nat.le_of_ble_eq_true rfl)
  rw [show entryFrame m args 2 = entryFrame m ([.ref h_this, .int p1] : List Value).toArray 2 from by rw [hargs], lg_entry_eq]
  generalize (lg_sl ([.ref h_this, .int p1]) ++ List.replicate (2 - (lg_sl ([.ref h_this, .int p1])).length) Slot.unset).toArray = ls at hl ⊢
  have hl : lv_has ls 2 [(0, .ref h_this), (1, .int p1)] := hl
  obtain ⟨Q, hQ⟩ : ∃ Q, Q = MQ below (xQ (dC, dI) [(h_this, .inr (1, [.int t.2, .int v_isNegative]))] A (some (.int t.1))) args s 0 0 A := ⟨_, rfl⟩
  rw [← hQ]
  show W p l e rm_Reader_makeDue s m args below meth c s.heap [] 0 0 Q _
  obtain ⟨H, hH⟩ : ∃ H, H = s.heap := ⟨_, rfl⟩
  obtain ⟨locs, hlocs⟩ : ∃ L : List Loc, L = [] := ⟨_, rfl⟩
  rw [← hlocs] at hS ⊢
  have hS : va_S A s.heap H locs := by rw [hH]; exact hS
  rw [← hH] at hP ⊢
  replace hf := f_Reader_makeDue_u hf
  refine lv_aload_n hx hb d_Reader_makeDue_0 rfl (lv_at hl 0 rfl) ?_
  refine lv_iload_n hx hb d_Reader_makeDue_1 rfl (lv_at hl 1 rfl) ?_
  refine va_put (D := (dC, dI)) (ci := 1) (v := .int p1) (ty := .int) (C := R_Reader) (T := T_Reader) (N := 2) hx hb hT i_Reader ty_Reader ty_Reader_ok n_Reader hown hK hP hD hS 0 rfl rfl 0 (by decide) (hT _ kF_Reader_11) (fun _ h9 => h9) rfl (by decide +kernel) rfl rfl (Nat.le_of_ble_eq_true rfl) d_Reader_makeDue_2 (fun H locs hP hD hS => ?_)
  have hP : va_P (dC, dI) vwCl [(h_this, .inr (1, [.int p1, .int v_isNegative]))] H := hP
  have hD : va_D A [(h_this, .inr (1, [.int p1, .int v_isNegative]))] := hD
  refine lv_iconst (v := 1) hx hb d_Reader_makeDue_5 (by decide) ?_
  rw [hQ, ← Option.some.inj hf]
  exact W.zret (ty := .boolean) hx hb hr rfl (fun t9 ht9 hW9 => ⟨rfl, by rw [ht9]; exact hP, hS.F ht9⟩) hS.2.2 d_Reader_makeDue_6
def rm_Reader_takesSemicolon : Room := { frames := 1, cells := 0, slots := 0, locals := 21 }
set_option maxHeartbeats 4000000 in
set_option maxRecDepth 100000 in
theorem c_Reader_takesSemicolon (l : Launch) (dC : Nat → ClassId) (dI : Nat → Nat → Nat) (cI cL cC : ClassId) (h_this h_p1 h_p2 h_p1_signs h_p2_names h_p2_spans h_p2_costs h_p2_sizes h_p2_kinds h_p2_firsts h_p2_seconds h_p2_numbers : Nat) (sz : Nat) (v_due : Int32) (v_isNegative : Int32) (v_p1_size : Int32) (v_p1_at : Int32) (v_p1_kind : Int32) (v_p1_amount : Int32) (v_p1_letters : Int64) (v_p2_count : Int32) (t : Int32 × Int32 × Int32) (hf : f_Reader_takesSemicolon v_due v_p1_kind v_p2_count = some t) : Met l y_Reader_takesSemicolon (Cond.code y_Reader_takesSemicolon prog_3_method_15_code 3 (some .boolean) :: xT) rm_Reader_takesSemicolon (va_Pc [.ref h_this, .ref h_p1, .ref h_p2] (xP (dC, dI) (xTy cI cL cC) [(h_this, .inr (1, [.int v_due, .int v_isNegative])), (h_p1, .inr (5, [.ref h_p1_signs, .int v_p1_size, .int v_p1_at, .int v_p1_kind, .int v_p1_amount, .long v_p1_letters])), (h_p2, .inr (3, [.ref h_p2_names, .ref h_p2_spans, .ref h_p2_costs, .ref h_p2_sizes, .ref h_p2_kinds, .ref h_p2_firsts, .ref h_p2_seconds, .ref h_p2_numbers, .int v_p2_count]))] sz)) (xQ (dC, dI) [(h_this, .inr (1, [.int t.2.1, .int v_isNegative])), (h_p1, .inr (5, [.ref h_p1_signs, .int v_p1_size, .int v_p1_at, .int v_p1_kind, .int v_p1_amount, .long v_p1_letters])), (h_p2, .inr (3, [.ref h_p2_names, .ref h_p2_spans, .ref h_p2_costs, .ref h_p2_sizes, .ref h_p2_kinds, .ref h_p2_firsts, .ref h_p2_seconds, .ref h_p2_numbers, .int t.2.2]))] (va_A [(h_this, .inr (1, [.int v_due, .int v_isNegative])), (h_p1, .inr (5, [.ref h_p1_signs, .int v_p1_size, .int v_p1_at, .int v_p1_kind, .int v_p1_amount, .long v_p1_letters])), (h_p2, .inr (3, [.ref h_p2_names, .ref h_p2_spans, .ref h_p2_costs, .ref h_p2_sizes, .ref h_p2_kinds, .ref h_p2_firsts, .ref h_p2_seconds, .ref h_p2_numbers, .int v_p2_count]))] sz) (some (.int t.1))) 0 0 (va_A [(h_this, .inr (1, [.int v_due, .int v_isNegative])), (h_p1, .inr (5, [.ref h_p1_signs, .int v_p1_size, .int v_p1_at, .int v_p1_kind, .int v_p1_amount, .long v_p1_letters])), (h_p2, .inr (3, [.ref h_p2_names, .ref h_p2_spans, .ref h_p2_costs, .ref h_p2_sizes, .ref h_p2_kinds, .ref h_p2_firsts, .ref h_p2_seconds, .ref h_p2_numbers, .int v_p2_count]))] sz) := by
  refine Met.ofW (cc := prog_3_method_15_code) (maxL := 3) (ret := (some .boolean)) (by decide) rfl ?_
  intro p e s m args below meth c s₁ B hml hv
  obtain ⟨hargs, hsz, hP, hK, hN, hD0⟩ := hv
  have hx := B.exec
  have hb := B.bytes
  have hr := B.returns
  have hT : ∀ w ∈ xT, w.before args s = true := fun w hw => atoms_spec (ws := Cond.code y_Reader_takesSemicolon prog_3_method_15_code 3 (some .boolean) :: xT) B.pre w (List.mem_cons_of_mem _ hw)
  have hown : s.vm.findClass R_Reader = some m.cls := findClass_of_methodNamed B.named
  have hlocks := B.notSynchronized
  subst hsz
  have hD := hD0.self (sz := s.heap.size)
  generalize hAe : va_A [(h_this, .inr (1, [.int v_due, .int v_isNegative])), (h_p1, .inr (5, [.ref h_p1_signs, .int v_p1_size, .int v_p1_at, .int v_p1_kind, .int v_p1_amount, .long v_p1_letters])), (h_p2, .inr (3, [.ref h_p2_names, .ref h_p2_spans, .ref h_p2_costs, .ref h_p2_sizes, .ref h_p2_kinds, .ref h_p2_firsts, .ref h_p2_seconds, .ref h_p2_numbers, .int v_p2_count]))] s.heap.size = A at hD ⊢
  have hA : ∀ q : Nat, s.heap.size ≤ q → A q := fun q h => by rw [← hAe]; exact Or.inr h
  have hS : va_S A s.heap s.heap [] := va_S.rf
  have hP : va_P (dC, dI) vwCl [(h_this, .inr (1, [.int v_due, .int v_isNegative])), (h_p1, .inr (5, [.ref h_p1_signs, .int v_p1_size, .int v_p1_at, .int v_p1_kind, .int v_p1_amount, .long v_p1_letters])), (h_p2, .inr (3, [.ref h_p2_names, .ref h_p2_spans, .ref h_p2_costs, .ref h_p2_sizes, .ref h_p2_kinds, .ref h_p2_firsts, .ref h_p2_seconds, .ref h_p2_numbers, .int v_p2_count]))] s.heap := hP
  have hl := lv_entry ([.ref h_this, .ref h_p1, .ref h_p2]) (n := 3) (Nat.le_of_ble_eq_true rfl)
  rw [show entryFrame m args 3 = entryFrame m ([.ref h_this, .ref h_p1, .ref h_p2] : List Value).toArray 3 from by rw [hargs], lg_entry_eq]
  generalize (lg_sl ([.ref h_this, .ref h_p1, .ref h_p2]) ++ List.replicate (3 - (lg_sl ([.ref h_this, .ref h_p1, .ref h_p2])).length) Slot.unset).toArray = ls at hl ⊢
  have hl : lv_has ls 3 [(0, .ref h_this), (1, .ref h_p1), (2, .ref h_p2)] := hl
  obtain ⟨Q, hQ⟩ : ∃ Q, Q = MQ below (xQ (dC, dI) [(h_this, .inr (1, [.int t.2.1, .int v_isNegative])), (h_p1, .inr (5, [.ref h_p1_signs, .int v_p1_size, .int v_p1_at, .int v_p1_kind, .int v_p1_amount, .long v_p1_letters])), (h_p2, .inr (3, [.ref h_p2_names, .ref h_p2_spans, .ref h_p2_costs, .ref h_p2_sizes, .ref h_p2_kinds, .ref h_p2_firsts, .ref h_p2_seconds, .ref h_p2_numbers, .int t.2.2]))] A (some (.int t.1))) args s 0 0 A := ⟨_, rfl⟩
  rw [← hQ]
  show W p l e rm_Reader_takesSemicolon s m args below meth c s.heap [] 0 0 Q _
  obtain ⟨H, hH⟩ : ∃ H, H = s.heap := ⟨_, rfl⟩
  obtain ⟨locs, hlocs⟩ : ∃ L : List Loc, L = [] := ⟨_, rfl⟩
  rw [← hlocs] at hS ⊢
  have hS : va_S A s.heap H locs := by rw [hH]; exact hS
  rw [← hH] at hP ⊢
  replace hf := f_Reader_takesSemicolon_u hf
  refine lv_aload_n hx hb d_Reader_takesSemicolon_0 rfl (lv_at hl 1 rfl) ?_
  refine va_get (D := (dC, dI)) (ci := 5) (v := .int v_p1_kind) (C := R_Text) (T := T_Text) (N := 6) hx hb hT i_Text hown hK hP 1 rfl rfl 3 (by decide) (hT _ kF_Reader_25) (fun _ h9 => h9) rfl d_Reader_takesSemicolon_1 ?_
  refine lv_bipush (v := 7) hx hb d_Reader_takesSemicolon_4 (by decide) ?_
  refine lv_icmp_eq (tgt := 11) hx hb d_Reader_takesSemicolon_6 (by decide) (fun c_1 => ?_) (fun c_1 => ?_)
  · replace hf := o_pos c_1 hf
    refine lv_aload_n hx hb d_Reader_takesSemicolon_11 rfl (lv_at hl 2 rfl) ?_
    refine lv_dup hx hb d_Reader_takesSemicolon_12 rfl ?_
    refine va_get (D := (dC, dI)) (ci := 3) (v := .int v_p2_count) (C := R_RuleSet) (T := T_RuleSet) (N := 9) hx hb hT i_RuleSet hown hK hP 2 rfl rfl 8 (by decide) (hT _ kF_Reader_15) (fun _ h9 => h9) rfl d_Reader_takesSemicolon_13 ?_
    refine lv_iconst (v := 1) hx hb d_Reader_takesSemicolon_16 (by decide) ?_
    refine lv_iadd hx hb d_Reader_takesSemicolon_17 ?_
    refine va_put (D := (dC, dI)) (ci := 3) (v := .int (v_p2_count + 1)) (ty := .int) (C := R_RuleSet) (T := T_RuleSet) (N := 9) hx hb hT i_RuleSet ty_RuleSet ty_RuleSet_ok n_RuleSet hown hK hP hD hS 2 rfl rfl 8 (by decide) (hT _ kF_Reader_15) (fun _ h9 => h9) rfl (by decide +kernel) rfl rfl (Nat.le_of_ble_eq_true rfl) d_Reader_takesSemicolon_18 (fun H locs hP hD hS => ?_)
    have hP : va_P (dC, dI) vwCl [(h_this, .inr (1, [.int v_due, .int v_isNegative])), (h_p1, .inr (5, [.ref h_p1_signs, .int v_p1_size, .int v_p1_at, .int v_p1_kind, .int v_p1_amount, .long v_p1_letters])), (h_p2, .inr (3, [.ref h_p2_names, .ref h_p2_spans, .ref h_p2_costs, .ref h_p2_sizes, .ref h_p2_kinds, .ref h_p2_firsts, .ref h_p2_seconds, .ref h_p2_numbers, .int (v_p2_count + 1)]))] H := hP
    have hD : va_D A [(h_this, .inr (1, [.int v_due, .int v_isNegative])), (h_p1, .inr (5, [.ref h_p1_signs, .int v_p1_size, .int v_p1_at, .int v_p1_kind, .int v_p1_amount, .long v_p1_letters])), (h_p2, .inr (3, [.ref h_p2_names, .ref h_p2_spans, .ref h_p2_costs, .ref h_p2_sizes, .ref h_p2_kinds, .ref h_p2_firsts, .ref h_p2_seconds, .ref h_p2_numbers, .int (v_p2_count + 1)]))] := hD
    refine lv_aload_n hx hb d_Reader_takesSemicolon_21 rfl (lv_at hl 0 rfl) ?_
    refine lv_iconst (v := 0) hx hb d_Reader_takesSemicolon_22 (by decide) ?_
    obtain ⟨t_2, hg_2, hf⟩ := o_bind hf
    refine x_virt (w' := [(h_this, .inr (1, [.int t_2.2, .int v_isNegative])), (h_p1, .inr (5, [.ref h_p1_signs, .int v_p1_size, .int v_p1_at, .int v_p1_kind, .int v_p1_amount, .long v_p1_letters])), (h_p2, .inr (3, [.ref h_p2_names, .ref h_p2_spans, .ref h_p2_costs, .ref h_p2_sizes, .ref h_p2_kinds, .ref h_p2_firsts, .ref h_p2_seconds, .ref h_p2_numbers, .int (v_p2_count + 1)]))]) (As := [.int 0]) (rest := []) hx hb hml hl.1 hown hT hK hN hP hD hS hA (c_Reader_makeDue l dC dI cI cL cC h_this H.size v_due v_isNegative 0 t_2 hg_2) kM_Reader_38 kI_Reader_makeDue kS_134 kN_Reader kC_Reader_makeDue hd_Reader_makeDue rfl 0 rfl rfl rfl ⟨Nat.le_of_ble_eq_true rfl, Nat.le_of_ble_eq_true rfl⟩ rfl rfl ⟨Nat.zero_le _, Nat.zero_le _⟩ rfl (Nat.le_of_ble_eq_true rfl) d_Reader_takesSemicolon_23 [0] rfl rfl [.inr 0, .inl 1, .inl 2] rfl rfl rfl (fun H locs hP hD hS => ?_)
    obtain ⟨hz_3, hf⟩ := o_zb hf
    rw [hQ, ← Option.some.inj hf]
    exact W.zret (ty := .boolean) hx hb hr hz_3 (fun t9 ht9 hW9 => ⟨rfl, by rw [ht9]; exact hP, hS.F ht9⟩) hS.2.2 d_Reader_takesSemicolon_26
  · replace hf := o_neg c_1 hf
    refine lv_iconst (v := 0) hx hb d_Reader_takesSemicolon_9 (by decide) ?_
    rw [hQ, ← Option.some.inj hf]
    exact W.zret (ty := .boolean) hx hb hr rfl (fun t9 ht9 hW9 => ⟨rfl, by rw [ht9]; exact hP, hS.F ht9⟩) hS.2.2 d_Reader_takesSemicolon_10
def rm_Reader_isRuleNumber : Room := { frames := 0, cells := 0, slots := 0, locals := 0 }
set_option maxHeartbeats 4000000 in
set_option maxRecDepth 100000 in
theorem c_Reader_isRuleNumber (l : Launch) (dC : Nat → ClassId) (dI : Nat → Nat → Nat) (cI cL cC : ClassId) (h_p1 h_p1_signs : Nat) (sz : Nat) (v_p1_size : Int32) (v_p1_at : Int32) (v_p1_kind : Int32) (v_p1_amount : Int32) (v_p1_letters : Int64) (t : Int32) (hf : f_Reader_isRuleNumber v_p1_kind v_p1_amount = some t) : Met l y_Reader_isRuleNumber (Cond.code y_Reader_isRuleNumber prog_3_method_16_code 1 (some .boolean) :: xT) rm_Reader_isRuleNumber (va_Pc [.ref h_p1] (xP (dC, dI) (xTy cI cL cC) [(h_p1, .inr (5, [.ref h_p1_signs, .int v_p1_size, .int v_p1_at, .int v_p1_kind, .int v_p1_amount, .long v_p1_letters]))] sz)) (xQ (dC, dI) [(h_p1, .inr (5, [.ref h_p1_signs, .int v_p1_size, .int v_p1_at, .int v_p1_kind, .int v_p1_amount, .long v_p1_letters]))] (va_A [(h_p1, .inr (5, [.ref h_p1_signs, .int v_p1_size, .int v_p1_at, .int v_p1_kind, .int v_p1_amount, .long v_p1_letters]))] sz) (some (.int t))) 0 0 (va_A [(h_p1, .inr (5, [.ref h_p1_signs, .int v_p1_size, .int v_p1_at, .int v_p1_kind, .int v_p1_amount, .long v_p1_letters]))] sz) := by
  refine Met.ofW (cc := prog_3_method_16_code) (maxL := 1) (ret := (some .boolean)) (by decide) rfl ?_
  intro p e s m args below meth c s₁ B hml hv
  obtain ⟨hargs, hsz, hP, hK, hN, hD0⟩ := hv
  have hx := B.exec
  have hb := B.bytes
  have hr := B.returns
  have hT : ∀ w ∈ xT, w.before args s = true := fun w hw => atoms_spec (ws := Cond.code y_Reader_isRuleNumber prog_3_method_16_code 1 (some .boolean) :: xT) B.pre w (List.mem_cons_of_mem _ hw)
  have hown : s.vm.findClass R_Reader = some m.cls := findClass_of_methodNamed B.named
  have hlocks := B.notSynchronized
  subst hsz
  have hD := hD0.self (sz := s.heap.size)
  generalize hAe : va_A [(h_p1, .inr (5, [.ref h_p1_signs, .int v_p1_size, .int v_p1_at, .int v_p1_kind, .int v_p1_amount, .long v_p1_letters]))] s.heap.size = A at hD ⊢
  have hA : ∀ q : Nat, s.heap.size ≤ q → A q := fun q h => by rw [← hAe]; exact Or.inr h
  have hS : va_S A s.heap s.heap [] := va_S.rf
  have hP : va_P (dC, dI) vwCl [(h_p1, .inr (5, [.ref h_p1_signs, .int v_p1_size, .int v_p1_at, .int v_p1_kind, .int v_p1_amount, .long v_p1_letters]))] s.heap := hP
  have hl := lv_entry ([.ref h_p1]) (n := 1) (Nat.le_of_ble_eq_true rfl)
  rw [show entryFrame m args 1 = entryFrame m ([.ref h_p1] : List Value).toArray 1 from by rw [hargs], lg_entry_eq]
  generalize (lg_sl ([.ref h_p1]) ++ List.replicate (1 - (lg_sl ([.ref h_p1])).length) Slot.unset).toArray = ls at hl ⊢
  have hl : lv_has ls 1 [(0, .ref h_p1)] := hl
  obtain ⟨Q, hQ⟩ : ∃ Q, Q = MQ below (xQ (dC, dI) [(h_p1, .inr (5, [.ref h_p1_signs, .int v_p1_size, .int v_p1_at, .int v_p1_kind, .int v_p1_amount, .long v_p1_letters]))] A (some (.int t))) args s 0 0 A := ⟨_, rfl⟩
  rw [← hQ]
  show W p l e rm_Reader_isRuleNumber s m args below meth c s.heap [] 0 0 Q _
  obtain ⟨H, hH⟩ : ∃ H, H = s.heap := ⟨_, rfl⟩
  obtain ⟨locs, hlocs⟩ : ∃ L : List Loc, L = [] := ⟨_, rfl⟩
  rw [← hlocs] at hS ⊢
  have hS : va_S A s.heap H locs := by rw [hH]; exact hS
  rw [← hH] at hP ⊢
  replace hf := f_Reader_isRuleNumber_u hf
  refine lv_aload_n hx hb d_Reader_isRuleNumber_0 rfl (lv_at hl 0 rfl) ?_
  refine va_get (D := (dC, dI)) (ci := 5) (v := .int v_p1_kind) (C := R_Text) (T := T_Text) (N := 6) hx hb hT i_Text hown hK hP 0 rfl rfl 3 (by decide) (hT _ kF_Reader_25) (fun _ h9 => h9) rfl d_Reader_isRuleNumber_1 ?_
  refine lv_iconst (v := 3) hx hb d_Reader_isRuleNumber_4 (by decide) ?_
  refine lv_icmp_ne (tgt := 30) hx hb d_Reader_isRuleNumber_5 (by decide) (fun c_1 => ?_) (fun c_1 => ?_)
  · replace hf := o_neg c_1 hf
    refine lv_iconst (v := 0) hx hb d_Reader_isRuleNumber_30 (by decide) ?_
    rw [hQ, ← Option.some.inj hf]
    exact W.zret (ty := .boolean) hx hb hr rfl (fun t9 ht9 hW9 => ⟨rfl, by rw [ht9]; exact hP, hS.F ht9⟩) hS.2.2 d_Reader_isRuleNumber_31
  · replace hf := o_pos c_1 hf
    refine lv_aload_n hx hb d_Reader_isRuleNumber_8 rfl (lv_at hl 0 rfl) ?_
    refine va_get (D := (dC, dI)) (ci := 5) (v := .int v_p1_amount) (C := R_Text) (T := T_Text) (N := 6) hx hb hT i_Text hown hK hP 0 rfl rfl 4 (by decide) (hT _ kF_Reader_103) (fun _ h9 => h9) rfl d_Reader_isRuleNumber_9 ?_
    refine lv_iconst (v := 1) hx hb d_Reader_isRuleNumber_12 (by decide) ?_
    refine lv_icmp_lt (tgt := 30) hx hb d_Reader_isRuleNumber_13 (by decide) (fun c_2 => ?_) (fun c_2 => ?_)
    · replace hf := o_pos c_2 hf
      refine lv_iconst (v := 0) hx hb d_Reader_isRuleNumber_30 (by decide) ?_
      rw [hQ, ← Option.some.inj hf]
      exact W.zret (ty := .boolean) hx hb hr rfl (fun t9 ht9 hW9 => ⟨rfl, by rw [ht9]; exact hP, hS.F ht9⟩) hS.2.2 d_Reader_isRuleNumber_31
    · replace hf := o_neg c_2 hf
      refine lv_aload_n hx hb d_Reader_isRuleNumber_16 rfl (lv_at hl 0 rfl) ?_
      refine va_get (D := (dC, dI)) (ci := 5) (v := .int v_p1_amount) (C := R_Text) (T := T_Text) (N := 6) hx hb hT i_Text hown hK hP 0 rfl rfl 4 (by decide) (hT _ kF_Reader_103) (fun _ h9 => h9) rfl d_Reader_isRuleNumber_17 ?_
      refine lv_sipush (v := 9999) hx hb d_Reader_isRuleNumber_20 (by decide) ?_
      refine lv_icmp_gt (tgt := 30) hx hb d_Reader_isRuleNumber_23 (by decide) (fun c_3 => ?_) (fun c_3 => ?_)
      · replace hf := o_pos c_3 hf
        refine lv_iconst (v := 0) hx hb d_Reader_isRuleNumber_30 (by decide) ?_
        rw [hQ, ← Option.some.inj hf]
        exact W.zret (ty := .boolean) hx hb hr rfl (fun t9 ht9 hW9 => ⟨rfl, by rw [ht9]; exact hP, hS.F ht9⟩) hS.2.2 d_Reader_isRuleNumber_31
      · replace hf := o_neg c_3 hf
        refine lv_iconst (v := 1) hx hb d_Reader_isRuleNumber_26 (by decide) ?_
        refine lv_goto (tgt := 31) hx hb d_Reader_isRuleNumber_27 (by decide) ?_
        rw [hQ, ← Option.some.inj hf]
        exact W.zret (ty := .boolean) hx hb hr rfl (fun t9 ht9 hW9 => ⟨rfl, by rw [ht9]; exact hP, hS.F ht9⟩) hS.2.2 d_Reader_isRuleNumber_31
def rm_Reader_takesCost : Room := { frames := 1, cells := 0, slots := 0, locals := 21 }
set_option maxHeartbeats 4000000 in
set_option maxRecDepth 100000 in
theorem c_Reader_takesCost (l : Launch) (dC : Nat → ClassId) (dI : Nat → Nat → Nat) (cI cL cC : ClassId) (h_this h_p1 h_p2 h_p1_signs h_p2_names h_p2_spans h_p2_costs h_p2_sizes h_p2_kinds h_p2_firsts h_p2_seconds h_p2_numbers : Nat) (sz : Nat) (v_due : Int32) (v_isNegative : Int32) (v_p1_size : Int32) (v_p1_at : Int32) (v_p1_kind : Int32) (v_p1_amount : Int32) (v_p1_letters : Int64) (v_p2_count : Int32) (v_p2_costs : Nat → Int32) (t : Int32 × Int32 × (Nat → Int32)) (hf : f_Reader_takesCost v_due v_p1_kind v_p1_amount v_p2_count v_p2_costs = some t) : Met l y_Reader_takesCost (Cond.code y_Reader_takesCost prog_3_method_14_code 3 (some .boolean) :: xT) rm_Reader_takesCost (va_Pc [.ref h_this, .ref h_p1, .ref h_p2] (xP (dC, dI) (xTy cI cL cC) [(h_this, .inr (1, [.int v_due, .int v_isNegative])), (h_p1, .inr (5, [.ref h_p1_signs, .int v_p1_size, .int v_p1_at, .int v_p1_kind, .int v_p1_amount, .long v_p1_letters])), (h_p2, .inr (3, [.ref h_p2_names, .ref h_p2_spans, .ref h_p2_costs, .ref h_p2_sizes, .ref h_p2_kinds, .ref h_p2_firsts, .ref h_p2_seconds, .ref h_p2_numbers, .int v_p2_count])), (h_p2_costs, .inl (cI, 6, .inl v_p2_costs))] sz)) (xQ (dC, dI) [(h_this, .inr (1, [.int t.2.1, .int v_isNegative])), (h_p1, .inr (5, [.ref h_p1_signs, .int v_p1_size, .int v_p1_at, .int v_p1_kind, .int v_p1_amount, .long v_p1_letters])), (h_p2, .inr (3, [.ref h_p2_names, .ref h_p2_spans, .ref h_p2_costs, .ref h_p2_sizes, .ref h_p2_kinds, .ref h_p2_firsts, .ref h_p2_seconds, .ref h_p2_numbers, .int v_p2_count])), (h_p2_costs, .inl (cI, 6, .inl t.2.2))] (va_A [(h_this, .inr (1, [.int v_due, .int v_isNegative])), (h_p1, .inr (5, [.ref h_p1_signs, .int v_p1_size, .int v_p1_at, .int v_p1_kind, .int v_p1_amount, .long v_p1_letters])), (h_p2, .inr (3, [.ref h_p2_names, .ref h_p2_spans, .ref h_p2_costs, .ref h_p2_sizes, .ref h_p2_kinds, .ref h_p2_firsts, .ref h_p2_seconds, .ref h_p2_numbers, .int v_p2_count])), (h_p2_costs, .inl (cI, 6, .inl v_p2_costs))] sz) (some (.int t.1))) 0 0 (va_A [(h_this, .inr (1, [.int v_due, .int v_isNegative])), (h_p1, .inr (5, [.ref h_p1_signs, .int v_p1_size, .int v_p1_at, .int v_p1_kind, .int v_p1_amount, .long v_p1_letters])), (h_p2, .inr (3, [.ref h_p2_names, .ref h_p2_spans, .ref h_p2_costs, .ref h_p2_sizes, .ref h_p2_kinds, .ref h_p2_firsts, .ref h_p2_seconds, .ref h_p2_numbers, .int v_p2_count])), (h_p2_costs, .inl (cI, 6, .inl v_p2_costs))] sz) := by
  refine Met.ofW (cc := prog_3_method_14_code) (maxL := 3) (ret := (some .boolean)) (by decide) rfl ?_
  intro p e s m args below meth c s₁ B hml hv
  obtain ⟨hargs, hsz, hP, hK, hN, hD0⟩ := hv
  have hx := B.exec
  have hb := B.bytes
  have hr := B.returns
  have hT : ∀ w ∈ xT, w.before args s = true := fun w hw => atoms_spec (ws := Cond.code y_Reader_takesCost prog_3_method_14_code 3 (some .boolean) :: xT) B.pre w (List.mem_cons_of_mem _ hw)
  have hown : s.vm.findClass R_Reader = some m.cls := findClass_of_methodNamed B.named
  have hlocks := B.notSynchronized
  subst hsz
  have hD := hD0.self (sz := s.heap.size)
  generalize hAe : va_A [(h_this, .inr (1, [.int v_due, .int v_isNegative])), (h_p1, .inr (5, [.ref h_p1_signs, .int v_p1_size, .int v_p1_at, .int v_p1_kind, .int v_p1_amount, .long v_p1_letters])), (h_p2, .inr (3, [.ref h_p2_names, .ref h_p2_spans, .ref h_p2_costs, .ref h_p2_sizes, .ref h_p2_kinds, .ref h_p2_firsts, .ref h_p2_seconds, .ref h_p2_numbers, .int v_p2_count])), (h_p2_costs, .inl (cI, 6, .inl v_p2_costs))] s.heap.size = A at hD ⊢
  have hA : ∀ q : Nat, s.heap.size ≤ q → A q := fun q h => by rw [← hAe]; exact Or.inr h
  have hS : va_S A s.heap s.heap [] := va_S.rf
  have hP : va_P (dC, dI) vwCl [(h_this, .inr (1, [.int v_due, .int v_isNegative])), (h_p1, .inr (5, [.ref h_p1_signs, .int v_p1_size, .int v_p1_at, .int v_p1_kind, .int v_p1_amount, .long v_p1_letters])), (h_p2, .inr (3, [.ref h_p2_names, .ref h_p2_spans, .ref h_p2_costs, .ref h_p2_sizes, .ref h_p2_kinds, .ref h_p2_firsts, .ref h_p2_seconds, .ref h_p2_numbers, .int v_p2_count])), (h_p2_costs, .inl (cI, 6, .inl v_p2_costs))] s.heap := hP
  have hl := lv_entry ([.ref h_this, .ref h_p1, .ref h_p2]) (n := 3) (Nat.le_of_ble_eq_true rfl)
  rw [show entryFrame m args 3 = entryFrame m ([.ref h_this, .ref h_p1, .ref h_p2] : List Value).toArray 3 from by rw [hargs], lg_entry_eq]
  generalize (lg_sl ([.ref h_this, .ref h_p1, .ref h_p2]) ++ List.replicate (3 - (lg_sl ([.ref h_this, .ref h_p1, .ref h_p2])).length) Slot.unset).toArray = ls at hl ⊢
  have hl : lv_has ls 3 [(0, .ref h_this), (1, .ref h_p1), (2, .ref h_p2)] := hl
  obtain ⟨Q, hQ⟩ : ∃ Q, Q = MQ below (xQ (dC, dI) [(h_this, .inr (1, [.int t.2.1, .int v_isNegative])), (h_p1, .inr (5, [.ref h_p1_signs, .int v_p1_size, .int v_p1_at, .int v_p1_kind, .int v_p1_amount, .long v_p1_letters])), (h_p2, .inr (3, [.ref h_p2_names, .ref h_p2_spans, .ref h_p2_costs, .ref h_p2_sizes, .ref h_p2_kinds, .ref h_p2_firsts, .ref h_p2_seconds, .ref h_p2_numbers, .int v_p2_count])), (h_p2_costs, .inl (cI, 6, .inl t.2.2))] A (some (.int t.1))) args s 0 0 A := ⟨_, rfl⟩
  rw [← hQ]
  show W p l e rm_Reader_takesCost s m args below meth c s.heap [] 0 0 Q _
  obtain ⟨H, hH⟩ : ∃ H, H = s.heap := ⟨_, rfl⟩
  obtain ⟨locs, hlocs⟩ : ∃ L : List Loc, L = [] := ⟨_, rfl⟩
  rw [← hlocs] at hS ⊢
  have hS : va_S A s.heap H locs := by rw [hH]; exact hS
  rw [← hH] at hP ⊢
  replace hf := f_Reader_takesCost_u hf
  refine lv_aload_n hx hb d_Reader_takesCost_0 rfl (lv_at hl 2 rfl) ?_
  refine va_get (D := (dC, dI)) (ci := 3) (v := .ref h_p2_costs) (C := R_RuleSet) (T := T_RuleSet) (N := 9) hx hb hT i_RuleSet hown hK hP 2 rfl rfl 2 (by decide) (hT _ kF_Reader_119) (fun _ h9 => h9) rfl d_Reader_takesCost_1 ?_
  refine lv_aload_n hx hb d_Reader_takesCost_4 rfl (lv_at hl 2 rfl) ?_
  refine va_get (D := (dC, dI)) (ci := 3) (v := .int v_p2_count) (C := R_RuleSet) (T := T_RuleSet) (N := 9) hx hb hT i_RuleSet hown hK hP 2 rfl rfl 8 (by decide) (hT _ kF_Reader_15) (fun _ h9 => h9) rfl d_Reader_takesCost_5 ?_
  refine lv_aload_n hx hb d_Reader_takesCost_8 rfl (lv_at hl 1 rfl) ?_
  refine va_get (D := (dC, dI)) (ci := 5) (v := .int v_p1_amount) (C := R_Text) (T := T_Text) (N := 6) hx hb hT i_Text hown hK hP 1 rfl rfl 4 (by decide) (hT _ kF_Reader_103) (fun _ h9 => h9) rfl d_Reader_takesCost_9 ?_
  obtain ⟨hi_1, hf⟩ := o_in hf
  refine va_iast hx hb hK hP hD hS 3 0 rfl rfl hi_1 d_Reader_takesCost_12 (fun H locs hP hD hS => ?_)
  have hP : va_P (dC, dI) vwCl [(h_this, .inr (1, [.int v_due, .int v_isNegative])), (h_p1, .inr (5, [.ref h_p1_signs, .int v_p1_size, .int v_p1_at, .int v_p1_kind, .int v_p1_amount, .long v_p1_letters])), (h_p2, .inr (3, [.ref h_p2_names, .ref h_p2_spans, .ref h_p2_costs, .ref h_p2_sizes, .ref h_p2_kinds, .ref h_p2_firsts, .ref h_p2_seconds, .ref h_p2_numbers, .int v_p2_count])), (h_p2_costs, .inl (cI, 6, .inl (upd v_p2_costs (v_p2_count : Int32).toNatClampNeg v_p1_amount)))] H := hP
  have hD : va_D A [(h_this, .inr (1, [.int v_due, .int v_isNegative])), (h_p1, .inr (5, [.ref h_p1_signs, .int v_p1_size, .int v_p1_at, .int v_p1_kind, .int v_p1_amount, .long v_p1_letters])), (h_p2, .inr (3, [.ref h_p2_names, .ref h_p2_spans, .ref h_p2_costs, .ref h_p2_sizes, .ref h_p2_kinds, .ref h_p2_firsts, .ref h_p2_seconds, .ref h_p2_numbers, .int v_p2_count])), (h_p2_costs, .inl (cI, 6, .inl (upd v_p2_costs (v_p2_count : Int32).toNatClampNeg v_p1_amount)))] := hD
  refine lv_aload_n hx hb d_Reader_takesCost_13 rfl (lv_at hl 1 rfl) ?_
  obtain ⟨t_2, hg_2, hf⟩ := o_bind hf
  refine x_stat (w' := [(h_this, .inr (1, [.int v_due, .int v_isNegative])), (h_p1, .inr (5, [.ref h_p1_signs, .int v_p1_size, .int v_p1_at, .int v_p1_kind, .int v_p1_amount, .long v_p1_letters])), (h_p2, .inr (3, [.ref h_p2_names, .ref h_p2_spans, .ref h_p2_costs, .ref h_p2_sizes, .ref h_p2_kinds, .ref h_p2_firsts, .ref h_p2_seconds, .ref h_p2_numbers, .int v_p2_count])), (h_p2_costs, .inl (cI, 6, .inl (upd v_p2_costs (v_p2_count : Int32).toNatClampNeg v_p1_amount)))]) (As := [.ref h_p1]) (rest := []) hx hb hml hl.1 hown hT hK hN hP hD hS hA (c_Reader_isRuleNumber l dC dI cI cL cC h_p1 h_p1_signs H.size v_p1_size v_p1_at v_p1_kind v_p1_amount v_p1_letters t_2 hg_2) kM_Reader_115 kT_Reader_isRuleNumber kN_Reader kC_Reader_isRuleNumber hd_Reader_isRuleNumber rfl ⟨Nat.le_of_ble_eq_true rfl, Nat.le_of_ble_eq_true rfl⟩ rfl rfl ⟨Nat.zero_le _, Nat.zero_le _⟩ rfl (Nat.le_of_ble_eq_true rfl) d_Reader_takesCost_14 [1] rfl rfl [.inl 0, .inr 0, .inl 2, .inl 3] rfl rfl rfl (fun H locs hP hD hS => ?_)
  refine lv_if_eq (tgt := 33) hx hb d_Reader_takesCost_17 (by decide) (fun c_3 => ?_) (fun c_3 => ?_)
  · replace hf := o_pos c_3 hf
    refine lv_iconst (v := 0) hx hb d_Reader_takesCost_33 (by decide) ?_
    rw [hQ, ← Option.some.inj hf]
    exact W.zret (ty := .boolean) hx hb hr rfl (fun t9 ht9 hW9 => ⟨rfl, by rw [ht9]; exact hP, hS.F ht9⟩) hS.2.2 d_Reader_takesCost_34
  · replace hf := o_neg c_3 hf
    refine lv_aload_n hx hb d_Reader_takesCost_20 rfl (lv_at hl 0 rfl) ?_
    refine lv_bipush (v := 13) hx hb d_Reader_takesCost_21 (by decide) ?_
    obtain ⟨t_4, hg_4, hf⟩ := o_bind hf
    refine x_virt (w' := [(h_this, .inr (1, [.int t_4.2, .int v_isNegative])), (h_p1, .inr (5, [.ref h_p1_signs, .int v_p1_size, .int v_p1_at, .int v_p1_kind, .int v_p1_amount, .long v_p1_letters])), (h_p2, .inr (3, [.ref h_p2_names, .ref h_p2_spans, .ref h_p2_costs, .ref h_p2_sizes, .ref h_p2_kinds, .ref h_p2_firsts, .ref h_p2_seconds, .ref h_p2_numbers, .int v_p2_count])), (h_p2_costs, .inl (cI, 6, .inl (upd v_p2_costs (v_p2_count : Int32).toNatClampNeg v_p1_amount)))]) (As := [.int 13]) (rest := []) hx hb hml hl.1 hown hT hK hN hP hD hS hA (c_Reader_makeDue l dC dI cI cL cC h_this H.size v_due v_isNegative 13 t_4 hg_4) kM_Reader_38 kI_Reader_makeDue kS_134 kN_Reader kC_Reader_makeDue hd_Reader_makeDue rfl 0 rfl rfl rfl ⟨Nat.le_of_ble_eq_true rfl, Nat.le_of_ble_eq_true rfl⟩ rfl rfl ⟨Nat.zero_le _, Nat.zero_le _⟩ rfl (Nat.le_of_ble_eq_true rfl) d_Reader_takesCost_23 [0] rfl rfl [.inr 0, .inl 1, .inl 2, .inl 3] rfl rfl rfl (fun H locs hP hD hS => ?_)
    refine lv_if_eq (tgt := 33) hx hb d_Reader_takesCost_26 (by decide) (fun c_5 => ?_) (fun c_5 => ?_)
    · replace hf := o_pos c_5 hf
      refine lv_iconst (v := 0) hx hb d_Reader_takesCost_33 (by decide) ?_
      rw [hQ, ← Option.some.inj hf]
      exact W.zret (ty := .boolean) hx hb hr rfl (fun t9 ht9 hW9 => ⟨rfl, by rw [ht9]; exact hP, hS.F ht9⟩) hS.2.2 d_Reader_takesCost_34
    · replace hf := o_neg c_5 hf
      refine lv_iconst (v := 1) hx hb d_Reader_takesCost_29 (by decide) ?_
      refine lv_goto (tgt := 34) hx hb d_Reader_takesCost_30 (by decide) ?_
      rw [hQ, ← Option.some.inj hf]
      exact W.zret (ty := .boolean) hx hb hr rfl (fun t9 ht9 hW9 => ⟨rfl, by rw [ht9]; exact hP, hS.F ht9⟩) hS.2.2 d_Reader_takesCost_34
def rm_Reader_takesSpan : Room := { frames := 1, cells := 0, slots := 0, locals := 21 }
set_option maxHeartbeats 4000000 in
set_option maxRecDepth 100000 in
theorem c_Reader_takesSpan (l : Launch) (dC : Nat → ClassId) (dI : Nat → Nat → Nat) (cI cL cC : ClassId) (h_this h_p1 h_p2 h_p1_signs h_p2_names h_p2_spans h_p2_costs h_p2_sizes h_p2_kinds h_p2_firsts h_p2_seconds h_p2_numbers : Nat) (sz : Nat) (v_due : Int32) (v_isNegative : Int32) (v_p1_size : Int32) (v_p1_at : Int32) (v_p1_kind : Int32) (v_p1_amount : Int32) (v_p1_letters : Int64) (v_p2_count : Int32) (v_p2_spans : Nat → Int32) (t : Int32 × Int32 × (Nat → Int32)) (hf : f_Reader_takesSpan v_due v_p1_kind v_p1_amount v_p2_count v_p2_spans = some t) : Met l y_Reader_takesSpan (Cond.code y_Reader_takesSpan prog_3_method_13_code 3 (some .boolean) :: xT) rm_Reader_takesSpan (va_Pc [.ref h_this, .ref h_p1, .ref h_p2] (xP (dC, dI) (xTy cI cL cC) [(h_this, .inr (1, [.int v_due, .int v_isNegative])), (h_p1, .inr (5, [.ref h_p1_signs, .int v_p1_size, .int v_p1_at, .int v_p1_kind, .int v_p1_amount, .long v_p1_letters])), (h_p2, .inr (3, [.ref h_p2_names, .ref h_p2_spans, .ref h_p2_costs, .ref h_p2_sizes, .ref h_p2_kinds, .ref h_p2_firsts, .ref h_p2_seconds, .ref h_p2_numbers, .int v_p2_count])), (h_p2_spans, .inl (cI, 6, .inl v_p2_spans))] sz)) (xQ (dC, dI) [(h_this, .inr (1, [.int t.2.1, .int v_isNegative])), (h_p1, .inr (5, [.ref h_p1_signs, .int v_p1_size, .int v_p1_at, .int v_p1_kind, .int v_p1_amount, .long v_p1_letters])), (h_p2, .inr (3, [.ref h_p2_names, .ref h_p2_spans, .ref h_p2_costs, .ref h_p2_sizes, .ref h_p2_kinds, .ref h_p2_firsts, .ref h_p2_seconds, .ref h_p2_numbers, .int v_p2_count])), (h_p2_spans, .inl (cI, 6, .inl t.2.2))] (va_A [(h_this, .inr (1, [.int v_due, .int v_isNegative])), (h_p1, .inr (5, [.ref h_p1_signs, .int v_p1_size, .int v_p1_at, .int v_p1_kind, .int v_p1_amount, .long v_p1_letters])), (h_p2, .inr (3, [.ref h_p2_names, .ref h_p2_spans, .ref h_p2_costs, .ref h_p2_sizes, .ref h_p2_kinds, .ref h_p2_firsts, .ref h_p2_seconds, .ref h_p2_numbers, .int v_p2_count])), (h_p2_spans, .inl (cI, 6, .inl v_p2_spans))] sz) (some (.int t.1))) 0 0 (va_A [(h_this, .inr (1, [.int v_due, .int v_isNegative])), (h_p1, .inr (5, [.ref h_p1_signs, .int v_p1_size, .int v_p1_at, .int v_p1_kind, .int v_p1_amount, .long v_p1_letters])), (h_p2, .inr (3, [.ref h_p2_names, .ref h_p2_spans, .ref h_p2_costs, .ref h_p2_sizes, .ref h_p2_kinds, .ref h_p2_firsts, .ref h_p2_seconds, .ref h_p2_numbers, .int v_p2_count])), (h_p2_spans, .inl (cI, 6, .inl v_p2_spans))] sz) := by
  refine Met.ofW (cc := prog_3_method_13_code) (maxL := 3) (ret := (some .boolean)) (by decide) rfl ?_
  intro p e s m args below meth c s₁ B hml hv
  obtain ⟨hargs, hsz, hP, hK, hN, hD0⟩ := hv
  have hx := B.exec
  have hb := B.bytes
  have hr := B.returns
  have hT : ∀ w ∈ xT, w.before args s = true := fun w hw => atoms_spec (ws := Cond.code y_Reader_takesSpan prog_3_method_13_code 3 (some .boolean) :: xT) B.pre w (List.mem_cons_of_mem _ hw)
  have hown : s.vm.findClass R_Reader = some m.cls := findClass_of_methodNamed B.named
  have hlocks := B.notSynchronized
  subst hsz
  have hD := hD0.self (sz := s.heap.size)
  generalize hAe : va_A [(h_this, .inr (1, [.int v_due, .int v_isNegative])), (h_p1, .inr (5, [.ref h_p1_signs, .int v_p1_size, .int v_p1_at, .int v_p1_kind, .int v_p1_amount, .long v_p1_letters])), (h_p2, .inr (3, [.ref h_p2_names, .ref h_p2_spans, .ref h_p2_costs, .ref h_p2_sizes, .ref h_p2_kinds, .ref h_p2_firsts, .ref h_p2_seconds, .ref h_p2_numbers, .int v_p2_count])), (h_p2_spans, .inl (cI, 6, .inl v_p2_spans))] s.heap.size = A at hD ⊢
  have hA : ∀ q : Nat, s.heap.size ≤ q → A q := fun q h => by rw [← hAe]; exact Or.inr h
  have hS : va_S A s.heap s.heap [] := va_S.rf
  have hP : va_P (dC, dI) vwCl [(h_this, .inr (1, [.int v_due, .int v_isNegative])), (h_p1, .inr (5, [.ref h_p1_signs, .int v_p1_size, .int v_p1_at, .int v_p1_kind, .int v_p1_amount, .long v_p1_letters])), (h_p2, .inr (3, [.ref h_p2_names, .ref h_p2_spans, .ref h_p2_costs, .ref h_p2_sizes, .ref h_p2_kinds, .ref h_p2_firsts, .ref h_p2_seconds, .ref h_p2_numbers, .int v_p2_count])), (h_p2_spans, .inl (cI, 6, .inl v_p2_spans))] s.heap := hP
  have hl := lv_entry ([.ref h_this, .ref h_p1, .ref h_p2]) (n := 3) (Nat.le_of_ble_eq_true rfl)
  rw [show entryFrame m args 3 = entryFrame m ([.ref h_this, .ref h_p1, .ref h_p2] : List Value).toArray 3 from by rw [hargs], lg_entry_eq]
  generalize (lg_sl ([.ref h_this, .ref h_p1, .ref h_p2]) ++ List.replicate (3 - (lg_sl ([.ref h_this, .ref h_p1, .ref h_p2])).length) Slot.unset).toArray = ls at hl ⊢
  have hl : lv_has ls 3 [(0, .ref h_this), (1, .ref h_p1), (2, .ref h_p2)] := hl
  obtain ⟨Q, hQ⟩ : ∃ Q, Q = MQ below (xQ (dC, dI) [(h_this, .inr (1, [.int t.2.1, .int v_isNegative])), (h_p1, .inr (5, [.ref h_p1_signs, .int v_p1_size, .int v_p1_at, .int v_p1_kind, .int v_p1_amount, .long v_p1_letters])), (h_p2, .inr (3, [.ref h_p2_names, .ref h_p2_spans, .ref h_p2_costs, .ref h_p2_sizes, .ref h_p2_kinds, .ref h_p2_firsts, .ref h_p2_seconds, .ref h_p2_numbers, .int v_p2_count])), (h_p2_spans, .inl (cI, 6, .inl t.2.2))] A (some (.int t.1))) args s 0 0 A := ⟨_, rfl⟩
  rw [← hQ]
  show W p l e rm_Reader_takesSpan s m args below meth c s.heap [] 0 0 Q _
  obtain ⟨H, hH⟩ : ∃ H, H = s.heap := ⟨_, rfl⟩
  obtain ⟨locs, hlocs⟩ : ∃ L : List Loc, L = [] := ⟨_, rfl⟩
  rw [← hlocs] at hS ⊢
  have hS : va_S A s.heap H locs := by rw [hH]; exact hS
  rw [← hH] at hP ⊢
  replace hf := f_Reader_takesSpan_u hf
  refine lv_aload_n hx hb d_Reader_takesSpan_0 rfl (lv_at hl 2 rfl) ?_
  refine va_get (D := (dC, dI)) (ci := 3) (v := .ref h_p2_spans) (C := R_RuleSet) (T := T_RuleSet) (N := 9) hx hb hT i_RuleSet hown hK hP 2 rfl rfl 1 (by decide) (hT _ kF_Reader_112) (fun _ h9 => h9) rfl d_Reader_takesSpan_1 ?_
  refine lv_aload_n hx hb d_Reader_takesSpan_4 rfl (lv_at hl 2 rfl) ?_
  refine va_get (D := (dC, dI)) (ci := 3) (v := .int v_p2_count) (C := R_RuleSet) (T := T_RuleSet) (N := 9) hx hb hT i_RuleSet hown hK hP 2 rfl rfl 8 (by decide) (hT _ kF_Reader_15) (fun _ h9 => h9) rfl d_Reader_takesSpan_5 ?_
  refine lv_aload_n hx hb d_Reader_takesSpan_8 rfl (lv_at hl 1 rfl) ?_
  refine va_get (D := (dC, dI)) (ci := 5) (v := .int v_p1_amount) (C := R_Text) (T := T_Text) (N := 6) hx hb hT i_Text hown hK hP 1 rfl rfl 4 (by decide) (hT _ kF_Reader_103) (fun _ h9 => h9) rfl d_Reader_takesSpan_9 ?_
  obtain ⟨hi_1, hf⟩ := o_in hf
  refine va_iast hx hb hK hP hD hS 3 0 rfl rfl hi_1 d_Reader_takesSpan_12 (fun H locs hP hD hS => ?_)
  have hP : va_P (dC, dI) vwCl [(h_this, .inr (1, [.int v_due, .int v_isNegative])), (h_p1, .inr (5, [.ref h_p1_signs, .int v_p1_size, .int v_p1_at, .int v_p1_kind, .int v_p1_amount, .long v_p1_letters])), (h_p2, .inr (3, [.ref h_p2_names, .ref h_p2_spans, .ref h_p2_costs, .ref h_p2_sizes, .ref h_p2_kinds, .ref h_p2_firsts, .ref h_p2_seconds, .ref h_p2_numbers, .int v_p2_count])), (h_p2_spans, .inl (cI, 6, .inl (upd v_p2_spans (v_p2_count : Int32).toNatClampNeg v_p1_amount)))] H := hP
  have hD : va_D A [(h_this, .inr (1, [.int v_due, .int v_isNegative])), (h_p1, .inr (5, [.ref h_p1_signs, .int v_p1_size, .int v_p1_at, .int v_p1_kind, .int v_p1_amount, .long v_p1_letters])), (h_p2, .inr (3, [.ref h_p2_names, .ref h_p2_spans, .ref h_p2_costs, .ref h_p2_sizes, .ref h_p2_kinds, .ref h_p2_firsts, .ref h_p2_seconds, .ref h_p2_numbers, .int v_p2_count])), (h_p2_spans, .inl (cI, 6, .inl (upd v_p2_spans (v_p2_count : Int32).toNatClampNeg v_p1_amount)))] := hD
  refine lv_aload_n hx hb d_Reader_takesSpan_13 rfl (lv_at hl 1 rfl) ?_
  obtain ⟨t_2, hg_2, hf⟩ := o_bind hf
  refine x_stat (w' := [(h_this, .inr (1, [.int v_due, .int v_isNegative])), (h_p1, .inr (5, [.ref h_p1_signs, .int v_p1_size, .int v_p1_at, .int v_p1_kind, .int v_p1_amount, .long v_p1_letters])), (h_p2, .inr (3, [.ref h_p2_names, .ref h_p2_spans, .ref h_p2_costs, .ref h_p2_sizes, .ref h_p2_kinds, .ref h_p2_firsts, .ref h_p2_seconds, .ref h_p2_numbers, .int v_p2_count])), (h_p2_spans, .inl (cI, 6, .inl (upd v_p2_spans (v_p2_count : Int32).toNatClampNeg v_p1_amount)))]) (As := [.ref h_p1]) (rest := []) hx hb hml hl.1 hown hT hK hN hP hD hS hA (c_Reader_isRuleNumber l dC dI cI cL cC h_p1 h_p1_signs H.size v_p1_size v_p1_at v_p1_kind v_p1_amount v_p1_letters t_2 hg_2) kM_Reader_115 kT_Reader_isRuleNumber kN_Reader kC_Reader_isRuleNumber hd_Reader_isRuleNumber rfl ⟨Nat.le_of_ble_eq_true rfl, Nat.le_of_ble_eq_true rfl⟩ rfl rfl ⟨Nat.zero_le _, Nat.zero_le _⟩ rfl (Nat.le_of_ble_eq_true rfl) d_Reader_takesSpan_14 [1] rfl rfl [.inl 0, .inr 0, .inl 2, .inl 3] rfl rfl rfl (fun H locs hP hD hS => ?_)
  refine lv_if_eq (tgt := 33) hx hb d_Reader_takesSpan_17 (by decide) (fun c_3 => ?_) (fun c_3 => ?_)
  · replace hf := o_pos c_3 hf
    refine lv_iconst (v := 0) hx hb d_Reader_takesSpan_33 (by decide) ?_
    rw [hQ, ← Option.some.inj hf]
    exact W.zret (ty := .boolean) hx hb hr rfl (fun t9 ht9 hW9 => ⟨rfl, by rw [ht9]; exact hP, hS.F ht9⟩) hS.2.2 d_Reader_takesSpan_34
  · replace hf := o_neg c_3 hf
    refine lv_aload_n hx hb d_Reader_takesSpan_20 rfl (lv_at hl 0 rfl) ?_
    refine lv_bipush (v := 11) hx hb d_Reader_takesSpan_21 (by decide) ?_
    obtain ⟨t_4, hg_4, hf⟩ := o_bind hf
    refine x_virt (w' := [(h_this, .inr (1, [.int t_4.2, .int v_isNegative])), (h_p1, .inr (5, [.ref h_p1_signs, .int v_p1_size, .int v_p1_at, .int v_p1_kind, .int v_p1_amount, .long v_p1_letters])), (h_p2, .inr (3, [.ref h_p2_names, .ref h_p2_spans, .ref h_p2_costs, .ref h_p2_sizes, .ref h_p2_kinds, .ref h_p2_firsts, .ref h_p2_seconds, .ref h_p2_numbers, .int v_p2_count])), (h_p2_spans, .inl (cI, 6, .inl (upd v_p2_spans (v_p2_count : Int32).toNatClampNeg v_p1_amount)))]) (As := [.int 11]) (rest := []) hx hb hml hl.1 hown hT hK hN hP hD hS hA (c_Reader_makeDue l dC dI cI cL cC h_this H.size v_due v_isNegative 11 t_4 hg_4) kM_Reader_38 kI_Reader_makeDue kS_134 kN_Reader kC_Reader_makeDue hd_Reader_makeDue rfl 0 rfl rfl rfl ⟨Nat.le_of_ble_eq_true rfl, Nat.le_of_ble_eq_true rfl⟩ rfl rfl ⟨Nat.zero_le _, Nat.zero_le _⟩ rfl (Nat.le_of_ble_eq_true rfl) d_Reader_takesSpan_23 [0] rfl rfl [.inr 0, .inl 1, .inl 2, .inl 3] rfl rfl rfl (fun H locs hP hD hS => ?_)
    refine lv_if_eq (tgt := 33) hx hb d_Reader_takesSpan_26 (by decide) (fun c_5 => ?_) (fun c_5 => ?_)
    · replace hf := o_pos c_5 hf
      refine lv_iconst (v := 0) hx hb d_Reader_takesSpan_33 (by decide) ?_
      rw [hQ, ← Option.some.inj hf]
      exact W.zret (ty := .boolean) hx hb hr rfl (fun t9 ht9 hW9 => ⟨rfl, by rw [ht9]; exact hP, hS.F ht9⟩) hS.2.2 d_Reader_takesSpan_34
    · replace hf := o_neg c_5 hf
      refine lv_iconst (v := 1) hx hb d_Reader_takesSpan_29 (by decide) ?_
      refine lv_goto (tgt := 34) hx hb d_Reader_takesSpan_30 (by decide) ?_
      rw [hQ, ← Option.some.inj hf]
      exact W.zret (ty := .boolean) hx hb hr rfl (fun t9 ht9 hW9 => ⟨rfl, by rw [ht9]; exact hP, hS.F ht9⟩) hS.2.2 d_Reader_takesSpan_34
def rm_Reader_takesAndOrFor : Room := { frames := 1, cells := 0, slots := 0, locals := 21 }
set_option maxHeartbeats 4000000 in
set_option maxRecDepth 100000 in
theorem c_Reader_takesAndOrFor (l : Launch) (dC : Nat → ClassId) (dI : Nat → Nat → Nat) (cI cL cC : ClassId) (h_this h_p1 h_p2 h_p1_signs h_p2_names h_p2_spans h_p2_costs h_p2_sizes h_p2_kinds h_p2_firsts h_p2_seconds h_p2_numbers : Nat) (sz : Nat) (v_due : Int32) (v_isNegative : Int32) (v_p1_size : Int32) (v_p1_at : Int32) (v_p1_kind : Int32) (v_p1_amount : Int32) (v_p1_letters : Int64) (v_p2_count : Int32) (v_p2_sizes : Nat → Int32) (t : Int32 × Int32) (hf : f_Reader_takesAndOrFor v_due v_p1_kind v_p2_count v_p2_sizes = some t) : Met l y_Reader_takesAndOrFor (Cond.code y_Reader_takesAndOrFor prog_3_method_12_code 3 (some .boolean) :: xT) rm_Reader_takesAndOrFor (va_Pc [.ref h_this, .ref h_p1, .ref h_p2] (xP (dC, dI) (xTy cI cL cC) [(h_this, .inr (1, [.int v_due, .int v_isNegative])), (h_p1, .inr (5, [.ref h_p1_signs, .int v_p1_size, .int v_p1_at, .int v_p1_kind, .int v_p1_amount, .long v_p1_letters])), (h_p2, .inr (3, [.ref h_p2_names, .ref h_p2_spans, .ref h_p2_costs, .ref h_p2_sizes, .ref h_p2_kinds, .ref h_p2_firsts, .ref h_p2_seconds, .ref h_p2_numbers, .int v_p2_count])), (h_p2_sizes, .inl (cI, 6, .inl v_p2_sizes))] sz)) (xQ (dC, dI) [(h_this, .inr (1, [.int t.2, .int v_isNegative])), (h_p1, .inr (5, [.ref h_p1_signs, .int v_p1_size, .int v_p1_at, .int v_p1_kind, .int v_p1_amount, .long v_p1_letters])), (h_p2, .inr (3, [.ref h_p2_names, .ref h_p2_spans, .ref h_p2_costs, .ref h_p2_sizes, .ref h_p2_kinds, .ref h_p2_firsts, .ref h_p2_seconds, .ref h_p2_numbers, .int v_p2_count])), (h_p2_sizes, .inl (cI, 6, .inl v_p2_sizes))] (va_A [(h_this, .inr (1, [.int v_due, .int v_isNegative])), (h_p1, .inr (5, [.ref h_p1_signs, .int v_p1_size, .int v_p1_at, .int v_p1_kind, .int v_p1_amount, .long v_p1_letters])), (h_p2, .inr (3, [.ref h_p2_names, .ref h_p2_spans, .ref h_p2_costs, .ref h_p2_sizes, .ref h_p2_kinds, .ref h_p2_firsts, .ref h_p2_seconds, .ref h_p2_numbers, .int v_p2_count])), (h_p2_sizes, .inl (cI, 6, .inl v_p2_sizes))] sz) (some (.int t.1))) 0 0 (va_A [(h_this, .inr (1, [.int v_due, .int v_isNegative])), (h_p1, .inr (5, [.ref h_p1_signs, .int v_p1_size, .int v_p1_at, .int v_p1_kind, .int v_p1_amount, .long v_p1_letters])), (h_p2, .inr (3, [.ref h_p2_names, .ref h_p2_spans, .ref h_p2_costs, .ref h_p2_sizes, .ref h_p2_kinds, .ref h_p2_firsts, .ref h_p2_seconds, .ref h_p2_numbers, .int v_p2_count])), (h_p2_sizes, .inl (cI, 6, .inl v_p2_sizes))] sz) := by
  refine Met.ofW (cc := prog_3_method_12_code) (maxL := 3) (ret := (some .boolean)) (by decide) rfl ?_
  intro p e s m args below meth c s₁ B hml hv
  obtain ⟨hargs, hsz, hP, hK, hN, hD0⟩ := hv
  have hx := B.exec
  have hb := B.bytes
  have hr := B.returns
  have hT : ∀ w ∈ xT, w.before args s = true := fun w hw => atoms_spec (ws := Cond.code y_Reader_takesAndOrFor prog_3_method_12_code 3 (some .boolean) :: xT) B.pre w (List.mem_cons_of_mem _ hw)
  have hown : s.vm.findClass R_Reader = some m.cls := findClass_of_methodNamed B.named
  have hlocks := B.notSynchronized
  subst hsz
  have hD := hD0.self (sz := s.heap.size)
  generalize hAe : va_A [(h_this, .inr (1, [.int v_due, .int v_isNegative])), (h_p1, .inr (5, [.ref h_p1_signs, .int v_p1_size, .int v_p1_at, .int v_p1_kind, .int v_p1_amount, .long v_p1_letters])), (h_p2, .inr (3, [.ref h_p2_names, .ref h_p2_spans, .ref h_p2_costs, .ref h_p2_sizes, .ref h_p2_kinds, .ref h_p2_firsts, .ref h_p2_seconds, .ref h_p2_numbers, .int v_p2_count])), (h_p2_sizes, .inl (cI, 6, .inl v_p2_sizes))] s.heap.size = A at hD ⊢
  have hA : ∀ q : Nat, s.heap.size ≤ q → A q := fun q h => by rw [← hAe]; exact Or.inr h
  have hS : va_S A s.heap s.heap [] := va_S.rf
  have hP : va_P (dC, dI) vwCl [(h_this, .inr (1, [.int v_due, .int v_isNegative])), (h_p1, .inr (5, [.ref h_p1_signs, .int v_p1_size, .int v_p1_at, .int v_p1_kind, .int v_p1_amount, .long v_p1_letters])), (h_p2, .inr (3, [.ref h_p2_names, .ref h_p2_spans, .ref h_p2_costs, .ref h_p2_sizes, .ref h_p2_kinds, .ref h_p2_firsts, .ref h_p2_seconds, .ref h_p2_numbers, .int v_p2_count])), (h_p2_sizes, .inl (cI, 6, .inl v_p2_sizes))] s.heap := hP
  have hl := lv_entry ([.ref h_this, .ref h_p1, .ref h_p2]) (n := 3) (Nat.le_of_ble_eq_true rfl)
  rw [show entryFrame m args 3 = entryFrame m ([.ref h_this, .ref h_p1, .ref h_p2] : List Value).toArray 3 from by rw [hargs], lg_entry_eq]
  generalize (lg_sl ([.ref h_this, .ref h_p1, .ref h_p2]) ++ List.replicate (3 - (lg_sl ([.ref h_this, .ref h_p1, .ref h_p2])).length) Slot.unset).toArray = ls at hl ⊢
  have hl : lv_has ls 3 [(0, .ref h_this), (1, .ref h_p1), (2, .ref h_p2)] := hl
  obtain ⟨Q, hQ⟩ : ∃ Q, Q = MQ below (xQ (dC, dI) [(h_this, .inr (1, [.int t.2, .int v_isNegative])), (h_p1, .inr (5, [.ref h_p1_signs, .int v_p1_size, .int v_p1_at, .int v_p1_kind, .int v_p1_amount, .long v_p1_letters])), (h_p2, .inr (3, [.ref h_p2_names, .ref h_p2_spans, .ref h_p2_costs, .ref h_p2_sizes, .ref h_p2_kinds, .ref h_p2_firsts, .ref h_p2_seconds, .ref h_p2_numbers, .int v_p2_count])), (h_p2_sizes, .inl (cI, 6, .inl v_p2_sizes))] A (some (.int t.1))) args s 0 0 A := ⟨_, rfl⟩
  rw [← hQ]
  show W p l e rm_Reader_takesAndOrFor s m args below meth c s.heap [] 0 0 Q _
  obtain ⟨H, hH⟩ : ∃ H, H = s.heap := ⟨_, rfl⟩
  obtain ⟨locs, hlocs⟩ : ∃ L : List Loc, L = [] := ⟨_, rfl⟩
  rw [← hlocs] at hS ⊢
  have hS : va_S A s.heap H locs := by rw [hH]; exact hS
  rw [← hH] at hP ⊢
  replace hf := f_Reader_takesAndOrFor_u hf
  refine lv_aload_n hx hb d_Reader_takesAndOrFor_0 rfl (lv_at hl 1 rfl) ?_
  refine va_get (D := (dC, dI)) (ci := 5) (v := .int v_p1_kind) (C := R_Text) (T := T_Text) (N := 6) hx hb hT i_Text hown hK hP 1 rfl rfl 3 (by decide) (hT _ kF_Reader_25) (fun _ h9 => h9) rfl d_Reader_takesAndOrFor_1 ?_
  refine lv_bipush (v := 6) hx hb d_Reader_takesAndOrFor_4 (by decide) ?_
  refine lv_icmp_ne (tgt := 37) hx hb d_Reader_takesAndOrFor_6 (by decide) (fun c_1 => ?_) (fun c_1 => ?_)
  · replace hf := o_neg c_1 hf
    refine lv_aload_n hx hb d_Reader_takesAndOrFor_37 rfl (lv_at hl 1 rfl) ?_
    refine va_get (D := (dC, dI)) (ci := 5) (v := .int v_p1_kind) (C := R_Text) (T := T_Text) (N := 6) hx hb hT i_Text hown hK hP 1 rfl rfl 3 (by decide) (hT _ kF_Reader_25) (fun _ h9 => h9) rfl d_Reader_takesAndOrFor_38 ?_
    refine lv_bipush (v := 9) hx hb d_Reader_takesAndOrFor_41 (by decide) ?_
    refine lv_icmp_ne (tgt := 59) hx hb d_Reader_takesAndOrFor_43 (by decide) (fun c_2 => ?_) (fun c_2 => ?_)
    · replace hf := o_neg c_2 hf
      refine lv_iconst (v := 0) hx hb d_Reader_takesAndOrFor_59 (by decide) ?_
      rw [hQ, ← Option.some.inj hf]
      exact W.zret (ty := .boolean) hx hb hr rfl (fun t9 ht9 hW9 => ⟨rfl, by rw [ht9]; exact hP, hS.F ht9⟩) hS.2.2 d_Reader_takesAndOrFor_60
    · replace hf := o_pos c_2 hf
      refine lv_aload_n hx hb d_Reader_takesAndOrFor_46 rfl (lv_at hl 0 rfl) ?_
      refine lv_bipush (v := 10) hx hb d_Reader_takesAndOrFor_47 (by decide) ?_
      obtain ⟨t_3, hg_3, hf⟩ := o_bind hf
      refine x_virt (w' := [(h_this, .inr (1, [.int t_3.2, .int v_isNegative])), (h_p1, .inr (5, [.ref h_p1_signs, .int v_p1_size, .int v_p1_at, .int v_p1_kind, .int v_p1_amount, .long v_p1_letters])), (h_p2, .inr (3, [.ref h_p2_names, .ref h_p2_spans, .ref h_p2_costs, .ref h_p2_sizes, .ref h_p2_kinds, .ref h_p2_firsts, .ref h_p2_seconds, .ref h_p2_numbers, .int v_p2_count])), (h_p2_sizes, .inl (cI, 6, .inl v_p2_sizes))]) (As := [.int 10]) (rest := []) hx hb hml hl.1 hown hT hK hN hP hD hS hA (c_Reader_makeDue l dC dI cI cL cC h_this H.size v_due v_isNegative 10 t_3 hg_3) kM_Reader_38 kI_Reader_makeDue kS_134 kN_Reader kC_Reader_makeDue hd_Reader_makeDue rfl 0 rfl rfl rfl ⟨Nat.le_of_ble_eq_true rfl, Nat.le_of_ble_eq_true rfl⟩ rfl rfl ⟨Nat.zero_le _, Nat.zero_le _⟩ rfl (Nat.le_of_ble_eq_true rfl) d_Reader_takesAndOrFor_49 [0] rfl rfl [.inr 0, .inl 1, .inl 2, .inl 3] rfl rfl rfl (fun H locs hP hD hS => ?_)
      refine lv_if_eq (tgt := 59) hx hb d_Reader_takesAndOrFor_52 (by decide) (fun c_4 => ?_) (fun c_4 => ?_)
      · replace hf := o_pos c_4 hf
        refine lv_iconst (v := 0) hx hb d_Reader_takesAndOrFor_59 (by decide) ?_
        rw [hQ, ← Option.some.inj hf]
        exact W.zret (ty := .boolean) hx hb hr rfl (fun t9 ht9 hW9 => ⟨rfl, by rw [ht9]; exact hP, hS.F ht9⟩) hS.2.2 d_Reader_takesAndOrFor_60
      · replace hf := o_neg c_4 hf
        refine lv_iconst (v := 1) hx hb d_Reader_takesAndOrFor_55 (by decide) ?_
        refine lv_goto (tgt := 60) hx hb d_Reader_takesAndOrFor_56 (by decide) ?_
        rw [hQ, ← Option.some.inj hf]
        exact W.zret (ty := .boolean) hx hb hr rfl (fun t9 ht9 hW9 => ⟨rfl, by rw [ht9]; exact hP, hS.F ht9⟩) hS.2.2 d_Reader_takesAndOrFor_60
  · replace hf := o_pos c_1 hf
    refine lv_aload_n hx hb d_Reader_takesAndOrFor_9 rfl (lv_at hl 2 rfl) ?_
    refine va_get (D := (dC, dI)) (ci := 3) (v := .ref h_p2_sizes) (C := R_RuleSet) (T := T_RuleSet) (N := 9) hx hb hT i_RuleSet hown hK hP 2 rfl rfl 3 (by decide) (hT _ kF_Reader_85) (fun _ h9 => h9) rfl d_Reader_takesAndOrFor_10 ?_
    refine lv_aload_n hx hb d_Reader_takesAndOrFor_13 rfl (lv_at hl 2 rfl) ?_
    refine va_get (D := (dC, dI)) (ci := 3) (v := .int v_p2_count) (C := R_RuleSet) (T := T_RuleSet) (N := 9) hx hb hT i_RuleSet hown hK hP 2 rfl rfl 8 (by decide) (hT _ kF_Reader_15) (fun _ h9 => h9) rfl d_Reader_takesAndOrFor_14 ?_
    obtain ⟨hi_5, hf⟩ := o_in hf
    refine va_iald hx hb hK hP 3 0 rfl rfl hi_5 d_Reader_takesAndOrFor_17 ?_
    refine lv_bipush (v := 6) hx hb d_Reader_takesAndOrFor_18 (by decide) ?_
    refine lv_icmp_ge (tgt := 35) hx hb d_Reader_takesAndOrFor_20 (by decide) (fun c_6 => ?_) (fun c_6 => ?_)
    · replace hf := o_pos c_6 hf
      refine lv_iconst (v := 0) hx hb d_Reader_takesAndOrFor_35 (by decide) ?_
      rw [hQ, ← Option.some.inj hf]
      exact W.zret (ty := .boolean) hx hb hr rfl (fun t9 ht9 hW9 => ⟨rfl, by rw [ht9]; exact hP, hS.F ht9⟩) hS.2.2 d_Reader_takesAndOrFor_36
    · replace hf := o_neg c_6 hf
      refine lv_aload_n hx hb d_Reader_takesAndOrFor_23 rfl (lv_at hl 0 rfl) ?_
      refine lv_iconst (v := 2) hx hb d_Reader_takesAndOrFor_24 (by decide) ?_
      obtain ⟨t_7, hg_7, hf⟩ := o_bind hf
      refine x_virt (w' := [(h_this, .inr (1, [.int t_7.2, .int v_isNegative])), (h_p1, .inr (5, [.ref h_p1_signs, .int v_p1_size, .int v_p1_at, .int v_p1_kind, .int v_p1_amount, .long v_p1_letters])), (h_p2, .inr (3, [.ref h_p2_names, .ref h_p2_spans, .ref h_p2_costs, .ref h_p2_sizes, .ref h_p2_kinds, .ref h_p2_firsts, .ref h_p2_seconds, .ref h_p2_numbers, .int v_p2_count])), (h_p2_sizes, .inl (cI, 6, .inl v_p2_sizes))]) (As := [.int 2]) (rest := []) hx hb hml hl.1 hown hT hK hN hP hD hS hA (c_Reader_makeDue l dC dI cI cL cC h_this H.size v_due v_isNegative 2 t_7 hg_7) kM_Reader_38 kI_Reader_makeDue kS_134 kN_Reader kC_Reader_makeDue hd_Reader_makeDue rfl 0 rfl rfl rfl ⟨Nat.le_of_ble_eq_true rfl, Nat.le_of_ble_eq_true rfl⟩ rfl rfl ⟨Nat.zero_le _, Nat.zero_le _⟩ rfl (Nat.le_of_ble_eq_true rfl) d_Reader_takesAndOrFor_25 [0] rfl rfl [.inr 0, .inl 1, .inl 2, .inl 3] rfl rfl rfl (fun H locs hP hD hS => ?_)
      refine lv_if_eq (tgt := 35) hx hb d_Reader_takesAndOrFor_28 (by decide) (fun c_8 => ?_) (fun c_8 => ?_)
      · replace hf := o_pos c_8 hf
        refine lv_iconst (v := 0) hx hb d_Reader_takesAndOrFor_35 (by decide) ?_
        rw [hQ, ← Option.some.inj hf]
        exact W.zret (ty := .boolean) hx hb hr rfl (fun t9 ht9 hW9 => ⟨rfl, by rw [ht9]; exact hP, hS.F ht9⟩) hS.2.2 d_Reader_takesAndOrFor_36
      · replace hf := o_neg c_8 hf
        refine lv_iconst (v := 1) hx hb d_Reader_takesAndOrFor_31 (by decide) ?_
        refine lv_goto (tgt := 36) hx hb d_Reader_takesAndOrFor_32 (by decide) ?_
        rw [hQ, ← Option.some.inj hf]
        exact W.zret (ty := .boolean) hx hb hr rfl (fun t9 ht9 hW9 => ⟨rfl, by rw [ht9]; exact hP, hS.F ht9⟩) hS.2.2 d_Reader_takesAndOrFor_36
def rm_Reader_takesWatchedPoint : Room := { frames := 1, cells := 0, slots := 0, locals := 21 }
set_option maxHeartbeats 4000000 in
set_option maxRecDepth 100000 in
theorem c_Reader_takesWatchedPoint (l : Launch) (dC : Nat → ClassId) (dI : Nat → Nat → Nat) (cI cL cC : ClassId) (h_this h_p1 h_p2 h_p1_signs h_p2_names h_p2_spans h_p2_costs h_p2_sizes h_p2_kinds h_p2_firsts h_p2_seconds h_p2_numbers : Nat) (sz : Nat) (v_due : Int32) (v_isNegative : Int32) (v_p1_size : Int32) (v_p1_at : Int32) (v_p1_kind : Int32) (v_p1_amount : Int32) (v_p1_letters : Int64) (v_p2_count : Int32) (v_p2_sizes : Nat → Int32) (v_p2_firsts : Nat → Int32) (t : Int32 × Int32 × (Nat → Int32)) (hf : f_Reader_takesWatchedPoint v_due v_p1_kind v_p1_amount v_p2_count v_p2_sizes v_p2_firsts = some t) : Met l y_Reader_takesWatchedPoint (Cond.code y_Reader_takesWatchedPoint prog_3_method_10_code 3 (some .boolean) :: xT) rm_Reader_takesWatchedPoint (va_Pc [.ref h_this, .ref h_p1, .ref h_p2] (xP (dC, dI) (xTy cI cL cC) [(h_this, .inr (1, [.int v_due, .int v_isNegative])), (h_p1, .inr (5, [.ref h_p1_signs, .int v_p1_size, .int v_p1_at, .int v_p1_kind, .int v_p1_amount, .long v_p1_letters])), (h_p2, .inr (3, [.ref h_p2_names, .ref h_p2_spans, .ref h_p2_costs, .ref h_p2_sizes, .ref h_p2_kinds, .ref h_p2_firsts, .ref h_p2_seconds, .ref h_p2_numbers, .int v_p2_count])), (h_p2_sizes, .inl (cI, 6, .inl v_p2_sizes)), (h_p2_firsts, .inl (cI, 36, .inl v_p2_firsts))] sz)) (xQ (dC, dI) [(h_this, .inr (1, [.int t.2.1, .int v_isNegative])), (h_p1, .inr (5, [.ref h_p1_signs, .int v_p1_size, .int v_p1_at, .int v_p1_kind, .int v_p1_amount, .long v_p1_letters])), (h_p2, .inr (3, [.ref h_p2_names, .ref h_p2_spans, .ref h_p2_costs, .ref h_p2_sizes, .ref h_p2_kinds, .ref h_p2_firsts, .ref h_p2_seconds, .ref h_p2_numbers, .int v_p2_count])), (h_p2_sizes, .inl (cI, 6, .inl v_p2_sizes)), (h_p2_firsts, .inl (cI, 36, .inl t.2.2))] (va_A [(h_this, .inr (1, [.int v_due, .int v_isNegative])), (h_p1, .inr (5, [.ref h_p1_signs, .int v_p1_size, .int v_p1_at, .int v_p1_kind, .int v_p1_amount, .long v_p1_letters])), (h_p2, .inr (3, [.ref h_p2_names, .ref h_p2_spans, .ref h_p2_costs, .ref h_p2_sizes, .ref h_p2_kinds, .ref h_p2_firsts, .ref h_p2_seconds, .ref h_p2_numbers, .int v_p2_count])), (h_p2_sizes, .inl (cI, 6, .inl v_p2_sizes)), (h_p2_firsts, .inl (cI, 36, .inl v_p2_firsts))] sz) (some (.int t.1))) 0 0 (va_A [(h_this, .inr (1, [.int v_due, .int v_isNegative])), (h_p1, .inr (5, [.ref h_p1_signs, .int v_p1_size, .int v_p1_at, .int v_p1_kind, .int v_p1_amount, .long v_p1_letters])), (h_p2, .inr (3, [.ref h_p2_names, .ref h_p2_spans, .ref h_p2_costs, .ref h_p2_sizes, .ref h_p2_kinds, .ref h_p2_firsts, .ref h_p2_seconds, .ref h_p2_numbers, .int v_p2_count])), (h_p2_sizes, .inl (cI, 6, .inl v_p2_sizes)), (h_p2_firsts, .inl (cI, 36, .inl v_p2_firsts))] sz) := by
  refine Met.ofW (cc := prog_3_method_10_code) (maxL := 3) (ret := (some .boolean)) (by decide) rfl ?_
  intro p e s m args below meth c s₁ B hml hv
  obtain ⟨hargs, hsz, hP, hK, hN, hD0⟩ := hv
  have hx := B.exec
  have hb := B.bytes
  have hr := B.returns
  have hT : ∀ w ∈ xT, w.before args s = true := fun w hw => atoms_spec (ws := Cond.code y_Reader_takesWatchedPoint prog_3_method_10_code 3 (some .boolean) :: xT) B.pre w (List.mem_cons_of_mem _ hw)
  have hown : s.vm.findClass R_Reader = some m.cls := findClass_of_methodNamed B.named
  have hlocks := B.notSynchronized
  subst hsz
  have hD := hD0.self (sz := s.heap.size)
  generalize hAe : va_A [(h_this, .inr (1, [.int v_due, .int v_isNegative])), (h_p1, .inr (5, [.ref h_p1_signs, .int v_p1_size, .int v_p1_at, .int v_p1_kind, .int v_p1_amount, .long v_p1_letters])), (h_p2, .inr (3, [.ref h_p2_names, .ref h_p2_spans, .ref h_p2_costs, .ref h_p2_sizes, .ref h_p2_kinds, .ref h_p2_firsts, .ref h_p2_seconds, .ref h_p2_numbers, .int v_p2_count])), (h_p2_sizes, .inl (cI, 6, .inl v_p2_sizes)), (h_p2_firsts, .inl (cI, 36, .inl v_p2_firsts))] s.heap.size = A at hD ⊢
  have hA : ∀ q : Nat, s.heap.size ≤ q → A q := fun q h => by rw [← hAe]; exact Or.inr h
  have hS : va_S A s.heap s.heap [] := va_S.rf
  have hP : va_P (dC, dI) vwCl [(h_this, .inr (1, [.int v_due, .int v_isNegative])), (h_p1, .inr (5, [.ref h_p1_signs, .int v_p1_size, .int v_p1_at, .int v_p1_kind, .int v_p1_amount, .long v_p1_letters])), (h_p2, .inr (3, [.ref h_p2_names, .ref h_p2_spans, .ref h_p2_costs, .ref h_p2_sizes, .ref h_p2_kinds, .ref h_p2_firsts, .ref h_p2_seconds, .ref h_p2_numbers, .int v_p2_count])), (h_p2_sizes, .inl (cI, 6, .inl v_p2_sizes)), (h_p2_firsts, .inl (cI, 36, .inl v_p2_firsts))] s.heap := hP
  have hl := lv_entry ([.ref h_this, .ref h_p1, .ref h_p2]) (n := 3) (Nat.le_of_ble_eq_true rfl)
  rw [show entryFrame m args 3 = entryFrame m ([.ref h_this, .ref h_p1, .ref h_p2] : List Value).toArray 3 from by rw [hargs], lg_entry_eq]
  generalize (lg_sl ([.ref h_this, .ref h_p1, .ref h_p2]) ++ List.replicate (3 - (lg_sl ([.ref h_this, .ref h_p1, .ref h_p2])).length) Slot.unset).toArray = ls at hl ⊢
  have hl : lv_has ls 3 [(0, .ref h_this), (1, .ref h_p1), (2, .ref h_p2)] := hl
  obtain ⟨Q, hQ⟩ : ∃ Q, Q = MQ below (xQ (dC, dI) [(h_this, .inr (1, [.int t.2.1, .int v_isNegative])), (h_p1, .inr (5, [.ref h_p1_signs, .int v_p1_size, .int v_p1_at, .int v_p1_kind, .int v_p1_amount, .long v_p1_letters])), (h_p2, .inr (3, [.ref h_p2_names, .ref h_p2_spans, .ref h_p2_costs, .ref h_p2_sizes, .ref h_p2_kinds, .ref h_p2_firsts, .ref h_p2_seconds, .ref h_p2_numbers, .int v_p2_count])), (h_p2_sizes, .inl (cI, 6, .inl v_p2_sizes)), (h_p2_firsts, .inl (cI, 36, .inl t.2.2))] A (some (.int t.1))) args s 0 0 A := ⟨_, rfl⟩
  rw [← hQ]
  show W p l e rm_Reader_takesWatchedPoint s m args below meth c s.heap [] 0 0 Q _
  obtain ⟨H, hH⟩ : ∃ H, H = s.heap := ⟨_, rfl⟩
  obtain ⟨locs, hlocs⟩ : ∃ L : List Loc, L = [] := ⟨_, rfl⟩
  rw [← hlocs] at hS ⊢
  have hS : va_S A s.heap H locs := by rw [hH]; exact hS
  rw [← hH] at hP ⊢
  replace hf := f_Reader_takesWatchedPoint_u hf
  refine lv_aload_n hx hb d_Reader_takesWatchedPoint_0 rfl (lv_at hl 2 rfl) ?_
  refine va_get (D := (dC, dI)) (ci := 3) (v := .ref h_p2_firsts) (C := R_RuleSet) (T := T_RuleSet) (N := 9) hx hb hT i_RuleSet hown hK hP 2 rfl rfl 5 (by decide) (hT _ kF_Reader_100) (fun _ h9 => h9) rfl d_Reader_takesWatchedPoint_1 ?_
  refine lv_aload_n hx hb d_Reader_takesWatchedPoint_4 rfl (lv_at hl 2 rfl) ?_
  obtain ⟨t_1, hg_1, hf⟩ := o_bind hf
  refine x_virt (w' := [(h_this, .inr (1, [.int v_due, .int v_isNegative])), (h_p1, .inr (5, [.ref h_p1_signs, .int v_p1_size, .int v_p1_at, .int v_p1_kind, .int v_p1_amount, .long v_p1_letters])), (h_p2, .inr (3, [.ref h_p2_names, .ref h_p2_spans, .ref h_p2_costs, .ref h_p2_sizes, .ref h_p2_kinds, .ref h_p2_firsts, .ref h_p2_seconds, .ref h_p2_numbers, .int v_p2_count])), (h_p2_sizes, .inl (cI, 6, .inl v_p2_sizes)), (h_p2_firsts, .inl (cI, 36, .inl v_p2_firsts))]) (As := []) (rest := [.ref h_p2_firsts]) hx hb hml hl.1 hown hT hK hN hP hD hS hA (c_RuleSet_openTest l dC dI cI cL cC h_p2 h_p2_names h_p2_spans h_p2_costs h_p2_sizes h_p2_kinds h_p2_firsts h_p2_seconds h_p2_numbers H.size v_p2_count v_p2_sizes t_1 hg_1) kM_Reader_89 kI_RuleSet_openTest kS_149 kN_RuleSet kC_RuleSet_openTest hd_RuleSet_openTest rfl 2 rfl rfl rfl ⟨Nat.le_of_ble_eq_true rfl, Nat.le_of_ble_eq_true rfl⟩ rfl rfl ⟨Nat.zero_le _, Nat.zero_le _⟩ rfl (Nat.le_of_ble_eq_true rfl) d_Reader_takesWatchedPoint_5 [2, 3] rfl rfl [.inl 0, .inl 1, .inr 0, .inr 1, .inl 4] rfl rfl rfl (fun H locs hP hD hS => ?_)
  refine lv_aload_n hx hb d_Reader_takesWatchedPoint_8 rfl (lv_at hl 1 rfl) ?_
  refine va_get (D := (dC, dI)) (ci := 5) (v := .int v_p1_amount) (C := R_Text) (T := T_Text) (N := 6) hx hb hT i_Text hown hK hP 1 rfl rfl 4 (by decide) (hT _ kF_Reader_103) (fun _ h9 => h9) rfl d_Reader_takesWatchedPoint_9 ?_
  obtain ⟨hi_2, hf⟩ := o_in hf
  refine va_iast hx hb hK hP hD hS 4 0 rfl rfl hi_2 d_Reader_takesWatchedPoint_12 (fun H locs hP hD hS => ?_)
  have hP : va_P (dC, dI) vwCl [(h_this, .inr (1, [.int v_due, .int v_isNegative])), (h_p1, .inr (5, [.ref h_p1_signs, .int v_p1_size, .int v_p1_at, .int v_p1_kind, .int v_p1_amount, .long v_p1_letters])), (h_p2, .inr (3, [.ref h_p2_names, .ref h_p2_spans, .ref h_p2_costs, .ref h_p2_sizes, .ref h_p2_kinds, .ref h_p2_firsts, .ref h_p2_seconds, .ref h_p2_numbers, .int v_p2_count])), (h_p2_sizes, .inl (cI, 6, .inl v_p2_sizes)), (h_p2_firsts, .inl (cI, 36, .inl (upd v_p2_firsts (t_1 : Int32).toNatClampNeg v_p1_amount)))] H := hP
  have hD : va_D A [(h_this, .inr (1, [.int v_due, .int v_isNegative])), (h_p1, .inr (5, [.ref h_p1_signs, .int v_p1_size, .int v_p1_at, .int v_p1_kind, .int v_p1_amount, .long v_p1_letters])), (h_p2, .inr (3, [.ref h_p2_names, .ref h_p2_spans, .ref h_p2_costs, .ref h_p2_sizes, .ref h_p2_kinds, .ref h_p2_firsts, .ref h_p2_seconds, .ref h_p2_numbers, .int v_p2_count])), (h_p2_sizes, .inl (cI, 6, .inl v_p2_sizes)), (h_p2_firsts, .inl (cI, 36, .inl (upd v_p2_firsts (t_1 : Int32).toNatClampNeg v_p1_amount)))] := hD
  refine lv_aload_n hx hb d_Reader_takesWatchedPoint_13 rfl (lv_at hl 1 rfl) ?_
  refine va_get (D := (dC, dI)) (ci := 5) (v := .int v_p1_kind) (C := R_Text) (T := T_Text) (N := 6) hx hb hT i_Text hown hK hP 1 rfl rfl 3 (by decide) (hT _ kF_Reader_25) (fun _ h9 => h9) rfl d_Reader_takesWatchedPoint_14 ?_
  refine lv_iconst (v := 4) hx hb d_Reader_takesWatchedPoint_17 (by decide) ?_
  refine lv_icmp_ne (tgt := 34) hx hb d_Reader_takesWatchedPoint_18 (by decide) (fun c_3 => ?_) (fun c_3 => ?_)
  · replace hf := o_neg c_3 hf
    refine lv_iconst (v := 0) hx hb d_Reader_takesWatchedPoint_34 (by decide) ?_
    rw [hQ, ← Option.some.inj hf]
    exact W.zret (ty := .boolean) hx hb hr rfl (fun t9 ht9 hW9 => ⟨rfl, by rw [ht9]; exact hP, hS.F ht9⟩) hS.2.2 d_Reader_takesWatchedPoint_35
  · replace hf := o_pos c_3 hf
    refine lv_aload_n hx hb d_Reader_takesWatchedPoint_21 rfl (lv_at hl 0 rfl) ?_
    refine lv_bipush (v := 7) hx hb d_Reader_takesWatchedPoint_22 (by decide) ?_
    obtain ⟨t_4, hg_4, hf⟩ := o_bind hf
    refine x_virt (w' := [(h_this, .inr (1, [.int t_4.2, .int v_isNegative])), (h_p1, .inr (5, [.ref h_p1_signs, .int v_p1_size, .int v_p1_at, .int v_p1_kind, .int v_p1_amount, .long v_p1_letters])), (h_p2, .inr (3, [.ref h_p2_names, .ref h_p2_spans, .ref h_p2_costs, .ref h_p2_sizes, .ref h_p2_kinds, .ref h_p2_firsts, .ref h_p2_seconds, .ref h_p2_numbers, .int v_p2_count])), (h_p2_sizes, .inl (cI, 6, .inl v_p2_sizes)), (h_p2_firsts, .inl (cI, 36, .inl (upd v_p2_firsts (t_1 : Int32).toNatClampNeg v_p1_amount)))]) (As := [.int 7]) (rest := []) hx hb hml hl.1 hown hT hK hN hP hD hS hA (c_Reader_makeDue l dC dI cI cL cC h_this H.size v_due v_isNegative 7 t_4 hg_4) kM_Reader_38 kI_Reader_makeDue kS_134 kN_Reader kC_Reader_makeDue hd_Reader_makeDue rfl 0 rfl rfl rfl ⟨Nat.le_of_ble_eq_true rfl, Nat.le_of_ble_eq_true rfl⟩ rfl rfl ⟨Nat.zero_le _, Nat.zero_le _⟩ rfl (Nat.le_of_ble_eq_true rfl) d_Reader_takesWatchedPoint_24 [0] rfl rfl [.inr 0, .inl 1, .inl 2, .inl 3, .inl 4] rfl rfl rfl (fun H locs hP hD hS => ?_)
    refine lv_if_eq (tgt := 34) hx hb d_Reader_takesWatchedPoint_27 (by decide) (fun c_5 => ?_) (fun c_5 => ?_)
    · replace hf := o_pos c_5 hf
      refine lv_iconst (v := 0) hx hb d_Reader_takesWatchedPoint_34 (by decide) ?_
      rw [hQ, ← Option.some.inj hf]
      exact W.zret (ty := .boolean) hx hb hr rfl (fun t9 ht9 hW9 => ⟨rfl, by rw [ht9]; exact hP, hS.F ht9⟩) hS.2.2 d_Reader_takesWatchedPoint_35
    · replace hf := o_neg c_5 hf
      refine lv_iconst (v := 1) hx hb d_Reader_takesWatchedPoint_30 (by decide) ?_
      refine lv_goto (tgt := 35) hx hb d_Reader_takesWatchedPoint_31 (by decide) ?_
      rw [hQ, ← Option.some.inj hf]
      exact W.zret (ty := .boolean) hx hb hr rfl (fun t9 ht9 hW9 => ⟨rfl, by rw [ht9]; exact hP, hS.F ht9⟩) hS.2.2 d_Reader_takesWatchedPoint_35
def rm_Reader_takesNumber : Room := { frames := 1, cells := 0, slots := 0, locals := 21 }
set_option maxHeartbeats 4000000 in
set_option maxRecDepth 100000 in
theorem c_Reader_takesNumber (l : Launch) (dC : Nat → ClassId) (dI : Nat → Nat → Nat) (cI cL cC : ClassId) (h_this h_p1 h_p2 h_p1_signs h_p2_names h_p2_spans h_p2_costs h_p2_sizes h_p2_kinds h_p2_firsts h_p2_seconds h_p2_numbers : Nat) (sz : Nat) (v_due : Int32) (v_isNegative : Int32) (v_p1_size : Int32) (v_p1_at : Int32) (v_p1_kind : Int32) (v_p1_amount : Int32) (v_p1_letters : Int64) (v_p2_count : Int32) (v_p2_sizes : Nat → Int32) (v_p2_numbers : Nat → Int32) (t : Int32 × Int32 × (Nat → Int32) × (Nat → Int32)) (hf : f_Reader_takesNumber v_due v_isNegative v_p1_kind v_p1_amount v_p2_count v_p2_sizes v_p2_numbers = some t) : Met l y_Reader_takesNumber (Cond.code y_Reader_takesNumber prog_3_method_11_code 3 (some .boolean) :: xT) rm_Reader_takesNumber (va_Pc [.ref h_this, .ref h_p1, .ref h_p2] (xP (dC, dI) (xTy cI cL cC) [(h_this, .inr (1, [.int v_due, .int v_isNegative])), (h_p1, .inr (5, [.ref h_p1_signs, .int v_p1_size, .int v_p1_at, .int v_p1_kind, .int v_p1_amount, .long v_p1_letters])), (h_p2, .inr (3, [.ref h_p2_names, .ref h_p2_spans, .ref h_p2_costs, .ref h_p2_sizes, .ref h_p2_kinds, .ref h_p2_firsts, .ref h_p2_seconds, .ref h_p2_numbers, .int v_p2_count])), (h_p2_sizes, .inl (cI, 6, .inl v_p2_sizes)), (h_p2_numbers, .inl (cI, 36, .inl v_p2_numbers))] sz)) (xQ (dC, dI) [(h_this, .inr (1, [.int t.2.1, .int v_isNegative])), (h_p1, .inr (5, [.ref h_p1_signs, .int v_p1_size, .int v_p1_at, .int v_p1_kind, .int v_p1_amount, .long v_p1_letters])), (h_p2, .inr (3, [.ref h_p2_names, .ref h_p2_spans, .ref h_p2_costs, .ref h_p2_sizes, .ref h_p2_kinds, .ref h_p2_firsts, .ref h_p2_seconds, .ref h_p2_numbers, .int v_p2_count])), (h_p2_sizes, .inl (cI, 6, .inl t.2.2.1)), (h_p2_numbers, .inl (cI, 36, .inl t.2.2.2))] (va_A [(h_this, .inr (1, [.int v_due, .int v_isNegative])), (h_p1, .inr (5, [.ref h_p1_signs, .int v_p1_size, .int v_p1_at, .int v_p1_kind, .int v_p1_amount, .long v_p1_letters])), (h_p2, .inr (3, [.ref h_p2_names, .ref h_p2_spans, .ref h_p2_costs, .ref h_p2_sizes, .ref h_p2_kinds, .ref h_p2_firsts, .ref h_p2_seconds, .ref h_p2_numbers, .int v_p2_count])), (h_p2_sizes, .inl (cI, 6, .inl v_p2_sizes)), (h_p2_numbers, .inl (cI, 36, .inl v_p2_numbers))] sz) (some (.int t.1))) 0 0 (va_A [(h_this, .inr (1, [.int v_due, .int v_isNegative])), (h_p1, .inr (5, [.ref h_p1_signs, .int v_p1_size, .int v_p1_at, .int v_p1_kind, .int v_p1_amount, .long v_p1_letters])), (h_p2, .inr (3, [.ref h_p2_names, .ref h_p2_spans, .ref h_p2_costs, .ref h_p2_sizes, .ref h_p2_kinds, .ref h_p2_firsts, .ref h_p2_seconds, .ref h_p2_numbers, .int v_p2_count])), (h_p2_sizes, .inl (cI, 6, .inl v_p2_sizes)), (h_p2_numbers, .inl (cI, 36, .inl v_p2_numbers))] sz) := by
  refine Met.ofW (cc := prog_3_method_11_code) (maxL := 3) (ret := (some .boolean)) (by decide) rfl ?_
  intro p e s m args below meth c s₁ B hml hv
  obtain ⟨hargs, hsz, hP, hK, hN, hD0⟩ := hv
  have hx := B.exec
  have hb := B.bytes
  have hr := B.returns
  have hT : ∀ w ∈ xT, w.before args s = true := fun w hw => atoms_spec (ws := Cond.code y_Reader_takesNumber prog_3_method_11_code 3 (some .boolean) :: xT) B.pre w (List.mem_cons_of_mem _ hw)
  have hown : s.vm.findClass R_Reader = some m.cls := findClass_of_methodNamed B.named
  have hlocks := B.notSynchronized
  subst hsz
  have hD := hD0.self (sz := s.heap.size)
  generalize hAe : va_A [(h_this, .inr (1, [.int v_due, .int v_isNegative])), (h_p1, .inr (5, [.ref h_p1_signs, .int v_p1_size, .int v_p1_at, .int v_p1_kind, .int v_p1_amount, .long v_p1_letters])), (h_p2, .inr (3, [.ref h_p2_names, .ref h_p2_spans, .ref h_p2_costs, .ref h_p2_sizes, .ref h_p2_kinds, .ref h_p2_firsts, .ref h_p2_seconds, .ref h_p2_numbers, .int v_p2_count])), (h_p2_sizes, .inl (cI, 6, .inl v_p2_sizes)), (h_p2_numbers, .inl (cI, 36, .inl v_p2_numbers))] s.heap.size = A at hD ⊢
  have hA : ∀ q : Nat, s.heap.size ≤ q → A q := fun q h => by rw [← hAe]; exact Or.inr h
  have hS : va_S A s.heap s.heap [] := va_S.rf
  have hP : va_P (dC, dI) vwCl [(h_this, .inr (1, [.int v_due, .int v_isNegative])), (h_p1, .inr (5, [.ref h_p1_signs, .int v_p1_size, .int v_p1_at, .int v_p1_kind, .int v_p1_amount, .long v_p1_letters])), (h_p2, .inr (3, [.ref h_p2_names, .ref h_p2_spans, .ref h_p2_costs, .ref h_p2_sizes, .ref h_p2_kinds, .ref h_p2_firsts, .ref h_p2_seconds, .ref h_p2_numbers, .int v_p2_count])), (h_p2_sizes, .inl (cI, 6, .inl v_p2_sizes)), (h_p2_numbers, .inl (cI, 36, .inl v_p2_numbers))] s.heap := hP
  have hl := lv_entry ([.ref h_this, .ref h_p1, .ref h_p2]) (n := 3) (Nat.le_of_ble_eq_true rfl)
  rw [show entryFrame m args 3 = entryFrame m ([.ref h_this, .ref h_p1, .ref h_p2] : List Value).toArray 3 from by rw [hargs], lg_entry_eq]
  generalize (lg_sl ([.ref h_this, .ref h_p1, .ref h_p2]) ++ List.replicate (3 - (lg_sl ([.ref h_this, .ref h_p1, .ref h_p2])).length) Slot.unset).toArray = ls at hl ⊢
  have hl : lv_has ls 3 [(0, .ref h_this), (1, .ref h_p1), (2, .ref h_p2)] := hl
  obtain ⟨Q, hQ⟩ : ∃ Q, Q = MQ below (xQ (dC, dI) [(h_this, .inr (1, [.int t.2.1, .int v_isNegative])), (h_p1, .inr (5, [.ref h_p1_signs, .int v_p1_size, .int v_p1_at, .int v_p1_kind, .int v_p1_amount, .long v_p1_letters])), (h_p2, .inr (3, [.ref h_p2_names, .ref h_p2_spans, .ref h_p2_costs, .ref h_p2_sizes, .ref h_p2_kinds, .ref h_p2_firsts, .ref h_p2_seconds, .ref h_p2_numbers, .int v_p2_count])), (h_p2_sizes, .inl (cI, 6, .inl t.2.2.1)), (h_p2_numbers, .inl (cI, 36, .inl t.2.2.2))] A (some (.int t.1))) args s 0 0 A := ⟨_, rfl⟩
  rw [← hQ]
  show W p l e rm_Reader_takesNumber s m args below meth c s.heap [] 0 0 Q _
  obtain ⟨H, hH⟩ : ∃ H, H = s.heap := ⟨_, rfl⟩
  obtain ⟨locs, hlocs⟩ : ∃ L : List Loc, L = [] := ⟨_, rfl⟩
  rw [← hlocs] at hS ⊢
  have hS : va_S A s.heap H locs := by rw [hH]; exact hS
  rw [← hH] at hP ⊢
  replace hf := f_Reader_takesNumber_u hf
  refine lv_aload_n hx hb d_Reader_takesNumber_0 rfl (lv_at hl 1 rfl) ?_
  refine va_get (D := (dC, dI)) (ci := 5) (v := .int v_p1_kind) (C := R_Text) (T := T_Text) (N := 6) hx hb hT i_Text hown hK hP 1 rfl rfl 3 (by decide) (hT _ kF_Reader_25) (fun _ h9 => h9) rfl d_Reader_takesNumber_1 ?_
  refine lv_iconst (v := 3) hx hb d_Reader_takesNumber_4 (by decide) ?_
  refine lv_icmp_eq (tgt := 10) hx hb d_Reader_takesNumber_5 (by decide) (fun c_1 => ?_) (fun c_1 => ?_)
  · replace hf := o_pos c_1 hf
    refine lv_aload_n hx hb d_Reader_takesNumber_10 rfl (lv_at hl 2 rfl) ?_
    refine va_get (D := (dC, dI)) (ci := 3) (v := .ref h_p2_numbers) (C := R_RuleSet) (T := T_RuleSet) (N := 9) hx hb hT i_RuleSet hown hK hP 2 rfl rfl 7 (by decide) (hT _ kF_Reader_109) (fun _ h9 => h9) rfl d_Reader_takesNumber_11 ?_
    refine lv_aload_n hx hb d_Reader_takesNumber_14 rfl (lv_at hl 2 rfl) ?_
    obtain ⟨t_2, hg_2, hf⟩ := o_bind hf
    refine x_virt (w' := [(h_this, .inr (1, [.int v_due, .int v_isNegative])), (h_p1, .inr (5, [.ref h_p1_signs, .int v_p1_size, .int v_p1_at, .int v_p1_kind, .int v_p1_amount, .long v_p1_letters])), (h_p2, .inr (3, [.ref h_p2_names, .ref h_p2_spans, .ref h_p2_costs, .ref h_p2_sizes, .ref h_p2_kinds, .ref h_p2_firsts, .ref h_p2_seconds, .ref h_p2_numbers, .int v_p2_count])), (h_p2_sizes, .inl (cI, 6, .inl v_p2_sizes)), (h_p2_numbers, .inl (cI, 36, .inl v_p2_numbers))]) (As := []) (rest := [.ref h_p2_numbers]) hx hb hml hl.1 hown hT hK hN hP hD hS hA (c_RuleSet_openTest l dC dI cI cL cC h_p2 h_p2_names h_p2_spans h_p2_costs h_p2_sizes h_p2_kinds h_p2_firsts h_p2_seconds h_p2_numbers H.size v_p2_count v_p2_sizes t_2 hg_2) kM_Reader_89 kI_RuleSet_openTest kS_149 kN_RuleSet kC_RuleSet_openTest hd_RuleSet_openTest rfl 2 rfl rfl rfl ⟨Nat.le_of_ble_eq_true rfl, Nat.le_of_ble_eq_true rfl⟩ rfl rfl ⟨Nat.zero_le _, Nat.zero_le _⟩ rfl (Nat.le_of_ble_eq_true rfl) d_Reader_takesNumber_15 [2, 3] rfl rfl [.inl 0, .inl 1, .inr 0, .inr 1, .inl 4] rfl rfl rfl (fun H locs hP hD hS => ?_)
    refine lv_aload_n hx hb d_Reader_takesNumber_18 rfl (lv_at hl 0 rfl) ?_
    refine va_get (D := (dC, dI)) (ci := 1) (v := .int v_isNegative) (C := R_Reader) (T := T_Reader) (N := 2) hx hb hT i_Reader hown hK hP 0 rfl rfl 1 (by decide) (hT _ kF_Reader_93) (fun _ h9 => h9) rfl d_Reader_takesNumber_19 ?_
    have jn_37 : ∀ (s2_j37 : Int32) (H : Heap) (locs : List Loc) (ls : Array Slot), J_Reader_takesNumber_37 v_due v_p2_count v_p2_sizes v_p2_numbers t_2 s2_j37 = some t → va_P (dC, dI) vwCl [(h_this, .inr (1, [.int v_due, .int v_isNegative])), (h_p1, .inr (5, [.ref h_p1_signs, .int v_p1_size, .int v_p1_at, .int v_p1_kind, .int v_p1_amount, .long v_p1_letters])), (h_p2, .inr (3, [.ref h_p2_names, .ref h_p2_spans, .ref h_p2_costs, .ref h_p2_sizes, .ref h_p2_kinds, .ref h_p2_firsts, .ref h_p2_seconds, .ref h_p2_numbers, .int v_p2_count])), (h_p2_sizes, .inl (cI, 6, .inl v_p2_sizes)), (h_p2_numbers, .inl (cI, 36, .inl v_p2_numbers))] H → va_D A [(h_this, .inr (1, [.int v_due, .int v_isNegative])), (h_p1, .inr (5, [.ref h_p1_signs, .int v_p1_size, .int v_p1_at, .int v_p1_kind, .int v_p1_amount, .long v_p1_letters])), (h_p2, .inr (3, [.ref h_p2_names, .ref h_p2_spans, .ref h_p2_costs, .ref h_p2_sizes, .ref h_p2_kinds, .ref h_p2_firsts, .ref h_p2_seconds, .ref h_p2_numbers, .int v_p2_count])), (h_p2_sizes, .inl (cI, 6, .inl v_p2_sizes)), (h_p2_numbers, .inl (cI, 36, .inl v_p2_numbers))] → va_S A s.heap H locs → lv_has ls 3 [(0, .ref h_this), (2, .ref h_p2)] → W p l e rm_Reader_takesNumber s m args below meth c H locs 0 0 Q (F0 m 37 ls [.int s2_j37, .int t_2, .ref h_p2_numbers]) := by
      intro s2_j37 H locs ls hf hP hD hS hl
      replace hf := J_Reader_takesNumber_37_u hf
      obtain ⟨hi_3, hf⟩ := o_in hf
      refine va_iast hx hb hK hP hD hS 4 0 rfl rfl hi_3 d_Reader_takesNumber_37 (fun H locs hP hD hS => ?_)
      have hP : va_P (dC, dI) vwCl [(h_this, .inr (1, [.int v_due, .int v_isNegative])), (h_p1, .inr (5, [.ref h_p1_signs, .int v_p1_size, .int v_p1_at, .int v_p1_kind, .int v_p1_amount, .long v_p1_letters])), (h_p2, .inr (3, [.ref h_p2_names, .ref h_p2_spans, .ref h_p2_costs, .ref h_p2_sizes, .ref h_p2_kinds, .ref h_p2_firsts, .ref h_p2_seconds, .ref h_p2_numbers, .int v_p2_count])), (h_p2_sizes, .inl (cI, 6, .inl v_p2_sizes)), (h_p2_numbers, .inl (cI, 36, .inl (upd v_p2_numbers (t_2 : Int32).toNatClampNeg s2_j37)))] H := hP
      have hD : va_D A [(h_this, .inr (1, [.int v_due, .int v_isNegative])), (h_p1, .inr (5, [.ref h_p1_signs, .int v_p1_size, .int v_p1_at, .int v_p1_kind, .int v_p1_amount, .long v_p1_letters])), (h_p2, .inr (3, [.ref h_p2_names, .ref h_p2_spans, .ref h_p2_costs, .ref h_p2_sizes, .ref h_p2_kinds, .ref h_p2_firsts, .ref h_p2_seconds, .ref h_p2_numbers, .int v_p2_count])), (h_p2_sizes, .inl (cI, 6, .inl v_p2_sizes)), (h_p2_numbers, .inl (cI, 36, .inl (upd v_p2_numbers (t_2 : Int32).toNatClampNeg s2_j37)))] := hD
      refine lv_aload_n hx hb d_Reader_takesNumber_38 rfl (lv_at hl 1 rfl) ?_
      refine va_get (D := (dC, dI)) (ci := 3) (v := .ref h_p2_sizes) (C := R_RuleSet) (T := T_RuleSet) (N := 9) hx hb hT i_RuleSet hown hK hP 2 rfl rfl 3 (by decide) (hT _ kF_Reader_85) (fun _ h9 => h9) rfl d_Reader_takesNumber_39 ?_
      refine lv_aload_n hx hb d_Reader_takesNumber_42 rfl (lv_at hl 1 rfl) ?_
      refine va_get (D := (dC, dI)) (ci := 3) (v := .int v_p2_count) (C := R_RuleSet) (T := T_RuleSet) (N := 9) hx hb hT i_RuleSet hown hK hP 2 rfl rfl 8 (by decide) (hT _ kF_Reader_15) (fun _ h9 => h9) rfl d_Reader_takesNumber_43 ?_
      refine lv_dup2_11 hx hb d_Reader_takesNumber_46 rfl rfl ?_
      obtain ⟨hi_4, hf⟩ := o_in hf
      refine va_iald hx hb hK hP 3 0 rfl rfl hi_4 d_Reader_takesNumber_47 ?_
      refine lv_iconst (v := 1) hx hb d_Reader_takesNumber_48 (by decide) ?_
      refine lv_iadd hx hb d_Reader_takesNumber_49 ?_
      obtain ⟨hi_5, hf⟩ := o_in hf
      refine va_iast hx hb hK hP hD hS 3 0 rfl rfl hi_5 d_Reader_takesNumber_50 (fun H locs hP hD hS => ?_)
      have hP : va_P (dC, dI) vwCl [(h_this, .inr (1, [.int v_due, .int v_isNegative])), (h_p1, .inr (5, [.ref h_p1_signs, .int v_p1_size, .int v_p1_at, .int v_p1_kind, .int v_p1_amount, .long v_p1_letters])), (h_p2, .inr (3, [.ref h_p2_names, .ref h_p2_spans, .ref h_p2_costs, .ref h_p2_sizes, .ref h_p2_kinds, .ref h_p2_firsts, .ref h_p2_seconds, .ref h_p2_numbers, .int v_p2_count])), (h_p2_sizes, .inl (cI, 6, .inl (upd v_p2_sizes (v_p2_count : Int32).toNatClampNeg ((v_p2_sizes (v_p2_count : Int32).toNatClampNeg) + 1)))), (h_p2_numbers, .inl (cI, 36, .inl (upd v_p2_numbers (t_2 : Int32).toNatClampNeg s2_j37)))] H := hP
      have hD : va_D A [(h_this, .inr (1, [.int v_due, .int v_isNegative])), (h_p1, .inr (5, [.ref h_p1_signs, .int v_p1_size, .int v_p1_at, .int v_p1_kind, .int v_p1_amount, .long v_p1_letters])), (h_p2, .inr (3, [.ref h_p2_names, .ref h_p2_spans, .ref h_p2_costs, .ref h_p2_sizes, .ref h_p2_kinds, .ref h_p2_firsts, .ref h_p2_seconds, .ref h_p2_numbers, .int v_p2_count])), (h_p2_sizes, .inl (cI, 6, .inl (upd v_p2_sizes (v_p2_count : Int32).toNatClampNeg ((v_p2_sizes (v_p2_count : Int32).toNatClampNeg) + 1)))), (h_p2_numbers, .inl (cI, 36, .inl (upd v_p2_numbers (t_2 : Int32).toNatClampNeg s2_j37)))] := hD
      refine lv_aload_n hx hb d_Reader_takesNumber_51 rfl (lv_at hl 0 rfl) ?_
      refine lv_bipush (v := 9) hx hb d_Reader_takesNumber_52 (by decide) ?_
      obtain ⟨t_6, hg_6, hf⟩ := o_bind hf
      refine x_virt (w' := [(h_this, .inr (1, [.int t_6.2, .int v_isNegative])), (h_p1, .inr (5, [.ref h_p1_signs, .int v_p1_size, .int v_p1_at, .int v_p1_kind, .int v_p1_amount, .long v_p1_letters])), (h_p2, .inr (3, [.ref h_p2_names, .ref h_p2_spans, .ref h_p2_costs, .ref h_p2_sizes, .ref h_p2_kinds, .ref h_p2_firsts, .ref h_p2_seconds, .ref h_p2_numbers, .int v_p2_count])), (h_p2_sizes, .inl (cI, 6, .inl (upd v_p2_sizes (v_p2_count : Int32).toNatClampNeg ((v_p2_sizes (v_p2_count : Int32).toNatClampNeg) + 1)))), (h_p2_numbers, .inl (cI, 36, .inl (upd v_p2_numbers (t_2 : Int32).toNatClampNeg s2_j37)))]) (As := [.int 9]) (rest := []) hx hb hml hl.1 hown hT hK hN hP hD hS hA (c_Reader_makeDue l dC dI cI cL cC h_this H.size v_due v_isNegative 9 t_6 hg_6) kM_Reader_38 kI_Reader_makeDue kS_134 kN_Reader kC_Reader_makeDue hd_Reader_makeDue rfl 0 rfl rfl rfl ⟨Nat.le_of_ble_eq_true rfl, Nat.le_of_ble_eq_true rfl⟩ rfl rfl ⟨Nat.zero_le _, Nat.zero_le _⟩ rfl (Nat.le_of_ble_eq_true rfl) d_Reader_takesNumber_54 [0] rfl rfl [.inr 0, .inl 1, .inl 2, .inl 3, .inl 4] rfl rfl rfl (fun H locs hP hD hS => ?_)
      obtain ⟨hz_7, hf⟩ := o_zb hf
      rw [hQ, ← Option.some.inj hf]
      exact W.zret (ty := .boolean) hx hb hr hz_7 (fun t9 ht9 hW9 => ⟨rfl, by rw [ht9]; exact hP, hS.F ht9⟩) hS.2.2 d_Reader_takesNumber_57
    refine lv_if_eq (tgt := 33) hx hb d_Reader_takesNumber_22 (by decide) (fun c_8 => ?_) (fun c_8 => ?_)
    · replace hf := o_pos c_8 hf
      refine lv_aload_n hx hb d_Reader_takesNumber_33 rfl (lv_at hl 1 rfl) ?_
      refine va_get (D := (dC, dI)) (ci := 5) (v := .int v_p1_amount) (C := R_Text) (T := T_Text) (N := 6) hx hb hT i_Text hown hK hP 1 rfl rfl 4 (by decide) (hT _ kF_Reader_103) (fun _ h9 => h9) rfl d_Reader_takesNumber_34 ?_
      exact jn_37 v_p1_amount H locs ls hf hP hD hS (lv_sub hl [0, 2] rfl)
    · replace hf := o_neg c_8 hf
      refine lv_aload_n hx hb d_Reader_takesNumber_25 rfl (lv_at hl 1 rfl) ?_
      refine va_get (D := (dC, dI)) (ci := 5) (v := .int v_p1_amount) (C := R_Text) (T := T_Text) (N := 6) hx hb hT i_Text hown hK hP 1 rfl rfl 4 (by decide) (hT _ kF_Reader_103) (fun _ h9 => h9) rfl d_Reader_takesNumber_26 ?_
      refine lv_ineg hx hb d_Reader_takesNumber_29 ?_
      refine lv_goto (tgt := 37) hx hb d_Reader_takesNumber_30 (by decide) ?_
      exact jn_37 (-v_p1_amount) H locs ls hf hP hD hS (lv_sub hl [0, 2] rfl)
  · replace hf := o_neg c_1 hf
    refine lv_iconst (v := 0) hx hb d_Reader_takesNumber_8 (by decide) ?_
    rw [hQ, ← Option.some.inj hf]
    exact W.zret (ty := .boolean) hx hb hr rfl (fun t9 ht9 hW9 => ⟨rfl, by rw [ht9]; exact hP, hS.F ht9⟩) hS.2.2 d_Reader_takesNumber_9
def rm_Reader_takesMinus : Room := { frames := 1, cells := 0, slots := 0, locals := 21 }
set_option maxHeartbeats 4000000 in
set_option maxRecDepth 100000 in
theorem c_Reader_takesMinus (l : Launch) (dC : Nat → ClassId) (dI : Nat → Nat → Nat) (cI cL cC : ClassId) (h_this : Nat) (sz : Nat) (v_due : Int32) (v_isNegative : Int32) (t : Int32 × Int32 × Int32) (hf : f_Reader_takesMinus v_due v_isNegative = some t) : Met l y_Reader_takesMinus (Cond.code y_Reader_takesMinus prog_3_method_9_code 1 (some .boolean) :: xT) rm_Reader_takesMinus (va_Pc [.ref h_this] (xP (dC, dI) (xTy cI cL cC) [(h_this, .inr (1, [.int v_due, .int v_isNegative]))] sz)) (xQ (dC, dI) [(h_this, .inr (1, [.int t.2.1, .int t.2.2]))] (va_A [(h_this, .inr (1, [.int v_due, .int v_isNegative]))] sz) (some (.int t.1))) 0 0 (va_A [(h_this, .inr (1, [.int v_due, .int v_isNegative]))] sz) := by
  refine Met.ofW (cc := prog_3_method_9_code) (maxL := 1) (ret := (some .boolean)) (by decide) rfl ?_
  intro p e s m args below meth c s₁ B hml hv
  obtain ⟨hargs, hsz, hP, hK, hN, hD0⟩ := hv
  have hx := B.exec
  have hb := B.bytes
  have hr := B.returns
  have hT : ∀ w ∈ xT, w.before args s = true := fun w hw => atoms_spec (ws := Cond.code y_Reader_takesMinus prog_3_method_9_code 1 (some .boolean) :: xT) B.pre w (List.mem_cons_of_mem _ hw)
  have hown : s.vm.findClass R_Reader = some m.cls := findClass_of_methodNamed B.named
  have hlocks := B.notSynchronized
  subst hsz
  have hD := hD0.self (sz := s.heap.size)
  generalize hAe : va_A [(h_this, .inr (1, [.int v_due, .int v_isNegative]))] s.heap.size = A at hD ⊢
  have hA : ∀ q : Nat, s.heap.size ≤ q → A q := fun q h => by rw [← hAe]; exact Or.inr h
  have hS : va_S A s.heap s.heap [] := va_S.rf
  have hP : va_P (dC, dI) vwCl [(h_this, .inr (1, [.int v_due, .int v_isNegative]))] s.heap := hP
  have hl := lv_entry ([.ref h_this]) (n := 1) (Nat.le_of_ble_eq_true rfl)
  rw [show entryFrame m args 1 = entryFrame m ([.ref h_this] : List Value).toArray 1 from by rw [hargs], lg_entry_eq]
  generalize (lg_sl ([.ref h_this]) ++ List.replicate (1 - (lg_sl ([.ref h_this])).length) Slot.unset).toArray = ls at hl ⊢
  have hl : lv_has ls 1 [(0, .ref h_this)] := hl
  obtain ⟨Q, hQ⟩ : ∃ Q, Q = MQ below (xQ (dC, dI) [(h_this, .inr (1, [.int t.2.1, .int t.2.2]))] A (some (.int t.1))) args s 0 0 A := ⟨_, rfl⟩
  rw [← hQ]
  show W p l e rm_Reader_takesMinus s m args below meth c s.heap [] 0 0 Q _
  obtain ⟨H, hH⟩ : ∃ H, H = s.heap := ⟨_, rfl⟩
  obtain ⟨locs, hlocs⟩ : ∃ L : List Loc, L = [] := ⟨_, rfl⟩
  rw [← hlocs] at hS ⊢
  have hS : va_S A s.heap H locs := by rw [hH]; exact hS
  rw [← hH] at hP ⊢
  replace hf := f_Reader_takesMinus_u hf
  refine lv_aload_n hx hb d_Reader_takesMinus_0 rfl (lv_at hl 0 rfl) ?_
  refine lv_iconst (v := 1) hx hb d_Reader_takesMinus_1 (by decide) ?_
  refine va_put (D := (dC, dI)) (ci := 1) (v := .int 1) (ty := .boolean) (C := R_Reader) (T := T_Reader) (N := 2) hx hb hT i_Reader ty_Reader ty_Reader_ok n_Reader hown hK hP hD hS 0 rfl rfl 1 (by decide) (hT _ kF_Reader_93) (fun _ h9 => h9) rfl (by decide +kernel) rfl rfl (Nat.le_of_ble_eq_true rfl) d_Reader_takesMinus_2 (fun H locs hP hD hS => ?_)
  have hP : va_P (dC, dI) vwCl [(h_this, .inr (1, [.int v_due, .int 1]))] H := hP
  have hD : va_D A [(h_this, .inr (1, [.int v_due, .int 1]))] := hD
  refine lv_aload_n hx hb d_Reader_takesMinus_5 rfl (lv_at hl 0 rfl) ?_
  refine lv_bipush (v := 7) hx hb d_Reader_takesMinus_6 (by decide) ?_
  obtain ⟨t_1, hg_1, hf⟩ := o_bind hf
  refine x_virt (w' := [(h_this, .inr (1, [.int t_1.2, .int 1]))]) (As := [.int 7]) (rest := []) hx hb hml hl.1 hown hT hK hN hP hD hS hA (c_Reader_makeDue l dC dI cI cL cC h_this H.size v_due 1 7 t_1 hg_1) kM_Reader_38 kI_Reader_makeDue kS_134 kN_Reader kC_Reader_makeDue hd_Reader_makeDue rfl 0 rfl rfl rfl ⟨Nat.le_of_ble_eq_true rfl, Nat.le_of_ble_eq_true rfl⟩ rfl rfl ⟨Nat.zero_le _, Nat.zero_le _⟩ rfl (Nat.le_of_ble_eq_true rfl) d_Reader_takesMinus_8 [0] rfl rfl [.inr 0] rfl rfl rfl (fun H locs hP hD hS => ?_)
  obtain ⟨hz_2, hf⟩ := o_zb hf
  rw [hQ, ← Option.some.inj hf]
  exact W.zret (ty := .boolean) hx hb hr hz_2 (fun t9 ht9 hW9 => ⟨rfl, by rw [ht9]; exact hP, hS.F ht9⟩) hS.2.2 d_Reader_takesMinus_11
def rm_Reader_takesRelation : Room := { frames := 1, cells := 0, slots := 0, locals := 21 }
set_option maxHeartbeats 4000000 in
set_option maxRecDepth 100000 in
theorem c_Reader_takesRelation (l : Launch) (dC : Nat → ClassId) (dI : Nat → Nat → Nat) (cI cL cC : ClassId) (h_this h_p1 h_p2 h_p1_signs h_p2_names h_p2_spans h_p2_costs h_p2_sizes h_p2_kinds h_p2_firsts h_p2_seconds h_p2_numbers : Nat) (sz : Nat) (v_due : Int32) (v_isNegative : Int32) (v_p1_size : Int32) (v_p1_at : Int32) (v_p1_kind : Int32) (v_p1_amount : Int32) (v_p1_letters : Int64) (v_p2_count : Int32) (v_p2_sizes : Nat → Int32) (v_p2_kinds : Nat → Int32) (t : Int32 × Int32 × (Nat → Int32)) (hf : f_Reader_takesRelation v_due v_p1_kind v_p2_count v_p2_sizes v_p2_kinds = some t) : Met l y_Reader_takesRelation (Cond.code y_Reader_takesRelation prog_3_method_8_code 3 (some .boolean) :: xT) rm_Reader_takesRelation (va_Pc [.ref h_this, .ref h_p1, .ref h_p2] (xP (dC, dI) (xTy cI cL cC) [(h_this, .inr (1, [.int v_due, .int v_isNegative])), (h_p1, .inr (5, [.ref h_p1_signs, .int v_p1_size, .int v_p1_at, .int v_p1_kind, .int v_p1_amount, .long v_p1_letters])), (h_p2, .inr (3, [.ref h_p2_names, .ref h_p2_spans, .ref h_p2_costs, .ref h_p2_sizes, .ref h_p2_kinds, .ref h_p2_firsts, .ref h_p2_seconds, .ref h_p2_numbers, .int v_p2_count])), (h_p2_sizes, .inl (cI, 6, .inl v_p2_sizes)), (h_p2_kinds, .inl (cI, 36, .inl v_p2_kinds))] sz)) (xQ (dC, dI) [(h_this, .inr (1, [.int t.2.1, .int v_isNegative])), (h_p1, .inr (5, [.ref h_p1_signs, .int v_p1_size, .int v_p1_at, .int v_p1_kind, .int v_p1_amount, .long v_p1_letters])), (h_p2, .inr (3, [.ref h_p2_names, .ref h_p2_spans, .ref h_p2_costs, .ref h_p2_sizes, .ref h_p2_kinds, .ref h_p2_firsts, .ref h_p2_seconds, .ref h_p2_numbers, .int v_p2_count])), (h_p2_sizes, .inl (cI, 6, .inl v_p2_sizes)), (h_p2_kinds, .inl (cI, 36, .inl t.2.2))] (va_A [(h_this, .inr (1, [.int v_due, .int v_isNegative])), (h_p1, .inr (5, [.ref h_p1_signs, .int v_p1_size, .int v_p1_at, .int v_p1_kind, .int v_p1_amount, .long v_p1_letters])), (h_p2, .inr (3, [.ref h_p2_names, .ref h_p2_spans, .ref h_p2_costs, .ref h_p2_sizes, .ref h_p2_kinds, .ref h_p2_firsts, .ref h_p2_seconds, .ref h_p2_numbers, .int v_p2_count])), (h_p2_sizes, .inl (cI, 6, .inl v_p2_sizes)), (h_p2_kinds, .inl (cI, 36, .inl v_p2_kinds))] sz) (some (.int t.1))) 0 0 (va_A [(h_this, .inr (1, [.int v_due, .int v_isNegative])), (h_p1, .inr (5, [.ref h_p1_signs, .int v_p1_size, .int v_p1_at, .int v_p1_kind, .int v_p1_amount, .long v_p1_letters])), (h_p2, .inr (3, [.ref h_p2_names, .ref h_p2_spans, .ref h_p2_costs, .ref h_p2_sizes, .ref h_p2_kinds, .ref h_p2_firsts, .ref h_p2_seconds, .ref h_p2_numbers, .int v_p2_count])), (h_p2_sizes, .inl (cI, 6, .inl v_p2_sizes)), (h_p2_kinds, .inl (cI, 36, .inl v_p2_kinds))] sz) := by
  refine Met.ofW (cc := prog_3_method_8_code) (maxL := 3) (ret := (some .boolean)) (by decide) rfl ?_
  intro p e s m args below meth c s₁ B hml hv
  obtain ⟨hargs, hsz, hP, hK, hN, hD0⟩ := hv
  have hx := B.exec
  have hb := B.bytes
  have hr := B.returns
  have hT : ∀ w ∈ xT, w.before args s = true := fun w hw => atoms_spec (ws := Cond.code y_Reader_takesRelation prog_3_method_8_code 3 (some .boolean) :: xT) B.pre w (List.mem_cons_of_mem _ hw)
  have hown : s.vm.findClass R_Reader = some m.cls := findClass_of_methodNamed B.named
  have hlocks := B.notSynchronized
  subst hsz
  have hD := hD0.self (sz := s.heap.size)
  generalize hAe : va_A [(h_this, .inr (1, [.int v_due, .int v_isNegative])), (h_p1, .inr (5, [.ref h_p1_signs, .int v_p1_size, .int v_p1_at, .int v_p1_kind, .int v_p1_amount, .long v_p1_letters])), (h_p2, .inr (3, [.ref h_p2_names, .ref h_p2_spans, .ref h_p2_costs, .ref h_p2_sizes, .ref h_p2_kinds, .ref h_p2_firsts, .ref h_p2_seconds, .ref h_p2_numbers, .int v_p2_count])), (h_p2_sizes, .inl (cI, 6, .inl v_p2_sizes)), (h_p2_kinds, .inl (cI, 36, .inl v_p2_kinds))] s.heap.size = A at hD ⊢
  have hA : ∀ q : Nat, s.heap.size ≤ q → A q := fun q h => by rw [← hAe]; exact Or.inr h
  have hS : va_S A s.heap s.heap [] := va_S.rf
  have hP : va_P (dC, dI) vwCl [(h_this, .inr (1, [.int v_due, .int v_isNegative])), (h_p1, .inr (5, [.ref h_p1_signs, .int v_p1_size, .int v_p1_at, .int v_p1_kind, .int v_p1_amount, .long v_p1_letters])), (h_p2, .inr (3, [.ref h_p2_names, .ref h_p2_spans, .ref h_p2_costs, .ref h_p2_sizes, .ref h_p2_kinds, .ref h_p2_firsts, .ref h_p2_seconds, .ref h_p2_numbers, .int v_p2_count])), (h_p2_sizes, .inl (cI, 6, .inl v_p2_sizes)), (h_p2_kinds, .inl (cI, 36, .inl v_p2_kinds))] s.heap := hP
  have hl := lv_entry ([.ref h_this, .ref h_p1, .ref h_p2]) (n := 3) (Nat.le_of_ble_eq_true rfl)
  rw [show entryFrame m args 3 = entryFrame m ([.ref h_this, .ref h_p1, .ref h_p2] : List Value).toArray 3 from by rw [hargs], lg_entry_eq]
  generalize (lg_sl ([.ref h_this, .ref h_p1, .ref h_p2]) ++ List.replicate (3 - (lg_sl ([.ref h_this, .ref h_p1, .ref h_p2])).length) Slot.unset).toArray = ls at hl ⊢
  have hl : lv_has ls 3 [(0, .ref h_this), (1, .ref h_p1), (2, .ref h_p2)] := hl
  obtain ⟨Q, hQ⟩ : ∃ Q, Q = MQ below (xQ (dC, dI) [(h_this, .inr (1, [.int t.2.1, .int v_isNegative])), (h_p1, .inr (5, [.ref h_p1_signs, .int v_p1_size, .int v_p1_at, .int v_p1_kind, .int v_p1_amount, .long v_p1_letters])), (h_p2, .inr (3, [.ref h_p2_names, .ref h_p2_spans, .ref h_p2_costs, .ref h_p2_sizes, .ref h_p2_kinds, .ref h_p2_firsts, .ref h_p2_seconds, .ref h_p2_numbers, .int v_p2_count])), (h_p2_sizes, .inl (cI, 6, .inl v_p2_sizes)), (h_p2_kinds, .inl (cI, 36, .inl t.2.2))] A (some (.int t.1))) args s 0 0 A := ⟨_, rfl⟩
  rw [← hQ]
  show W p l e rm_Reader_takesRelation s m args below meth c s.heap [] 0 0 Q _
  obtain ⟨H, hH⟩ : ∃ H, H = s.heap := ⟨_, rfl⟩
  obtain ⟨locs, hlocs⟩ : ∃ L : List Loc, L = [] := ⟨_, rfl⟩
  rw [← hlocs] at hS ⊢
  have hS : va_S A s.heap H locs := by rw [hH]; exact hS
  rw [← hH] at hP ⊢
  replace hf := f_Reader_takesRelation_u hf
  refine lv_aload_n hx hb d_Reader_takesRelation_0 rfl (lv_at hl 2 rfl) ?_
  refine va_get (D := (dC, dI)) (ci := 3) (v := .ref h_p2_kinds) (C := R_RuleSet) (T := T_RuleSet) (N := 9) hx hb hT i_RuleSet hown hK hP 2 rfl rfl 4 (by decide) (hT _ kF_Reader_106) (fun _ h9 => h9) rfl d_Reader_takesRelation_1 ?_
  refine lv_aload_n hx hb d_Reader_takesRelation_4 rfl (lv_at hl 2 rfl) ?_
  obtain ⟨t_1, hg_1, hf⟩ := o_bind hf
  refine x_virt (w' := [(h_this, .inr (1, [.int v_due, .int v_isNegative])), (h_p1, .inr (5, [.ref h_p1_signs, .int v_p1_size, .int v_p1_at, .int v_p1_kind, .int v_p1_amount, .long v_p1_letters])), (h_p2, .inr (3, [.ref h_p2_names, .ref h_p2_spans, .ref h_p2_costs, .ref h_p2_sizes, .ref h_p2_kinds, .ref h_p2_firsts, .ref h_p2_seconds, .ref h_p2_numbers, .int v_p2_count])), (h_p2_sizes, .inl (cI, 6, .inl v_p2_sizes)), (h_p2_kinds, .inl (cI, 36, .inl v_p2_kinds))]) (As := []) (rest := [.ref h_p2_kinds]) hx hb hml hl.1 hown hT hK hN hP hD hS hA (c_RuleSet_openTest l dC dI cI cL cC h_p2 h_p2_names h_p2_spans h_p2_costs h_p2_sizes h_p2_kinds h_p2_firsts h_p2_seconds h_p2_numbers H.size v_p2_count v_p2_sizes t_1 hg_1) kM_Reader_89 kI_RuleSet_openTest kS_149 kN_RuleSet kC_RuleSet_openTest hd_RuleSet_openTest rfl 2 rfl rfl rfl ⟨Nat.le_of_ble_eq_true rfl, Nat.le_of_ble_eq_true rfl⟩ rfl rfl ⟨Nat.zero_le _, Nat.zero_le _⟩ rfl (Nat.le_of_ble_eq_true rfl) d_Reader_takesRelation_5 [2, 3] rfl rfl [.inl 0, .inl 1, .inr 0, .inr 1, .inl 4] rfl rfl rfl (fun H locs hP hD hS => ?_)
  refine lv_aload_n hx hb d_Reader_takesRelation_8 rfl (lv_at hl 1 rfl) ?_
  refine va_get (D := (dC, dI)) (ci := 5) (v := .int v_p1_kind) (C := R_Text) (T := T_Text) (N := 6) hx hb hT i_Text hown hK hP 1 rfl rfl 3 (by decide) (hT _ kF_Reader_25) (fun _ h9 => h9) rfl d_Reader_takesRelation_9 ?_
  obtain ⟨hi_2, hf⟩ := o_in hf
  refine va_iast hx hb hK hP hD hS 4 0 rfl rfl hi_2 d_Reader_takesRelation_12 (fun H locs hP hD hS => ?_)
  have hP : va_P (dC, dI) vwCl [(h_this, .inr (1, [.int v_due, .int v_isNegative])), (h_p1, .inr (5, [.ref h_p1_signs, .int v_p1_size, .int v_p1_at, .int v_p1_kind, .int v_p1_amount, .long v_p1_letters])), (h_p2, .inr (3, [.ref h_p2_names, .ref h_p2_spans, .ref h_p2_costs, .ref h_p2_sizes, .ref h_p2_kinds, .ref h_p2_firsts, .ref h_p2_seconds, .ref h_p2_numbers, .int v_p2_count])), (h_p2_sizes, .inl (cI, 6, .inl v_p2_sizes)), (h_p2_kinds, .inl (cI, 36, .inl (upd v_p2_kinds (t_1 : Int32).toNatClampNeg v_p1_kind)))] H := hP
  have hD : va_D A [(h_this, .inr (1, [.int v_due, .int v_isNegative])), (h_p1, .inr (5, [.ref h_p1_signs, .int v_p1_size, .int v_p1_at, .int v_p1_kind, .int v_p1_amount, .long v_p1_letters])), (h_p2, .inr (3, [.ref h_p2_names, .ref h_p2_spans, .ref h_p2_costs, .ref h_p2_sizes, .ref h_p2_kinds, .ref h_p2_firsts, .ref h_p2_seconds, .ref h_p2_numbers, .int v_p2_count])), (h_p2_sizes, .inl (cI, 6, .inl v_p2_sizes)), (h_p2_kinds, .inl (cI, 36, .inl (upd v_p2_kinds (t_1 : Int32).toNatClampNeg v_p1_kind)))] := hD
  refine lv_aload_n hx hb d_Reader_takesRelation_13 rfl (lv_at hl 1 rfl) ?_
  refine va_get (D := (dC, dI)) (ci := 5) (v := .int v_p1_kind) (C := R_Text) (T := T_Text) (N := 6) hx hb hT i_Text hown hK hP 1 rfl rfl 3 (by decide) (hT _ kF_Reader_25) (fun _ h9 => h9) rfl d_Reader_takesRelation_14 ?_
  refine lv_bipush (v := 11) hx hb d_Reader_takesRelation_17 (by decide) ?_
  refine lv_icmp_lt (tgt := 44) hx hb d_Reader_takesRelation_19 (by decide) (fun c_3 => ?_) (fun c_3 => ?_)
  · replace hf := o_pos c_3 hf
    refine lv_iconst (v := 0) hx hb d_Reader_takesRelation_44 (by decide) ?_
    rw [hQ, ← Option.some.inj hf]
    exact W.zret (ty := .boolean) hx hb hr rfl (fun t9 ht9 hW9 => ⟨rfl, by rw [ht9]; exact hP, hS.F ht9⟩) hS.2.2 d_Reader_takesRelation_45
  · replace hf := o_neg c_3 hf
    refine lv_aload_n hx hb d_Reader_takesRelation_22 rfl (lv_at hl 1 rfl) ?_
    refine va_get (D := (dC, dI)) (ci := 5) (v := .int v_p1_kind) (C := R_Text) (T := T_Text) (N := 6) hx hb hT i_Text hown hK hP 1 rfl rfl 3 (by decide) (hT _ kF_Reader_25) (fun _ h9 => h9) rfl d_Reader_takesRelation_23 ?_
    refine lv_bipush (v := 15) hx hb d_Reader_takesRelation_26 (by decide) ?_
    refine lv_icmp_gt (tgt := 44) hx hb d_Reader_takesRelation_28 (by decide) (fun c_4 => ?_) (fun c_4 => ?_)
    · replace hf := o_pos c_4 hf
      refine lv_iconst (v := 0) hx hb d_Reader_takesRelation_44 (by decide) ?_
      rw [hQ, ← Option.some.inj hf]
      exact W.zret (ty := .boolean) hx hb hr rfl (fun t9 ht9 hW9 => ⟨rfl, by rw [ht9]; exact hP, hS.F ht9⟩) hS.2.2 d_Reader_takesRelation_45
    · replace hf := o_neg c_4 hf
      refine lv_aload_n hx hb d_Reader_takesRelation_31 rfl (lv_at hl 0 rfl) ?_
      refine lv_bipush (v := 6) hx hb d_Reader_takesRelation_32 (by decide) ?_
      obtain ⟨t_5, hg_5, hf⟩ := o_bind hf
      refine x_virt (w' := [(h_this, .inr (1, [.int t_5.2, .int v_isNegative])), (h_p1, .inr (5, [.ref h_p1_signs, .int v_p1_size, .int v_p1_at, .int v_p1_kind, .int v_p1_amount, .long v_p1_letters])), (h_p2, .inr (3, [.ref h_p2_names, .ref h_p2_spans, .ref h_p2_costs, .ref h_p2_sizes, .ref h_p2_kinds, .ref h_p2_firsts, .ref h_p2_seconds, .ref h_p2_numbers, .int v_p2_count])), (h_p2_sizes, .inl (cI, 6, .inl v_p2_sizes)), (h_p2_kinds, .inl (cI, 36, .inl (upd v_p2_kinds (t_1 : Int32).toNatClampNeg v_p1_kind)))]) (As := [.int 6]) (rest := []) hx hb hml hl.1 hown hT hK hN hP hD hS hA (c_Reader_makeDue l dC dI cI cL cC h_this H.size v_due v_isNegative 6 t_5 hg_5) kM_Reader_38 kI_Reader_makeDue kS_134 kN_Reader kC_Reader_makeDue hd_Reader_makeDue rfl 0 rfl rfl rfl ⟨Nat.le_of_ble_eq_true rfl, Nat.le_of_ble_eq_true rfl⟩ rfl rfl ⟨Nat.zero_le _, Nat.zero_le _⟩ rfl (Nat.le_of_ble_eq_true rfl) d_Reader_takesRelation_34 [0] rfl rfl [.inr 0, .inl 1, .inl 2, .inl 3, .inl 4] rfl rfl rfl (fun H locs hP hD hS => ?_)
      refine lv_if_eq (tgt := 44) hx hb d_Reader_takesRelation_37 (by decide) (fun c_6 => ?_) (fun c_6 => ?_)
      · replace hf := o_pos c_6 hf
        refine lv_iconst (v := 0) hx hb d_Reader_takesRelation_44 (by decide) ?_
        rw [hQ, ← Option.some.inj hf]
        exact W.zret (ty := .boolean) hx hb hr rfl (fun t9 ht9 hW9 => ⟨rfl, by rw [ht9]; exact hP, hS.F ht9⟩) hS.2.2 d_Reader_takesRelation_45
      · replace hf := o_neg c_6 hf
        refine lv_iconst (v := 1) hx hb d_Reader_takesRelation_40 (by decide) ?_
        refine lv_goto (tgt := 45) hx hb d_Reader_takesRelation_41 (by decide) ?_
        rw [hQ, ← Option.some.inj hf]
        exact W.zret (ty := .boolean) hx hb hr rfl (fun t9 ht9 hW9 => ⟨rfl, by rw [ht9]; exact hP, hS.F ht9⟩) hS.2.2 d_Reader_takesRelation_45
def rm_Reader_takesSecondPoint : Room := { frames := 1, cells := 0, slots := 0, locals := 21 }
set_option maxHeartbeats 4000000 in
set_option maxRecDepth 100000 in
theorem c_Reader_takesSecondPoint (l : Launch) (dC : Nat → ClassId) (dI : Nat → Nat → Nat) (cI cL cC : ClassId) (h_this h_p1 h_p2 h_p1_signs h_p2_names h_p2_spans h_p2_costs h_p2_sizes h_p2_kinds h_p2_firsts h_p2_seconds h_p2_numbers : Nat) (sz : Nat) (v_due : Int32) (v_isNegative : Int32) (v_p1_size : Int32) (v_p1_at : Int32) (v_p1_kind : Int32) (v_p1_amount : Int32) (v_p1_letters : Int64) (v_p2_count : Int32) (v_p2_sizes : Nat → Int32) (v_p2_seconds : Nat → Int32) (t : Int32 × Int32 × (Nat → Int32)) (hf : f_Reader_takesSecondPoint v_due v_p1_kind v_p1_amount v_p2_count v_p2_sizes v_p2_seconds = some t) : Met l y_Reader_takesSecondPoint (Cond.code y_Reader_takesSecondPoint prog_3_method_7_code 3 (some .boolean) :: xT) rm_Reader_takesSecondPoint (va_Pc [.ref h_this, .ref h_p1, .ref h_p2] (xP (dC, dI) (xTy cI cL cC) [(h_this, .inr (1, [.int v_due, .int v_isNegative])), (h_p1, .inr (5, [.ref h_p1_signs, .int v_p1_size, .int v_p1_at, .int v_p1_kind, .int v_p1_amount, .long v_p1_letters])), (h_p2, .inr (3, [.ref h_p2_names, .ref h_p2_spans, .ref h_p2_costs, .ref h_p2_sizes, .ref h_p2_kinds, .ref h_p2_firsts, .ref h_p2_seconds, .ref h_p2_numbers, .int v_p2_count])), (h_p2_sizes, .inl (cI, 6, .inl v_p2_sizes)), (h_p2_seconds, .inl (cI, 36, .inl v_p2_seconds))] sz)) (xQ (dC, dI) [(h_this, .inr (1, [.int t.2.1, .int v_isNegative])), (h_p1, .inr (5, [.ref h_p1_signs, .int v_p1_size, .int v_p1_at, .int v_p1_kind, .int v_p1_amount, .long v_p1_letters])), (h_p2, .inr (3, [.ref h_p2_names, .ref h_p2_spans, .ref h_p2_costs, .ref h_p2_sizes, .ref h_p2_kinds, .ref h_p2_firsts, .ref h_p2_seconds, .ref h_p2_numbers, .int v_p2_count])), (h_p2_sizes, .inl (cI, 6, .inl v_p2_sizes)), (h_p2_seconds, .inl (cI, 36, .inl t.2.2))] (va_A [(h_this, .inr (1, [.int v_due, .int v_isNegative])), (h_p1, .inr (5, [.ref h_p1_signs, .int v_p1_size, .int v_p1_at, .int v_p1_kind, .int v_p1_amount, .long v_p1_letters])), (h_p2, .inr (3, [.ref h_p2_names, .ref h_p2_spans, .ref h_p2_costs, .ref h_p2_sizes, .ref h_p2_kinds, .ref h_p2_firsts, .ref h_p2_seconds, .ref h_p2_numbers, .int v_p2_count])), (h_p2_sizes, .inl (cI, 6, .inl v_p2_sizes)), (h_p2_seconds, .inl (cI, 36, .inl v_p2_seconds))] sz) (some (.int t.1))) 0 0 (va_A [(h_this, .inr (1, [.int v_due, .int v_isNegative])), (h_p1, .inr (5, [.ref h_p1_signs, .int v_p1_size, .int v_p1_at, .int v_p1_kind, .int v_p1_amount, .long v_p1_letters])), (h_p2, .inr (3, [.ref h_p2_names, .ref h_p2_spans, .ref h_p2_costs, .ref h_p2_sizes, .ref h_p2_kinds, .ref h_p2_firsts, .ref h_p2_seconds, .ref h_p2_numbers, .int v_p2_count])), (h_p2_sizes, .inl (cI, 6, .inl v_p2_sizes)), (h_p2_seconds, .inl (cI, 36, .inl v_p2_seconds))] sz) := by
  refine Met.ofW (cc := prog_3_method_7_code) (maxL := 3) (ret := (some .boolean)) (by decide) rfl ?_
  intro p e s m args below meth c s₁ B hml hv
  obtain ⟨hargs, hsz, hP, hK, hN, hD0⟩ := hv
  have hx := B.exec
  have hb := B.bytes
  have hr := B.returns
  have hT : ∀ w ∈ xT, w.before args s = true := fun w hw => atoms_spec (ws := Cond.code y_Reader_takesSecondPoint prog_3_method_7_code 3 (some .boolean) :: xT) B.pre w (List.mem_cons_of_mem _ hw)
  have hown : s.vm.findClass R_Reader = some m.cls := findClass_of_methodNamed B.named
  have hlocks := B.notSynchronized
  subst hsz
  have hD := hD0.self (sz := s.heap.size)
  generalize hAe : va_A [(h_this, .inr (1, [.int v_due, .int v_isNegative])), (h_p1, .inr (5, [.ref h_p1_signs, .int v_p1_size, .int v_p1_at, .int v_p1_kind, .int v_p1_amount, .long v_p1_letters])), (h_p2, .inr (3, [.ref h_p2_names, .ref h_p2_spans, .ref h_p2_costs, .ref h_p2_sizes, .ref h_p2_kinds, .ref h_p2_firsts, .ref h_p2_seconds, .ref h_p2_numbers, .int v_p2_count])), (h_p2_sizes, .inl (cI, 6, .inl v_p2_sizes)), (h_p2_seconds, .inl (cI, 36, .inl v_p2_seconds))] s.heap.size = A at hD ⊢
  have hA : ∀ q : Nat, s.heap.size ≤ q → A q := fun q h => by rw [← hAe]; exact Or.inr h
  have hS : va_S A s.heap s.heap [] := va_S.rf
  have hP : va_P (dC, dI) vwCl [(h_this, .inr (1, [.int v_due, .int v_isNegative])), (h_p1, .inr (5, [.ref h_p1_signs, .int v_p1_size, .int v_p1_at, .int v_p1_kind, .int v_p1_amount, .long v_p1_letters])), (h_p2, .inr (3, [.ref h_p2_names, .ref h_p2_spans, .ref h_p2_costs, .ref h_p2_sizes, .ref h_p2_kinds, .ref h_p2_firsts, .ref h_p2_seconds, .ref h_p2_numbers, .int v_p2_count])), (h_p2_sizes, .inl (cI, 6, .inl v_p2_sizes)), (h_p2_seconds, .inl (cI, 36, .inl v_p2_seconds))] s.heap := hP
  have hl := lv_entry ([.ref h_this, .ref h_p1, .ref h_p2]) (n := 3) (Nat.le_of_ble_eq_true rfl)
  rw [show entryFrame m args 3 = entryFrame m ([.ref h_this, .ref h_p1, .ref h_p2] : List Value).toArray 3 from by rw [hargs], lg_entry_eq]
  generalize (lg_sl ([.ref h_this, .ref h_p1, .ref h_p2]) ++ List.replicate (3 - (lg_sl ([.ref h_this, .ref h_p1, .ref h_p2])).length) Slot.unset).toArray = ls at hl ⊢
  have hl : lv_has ls 3 [(0, .ref h_this), (1, .ref h_p1), (2, .ref h_p2)] := hl
  obtain ⟨Q, hQ⟩ : ∃ Q, Q = MQ below (xQ (dC, dI) [(h_this, .inr (1, [.int t.2.1, .int v_isNegative])), (h_p1, .inr (5, [.ref h_p1_signs, .int v_p1_size, .int v_p1_at, .int v_p1_kind, .int v_p1_amount, .long v_p1_letters])), (h_p2, .inr (3, [.ref h_p2_names, .ref h_p2_spans, .ref h_p2_costs, .ref h_p2_sizes, .ref h_p2_kinds, .ref h_p2_firsts, .ref h_p2_seconds, .ref h_p2_numbers, .int v_p2_count])), (h_p2_sizes, .inl (cI, 6, .inl v_p2_sizes)), (h_p2_seconds, .inl (cI, 36, .inl t.2.2))] A (some (.int t.1))) args s 0 0 A := ⟨_, rfl⟩
  rw [← hQ]
  show W p l e rm_Reader_takesSecondPoint s m args below meth c s.heap [] 0 0 Q _
  obtain ⟨H, hH⟩ : ∃ H, H = s.heap := ⟨_, rfl⟩
  obtain ⟨locs, hlocs⟩ : ∃ L : List Loc, L = [] := ⟨_, rfl⟩
  rw [← hlocs] at hS ⊢
  have hS : va_S A s.heap H locs := by rw [hH]; exact hS
  rw [← hH] at hP ⊢
  replace hf := f_Reader_takesSecondPoint_u hf
  refine lv_aload_n hx hb d_Reader_takesSecondPoint_0 rfl (lv_at hl 2 rfl) ?_
  refine va_get (D := (dC, dI)) (ci := 3) (v := .ref h_p2_seconds) (C := R_RuleSet) (T := T_RuleSet) (N := 9) hx hb hT i_RuleSet hown hK hP 2 rfl rfl 6 (by decide) (hT _ kF_Reader_97) (fun _ h9 => h9) rfl d_Reader_takesSecondPoint_1 ?_
  refine lv_aload_n hx hb d_Reader_takesSecondPoint_4 rfl (lv_at hl 2 rfl) ?_
  obtain ⟨t_1, hg_1, hf⟩ := o_bind hf
  refine x_virt (w' := [(h_this, .inr (1, [.int v_due, .int v_isNegative])), (h_p1, .inr (5, [.ref h_p1_signs, .int v_p1_size, .int v_p1_at, .int v_p1_kind, .int v_p1_amount, .long v_p1_letters])), (h_p2, .inr (3, [.ref h_p2_names, .ref h_p2_spans, .ref h_p2_costs, .ref h_p2_sizes, .ref h_p2_kinds, .ref h_p2_firsts, .ref h_p2_seconds, .ref h_p2_numbers, .int v_p2_count])), (h_p2_sizes, .inl (cI, 6, .inl v_p2_sizes)), (h_p2_seconds, .inl (cI, 36, .inl v_p2_seconds))]) (As := []) (rest := [.ref h_p2_seconds]) hx hb hml hl.1 hown hT hK hN hP hD hS hA (c_RuleSet_openTest l dC dI cI cL cC h_p2 h_p2_names h_p2_spans h_p2_costs h_p2_sizes h_p2_kinds h_p2_firsts h_p2_seconds h_p2_numbers H.size v_p2_count v_p2_sizes t_1 hg_1) kM_Reader_89 kI_RuleSet_openTest kS_149 kN_RuleSet kC_RuleSet_openTest hd_RuleSet_openTest rfl 2 rfl rfl rfl ⟨Nat.le_of_ble_eq_true rfl, Nat.le_of_ble_eq_true rfl⟩ rfl rfl ⟨Nat.zero_le _, Nat.zero_le _⟩ rfl (Nat.le_of_ble_eq_true rfl) d_Reader_takesSecondPoint_5 [2, 3] rfl rfl [.inl 0, .inl 1, .inr 0, .inr 1, .inl 4] rfl rfl rfl (fun H locs hP hD hS => ?_)
  refine lv_aload_n hx hb d_Reader_takesSecondPoint_8 rfl (lv_at hl 1 rfl) ?_
  refine va_get (D := (dC, dI)) (ci := 5) (v := .int v_p1_amount) (C := R_Text) (T := T_Text) (N := 6) hx hb hT i_Text hown hK hP 1 rfl rfl 4 (by decide) (hT _ kF_Reader_103) (fun _ h9 => h9) rfl d_Reader_takesSecondPoint_9 ?_
  obtain ⟨hi_2, hf⟩ := o_in hf
  refine va_iast hx hb hK hP hD hS 4 0 rfl rfl hi_2 d_Reader_takesSecondPoint_12 (fun H locs hP hD hS => ?_)
  have hP : va_P (dC, dI) vwCl [(h_this, .inr (1, [.int v_due, .int v_isNegative])), (h_p1, .inr (5, [.ref h_p1_signs, .int v_p1_size, .int v_p1_at, .int v_p1_kind, .int v_p1_amount, .long v_p1_letters])), (h_p2, .inr (3, [.ref h_p2_names, .ref h_p2_spans, .ref h_p2_costs, .ref h_p2_sizes, .ref h_p2_kinds, .ref h_p2_firsts, .ref h_p2_seconds, .ref h_p2_numbers, .int v_p2_count])), (h_p2_sizes, .inl (cI, 6, .inl v_p2_sizes)), (h_p2_seconds, .inl (cI, 36, .inl (upd v_p2_seconds (t_1 : Int32).toNatClampNeg v_p1_amount)))] H := hP
  have hD : va_D A [(h_this, .inr (1, [.int v_due, .int v_isNegative])), (h_p1, .inr (5, [.ref h_p1_signs, .int v_p1_size, .int v_p1_at, .int v_p1_kind, .int v_p1_amount, .long v_p1_letters])), (h_p2, .inr (3, [.ref h_p2_names, .ref h_p2_spans, .ref h_p2_costs, .ref h_p2_sizes, .ref h_p2_kinds, .ref h_p2_firsts, .ref h_p2_seconds, .ref h_p2_numbers, .int v_p2_count])), (h_p2_sizes, .inl (cI, 6, .inl v_p2_sizes)), (h_p2_seconds, .inl (cI, 36, .inl (upd v_p2_seconds (t_1 : Int32).toNatClampNeg v_p1_amount)))] := hD
  refine lv_aload_n hx hb d_Reader_takesSecondPoint_13 rfl (lv_at hl 1 rfl) ?_
  refine va_get (D := (dC, dI)) (ci := 5) (v := .int v_p1_kind) (C := R_Text) (T := T_Text) (N := 6) hx hb hT i_Text hown hK hP 1 rfl rfl 3 (by decide) (hT _ kF_Reader_25) (fun _ h9 => h9) rfl d_Reader_takesSecondPoint_14 ?_
  refine lv_iconst (v := 4) hx hb d_Reader_takesSecondPoint_17 (by decide) ?_
  refine lv_icmp_ne (tgt := 33) hx hb d_Reader_takesSecondPoint_18 (by decide) (fun c_3 => ?_) (fun c_3 => ?_)
  · replace hf := o_neg c_3 hf
    refine lv_iconst (v := 0) hx hb d_Reader_takesSecondPoint_33 (by decide) ?_
    rw [hQ, ← Option.some.inj hf]
    exact W.zret (ty := .boolean) hx hb hr rfl (fun t9 ht9 hW9 => ⟨rfl, by rw [ht9]; exact hP, hS.F ht9⟩) hS.2.2 d_Reader_takesSecondPoint_34
  · replace hf := o_pos c_3 hf
    refine lv_aload_n hx hb d_Reader_takesSecondPoint_21 rfl (lv_at hl 0 rfl) ?_
    refine lv_iconst (v := 5) hx hb d_Reader_takesSecondPoint_22 (by decide) ?_
    obtain ⟨t_4, hg_4, hf⟩ := o_bind hf
    refine x_virt (w' := [(h_this, .inr (1, [.int t_4.2, .int v_isNegative])), (h_p1, .inr (5, [.ref h_p1_signs, .int v_p1_size, .int v_p1_at, .int v_p1_kind, .int v_p1_amount, .long v_p1_letters])), (h_p2, .inr (3, [.ref h_p2_names, .ref h_p2_spans, .ref h_p2_costs, .ref h_p2_sizes, .ref h_p2_kinds, .ref h_p2_firsts, .ref h_p2_seconds, .ref h_p2_numbers, .int v_p2_count])), (h_p2_sizes, .inl (cI, 6, .inl v_p2_sizes)), (h_p2_seconds, .inl (cI, 36, .inl (upd v_p2_seconds (t_1 : Int32).toNatClampNeg v_p1_amount)))]) (As := [.int 5]) (rest := []) hx hb hml hl.1 hown hT hK hN hP hD hS hA (c_Reader_makeDue l dC dI cI cL cC h_this H.size v_due v_isNegative 5 t_4 hg_4) kM_Reader_38 kI_Reader_makeDue kS_134 kN_Reader kC_Reader_makeDue hd_Reader_makeDue rfl 0 rfl rfl rfl ⟨Nat.le_of_ble_eq_true rfl, Nat.le_of_ble_eq_true rfl⟩ rfl rfl ⟨Nat.zero_le _, Nat.zero_le _⟩ rfl (Nat.le_of_ble_eq_true rfl) d_Reader_takesSecondPoint_23 [0] rfl rfl [.inr 0, .inl 1, .inl 2, .inl 3, .inl 4] rfl rfl rfl (fun H locs hP hD hS => ?_)
    refine lv_if_eq (tgt := 33) hx hb d_Reader_takesSecondPoint_26 (by decide) (fun c_5 => ?_) (fun c_5 => ?_)
    · replace hf := o_pos c_5 hf
      refine lv_iconst (v := 0) hx hb d_Reader_takesSecondPoint_33 (by decide) ?_
      rw [hQ, ← Option.some.inj hf]
      exact W.zret (ty := .boolean) hx hb hr rfl (fun t9 ht9 hW9 => ⟨rfl, by rw [ht9]; exact hP, hS.F ht9⟩) hS.2.2 d_Reader_takesSecondPoint_34
    · replace hf := o_neg c_5 hf
      refine lv_iconst (v := 1) hx hb d_Reader_takesSecondPoint_29 (by decide) ?_
      refine lv_goto (tgt := 34) hx hb d_Reader_takesSecondPoint_30 (by decide) ?_
      rw [hQ, ← Option.some.inj hf]
      exact W.zret (ty := .boolean) hx hb hr rfl (fun t9 ht9 hW9 => ⟨rfl, by rw [ht9]; exact hP, hS.F ht9⟩) hS.2.2 d_Reader_takesSecondPoint_34
def rm_Reader_takesTest : Room := { frames := 1, cells := 0, slots := 0, locals := 21 }
set_option maxHeartbeats 4000000 in
set_option maxRecDepth 100000 in
theorem c_Reader_takesTest (l : Launch) (dC : Nat → ClassId) (dI : Nat → Nat → Nat) (cI cL cC : ClassId) (h_this h_p1 h_p2 h_p1_signs h_p2_names h_p2_spans h_p2_costs h_p2_sizes h_p2_kinds h_p2_firsts h_p2_seconds h_p2_numbers : Nat) (sz : Nat) (v_due : Int32) (v_isNegative : Int32) (v_p1_size : Int32) (v_p1_at : Int32) (v_p1_kind : Int32) (v_p1_amount : Int32) (v_p1_letters : Int64) (v_p2_count : Int32) (v_p2_sizes : Nat → Int32) (v_p2_kinds : Nat → Int32) (v_p2_firsts : Nat → Int32) (v_p2_seconds : Nat → Int32) (t : Int32 × Int32 × Int32 × (Nat → Int32) × (Nat → Int32) × (Nat → Int32)) (hf : f_Reader_takesTest v_due v_isNegative v_p1_kind v_p1_amount v_p2_count v_p2_sizes v_p2_kinds v_p2_firsts v_p2_seconds = some t) : Met l y_Reader_takesTest (Cond.code y_Reader_takesTest prog_3_method_6_code 5 (some .boolean) :: xT) rm_Reader_takesTest (va_Pc [.ref h_this, .ref h_p1, .ref h_p2] (xP (dC, dI) (xTy cI cL cC) [(h_this, .inr (1, [.int v_due, .int v_isNegative])), (h_p1, .inr (5, [.ref h_p1_signs, .int v_p1_size, .int v_p1_at, .int v_p1_kind, .int v_p1_amount, .long v_p1_letters])), (h_p2, .inr (3, [.ref h_p2_names, .ref h_p2_spans, .ref h_p2_costs, .ref h_p2_sizes, .ref h_p2_kinds, .ref h_p2_firsts, .ref h_p2_seconds, .ref h_p2_numbers, .int v_p2_count])), (h_p2_sizes, .inl (cI, 6, .inl v_p2_sizes)), (h_p2_kinds, .inl (cI, 36, .inl v_p2_kinds)), (h_p2_firsts, .inl (cI, 36, .inl v_p2_firsts)), (h_p2_seconds, .inl (cI, 36, .inl v_p2_seconds))] sz)) (xQ (dC, dI) [(h_this, .inr (1, [.int t.2.1, .int t.2.2.1])), (h_p1, .inr (5, [.ref h_p1_signs, .int v_p1_size, .int v_p1_at, .int v_p1_kind, .int v_p1_amount, .long v_p1_letters])), (h_p2, .inr (3, [.ref h_p2_names, .ref h_p2_spans, .ref h_p2_costs, .ref h_p2_sizes, .ref h_p2_kinds, .ref h_p2_firsts, .ref h_p2_seconds, .ref h_p2_numbers, .int v_p2_count])), (h_p2_sizes, .inl (cI, 6, .inl v_p2_sizes)), (h_p2_kinds, .inl (cI, 36, .inl t.2.2.2.1)), (h_p2_firsts, .inl (cI, 36, .inl t.2.2.2.2.1)), (h_p2_seconds, .inl (cI, 36, .inl t.2.2.2.2.2))] (va_A [(h_this, .inr (1, [.int v_due, .int v_isNegative])), (h_p1, .inr (5, [.ref h_p1_signs, .int v_p1_size, .int v_p1_at, .int v_p1_kind, .int v_p1_amount, .long v_p1_letters])), (h_p2, .inr (3, [.ref h_p2_names, .ref h_p2_spans, .ref h_p2_costs, .ref h_p2_sizes, .ref h_p2_kinds, .ref h_p2_firsts, .ref h_p2_seconds, .ref h_p2_numbers, .int v_p2_count])), (h_p2_sizes, .inl (cI, 6, .inl v_p2_sizes)), (h_p2_kinds, .inl (cI, 36, .inl v_p2_kinds)), (h_p2_firsts, .inl (cI, 36, .inl v_p2_firsts)), (h_p2_seconds, .inl (cI, 36, .inl v_p2_seconds))] sz) (some (.int t.1))) 0 0 (va_A [(h_this, .inr (1, [.int v_due, .int v_isNegative])), (h_p1, .inr (5, [.ref h_p1_signs, .int v_p1_size, .int v_p1_at, .int v_p1_kind, .int v_p1_amount, .long v_p1_letters])), (h_p2, .inr (3, [.ref h_p2_names, .ref h_p2_spans, .ref h_p2_costs, .ref h_p2_sizes, .ref h_p2_kinds, .ref h_p2_firsts, .ref h_p2_seconds, .ref h_p2_numbers, .int v_p2_count])), (h_p2_sizes, .inl (cI, 6, .inl v_p2_sizes)), (h_p2_kinds, .inl (cI, 36, .inl v_p2_kinds)), (h_p2_firsts, .inl (cI, 36, .inl v_p2_firsts)), (h_p2_seconds, .inl (cI, 36, .inl v_p2_seconds))] sz) := by
  refine Met.ofW (cc := prog_3_method_6_code) (maxL := 5) (ret := (some .boolean)) (by decide) rfl ?_
  intro p e s m args below meth c s₁ B hml hv
  obtain ⟨hargs, hsz, hP, hK, hN, hD0⟩ := hv
  have hx := B.exec
  have hb := B.bytes
  have hr := B.returns
  have hT : ∀ w ∈ xT, w.before args s = true := fun w hw => atoms_spec (ws := Cond.code y_Reader_takesTest prog_3_method_6_code 5 (some .boolean) :: xT) B.pre w (List.mem_cons_of_mem _ hw)
  have hown : s.vm.findClass R_Reader = some m.cls := findClass_of_methodNamed B.named
  have hlocks := B.notSynchronized
  subst hsz
  have hD := hD0.self (sz := s.heap.size)
  generalize hAe : va_A [(h_this, .inr (1, [.int v_due, .int v_isNegative])), (h_p1, .inr (5, [.ref h_p1_signs, .int v_p1_size, .int v_p1_at, .int v_p1_kind, .int v_p1_amount, .long v_p1_letters])), (h_p2, .inr (3, [.ref h_p2_names, .ref h_p2_spans, .ref h_p2_costs, .ref h_p2_sizes, .ref h_p2_kinds, .ref h_p2_firsts, .ref h_p2_seconds, .ref h_p2_numbers, .int v_p2_count])), (h_p2_sizes, .inl (cI, 6, .inl v_p2_sizes)), (h_p2_kinds, .inl (cI, 36, .inl v_p2_kinds)), (h_p2_firsts, .inl (cI, 36, .inl v_p2_firsts)), (h_p2_seconds, .inl (cI, 36, .inl v_p2_seconds))] s.heap.size = A at hD ⊢
  have hA : ∀ q : Nat, s.heap.size ≤ q → A q := fun q h => by rw [← hAe]; exact Or.inr h
  have hS : va_S A s.heap s.heap [] := va_S.rf
  have hP : va_P (dC, dI) vwCl [(h_this, .inr (1, [.int v_due, .int v_isNegative])), (h_p1, .inr (5, [.ref h_p1_signs, .int v_p1_size, .int v_p1_at, .int v_p1_kind, .int v_p1_amount, .long v_p1_letters])), (h_p2, .inr (3, [.ref h_p2_names, .ref h_p2_spans, .ref h_p2_costs, .ref h_p2_sizes, .ref h_p2_kinds, .ref h_p2_firsts, .ref h_p2_seconds, .ref h_p2_numbers, .int v_p2_count])), (h_p2_sizes, .inl (cI, 6, .inl v_p2_sizes)), (h_p2_kinds, .inl (cI, 36, .inl v_p2_kinds)), (h_p2_firsts, .inl (cI, 36, .inl v_p2_firsts)), (h_p2_seconds, .inl (cI, 36, .inl v_p2_seconds))] s.heap := hP
  have hl := lv_entry ([.ref h_this, .ref h_p1, .ref h_p2]) (n := 5) (Nat.le_of_ble_eq_true rfl)
  rw [show entryFrame m args 5 = entryFrame m ([.ref h_this, .ref h_p1, .ref h_p2] : List Value).toArray 5 from by rw [hargs], lg_entry_eq]
  generalize (lg_sl ([.ref h_this, .ref h_p1, .ref h_p2]) ++ List.replicate (5 - (lg_sl ([.ref h_this, .ref h_p1, .ref h_p2])).length) Slot.unset).toArray = ls at hl ⊢
  have hl : lv_has ls 5 [(0, .ref h_this), (1, .ref h_p1), (2, .ref h_p2)] := hl
  obtain ⟨Q, hQ⟩ : ∃ Q, Q = MQ below (xQ (dC, dI) [(h_this, .inr (1, [.int t.2.1, .int t.2.2.1])), (h_p1, .inr (5, [.ref h_p1_signs, .int v_p1_size, .int v_p1_at, .int v_p1_kind, .int v_p1_amount, .long v_p1_letters])), (h_p2, .inr (3, [.ref h_p2_names, .ref h_p2_spans, .ref h_p2_costs, .ref h_p2_sizes, .ref h_p2_kinds, .ref h_p2_firsts, .ref h_p2_seconds, .ref h_p2_numbers, .int v_p2_count])), (h_p2_sizes, .inl (cI, 6, .inl v_p2_sizes)), (h_p2_kinds, .inl (cI, 36, .inl t.2.2.2.1)), (h_p2_firsts, .inl (cI, 36, .inl t.2.2.2.2.1)), (h_p2_seconds, .inl (cI, 36, .inl t.2.2.2.2.2))] A (some (.int t.1))) args s 0 0 A := ⟨_, rfl⟩
  rw [← hQ]
  show W p l e rm_Reader_takesTest s m args below meth c s.heap [] 0 0 Q _
  obtain ⟨H, hH⟩ : ∃ H, H = s.heap := ⟨_, rfl⟩
  obtain ⟨locs, hlocs⟩ : ∃ L : List Loc, L = [] := ⟨_, rfl⟩
  rw [← hlocs] at hS ⊢
  have hS : va_S A s.heap H locs := by rw [hH]; exact hS
  rw [← hH] at hP ⊢
  replace hf := f_Reader_takesTest_u hf
  refine lv_aload_n hx hb d_Reader_takesTest_0 rfl (lv_at hl 2 rfl) ?_
  obtain ⟨t_1, hg_1, hf⟩ := o_bind hf
  refine x_virt (w' := [(h_this, .inr (1, [.int v_due, .int v_isNegative])), (h_p1, .inr (5, [.ref h_p1_signs, .int v_p1_size, .int v_p1_at, .int v_p1_kind, .int v_p1_amount, .long v_p1_letters])), (h_p2, .inr (3, [.ref h_p2_names, .ref h_p2_spans, .ref h_p2_costs, .ref h_p2_sizes, .ref h_p2_kinds, .ref h_p2_firsts, .ref h_p2_seconds, .ref h_p2_numbers, .int v_p2_count])), (h_p2_sizes, .inl (cI, 6, .inl v_p2_sizes)), (h_p2_kinds, .inl (cI, 36, .inl v_p2_kinds)), (h_p2_firsts, .inl (cI, 36, .inl v_p2_firsts)), (h_p2_seconds, .inl (cI, 36, .inl v_p2_seconds))]) (As := []) (rest := []) hx hb hml hl.1 hown hT hK hN hP hD hS hA (c_RuleSet_openTest l dC dI cI cL cC h_p2 h_p2_names h_p2_spans h_p2_costs h_p2_sizes h_p2_kinds h_p2_firsts h_p2_seconds h_p2_numbers H.size v_p2_count v_p2_sizes t_1 hg_1) kM_Reader_89 kI_RuleSet_openTest kS_149 kN_RuleSet kC_RuleSet_openTest hd_RuleSet_openTest rfl 2 rfl rfl rfl ⟨Nat.le_of_ble_eq_true rfl, Nat.le_of_ble_eq_true rfl⟩ rfl rfl ⟨Nat.zero_le _, Nat.zero_le _⟩ rfl (Nat.le_of_ble_eq_true rfl) d_Reader_takesTest_1 [2, 3] rfl rfl [.inl 0, .inl 1, .inr 0, .inr 1, .inl 4, .inl 5, .inl 6] rfl rfl rfl (fun H locs hP hD hS => ?_)
  refine lv_istore_n (lv' := [(3, .int t_1), (0, .ref h_this), (1, .ref h_p1), (2, .ref h_p2)]) hx hb d_Reader_takesTest_4 rfl hl (by decide) rfl (fun ls hl => ?_)
  refine lv_aload_n hx hb d_Reader_takesTest_5 rfl (lv_at hl 1 rfl) ?_
  refine lv_iconst (v := 0) hx hb d_Reader_takesTest_6 (by decide) ?_
  refine va_put (D := (dC, dI)) (ci := 1) (v := .int 0) (ty := .boolean) (C := R_Reader) (T := T_Reader) (N := 2) hx hb hT i_Reader ty_Reader ty_Reader_ok n_Reader hown hK hP hD hS 0 rfl rfl 1 (by decide) (hT _ kF_Reader_93) (fun _ h9 => h9) rfl (by decide +kernel) rfl rfl (Nat.le_of_ble_eq_true rfl) d_Reader_takesTest_7 (fun H locs hP hD hS => ?_)
  have hP : va_P (dC, dI) vwCl [(h_this, .inr (1, [.int v_due, .int 0])), (h_p1, .inr (5, [.ref h_p1_signs, .int v_p1_size, .int v_p1_at, .int v_p1_kind, .int v_p1_amount, .long v_p1_letters])), (h_p2, .inr (3, [.ref h_p2_names, .ref h_p2_spans, .ref h_p2_costs, .ref h_p2_sizes, .ref h_p2_kinds, .ref h_p2_firsts, .ref h_p2_seconds, .ref h_p2_numbers, .int v_p2_count])), (h_p2_sizes, .inl (cI, 6, .inl v_p2_sizes)), (h_p2_kinds, .inl (cI, 36, .inl v_p2_kinds)), (h_p2_firsts, .inl (cI, 36, .inl v_p2_firsts)), (h_p2_seconds, .inl (cI, 36, .inl v_p2_seconds))] H := hP
  have hD : va_D A [(h_this, .inr (1, [.int v_due, .int 0])), (h_p1, .inr (5, [.ref h_p1_signs, .int v_p1_size, .int v_p1_at, .int v_p1_kind, .int v_p1_amount, .long v_p1_letters])), (h_p2, .inr (3, [.ref h_p2_names, .ref h_p2_spans, .ref h_p2_costs, .ref h_p2_sizes, .ref h_p2_kinds, .ref h_p2_firsts, .ref h_p2_seconds, .ref h_p2_numbers, .int v_p2_count])), (h_p2_sizes, .inl (cI, 6, .inl v_p2_sizes)), (h_p2_kinds, .inl (cI, 36, .inl v_p2_kinds)), (h_p2_firsts, .inl (cI, 36, .inl v_p2_firsts)), (h_p2_seconds, .inl (cI, 36, .inl v_p2_seconds))] := hD
  refine lv_aload_n hx hb d_Reader_takesTest_10 rfl (lv_at hl 3 rfl) ?_
  refine va_get (D := (dC, dI)) (ci := 3) (v := .ref h_p2_seconds) (C := R_RuleSet) (T := T_RuleSet) (N := 9) hx hb hT i_RuleSet hown hK hP 2 rfl rfl 6 (by decide) (hT _ kF_Reader_97) (fun _ h9 => h9) rfl d_Reader_takesTest_11 ?_
  refine lv_iload_n hx hb d_Reader_takesTest_14 rfl (lv_at hl 0 rfl) ?_
  refine lv_iconst (v := (-1)) hx hb d_Reader_takesTest_15 (by decide) ?_
  obtain ⟨hi_2, hf⟩ := o_in hf
  refine va_iast hx hb hK hP hD hS 6 0 rfl rfl hi_2 d_Reader_takesTest_16 (fun H locs hP hD hS => ?_)
  have hP : va_P (dC, dI) vwCl [(h_this, .inr (1, [.int v_due, .int 0])), (h_p1, .inr (5, [.ref h_p1_signs, .int v_p1_size, .int v_p1_at, .int v_p1_kind, .int v_p1_amount, .long v_p1_letters])), (h_p2, .inr (3, [.ref h_p2_names, .ref h_p2_spans, .ref h_p2_costs, .ref h_p2_sizes, .ref h_p2_kinds, .ref h_p2_firsts, .ref h_p2_seconds, .ref h_p2_numbers, .int v_p2_count])), (h_p2_sizes, .inl (cI, 6, .inl v_p2_sizes)), (h_p2_kinds, .inl (cI, 36, .inl v_p2_kinds)), (h_p2_firsts, .inl (cI, 36, .inl v_p2_firsts)), (h_p2_seconds, .inl (cI, 36, .inl (upd v_p2_seconds (t_1 : Int32).toNatClampNeg ((-1)))))] H := hP
  have hD : va_D A [(h_this, .inr (1, [.int v_due, .int 0])), (h_p1, .inr (5, [.ref h_p1_signs, .int v_p1_size, .int v_p1_at, .int v_p1_kind, .int v_p1_amount, .long v_p1_letters])), (h_p2, .inr (3, [.ref h_p2_names, .ref h_p2_spans, .ref h_p2_costs, .ref h_p2_sizes, .ref h_p2_kinds, .ref h_p2_firsts, .ref h_p2_seconds, .ref h_p2_numbers, .int v_p2_count])), (h_p2_sizes, .inl (cI, 6, .inl v_p2_sizes)), (h_p2_kinds, .inl (cI, 36, .inl v_p2_kinds)), (h_p2_firsts, .inl (cI, 36, .inl v_p2_firsts)), (h_p2_seconds, .inl (cI, 36, .inl (upd v_p2_seconds (t_1 : Int32).toNatClampNeg ((-1)))))] := hD
  refine lv_aload_n hx hb d_Reader_takesTest_17 rfl (lv_at hl 2 rfl) ?_
  refine va_get (D := (dC, dI)) (ci := 5) (v := .int v_p1_kind) (C := R_Text) (T := T_Text) (N := 6) hx hb hT i_Text hown hK hP 1 rfl rfl 3 (by decide) (hT _ kF_Reader_25) (fun _ h9 => h9) rfl d_Reader_takesTest_18 ?_
  refine lv_iconst (v := 4) hx hb d_Reader_takesTest_21 (by decide) ?_
  refine lv_icmp_ne (tgt := 41) hx hb d_Reader_takesTest_22 (by decide) (fun c_3 => ?_) (fun c_3 => ?_)
  · replace hf := o_neg c_3 hf
    refine lv_aload_n hx hb d_Reader_takesTest_41 rfl (lv_at hl 3 rfl) ?_
    refine va_get (D := (dC, dI)) (ci := 3) (v := .ref h_p2_kinds) (C := R_RuleSet) (T := T_RuleSet) (N := 9) hx hb hT i_RuleSet hown hK hP 2 rfl rfl 4 (by decide) (hT _ kF_Reader_106) (fun _ h9 => h9) rfl d_Reader_takesTest_42 ?_
    refine lv_iload_n hx hb d_Reader_takesTest_45 rfl (lv_at hl 0 rfl) ?_
    refine lv_aload_n hx hb d_Reader_takesTest_46 rfl (lv_at hl 2 rfl) ?_
    refine va_get (D := (dC, dI)) (ci := 5) (v := .int v_p1_kind) (C := R_Text) (T := T_Text) (N := 6) hx hb hT i_Text hown hK hP 1 rfl rfl 3 (by decide) (hT _ kF_Reader_25) (fun _ h9 => h9) rfl d_Reader_takesTest_47 ?_
    obtain ⟨hi_4, hf⟩ := o_in hf
    refine va_iast hx hb hK hP hD hS 4 0 rfl rfl hi_4 d_Reader_takesTest_50 (fun H locs hP hD hS => ?_)
    have hP : va_P (dC, dI) vwCl [(h_this, .inr (1, [.int v_due, .int 0])), (h_p1, .inr (5, [.ref h_p1_signs, .int v_p1_size, .int v_p1_at, .int v_p1_kind, .int v_p1_amount, .long v_p1_letters])), (h_p2, .inr (3, [.ref h_p2_names, .ref h_p2_spans, .ref h_p2_costs, .ref h_p2_sizes, .ref h_p2_kinds, .ref h_p2_firsts, .ref h_p2_seconds, .ref h_p2_numbers, .int v_p2_count])), (h_p2_sizes, .inl (cI, 6, .inl v_p2_sizes)), (h_p2_kinds, .inl (cI, 36, .inl (upd v_p2_kinds (t_1 : Int32).toNatClampNeg v_p1_kind))), (h_p2_firsts, .inl (cI, 36, .inl v_p2_firsts)), (h_p2_seconds, .inl (cI, 36, .inl (upd v_p2_seconds (t_1 : Int32).toNatClampNeg ((-1)))))] H := hP
    have hD : va_D A [(h_this, .inr (1, [.int v_due, .int 0])), (h_p1, .inr (5, [.ref h_p1_signs, .int v_p1_size, .int v_p1_at, .int v_p1_kind, .int v_p1_amount, .long v_p1_letters])), (h_p2, .inr (3, [.ref h_p2_names, .ref h_p2_spans, .ref h_p2_costs, .ref h_p2_sizes, .ref h_p2_kinds, .ref h_p2_firsts, .ref h_p2_seconds, .ref h_p2_numbers, .int v_p2_count])), (h_p2_sizes, .inl (cI, 6, .inl v_p2_sizes)), (h_p2_kinds, .inl (cI, 36, .inl (upd v_p2_kinds (t_1 : Int32).toNatClampNeg v_p1_kind))), (h_p2_firsts, .inl (cI, 36, .inl v_p2_firsts)), (h_p2_seconds, .inl (cI, 36, .inl (upd v_p2_seconds (t_1 : Int32).toNatClampNeg ((-1)))))] := hD
    refine lv_aload_n hx hb d_Reader_takesTest_51 rfl (lv_at hl 2 rfl) ?_
    refine va_get (D := (dC, dI)) (ci := 5) (v := .int v_p1_kind) (C := R_Text) (T := T_Text) (N := 6) hx hb hT i_Text hown hK hP 1 rfl rfl 3 (by decide) (hT _ kF_Reader_25) (fun _ h9 => h9) rfl d_Reader_takesTest_52 ?_
    refine lv_bipush (v := 16) hx hb d_Reader_takesTest_55 (by decide) ?_
    refine lv_icmp_eq (tgt := 78) hx hb d_Reader_takesTest_57 (by decide) (fun c_5 => ?_) (fun c_5 => ?_)
    · replace hf := o_pos c_5 hf
      refine lv_iconst (v := 1) hx hb d_Reader_takesTest_78 (by decide) ?_
      refine lv_goto (tgt := 83) hx hb d_Reader_takesTest_79 (by decide) ?_
      refine lv_istore (lv' := [(4, .int 1), (3, .int t_1), (0, .ref h_this), (1, .ref h_p1), (2, .ref h_p2)]) hx hb d_Reader_takesTest_83 hl (by decide) rfl (fun ls hl => ?_)
      refine lv_iload hx hb d_Reader_takesTest_85 (lv_at hl 0 rfl) ?_
      refine lv_if_eq (tgt := 103) hx hb d_Reader_takesTest_87 (by decide) (fun c_6 => ?_) (fun c_6 => ?_)
      · replace hf := o_pos c_6 hf
        refine lv_iconst (v := 0) hx hb d_Reader_takesTest_103 (by decide) ?_
        rw [hQ, ← Option.some.inj hf]
        exact W.zret (ty := .boolean) hx hb hr rfl (fun t9 ht9 hW9 => ⟨rfl, by rw [ht9]; exact hP, hS.F ht9⟩) hS.2.2 d_Reader_takesTest_104
      · replace hf := o_neg c_6 hf
        refine lv_aload_n hx hb d_Reader_takesTest_90 rfl (lv_at hl 2 rfl) ?_
        refine lv_bipush (v := 8) hx hb d_Reader_takesTest_91 (by decide) ?_
        obtain ⟨t_7, hg_7, hf⟩ := o_bind hf
        refine x_virt (w' := [(h_this, .inr (1, [.int t_7.2, .int 0])), (h_p1, .inr (5, [.ref h_p1_signs, .int v_p1_size, .int v_p1_at, .int v_p1_kind, .int v_p1_amount, .long v_p1_letters])), (h_p2, .inr (3, [.ref h_p2_names, .ref h_p2_spans, .ref h_p2_costs, .ref h_p2_sizes, .ref h_p2_kinds, .ref h_p2_firsts, .ref h_p2_seconds, .ref h_p2_numbers, .int v_p2_count])), (h_p2_sizes, .inl (cI, 6, .inl v_p2_sizes)), (h_p2_kinds, .inl (cI, 36, .inl (upd v_p2_kinds (t_1 : Int32).toNatClampNeg v_p1_kind))), (h_p2_firsts, .inl (cI, 36, .inl v_p2_firsts)), (h_p2_seconds, .inl (cI, 36, .inl (upd v_p2_seconds (t_1 : Int32).toNatClampNeg ((-1)))))]) (As := [.int 8]) (rest := []) hx hb hml hl.1 hown hT hK hN hP hD hS hA (c_Reader_makeDue l dC dI cI cL cC h_this H.size v_due 0 8 t_7 hg_7) kM_Reader_38 kI_Reader_makeDue kS_134 kN_Reader kC_Reader_makeDue hd_Reader_makeDue rfl 0 rfl rfl rfl ⟨Nat.le_of_ble_eq_true rfl, Nat.le_of_ble_eq_true rfl⟩ rfl rfl ⟨Nat.zero_le _, Nat.zero_le _⟩ rfl (Nat.le_of_ble_eq_true rfl) d_Reader_takesTest_93 [0] rfl rfl [.inr 0, .inl 1, .inl 2, .inl 3, .inl 4, .inl 5, .inl 6] rfl rfl rfl (fun H locs hP hD hS => ?_)
        refine lv_if_eq (tgt := 103) hx hb d_Reader_takesTest_96 (by decide) (fun c_8 => ?_) (fun c_8 => ?_)
        · replace hf := o_pos c_8 hf
          refine lv_iconst (v := 0) hx hb d_Reader_takesTest_103 (by decide) ?_
          rw [hQ, ← Option.some.inj hf]
          exact W.zret (ty := .boolean) hx hb hr rfl (fun t9 ht9 hW9 => ⟨rfl, by rw [ht9]; exact hP, hS.F ht9⟩) hS.2.2 d_Reader_takesTest_104
        · replace hf := o_neg c_8 hf
          refine lv_iconst (v := 1) hx hb d_Reader_takesTest_99 (by decide) ?_
          refine lv_goto (tgt := 104) hx hb d_Reader_takesTest_100 (by decide) ?_
          rw [hQ, ← Option.some.inj hf]
          exact W.zret (ty := .boolean) hx hb hr rfl (fun t9 ht9 hW9 => ⟨rfl, by rw [ht9]; exact hP, hS.F ht9⟩) hS.2.2 d_Reader_takesTest_104
    · replace hf := o_neg c_5 hf
      refine lv_aload_n hx hb d_Reader_takesTest_60 rfl (lv_at hl 2 rfl) ?_
      refine va_get (D := (dC, dI)) (ci := 5) (v := .int v_p1_kind) (C := R_Text) (T := T_Text) (N := 6) hx hb hT i_Text hown hK hP 1 rfl rfl 3 (by decide) (hT _ kF_Reader_25) (fun _ h9 => h9) rfl d_Reader_takesTest_61 ?_
      refine lv_bipush (v := 17) hx hb d_Reader_takesTest_64 (by decide) ?_
      refine lv_icmp_eq (tgt := 78) hx hb d_Reader_takesTest_66 (by decide) (fun c_9 => ?_) (fun c_9 => ?_)
      · replace hf := o_pos c_9 hf
        refine lv_iconst (v := 1) hx hb d_Reader_takesTest_78 (by decide) ?_
        refine lv_goto (tgt := 83) hx hb d_Reader_takesTest_79 (by decide) ?_
        refine lv_istore (lv' := [(4, .int 1), (3, .int t_1), (0, .ref h_this), (1, .ref h_p1), (2, .ref h_p2)]) hx hb d_Reader_takesTest_83 hl (by decide) rfl (fun ls hl => ?_)
        refine lv_iload hx hb d_Reader_takesTest_85 (lv_at hl 0 rfl) ?_
        refine lv_if_eq (tgt := 103) hx hb d_Reader_takesTest_87 (by decide) (fun c_10 => ?_) (fun c_10 => ?_)
        · replace hf := o_pos c_10 hf
          refine lv_iconst (v := 0) hx hb d_Reader_takesTest_103 (by decide) ?_
          rw [hQ, ← Option.some.inj hf]
          exact W.zret (ty := .boolean) hx hb hr rfl (fun t9 ht9 hW9 => ⟨rfl, by rw [ht9]; exact hP, hS.F ht9⟩) hS.2.2 d_Reader_takesTest_104
        · replace hf := o_neg c_10 hf
          refine lv_aload_n hx hb d_Reader_takesTest_90 rfl (lv_at hl 2 rfl) ?_
          refine lv_bipush (v := 8) hx hb d_Reader_takesTest_91 (by decide) ?_
          obtain ⟨t_11, hg_11, hf⟩ := o_bind hf
          refine x_virt (w' := [(h_this, .inr (1, [.int t_11.2, .int 0])), (h_p1, .inr (5, [.ref h_p1_signs, .int v_p1_size, .int v_p1_at, .int v_p1_kind, .int v_p1_amount, .long v_p1_letters])), (h_p2, .inr (3, [.ref h_p2_names, .ref h_p2_spans, .ref h_p2_costs, .ref h_p2_sizes, .ref h_p2_kinds, .ref h_p2_firsts, .ref h_p2_seconds, .ref h_p2_numbers, .int v_p2_count])), (h_p2_sizes, .inl (cI, 6, .inl v_p2_sizes)), (h_p2_kinds, .inl (cI, 36, .inl (upd v_p2_kinds (t_1 : Int32).toNatClampNeg v_p1_kind))), (h_p2_firsts, .inl (cI, 36, .inl v_p2_firsts)), (h_p2_seconds, .inl (cI, 36, .inl (upd v_p2_seconds (t_1 : Int32).toNatClampNeg ((-1)))))]) (As := [.int 8]) (rest := []) hx hb hml hl.1 hown hT hK hN hP hD hS hA (c_Reader_makeDue l dC dI cI cL cC h_this H.size v_due 0 8 t_11 hg_11) kM_Reader_38 kI_Reader_makeDue kS_134 kN_Reader kC_Reader_makeDue hd_Reader_makeDue rfl 0 rfl rfl rfl ⟨Nat.le_of_ble_eq_true rfl, Nat.le_of_ble_eq_true rfl⟩ rfl rfl ⟨Nat.zero_le _, Nat.zero_le _⟩ rfl (Nat.le_of_ble_eq_true rfl) d_Reader_takesTest_93 [0] rfl rfl [.inr 0, .inl 1, .inl 2, .inl 3, .inl 4, .inl 5, .inl 6] rfl rfl rfl (fun H locs hP hD hS => ?_)
          refine lv_if_eq (tgt := 103) hx hb d_Reader_takesTest_96 (by decide) (fun c_12 => ?_) (fun c_12 => ?_)
          · replace hf := o_pos c_12 hf
            refine lv_iconst (v := 0) hx hb d_Reader_takesTest_103 (by decide) ?_
            rw [hQ, ← Option.some.inj hf]
            exact W.zret (ty := .boolean) hx hb hr rfl (fun t9 ht9 hW9 => ⟨rfl, by rw [ht9]; exact hP, hS.F ht9⟩) hS.2.2 d_Reader_takesTest_104
          · replace hf := o_neg c_12 hf
            refine lv_iconst (v := 1) hx hb d_Reader_takesTest_99 (by decide) ?_
            refine lv_goto (tgt := 104) hx hb d_Reader_takesTest_100 (by decide) ?_
            rw [hQ, ← Option.some.inj hf]
            exact W.zret (ty := .boolean) hx hb hr rfl (fun t9 ht9 hW9 => ⟨rfl, by rw [ht9]; exact hP, hS.F ht9⟩) hS.2.2 d_Reader_takesTest_104
      · replace hf := o_neg c_9 hf
        refine lv_aload_n hx hb d_Reader_takesTest_69 rfl (lv_at hl 2 rfl) ?_
        refine va_get (D := (dC, dI)) (ci := 5) (v := .int v_p1_kind) (C := R_Text) (T := T_Text) (N := 6) hx hb hT i_Text hown hK hP 1 rfl rfl 3 (by decide) (hT _ kF_Reader_25) (fun _ h9 => h9) rfl d_Reader_takesTest_70 ?_
        refine lv_bipush (v := 18) hx hb d_Reader_takesTest_73 (by decide) ?_
        refine lv_icmp_ne (tgt := 82) hx hb d_Reader_takesTest_75 (by decide) (fun c_13 => ?_) (fun c_13 => ?_)
        · replace hf := o_neg c_13 hf
          refine lv_iconst (v := 0) hx hb d_Reader_takesTest_82 (by decide) ?_
          refine lv_istore (lv' := [(4, .int 0), (3, .int t_1), (0, .ref h_this), (1, .ref h_p1), (2, .ref h_p2)]) hx hb d_Reader_takesTest_83 hl (by decide) rfl (fun ls hl => ?_)
          refine lv_iload hx hb d_Reader_takesTest_85 (lv_at hl 0 rfl) ?_
          refine lv_if_eq (tgt := 103) hx hb d_Reader_takesTest_87 (by decide) (fun c_14 => ?_) (fun c_14 => ?_)
          · replace hf := o_pos c_14 hf
            refine lv_iconst (v := 0) hx hb d_Reader_takesTest_103 (by decide) ?_
            rw [hQ, ← Option.some.inj hf]
            exact W.zret (ty := .boolean) hx hb hr rfl (fun t9 ht9 hW9 => ⟨rfl, by rw [ht9]; exact hP, hS.F ht9⟩) hS.2.2 d_Reader_takesTest_104
          · replace hf := o_neg c_14 hf
            refine lv_aload_n hx hb d_Reader_takesTest_90 rfl (lv_at hl 2 rfl) ?_
            refine lv_bipush (v := 8) hx hb d_Reader_takesTest_91 (by decide) ?_
            obtain ⟨t_15, hg_15, hf⟩ := o_bind hf
            refine x_virt (w' := [(h_this, .inr (1, [.int t_15.2, .int 0])), (h_p1, .inr (5, [.ref h_p1_signs, .int v_p1_size, .int v_p1_at, .int v_p1_kind, .int v_p1_amount, .long v_p1_letters])), (h_p2, .inr (3, [.ref h_p2_names, .ref h_p2_spans, .ref h_p2_costs, .ref h_p2_sizes, .ref h_p2_kinds, .ref h_p2_firsts, .ref h_p2_seconds, .ref h_p2_numbers, .int v_p2_count])), (h_p2_sizes, .inl (cI, 6, .inl v_p2_sizes)), (h_p2_kinds, .inl (cI, 36, .inl (upd v_p2_kinds (t_1 : Int32).toNatClampNeg v_p1_kind))), (h_p2_firsts, .inl (cI, 36, .inl v_p2_firsts)), (h_p2_seconds, .inl (cI, 36, .inl (upd v_p2_seconds (t_1 : Int32).toNatClampNeg ((-1)))))]) (As := [.int 8]) (rest := []) hx hb hml hl.1 hown hT hK hN hP hD hS hA (c_Reader_makeDue l dC dI cI cL cC h_this H.size v_due 0 8 t_15 hg_15) kM_Reader_38 kI_Reader_makeDue kS_134 kN_Reader kC_Reader_makeDue hd_Reader_makeDue rfl 0 rfl rfl rfl ⟨Nat.le_of_ble_eq_true rfl, Nat.le_of_ble_eq_true rfl⟩ rfl rfl ⟨Nat.zero_le _, Nat.zero_le _⟩ rfl (Nat.le_of_ble_eq_true rfl) d_Reader_takesTest_93 [0] rfl rfl [.inr 0, .inl 1, .inl 2, .inl 3, .inl 4, .inl 5, .inl 6] rfl rfl rfl (fun H locs hP hD hS => ?_)
            refine lv_if_eq (tgt := 103) hx hb d_Reader_takesTest_96 (by decide) (fun c_16 => ?_) (fun c_16 => ?_)
            · replace hf := o_pos c_16 hf
              refine lv_iconst (v := 0) hx hb d_Reader_takesTest_103 (by decide) ?_
              rw [hQ, ← Option.some.inj hf]
              exact W.zret (ty := .boolean) hx hb hr rfl (fun t9 ht9 hW9 => ⟨rfl, by rw [ht9]; exact hP, hS.F ht9⟩) hS.2.2 d_Reader_takesTest_104
            · replace hf := o_neg c_16 hf
              refine lv_iconst (v := 1) hx hb d_Reader_takesTest_99 (by decide) ?_
              refine lv_goto (tgt := 104) hx hb d_Reader_takesTest_100 (by decide) ?_
              rw [hQ, ← Option.some.inj hf]
              exact W.zret (ty := .boolean) hx hb hr rfl (fun t9 ht9 hW9 => ⟨rfl, by rw [ht9]; exact hP, hS.F ht9⟩) hS.2.2 d_Reader_takesTest_104
        · replace hf := o_pos c_13 hf
          refine lv_iconst (v := 1) hx hb d_Reader_takesTest_78 (by decide) ?_
          refine lv_goto (tgt := 83) hx hb d_Reader_takesTest_79 (by decide) ?_
          refine lv_istore (lv' := [(4, .int 1), (3, .int t_1), (0, .ref h_this), (1, .ref h_p1), (2, .ref h_p2)]) hx hb d_Reader_takesTest_83 hl (by decide) rfl (fun ls hl => ?_)
          refine lv_iload hx hb d_Reader_takesTest_85 (lv_at hl 0 rfl) ?_
          refine lv_if_eq (tgt := 103) hx hb d_Reader_takesTest_87 (by decide) (fun c_17 => ?_) (fun c_17 => ?_)
          · replace hf := o_pos c_17 hf
            refine lv_iconst (v := 0) hx hb d_Reader_takesTest_103 (by decide) ?_
            rw [hQ, ← Option.some.inj hf]
            exact W.zret (ty := .boolean) hx hb hr rfl (fun t9 ht9 hW9 => ⟨rfl, by rw [ht9]; exact hP, hS.F ht9⟩) hS.2.2 d_Reader_takesTest_104
          · replace hf := o_neg c_17 hf
            refine lv_aload_n hx hb d_Reader_takesTest_90 rfl (lv_at hl 2 rfl) ?_
            refine lv_bipush (v := 8) hx hb d_Reader_takesTest_91 (by decide) ?_
            obtain ⟨t_18, hg_18, hf⟩ := o_bind hf
            refine x_virt (w' := [(h_this, .inr (1, [.int t_18.2, .int 0])), (h_p1, .inr (5, [.ref h_p1_signs, .int v_p1_size, .int v_p1_at, .int v_p1_kind, .int v_p1_amount, .long v_p1_letters])), (h_p2, .inr (3, [.ref h_p2_names, .ref h_p2_spans, .ref h_p2_costs, .ref h_p2_sizes, .ref h_p2_kinds, .ref h_p2_firsts, .ref h_p2_seconds, .ref h_p2_numbers, .int v_p2_count])), (h_p2_sizes, .inl (cI, 6, .inl v_p2_sizes)), (h_p2_kinds, .inl (cI, 36, .inl (upd v_p2_kinds (t_1 : Int32).toNatClampNeg v_p1_kind))), (h_p2_firsts, .inl (cI, 36, .inl v_p2_firsts)), (h_p2_seconds, .inl (cI, 36, .inl (upd v_p2_seconds (t_1 : Int32).toNatClampNeg ((-1)))))]) (As := [.int 8]) (rest := []) hx hb hml hl.1 hown hT hK hN hP hD hS hA (c_Reader_makeDue l dC dI cI cL cC h_this H.size v_due 0 8 t_18 hg_18) kM_Reader_38 kI_Reader_makeDue kS_134 kN_Reader kC_Reader_makeDue hd_Reader_makeDue rfl 0 rfl rfl rfl ⟨Nat.le_of_ble_eq_true rfl, Nat.le_of_ble_eq_true rfl⟩ rfl rfl ⟨Nat.zero_le _, Nat.zero_le _⟩ rfl (Nat.le_of_ble_eq_true rfl) d_Reader_takesTest_93 [0] rfl rfl [.inr 0, .inl 1, .inl 2, .inl 3, .inl 4, .inl 5, .inl 6] rfl rfl rfl (fun H locs hP hD hS => ?_)
            refine lv_if_eq (tgt := 103) hx hb d_Reader_takesTest_96 (by decide) (fun c_19 => ?_) (fun c_19 => ?_)
            · replace hf := o_pos c_19 hf
              refine lv_iconst (v := 0) hx hb d_Reader_takesTest_103 (by decide) ?_
              rw [hQ, ← Option.some.inj hf]
              exact W.zret (ty := .boolean) hx hb hr rfl (fun t9 ht9 hW9 => ⟨rfl, by rw [ht9]; exact hP, hS.F ht9⟩) hS.2.2 d_Reader_takesTest_104
            · replace hf := o_neg c_19 hf
              refine lv_iconst (v := 1) hx hb d_Reader_takesTest_99 (by decide) ?_
              refine lv_goto (tgt := 104) hx hb d_Reader_takesTest_100 (by decide) ?_
              rw [hQ, ← Option.some.inj hf]
              exact W.zret (ty := .boolean) hx hb hr rfl (fun t9 ht9 hW9 => ⟨rfl, by rw [ht9]; exact hP, hS.F ht9⟩) hS.2.2 d_Reader_takesTest_104
  · replace hf := o_pos c_3 hf
    refine lv_aload_n hx hb d_Reader_takesTest_25 rfl (lv_at hl 3 rfl) ?_
    refine va_get (D := (dC, dI)) (ci := 3) (v := .ref h_p2_firsts) (C := R_RuleSet) (T := T_RuleSet) (N := 9) hx hb hT i_RuleSet hown hK hP 2 rfl rfl 5 (by decide) (hT _ kF_Reader_100) (fun _ h9 => h9) rfl d_Reader_takesTest_26 ?_
    refine lv_iload_n hx hb d_Reader_takesTest_29 rfl (lv_at hl 0 rfl) ?_
    refine lv_aload_n hx hb d_Reader_takesTest_30 rfl (lv_at hl 2 rfl) ?_
    refine va_get (D := (dC, dI)) (ci := 5) (v := .int v_p1_amount) (C := R_Text) (T := T_Text) (N := 6) hx hb hT i_Text hown hK hP 1 rfl rfl 4 (by decide) (hT _ kF_Reader_103) (fun _ h9 => h9) rfl d_Reader_takesTest_31 ?_
    obtain ⟨hi_20, hf⟩ := o_in hf
    refine va_iast hx hb hK hP hD hS 5 0 rfl rfl hi_20 d_Reader_takesTest_34 (fun H locs hP hD hS => ?_)
    have hP : va_P (dC, dI) vwCl [(h_this, .inr (1, [.int v_due, .int 0])), (h_p1, .inr (5, [.ref h_p1_signs, .int v_p1_size, .int v_p1_at, .int v_p1_kind, .int v_p1_amount, .long v_p1_letters])), (h_p2, .inr (3, [.ref h_p2_names, .ref h_p2_spans, .ref h_p2_costs, .ref h_p2_sizes, .ref h_p2_kinds, .ref h_p2_firsts, .ref h_p2_seconds, .ref h_p2_numbers, .int v_p2_count])), (h_p2_sizes, .inl (cI, 6, .inl v_p2_sizes)), (h_p2_kinds, .inl (cI, 36, .inl v_p2_kinds)), (h_p2_firsts, .inl (cI, 36, .inl (upd v_p2_firsts (t_1 : Int32).toNatClampNeg v_p1_amount))), (h_p2_seconds, .inl (cI, 36, .inl (upd v_p2_seconds (t_1 : Int32).toNatClampNeg ((-1)))))] H := hP
    have hD : va_D A [(h_this, .inr (1, [.int v_due, .int 0])), (h_p1, .inr (5, [.ref h_p1_signs, .int v_p1_size, .int v_p1_at, .int v_p1_kind, .int v_p1_amount, .long v_p1_letters])), (h_p2, .inr (3, [.ref h_p2_names, .ref h_p2_spans, .ref h_p2_costs, .ref h_p2_sizes, .ref h_p2_kinds, .ref h_p2_firsts, .ref h_p2_seconds, .ref h_p2_numbers, .int v_p2_count])), (h_p2_sizes, .inl (cI, 6, .inl v_p2_sizes)), (h_p2_kinds, .inl (cI, 36, .inl v_p2_kinds)), (h_p2_firsts, .inl (cI, 36, .inl (upd v_p2_firsts (t_1 : Int32).toNatClampNeg v_p1_amount))), (h_p2_seconds, .inl (cI, 36, .inl (upd v_p2_seconds (t_1 : Int32).toNatClampNeg ((-1)))))] := hD
    refine lv_aload_n hx hb d_Reader_takesTest_35 rfl (lv_at hl 1 rfl) ?_
    refine lv_iconst (v := 3) hx hb d_Reader_takesTest_36 (by decide) ?_
    obtain ⟨t_21, hg_21, hf⟩ := o_bind hf
    refine x_virt (w' := [(h_this, .inr (1, [.int t_21.2, .int 0])), (h_p1, .inr (5, [.ref h_p1_signs, .int v_p1_size, .int v_p1_at, .int v_p1_kind, .int v_p1_amount, .long v_p1_letters])), (h_p2, .inr (3, [.ref h_p2_names, .ref h_p2_spans, .ref h_p2_costs, .ref h_p2_sizes, .ref h_p2_kinds, .ref h_p2_firsts, .ref h_p2_seconds, .ref h_p2_numbers, .int v_p2_count])), (h_p2_sizes, .inl (cI, 6, .inl v_p2_sizes)), (h_p2_kinds, .inl (cI, 36, .inl v_p2_kinds)), (h_p2_firsts, .inl (cI, 36, .inl (upd v_p2_firsts (t_1 : Int32).toNatClampNeg v_p1_amount))), (h_p2_seconds, .inl (cI, 36, .inl (upd v_p2_seconds (t_1 : Int32).toNatClampNeg ((-1)))))]) (As := [.int 3]) (rest := []) hx hb hml hl.1 hown hT hK hN hP hD hS hA (c_Reader_makeDue l dC dI cI cL cC h_this H.size v_due 0 3 t_21 hg_21) kM_Reader_38 kI_Reader_makeDue kS_134 kN_Reader kC_Reader_makeDue hd_Reader_makeDue rfl 0 rfl rfl rfl ⟨Nat.le_of_ble_eq_true rfl, Nat.le_of_ble_eq_true rfl⟩ rfl rfl ⟨Nat.zero_le _, Nat.zero_le _⟩ rfl (Nat.le_of_ble_eq_true rfl) d_Reader_takesTest_37 [0] rfl rfl [.inr 0, .inl 1, .inl 2, .inl 3, .inl 4, .inl 5, .inl 6] rfl rfl rfl (fun H locs hP hD hS => ?_)
    obtain ⟨hz_22, hf⟩ := o_zb hf
    rw [hQ, ← Option.some.inj hf]
    exact W.zret (ty := .boolean) hx hb hr hz_22 (fun t9 ht9 hW9 => ⟨rfl, by rw [ht9]; exact hP, hS.F ht9⟩) hS.2.2 d_Reader_takesTest_40
def rm_Reader_takesName : Room := { frames := 1, cells := 0, slots := 0, locals := 23 }
set_option maxHeartbeats 4000000 in
set_option maxRecDepth 100000 in
theorem c_Reader_takesName (l : Launch) (dC : Nat → ClassId) (dI : Nat → Nat → Nat) (cI cL cC : ClassId) (h_this h_p1 h_p2 h_p1_signs h_p2_names h_p2_spans h_p2_costs h_p2_sizes h_p2_kinds h_p2_firsts h_p2_seconds h_p2_numbers : Nat) (sz : Nat) (fu : Nat) (v_due : Int32) (v_isNegative : Int32) (v_p1_size : Int32) (v_p1_at : Int32) (v_p1_kind : Int32) (v_p1_amount : Int32) (v_p1_letters : Int64) (v_p2_count : Int32) (v_p2_names : Nat → Int64) (v_p2_sizes : Nat → Int32) (t : Int32 × Int32 × (Nat → Int64) × (Nat → Int32)) (hf : f_Reader_takesName fu v_due v_p1_kind v_p1_letters v_p2_count v_p2_names v_p2_sizes = some t) : Met l y_Reader_takesName (Cond.code y_Reader_takesName prog_3_method_5_code 3 (some .boolean) :: xT) rm_Reader_takesName (va_Pc [.ref h_this, .ref h_p1, .ref h_p2] (xP (dC, dI) (xTy cI cL cC) [(h_this, .inr (1, [.int v_due, .int v_isNegative])), (h_p1, .inr (5, [.ref h_p1_signs, .int v_p1_size, .int v_p1_at, .int v_p1_kind, .int v_p1_amount, .long v_p1_letters])), (h_p2, .inr (3, [.ref h_p2_names, .ref h_p2_spans, .ref h_p2_costs, .ref h_p2_sizes, .ref h_p2_kinds, .ref h_p2_firsts, .ref h_p2_seconds, .ref h_p2_numbers, .int v_p2_count])), (h_p2_names, .inl (cL, 6, .inr (.inl v_p2_names))), (h_p2_sizes, .inl (cI, 6, .inl v_p2_sizes))] sz)) (xQ (dC, dI) [(h_this, .inr (1, [.int t.2.1, .int v_isNegative])), (h_p1, .inr (5, [.ref h_p1_signs, .int v_p1_size, .int v_p1_at, .int v_p1_kind, .int v_p1_amount, .long v_p1_letters])), (h_p2, .inr (3, [.ref h_p2_names, .ref h_p2_spans, .ref h_p2_costs, .ref h_p2_sizes, .ref h_p2_kinds, .ref h_p2_firsts, .ref h_p2_seconds, .ref h_p2_numbers, .int v_p2_count])), (h_p2_names, .inl (cL, 6, .inr (.inl t.2.2.1))), (h_p2_sizes, .inl (cI, 6, .inl t.2.2.2))] (va_A [(h_this, .inr (1, [.int v_due, .int v_isNegative])), (h_p1, .inr (5, [.ref h_p1_signs, .int v_p1_size, .int v_p1_at, .int v_p1_kind, .int v_p1_amount, .long v_p1_letters])), (h_p2, .inr (3, [.ref h_p2_names, .ref h_p2_spans, .ref h_p2_costs, .ref h_p2_sizes, .ref h_p2_kinds, .ref h_p2_firsts, .ref h_p2_seconds, .ref h_p2_numbers, .int v_p2_count])), (h_p2_names, .inl (cL, 6, .inr (.inl v_p2_names))), (h_p2_sizes, .inl (cI, 6, .inl v_p2_sizes))] sz) (some (.int t.1))) 0 0 (va_A [(h_this, .inr (1, [.int v_due, .int v_isNegative])), (h_p1, .inr (5, [.ref h_p1_signs, .int v_p1_size, .int v_p1_at, .int v_p1_kind, .int v_p1_amount, .long v_p1_letters])), (h_p2, .inr (3, [.ref h_p2_names, .ref h_p2_spans, .ref h_p2_costs, .ref h_p2_sizes, .ref h_p2_kinds, .ref h_p2_firsts, .ref h_p2_seconds, .ref h_p2_numbers, .int v_p2_count])), (h_p2_names, .inl (cL, 6, .inr (.inl v_p2_names))), (h_p2_sizes, .inl (cI, 6, .inl v_p2_sizes))] sz) := by
  refine Met.ofW (cc := prog_3_method_5_code) (maxL := 3) (ret := (some .boolean)) (by decide) rfl ?_
  intro p e s m args below meth c s₁ B hml hv
  obtain ⟨hargs, hsz, hP, hK, hN, hD0⟩ := hv
  have hx := B.exec
  have hb := B.bytes
  have hr := B.returns
  have hT : ∀ w ∈ xT, w.before args s = true := fun w hw => atoms_spec (ws := Cond.code y_Reader_takesName prog_3_method_5_code 3 (some .boolean) :: xT) B.pre w (List.mem_cons_of_mem _ hw)
  have hown : s.vm.findClass R_Reader = some m.cls := findClass_of_methodNamed B.named
  have hlocks := B.notSynchronized
  subst hsz
  have hD := hD0.self (sz := s.heap.size)
  generalize hAe : va_A [(h_this, .inr (1, [.int v_due, .int v_isNegative])), (h_p1, .inr (5, [.ref h_p1_signs, .int v_p1_size, .int v_p1_at, .int v_p1_kind, .int v_p1_amount, .long v_p1_letters])), (h_p2, .inr (3, [.ref h_p2_names, .ref h_p2_spans, .ref h_p2_costs, .ref h_p2_sizes, .ref h_p2_kinds, .ref h_p2_firsts, .ref h_p2_seconds, .ref h_p2_numbers, .int v_p2_count])), (h_p2_names, .inl (cL, 6, .inr (.inl v_p2_names))), (h_p2_sizes, .inl (cI, 6, .inl v_p2_sizes))] s.heap.size = A at hD ⊢
  have hA : ∀ q : Nat, s.heap.size ≤ q → A q := fun q h => by rw [← hAe]; exact Or.inr h
  have hS : va_S A s.heap s.heap [] := va_S.rf
  have hP : va_P (dC, dI) vwCl [(h_this, .inr (1, [.int v_due, .int v_isNegative])), (h_p1, .inr (5, [.ref h_p1_signs, .int v_p1_size, .int v_p1_at, .int v_p1_kind, .int v_p1_amount, .long v_p1_letters])), (h_p2, .inr (3, [.ref h_p2_names, .ref h_p2_spans, .ref h_p2_costs, .ref h_p2_sizes, .ref h_p2_kinds, .ref h_p2_firsts, .ref h_p2_seconds, .ref h_p2_numbers, .int v_p2_count])), (h_p2_names, .inl (cL, 6, .inr (.inl v_p2_names))), (h_p2_sizes, .inl (cI, 6, .inl v_p2_sizes))] s.heap := hP
  have hl := lv_entry ([.ref h_this, .ref h_p1, .ref h_p2]) (n := 3) (Nat.le_of_ble_eq_true rfl)
  rw [show entryFrame m args 3 = entryFrame m ([.ref h_this, .ref h_p1, .ref h_p2] : List Value).toArray 3 from by rw [hargs], lg_entry_eq]
  generalize (lg_sl ([.ref h_this, .ref h_p1, .ref h_p2]) ++ List.replicate (3 - (lg_sl ([.ref h_this, .ref h_p1, .ref h_p2])).length) Slot.unset).toArray = ls at hl ⊢
  have hl : lv_has ls 3 [(0, .ref h_this), (1, .ref h_p1), (2, .ref h_p2)] := hl
  obtain ⟨Q, hQ⟩ : ∃ Q, Q = MQ below (xQ (dC, dI) [(h_this, .inr (1, [.int t.2.1, .int v_isNegative])), (h_p1, .inr (5, [.ref h_p1_signs, .int v_p1_size, .int v_p1_at, .int v_p1_kind, .int v_p1_amount, .long v_p1_letters])), (h_p2, .inr (3, [.ref h_p2_names, .ref h_p2_spans, .ref h_p2_costs, .ref h_p2_sizes, .ref h_p2_kinds, .ref h_p2_firsts, .ref h_p2_seconds, .ref h_p2_numbers, .int v_p2_count])), (h_p2_names, .inl (cL, 6, .inr (.inl t.2.2.1))), (h_p2_sizes, .inl (cI, 6, .inl t.2.2.2))] A (some (.int t.1))) args s 0 0 A := ⟨_, rfl⟩
  rw [← hQ]
  show W p l e rm_Reader_takesName s m args below meth c s.heap [] 0 0 Q _
  obtain ⟨H, hH⟩ : ∃ H, H = s.heap := ⟨_, rfl⟩
  obtain ⟨locs, hlocs⟩ : ∃ L : List Loc, L = [] := ⟨_, rfl⟩
  rw [← hlocs] at hS ⊢
  have hS : va_S A s.heap H locs := by rw [hH]; exact hS
  rw [← hH] at hP ⊢
  replace hf := f_Reader_takesName_u hf
  refine lv_aload_n hx hb d_Reader_takesName_0 rfl (lv_at hl 1 rfl) ?_
  refine va_get (D := (dC, dI)) (ci := 5) (v := .int v_p1_kind) (C := R_Text) (T := T_Text) (N := 6) hx hb hT i_Text hown hK hP 1 rfl rfl 3 (by decide) (hT _ kF_Reader_25) (fun _ h9 => h9) rfl d_Reader_takesName_1 ?_
  refine lv_iconst (v := 2) hx hb d_Reader_takesName_4 (by decide) ?_
  refine lv_icmp_ne (tgt := 28) hx hb d_Reader_takesName_5 (by decide) (fun c_1 => ?_) (fun c_1 => ?_)
  · replace hf := o_neg c_1 hf
    refine lv_iconst (v := 0) hx hb d_Reader_takesName_28 (by decide) ?_
    rw [hQ, ← Option.some.inj hf]
    exact W.zret (ty := .boolean) hx hb hr rfl (fun t9 ht9 hW9 => ⟨rfl, by rw [ht9]; exact hP, hS.F ht9⟩) hS.2.2 d_Reader_takesName_29
  · replace hf := o_pos c_1 hf
    refine lv_aload_n hx hb d_Reader_takesName_8 rfl (lv_at hl 2 rfl) ?_
    refine va_get (D := (dC, dI)) (ci := 3) (v := .int v_p2_count) (C := R_RuleSet) (T := T_RuleSet) (N := 9) hx hb hT i_RuleSet hown hK hP 2 rfl rfl 8 (by decide) (hT _ kF_Reader_15) (fun _ h9 => h9) rfl d_Reader_takesName_9 ?_
    refine lv_bipush (v := 6) hx hb d_Reader_takesName_12 (by decide) ?_
    refine lv_icmp_ge (tgt := 28) hx hb d_Reader_takesName_14 (by decide) (fun c_2 => ?_) (fun c_2 => ?_)
    · replace hf := o_pos c_2 hf
      refine lv_iconst (v := 0) hx hb d_Reader_takesName_28 (by decide) ?_
      rw [hQ, ← Option.some.inj hf]
      exact W.zret (ty := .boolean) hx hb hr rfl (fun t9 ht9 hW9 => ⟨rfl, by rw [ht9]; exact hP, hS.F ht9⟩) hS.2.2 d_Reader_takesName_29
    · replace hf := o_neg c_2 hf
      refine lv_aload_n hx hb d_Reader_takesName_17 rfl (lv_at hl 2 rfl) ?_
      refine lv_aload_n hx hb d_Reader_takesName_18 rfl (lv_at hl 1 rfl) ?_
      refine va_get (D := (dC, dI)) (ci := 5) (v := .long v_p1_letters) (C := R_Text) (T := T_Text) (N := 6) hx hb hT i_Text hown hK hP 1 rfl rfl 5 (by decide) (hT _ kF_Reader_73) (fun _ h9 => h9) rfl d_Reader_takesName_19 ?_
      obtain ⟨t_3, hg_3, hf⟩ := o_bind hf
      refine x_virt (w' := [(h_this, .inr (1, [.int v_due, .int v_isNegative])), (h_p1, .inr (5, [.ref h_p1_signs, .int v_p1_size, .int v_p1_at, .int v_p1_kind, .int v_p1_amount, .long v_p1_letters])), (h_p2, .inr (3, [.ref h_p2_names, .ref h_p2_spans, .ref h_p2_costs, .ref h_p2_sizes, .ref h_p2_kinds, .ref h_p2_firsts, .ref h_p2_seconds, .ref h_p2_numbers, .int v_p2_count])), (h_p2_names, .inl (cL, 6, .inr (.inl v_p2_names))), (h_p2_sizes, .inl (cI, 6, .inl v_p2_sizes))]) (As := [.long v_p1_letters]) (rest := []) hx hb hml hl.1 hown hT hK hN hP hD hS hA (c_RuleSet_hasName l dC dI cI cL cC h_p2 h_p2_names h_p2_spans h_p2_costs h_p2_sizes h_p2_kinds h_p2_firsts h_p2_seconds h_p2_numbers H.size fu v_p2_count v_p2_names v_p1_letters t_3 hg_3) kM_Reader_77 kI_RuleSet_hasName kS_164 kN_RuleSet kC_RuleSet_hasName hd_RuleSet_hasName rfl 2 rfl rfl rfl ⟨Nat.le_of_ble_eq_true rfl, Nat.le_of_ble_eq_true rfl⟩ rfl rfl ⟨Nat.zero_le _, Nat.zero_le _⟩ rfl (Nat.le_of_ble_eq_true rfl) d_Reader_takesName_22 [2, 3] rfl rfl [.inl 0, .inl 1, .inr 0, .inr 1, .inl 4] rfl rfl rfl (fun H locs hP hD hS => ?_)
      refine lv_if_eq (tgt := 30) hx hb d_Reader_takesName_25 (by decide) (fun c_4 => ?_) (fun c_4 => ?_)
      · replace hf := o_pos c_4 hf
        refine lv_aload_n hx hb d_Reader_takesName_30 rfl (lv_at hl 2 rfl) ?_
        refine va_get (D := (dC, dI)) (ci := 3) (v := .ref h_p2_names) (C := R_RuleSet) (T := T_RuleSet) (N := 9) hx hb hT i_RuleSet hown hK hP 2 rfl rfl 0 (by decide) (hT _ kF_Reader_81) (fun _ h9 => h9) rfl d_Reader_takesName_31 ?_
        refine lv_aload_n hx hb d_Reader_takesName_34 rfl (lv_at hl 2 rfl) ?_
        refine va_get (D := (dC, dI)) (ci := 3) (v := .int v_p2_count) (C := R_RuleSet) (T := T_RuleSet) (N := 9) hx hb hT i_RuleSet hown hK hP 2 rfl rfl 8 (by decide) (hT _ kF_Reader_15) (fun _ h9 => h9) rfl d_Reader_takesName_35 ?_
        refine lv_aload_n hx hb d_Reader_takesName_38 rfl (lv_at hl 1 rfl) ?_
        refine va_get (D := (dC, dI)) (ci := 5) (v := .long v_p1_letters) (C := R_Text) (T := T_Text) (N := 6) hx hb hT i_Text hown hK hP 1 rfl rfl 5 (by decide) (hT _ kF_Reader_73) (fun _ h9 => h9) rfl d_Reader_takesName_39 ?_
        obtain ⟨hi_5, hf⟩ := o_in hf
        refine va_last hx hb hK hP hD hS 3 1 rfl rfl hi_5 d_Reader_takesName_42 (fun H locs hP hD hS => ?_)
        have hP : va_P (dC, dI) vwCl [(h_this, .inr (1, [.int v_due, .int v_isNegative])), (h_p1, .inr (5, [.ref h_p1_signs, .int v_p1_size, .int v_p1_at, .int v_p1_kind, .int v_p1_amount, .long v_p1_letters])), (h_p2, .inr (3, [.ref h_p2_names, .ref h_p2_spans, .ref h_p2_costs, .ref h_p2_sizes, .ref h_p2_kinds, .ref h_p2_firsts, .ref h_p2_seconds, .ref h_p2_numbers, .int v_p2_count])), (h_p2_names, .inl (cL, 6, .inr (.inl (vp_updL v_p2_names (v_p2_count : Int32).toNatClampNeg v_p1_letters)))), (h_p2_sizes, .inl (cI, 6, .inl v_p2_sizes))] H := hP
        have hD : va_D A [(h_this, .inr (1, [.int v_due, .int v_isNegative])), (h_p1, .inr (5, [.ref h_p1_signs, .int v_p1_size, .int v_p1_at, .int v_p1_kind, .int v_p1_amount, .long v_p1_letters])), (h_p2, .inr (3, [.ref h_p2_names, .ref h_p2_spans, .ref h_p2_costs, .ref h_p2_sizes, .ref h_p2_kinds, .ref h_p2_firsts, .ref h_p2_seconds, .ref h_p2_numbers, .int v_p2_count])), (h_p2_names, .inl (cL, 6, .inr (.inl (vp_updL v_p2_names (v_p2_count : Int32).toNatClampNeg v_p1_letters)))), (h_p2_sizes, .inl (cI, 6, .inl v_p2_sizes))] := hD
        refine lv_aload_n hx hb d_Reader_takesName_43 rfl (lv_at hl 2 rfl) ?_
        refine va_get (D := (dC, dI)) (ci := 3) (v := .ref h_p2_sizes) (C := R_RuleSet) (T := T_RuleSet) (N := 9) hx hb hT i_RuleSet hown hK hP 2 rfl rfl 3 (by decide) (hT _ kF_Reader_85) (fun _ h9 => h9) rfl d_Reader_takesName_44 ?_
        refine lv_aload_n hx hb d_Reader_takesName_47 rfl (lv_at hl 2 rfl) ?_
        refine va_get (D := (dC, dI)) (ci := 3) (v := .int v_p2_count) (C := R_RuleSet) (T := T_RuleSet) (N := 9) hx hb hT i_RuleSet hown hK hP 2 rfl rfl 8 (by decide) (hT _ kF_Reader_15) (fun _ h9 => h9) rfl d_Reader_takesName_48 ?_
        refine lv_iconst (v := 0) hx hb d_Reader_takesName_51 (by decide) ?_
        obtain ⟨hi_6, hf⟩ := o_in hf
        refine va_iast hx hb hK hP hD hS 4 0 rfl rfl hi_6 d_Reader_takesName_52 (fun H locs hP hD hS => ?_)
        have hP : va_P (dC, dI) vwCl [(h_this, .inr (1, [.int v_due, .int v_isNegative])), (h_p1, .inr (5, [.ref h_p1_signs, .int v_p1_size, .int v_p1_at, .int v_p1_kind, .int v_p1_amount, .long v_p1_letters])), (h_p2, .inr (3, [.ref h_p2_names, .ref h_p2_spans, .ref h_p2_costs, .ref h_p2_sizes, .ref h_p2_kinds, .ref h_p2_firsts, .ref h_p2_seconds, .ref h_p2_numbers, .int v_p2_count])), (h_p2_names, .inl (cL, 6, .inr (.inl (vp_updL v_p2_names (v_p2_count : Int32).toNatClampNeg v_p1_letters)))), (h_p2_sizes, .inl (cI, 6, .inl (upd v_p2_sizes (v_p2_count : Int32).toNatClampNeg 0)))] H := hP
        have hD : va_D A [(h_this, .inr (1, [.int v_due, .int v_isNegative])), (h_p1, .inr (5, [.ref h_p1_signs, .int v_p1_size, .int v_p1_at, .int v_p1_kind, .int v_p1_amount, .long v_p1_letters])), (h_p2, .inr (3, [.ref h_p2_names, .ref h_p2_spans, .ref h_p2_costs, .ref h_p2_sizes, .ref h_p2_kinds, .ref h_p2_firsts, .ref h_p2_seconds, .ref h_p2_numbers, .int v_p2_count])), (h_p2_names, .inl (cL, 6, .inr (.inl (vp_updL v_p2_names (v_p2_count : Int32).toNatClampNeg v_p1_letters)))), (h_p2_sizes, .inl (cI, 6, .inl (upd v_p2_sizes (v_p2_count : Int32).toNatClampNeg 0)))] := hD
        refine lv_aload_n hx hb d_Reader_takesName_53 rfl (lv_at hl 0 rfl) ?_
        refine lv_iconst (v := 1) hx hb d_Reader_takesName_54 (by decide) ?_
        obtain ⟨t_7, hg_7, hf⟩ := o_bind hf
        refine x_virt (w' := [(h_this, .inr (1, [.int t_7.2, .int v_isNegative])), (h_p1, .inr (5, [.ref h_p1_signs, .int v_p1_size, .int v_p1_at, .int v_p1_kind, .int v_p1_amount, .long v_p1_letters])), (h_p2, .inr (3, [.ref h_p2_names, .ref h_p2_spans, .ref h_p2_costs, .ref h_p2_sizes, .ref h_p2_kinds, .ref h_p2_firsts, .ref h_p2_seconds, .ref h_p2_numbers, .int v_p2_count])), (h_p2_names, .inl (cL, 6, .inr (.inl (vp_updL v_p2_names (v_p2_count : Int32).toNatClampNeg v_p1_letters)))), (h_p2_sizes, .inl (cI, 6, .inl (upd v_p2_sizes (v_p2_count : Int32).toNatClampNeg 0)))]) (As := [.int 1]) (rest := []) hx hb hml hl.1 hown hT hK hN hP hD hS hA (c_Reader_makeDue l dC dI cI cL cC h_this H.size v_due v_isNegative 1 t_7 hg_7) kM_Reader_38 kI_Reader_makeDue kS_134 kN_Reader kC_Reader_makeDue hd_Reader_makeDue rfl 0 rfl rfl rfl ⟨Nat.le_of_ble_eq_true rfl, Nat.le_of_ble_eq_true rfl⟩ rfl rfl ⟨Nat.zero_le _, Nat.zero_le _⟩ rfl (Nat.le_of_ble_eq_true rfl) d_Reader_takesName_55 [0] rfl rfl [.inr 0, .inl 1, .inl 2, .inl 3, .inl 4] rfl rfl rfl (fun H locs hP hD hS => ?_)
        obtain ⟨hz_8, hf⟩ := o_zb hf
        rw [hQ, ← Option.some.inj hf]
        exact W.zret (ty := .boolean) hx hb hr hz_8 (fun t9 ht9 hW9 => ⟨rfl, by rw [ht9]; exact hP, hS.F ht9⟩) hS.2.2 d_Reader_takesName_58
      · replace hf := o_neg c_4 hf
        refine lv_iconst (v := 0) hx hb d_Reader_takesName_28 (by decide) ?_
        rw [hQ, ← Option.some.inj hf]
        exact W.zret (ty := .boolean) hx hb hr rfl (fun t9 ht9 hW9 => ⟨rfl, by rw [ht9]; exact hP, hS.F ht9⟩) hS.2.2 d_Reader_takesName_29
def rm_Reader_takes : Room := { frames := 2, cells := 0, slots := 0, locals := 45 }
set_option maxHeartbeats 4000000 in
set_option maxRecDepth 100000 in
theorem c_Reader_takes (l : Launch) (dC : Nat → ClassId) (dI : Nat → Nat → Nat) (cI cL cC : ClassId) (h_this h_p1 h_p2 h_p1_signs h_p2_names h_p2_spans h_p2_costs h_p2_sizes h_p2_kinds h_p2_firsts h_p2_seconds h_p2_numbers : Nat) (sz : Nat) (fu : Nat) (v_due : Int32) (v_isNegative : Int32) (v_p1_size : Int32) (v_p1_at : Int32) (v_p1_kind : Int32) (v_p1_amount : Int32) (v_p1_letters : Int64) (v_p2_count : Int32) (v_p2_names : Nat → Int64) (v_p2_spans : Nat → Int32) (v_p2_costs : Nat → Int32) (v_p2_sizes : Nat → Int32) (v_p2_kinds : Nat → Int32) (v_p2_firsts : Nat → Int32) (v_p2_seconds : Nat → Int32) (v_p2_numbers : Nat → Int32) (t : Int32 × Int32 × Int32 × Int32 × (Nat → Int64) × (Nat → Int32) × (Nat → Int32) × (Nat → Int32) × (Nat → Int32) × (Nat → Int32) × (Nat → Int32) × (Nat → Int32)) (hf : f_Reader_takes fu v_due v_isNegative v_p1_kind v_p1_amount v_p1_letters v_p2_count v_p2_names v_p2_spans v_p2_costs v_p2_sizes v_p2_kinds v_p2_firsts v_p2_seconds v_p2_numbers = some t) : Met l y_Reader_takes (Cond.code y_Reader_takes prog_3_method_3_code 3 (some .boolean) :: xT) rm_Reader_takes (va_Pc [.ref h_this, .ref h_p1, .ref h_p2] (xP (dC, dI) (xTy cI cL cC) [(h_this, .inr (1, [.int v_due, .int v_isNegative])), (h_p1, .inr (5, [.ref h_p1_signs, .int v_p1_size, .int v_p1_at, .int v_p1_kind, .int v_p1_amount, .long v_p1_letters])), (h_p2, .inr (3, [.ref h_p2_names, .ref h_p2_spans, .ref h_p2_costs, .ref h_p2_sizes, .ref h_p2_kinds, .ref h_p2_firsts, .ref h_p2_seconds, .ref h_p2_numbers, .int v_p2_count])), (h_p2_names, .inl (cL, 6, .inr (.inl v_p2_names))), (h_p2_spans, .inl (cI, 6, .inl v_p2_spans)), (h_p2_costs, .inl (cI, 6, .inl v_p2_costs)), (h_p2_sizes, .inl (cI, 6, .inl v_p2_sizes)), (h_p2_kinds, .inl (cI, 36, .inl v_p2_kinds)), (h_p2_firsts, .inl (cI, 36, .inl v_p2_firsts)), (h_p2_seconds, .inl (cI, 36, .inl v_p2_seconds)), (h_p2_numbers, .inl (cI, 36, .inl v_p2_numbers))] sz)) (xQ (dC, dI) [(h_this, .inr (1, [.int t.2.1, .int t.2.2.1])), (h_p1, .inr (5, [.ref h_p1_signs, .int v_p1_size, .int v_p1_at, .int v_p1_kind, .int v_p1_amount, .long v_p1_letters])), (h_p2, .inr (3, [.ref h_p2_names, .ref h_p2_spans, .ref h_p2_costs, .ref h_p2_sizes, .ref h_p2_kinds, .ref h_p2_firsts, .ref h_p2_seconds, .ref h_p2_numbers, .int t.2.2.2.1])), (h_p2_names, .inl (cL, 6, .inr (.inl t.2.2.2.2.1))), (h_p2_spans, .inl (cI, 6, .inl t.2.2.2.2.2.1)), (h_p2_costs, .inl (cI, 6, .inl t.2.2.2.2.2.2.1)), (h_p2_sizes, .inl (cI, 6, .inl t.2.2.2.2.2.2.2.1)), (h_p2_kinds, .inl (cI, 36, .inl t.2.2.2.2.2.2.2.2.1)), (h_p2_firsts, .inl (cI, 36, .inl t.2.2.2.2.2.2.2.2.2.1)), (h_p2_seconds, .inl (cI, 36, .inl t.2.2.2.2.2.2.2.2.2.2.1)), (h_p2_numbers, .inl (cI, 36, .inl t.2.2.2.2.2.2.2.2.2.2.2))] (va_A [(h_this, .inr (1, [.int v_due, .int v_isNegative])), (h_p1, .inr (5, [.ref h_p1_signs, .int v_p1_size, .int v_p1_at, .int v_p1_kind, .int v_p1_amount, .long v_p1_letters])), (h_p2, .inr (3, [.ref h_p2_names, .ref h_p2_spans, .ref h_p2_costs, .ref h_p2_sizes, .ref h_p2_kinds, .ref h_p2_firsts, .ref h_p2_seconds, .ref h_p2_numbers, .int v_p2_count])), (h_p2_names, .inl (cL, 6, .inr (.inl v_p2_names))), (h_p2_spans, .inl (cI, 6, .inl v_p2_spans)), (h_p2_costs, .inl (cI, 6, .inl v_p2_costs)), (h_p2_sizes, .inl (cI, 6, .inl v_p2_sizes)), (h_p2_kinds, .inl (cI, 36, .inl v_p2_kinds)), (h_p2_firsts, .inl (cI, 36, .inl v_p2_firsts)), (h_p2_seconds, .inl (cI, 36, .inl v_p2_seconds)), (h_p2_numbers, .inl (cI, 36, .inl v_p2_numbers))] sz) (some (.int t.1))) 0 0 (va_A [(h_this, .inr (1, [.int v_due, .int v_isNegative])), (h_p1, .inr (5, [.ref h_p1_signs, .int v_p1_size, .int v_p1_at, .int v_p1_kind, .int v_p1_amount, .long v_p1_letters])), (h_p2, .inr (3, [.ref h_p2_names, .ref h_p2_spans, .ref h_p2_costs, .ref h_p2_sizes, .ref h_p2_kinds, .ref h_p2_firsts, .ref h_p2_seconds, .ref h_p2_numbers, .int v_p2_count])), (h_p2_names, .inl (cL, 6, .inr (.inl v_p2_names))), (h_p2_spans, .inl (cI, 6, .inl v_p2_spans)), (h_p2_costs, .inl (cI, 6, .inl v_p2_costs)), (h_p2_sizes, .inl (cI, 6, .inl v_p2_sizes)), (h_p2_kinds, .inl (cI, 36, .inl v_p2_kinds)), (h_p2_firsts, .inl (cI, 36, .inl v_p2_firsts)), (h_p2_seconds, .inl (cI, 36, .inl v_p2_seconds)), (h_p2_numbers, .inl (cI, 36, .inl v_p2_numbers))] sz) := by
  refine Met.ofW (cc := prog_3_method_3_code) (maxL := 3) (ret := (some .boolean)) (by decide) rfl ?_
  intro p e s m args below meth c s₁ B hml hv
  obtain ⟨hargs, hsz, hP, hK, hN, hD0⟩ := hv
  have hx := B.exec
  have hb := B.bytes
  have hr := B.returns
  have hT : ∀ w ∈ xT, w.before args s = true := fun w hw => atoms_spec (ws := Cond.code y_Reader_takes prog_3_method_3_code 3 (some .boolean) :: xT) B.pre w (List.mem_cons_of_mem _ hw)
  have hown : s.vm.findClass R_Reader = some m.cls := findClass_of_methodNamed B.named
  have hlocks := B.notSynchronized
  subst hsz
  have hD := hD0.self (sz := s.heap.size)
  generalize hAe : va_A [(h_this, .inr (1, [.int v_due, .int v_isNegative])), (h_p1, .inr (5, [.ref h_p1_signs, .int v_p1_size, .int v_p1_at, .int v_p1_kind, .int v_p1_amount, .long v_p1_letters])), (h_p2, .inr (3, [.ref h_p2_names, .ref h_p2_spans, .ref h_p2_costs, .ref h_p2_sizes, .ref h_p2_kinds, .ref h_p2_firsts, .ref h_p2_seconds, .ref h_p2_numbers, .int v_p2_count])), (h_p2_names, .inl (cL, 6, .inr (.inl v_p2_names))), (h_p2_spans, .inl (cI, 6, .inl v_p2_spans)), (h_p2_costs, .inl (cI, 6, .inl v_p2_costs)), (h_p2_sizes, .inl (cI, 6, .inl v_p2_sizes)), (h_p2_kinds, .inl (cI, 36, .inl v_p2_kinds)), (h_p2_firsts, .inl (cI, 36, .inl v_p2_firsts)), (h_p2_seconds, .inl (cI, 36, .inl v_p2_seconds)), (h_p2_numbers, .inl (cI, 36, .inl v_p2_numbers))] s.heap.size = A at hD ⊢
  have hA : ∀ q : Nat, s.heap.size ≤ q → A q := fun q h => by rw [← hAe]; exact Or.inr h
  have hS : va_S A s.heap s.heap [] := va_S.rf
  have hP : va_P (dC, dI) vwCl [(h_this, .inr (1, [.int v_due, .int v_isNegative])), (h_p1, .inr (5, [.ref h_p1_signs, .int v_p1_size, .int v_p1_at, .int v_p1_kind, .int v_p1_amount, .long v_p1_letters])), (h_p2, .inr (3, [.ref h_p2_names, .ref h_p2_spans, .ref h_p2_costs, .ref h_p2_sizes, .ref h_p2_kinds, .ref h_p2_firsts, .ref h_p2_seconds, .ref h_p2_numbers, .int v_p2_count])), (h_p2_names, .inl (cL, 6, .inr (.inl v_p2_names))), (h_p2_spans, .inl (cI, 6, .inl v_p2_spans)), (h_p2_costs, .inl (cI, 6, .inl v_p2_costs)), (h_p2_sizes, .inl (cI, 6, .inl v_p2_sizes)), (h_p2_kinds, .inl (cI, 36, .inl v_p2_kinds)), (h_p2_firsts, .inl (cI, 36, .inl v_p2_firsts)), (h_p2_seconds, .inl (cI, 36, .inl v_p2_seconds)), (h_p2_numbers, .inl (cI, 36, .inl v_p2_numbers))] s.heap := hP
  have hl := lv_entry ([.ref h_this, .ref h_p1, .ref h_p2]) (n := 3) (Nat.le_of_ble_eq_true rfl)
  rw [show entryFrame m args 3 = entryFrame m ([.ref h_this, .ref h_p1, .ref h_p2] : List Value).toArray 3 from by rw [hargs], lg_entry_eq]
  generalize (lg_sl ([.ref h_this, .ref h_p1, .ref h_p2]) ++ List.replicate (3 - (lg_sl ([.ref h_this, .ref h_p1, .ref h_p2])).length) Slot.unset).toArray = ls at hl ⊢
  have hl : lv_has ls 3 [(0, .ref h_this), (1, .ref h_p1), (2, .ref h_p2)] := hl
  obtain ⟨Q, hQ⟩ : ∃ Q, Q = MQ below (xQ (dC, dI) [(h_this, .inr (1, [.int t.2.1, .int t.2.2.1])), (h_p1, .inr (5, [.ref h_p1_signs, .int v_p1_size, .int v_p1_at, .int v_p1_kind, .int v_p1_amount, .long v_p1_letters])), (h_p2, .inr (3, [.ref h_p2_names, .ref h_p2_spans, .ref h_p2_costs, .ref h_p2_sizes, .ref h_p2_kinds, .ref h_p2_firsts, .ref h_p2_seconds, .ref h_p2_numbers, .int t.2.2.2.1])), (h_p2_names, .inl (cL, 6, .inr (.inl t.2.2.2.2.1))), (h_p2_spans, .inl (cI, 6, .inl t.2.2.2.2.2.1)), (h_p2_costs, .inl (cI, 6, .inl t.2.2.2.2.2.2.1)), (h_p2_sizes, .inl (cI, 6, .inl t.2.2.2.2.2.2.2.1)), (h_p2_kinds, .inl (cI, 36, .inl t.2.2.2.2.2.2.2.2.1)), (h_p2_firsts, .inl (cI, 36, .inl t.2.2.2.2.2.2.2.2.2.1)), (h_p2_seconds, .inl (cI, 36, .inl t.2.2.2.2.2.2.2.2.2.2.1)), (h_p2_numbers, .inl (cI, 36, .inl t.2.2.2.2.2.2.2.2.2.2.2))] A (some (.int t.1))) args s 0 0 A := ⟨_, rfl⟩
  rw [← hQ]
  show W p l e rm_Reader_takes s m args below meth c s.heap [] 0 0 Q _
  obtain ⟨H, hH⟩ : ∃ H, H = s.heap := ⟨_, rfl⟩
  obtain ⟨locs, hlocs⟩ : ∃ L : List Loc, L = [] := ⟨_, rfl⟩
  rw [← hlocs] at hS ⊢
  have hS : va_S A s.heap H locs := by rw [hH]; exact hS
  rw [← hH] at hP ⊢
  replace hf := f_Reader_takes_u hf
  refine lv_aload_n hx hb d_Reader_takes_0 rfl (lv_at hl 0 rfl) ?_
  refine va_get (D := (dC, dI)) (ci := 1) (v := .int v_due) (C := R_Reader) (T := T_Reader) (N := 2) hx hb hT i_Reader hown hK hP 0 rfl rfl 0 (by decide) (hT _ kF_Reader_11) (fun _ h9 => h9) rfl d_Reader_takes_1 ?_
  rcases Decidable.em (v_due = (0 : Int32)) with c_1 | c_1
  · replace hf := o_pos c_1 hf
    refine x_tabIn (tgt := 76) hx hb d_Reader_takes_4 c_1 (by decide) (by decide) rfl (by decide) ?_
    refine lv_aload_n hx hb d_Reader_takes_76 rfl (lv_at hl 0 rfl) ?_
    refine lv_aload_n hx hb d_Reader_takes_77 rfl (lv_at hl 1 rfl) ?_
    refine lv_aload_n hx hb d_Reader_takes_78 rfl (lv_at hl 2 rfl) ?_
    obtain ⟨t_2, hg_2, hf⟩ := o_bind hf
    refine x_virt (w' := [(h_this, .inr (1, [.int t_2.2.1, .int v_isNegative])), (h_p1, .inr (5, [.ref h_p1_signs, .int v_p1_size, .int v_p1_at, .int v_p1_kind, .int v_p1_amount, .long v_p1_letters])), (h_p2, .inr (3, [.ref h_p2_names, .ref h_p2_spans, .ref h_p2_costs, .ref h_p2_sizes, .ref h_p2_kinds, .ref h_p2_firsts, .ref h_p2_seconds, .ref h_p2_numbers, .int v_p2_count])), (h_p2_names, .inl (cL, 6, .inr (.inl t_2.2.2.1))), (h_p2_spans, .inl (cI, 6, .inl v_p2_spans)), (h_p2_costs, .inl (cI, 6, .inl v_p2_costs)), (h_p2_sizes, .inl (cI, 6, .inl t_2.2.2.2)), (h_p2_kinds, .inl (cI, 36, .inl v_p2_kinds)), (h_p2_firsts, .inl (cI, 36, .inl v_p2_firsts)), (h_p2_seconds, .inl (cI, 36, .inl v_p2_seconds)), (h_p2_numbers, .inl (cI, 36, .inl v_p2_numbers))]) (As := [.ref h_p1, .ref h_p2]) (rest := []) hx hb hml hl.1 hown hT hK hN hP hD hS hA (c_Reader_takesName l dC dI cI cL cC h_this h_p1 h_p2 h_p1_signs h_p2_names h_p2_spans h_p2_costs h_p2_sizes h_p2_kinds h_p2_firsts h_p2_seconds h_p2_numbers H.size fu v_due v_isNegative v_p1_size v_p1_at v_p1_kind v_p1_amount v_p1_letters v_p2_count v_p2_names v_p2_sizes t_2 hg_2) kM_Reader_35 kI_Reader_takesName kS_168 kN_Reader kC_Reader_takesName hd_Reader_takesName rfl 0 rfl rfl rfl ⟨Nat.le_of_ble_eq_true rfl, Nat.le_of_ble_eq_true rfl⟩ rfl rfl ⟨Nat.zero_le _, Nat.zero_le _⟩ rfl (Nat.le_of_ble_eq_true rfl) d_Reader_takes_79 [0, 1, 2, 3, 6] rfl rfl [.inr 0, .inr 1, .inr 2, .inr 3, .inl 4, .inl 5, .inr 4, .inl 7, .inl 8, .inl 9, .inl 10] rfl rfl rfl (fun H locs hP hD hS => ?_)
    obtain ⟨hz_3, hf⟩ := o_zb hf
    rw [hQ, ← Option.some.inj hf]
    exact W.zret (ty := .boolean) hx hb hr hz_3 (fun t9 ht9 hW9 => ⟨rfl, by rw [ht9]; exact hP, hS.F ht9⟩) hS.2.2 d_Reader_takes_82
  replace hf := o_neg c_1 hf
  rcases Decidable.em (v_due = (1 : Int32)) with c_4 | c_4
  · replace hf := o_pos c_4 hf
    refine x_tabIn (tgt := 83) hx hb d_Reader_takes_4 c_4 (by decide) (by decide) rfl (by decide) ?_
    refine lv_aload_n hx hb d_Reader_takes_83 rfl (lv_at hl 1 rfl) ?_
    refine va_get (D := (dC, dI)) (ci := 5) (v := .int v_p1_kind) (C := R_Text) (T := T_Text) (N := 6) hx hb hT i_Text hown hK hP 1 rfl rfl 3 (by decide) (hT _ kF_Reader_25) (fun _ h9 => h9) rfl d_Reader_takes_84 ?_
    refine lv_iconst (v := 5) hx hb d_Reader_takes_87 (by decide) ?_
    refine lv_icmp_ne (tgt := 103) hx hb d_Reader_takes_88 (by decide) (fun c_5 => ?_) (fun c_5 => ?_)
    · replace hf := o_neg c_5 hf
      refine lv_iconst (v := 0) hx hb d_Reader_takes_103 (by decide) ?_
      rw [hQ, ← Option.some.inj hf]
      exact W.zret (ty := .boolean) hx hb hr rfl (fun t9 ht9 hW9 => ⟨rfl, by rw [ht9]; exact hP, hS.F ht9⟩) hS.2.2 d_Reader_takes_104
    · replace hf := o_pos c_5 hf
      refine lv_aload_n hx hb d_Reader_takes_91 rfl (lv_at hl 0 rfl) ?_
      refine lv_iconst (v := 2) hx hb d_Reader_takes_92 (by decide) ?_
      obtain ⟨t_6, hg_6, hf⟩ := o_bind hf
      refine x_virt (w' := [(h_this, .inr (1, [.int t_6.2, .int v_isNegative])), (h_p1, .inr (5, [.ref h_p1_signs, .int v_p1_size, .int v_p1_at, .int v_p1_kind, .int v_p1_amount, .long v_p1_letters])), (h_p2, .inr (3, [.ref h_p2_names, .ref h_p2_spans, .ref h_p2_costs, .ref h_p2_sizes, .ref h_p2_kinds, .ref h_p2_firsts, .ref h_p2_seconds, .ref h_p2_numbers, .int v_p2_count])), (h_p2_names, .inl (cL, 6, .inr (.inl v_p2_names))), (h_p2_spans, .inl (cI, 6, .inl v_p2_spans)), (h_p2_costs, .inl (cI, 6, .inl v_p2_costs)), (h_p2_sizes, .inl (cI, 6, .inl v_p2_sizes)), (h_p2_kinds, .inl (cI, 36, .inl v_p2_kinds)), (h_p2_firsts, .inl (cI, 36, .inl v_p2_firsts)), (h_p2_seconds, .inl (cI, 36, .inl v_p2_seconds)), (h_p2_numbers, .inl (cI, 36, .inl v_p2_numbers))]) (As := [.int 2]) (rest := []) hx hb hml hl.1 hown hT hK hN hP hD hS hA (c_Reader_makeDue l dC dI cI cL cC h_this H.size v_due v_isNegative 2 t_6 hg_6) kM_Reader_38 kI_Reader_makeDue kS_134 kN_Reader kC_Reader_makeDue hd_Reader_makeDue rfl 0 rfl rfl rfl ⟨Nat.le_of_ble_eq_true rfl, Nat.le_of_ble_eq_true rfl⟩ rfl rfl ⟨Nat.zero_le _, Nat.zero_le _⟩ rfl (Nat.le_of_ble_eq_true rfl) d_Reader_takes_93 [0] rfl rfl [.inr 0, .inl 1, .inl 2, .inl 3, .inl 4, .inl 5, .inl 6, .inl 7, .inl 8, .inl 9, .inl 10] rfl rfl rfl (fun H locs hP hD hS => ?_)
      refine lv_if_eq (tgt := 103) hx hb d_Reader_takes_96 (by decide) (fun c_7 => ?_) (fun c_7 => ?_)
      · replace hf := o_pos c_7 hf
        refine lv_iconst (v := 0) hx hb d_Reader_takes_103 (by decide) ?_
        rw [hQ, ← Option.some.inj hf]
        exact W.zret (ty := .boolean) hx hb hr rfl (fun t9 ht9 hW9 => ⟨rfl, by rw [ht9]; exact hP, hS.F ht9⟩) hS.2.2 d_Reader_takes_104
      · replace hf := o_neg c_7 hf
        refine lv_iconst (v := 1) hx hb d_Reader_takes_99 (by decide) ?_
        refine lv_goto (tgt := 104) hx hb d_Reader_takes_100 (by decide) ?_
        rw [hQ, ← Option.some.inj hf]
        exact W.zret (ty := .boolean) hx hb hr rfl (fun t9 ht9 hW9 => ⟨rfl, by rw [ht9]; exact hP, hS.F ht9⟩) hS.2.2 d_Reader_takes_104
  replace hf := o_neg c_4 hf
  rcases Decidable.em (v_due = (2 : Int32)) with c_8 | c_8
  · replace hf := o_pos c_8 hf
    refine x_tabIn (tgt := 105) hx hb d_Reader_takes_4 c_8 (by decide) (by decide) rfl (by decide) ?_
    refine lv_aload_n hx hb d_Reader_takes_105 rfl (lv_at hl 0 rfl) ?_
    refine lv_aload_n hx hb d_Reader_takes_106 rfl (lv_at hl 1 rfl) ?_
    refine lv_aload_n hx hb d_Reader_takes_107 rfl (lv_at hl 2 rfl) ?_
    obtain ⟨t_9, hg_9, hf⟩ := o_bind hf
    refine x_virt (w' := [(h_this, .inr (1, [.int t_9.2.1, .int t_9.2.2.1])), (h_p1, .inr (5, [.ref h_p1_signs, .int v_p1_size, .int v_p1_at, .int v_p1_kind, .int v_p1_amount, .long v_p1_letters])), (h_p2, .inr (3, [.ref h_p2_names, .ref h_p2_spans, .ref h_p2_costs, .ref h_p2_sizes, .ref h_p2_kinds, .ref h_p2_firsts, .ref h_p2_seconds, .ref h_p2_numbers, .int v_p2_count])), (h_p2_names, .inl (cL, 6, .inr (.inl v_p2_names))), (h_p2_spans, .inl (cI, 6, .inl v_p2_spans)), (h_p2_costs, .inl (cI, 6, .inl v_p2_costs)), (h_p2_sizes, .inl (cI, 6, .inl v_p2_sizes)), (h_p2_kinds, .inl (cI, 36, .inl t_9.2.2.2.1)), (h_p2_firsts, .inl (cI, 36, .inl t_9.2.2.2.2.1)), (h_p2_seconds, .inl (cI, 36, .inl t_9.2.2.2.2.2)), (h_p2_numbers, .inl (cI, 36, .inl v_p2_numbers))]) (As := [.ref h_p1, .ref h_p2]) (rest := []) hx hb hml hl.1 hown hT hK hN hP hD hS hA (c_Reader_takesTest l dC dI cI cL cC h_this h_p1 h_p2 h_p1_signs h_p2_names h_p2_spans h_p2_costs h_p2_sizes h_p2_kinds h_p2_firsts h_p2_seconds h_p2_numbers H.size v_due v_isNegative v_p1_size v_p1_at v_p1_kind v_p1_amount v_p1_letters v_p2_count v_p2_sizes v_p2_kinds v_p2_firsts v_p2_seconds t_9 hg_9) kM_Reader_42 kI_Reader_takesTest kS_171 kN_Reader kC_Reader_takesTest hd_Reader_takesTest rfl 0 rfl rfl rfl ⟨Nat.le_of_ble_eq_true rfl, Nat.le_of_ble_eq_true rfl⟩ rfl rfl ⟨Nat.zero_le _, Nat.zero_le _⟩ rfl (Nat.le_of_ble_eq_true rfl) d_Reader_takes_108 [0, 1, 2, 6, 7, 8, 9] rfl rfl [.inr 0, .inr 1, .inr 2, .inl 3, .inl 4, .inl 5, .inr 3, .inr 4, .inr 5, .inr 6, .inl 10] rfl rfl rfl (fun H locs hP hD hS => ?_)
    obtain ⟨hz_10, hf⟩ := o_zb hf
    rw [hQ, ← Option.some.inj hf]
    exact W.zret (ty := .boolean) hx hb hr hz_10 (fun t9 ht9 hW9 => ⟨rfl, by rw [ht9]; exact hP, hS.F ht9⟩) hS.2.2 d_Reader_takes_111
  replace hf := o_neg c_8 hf
  rcases Decidable.em (v_due = (3 : Int32)) with c_11 | c_11
  · replace hf := o_pos c_11 hf
    refine x_tabIn (tgt := 112) hx hb d_Reader_takes_4 c_11 (by decide) (by decide) rfl (by decide) ?_
    refine lv_aload_n hx hb d_Reader_takes_112 rfl (lv_at hl 1 rfl) ?_
    refine va_get (D := (dC, dI)) (ci := 5) (v := .int v_p1_kind) (C := R_Text) (T := T_Text) (N := 6) hx hb hT i_Text hown hK hP 1 rfl rfl 3 (by decide) (hT _ kF_Reader_25) (fun _ h9 => h9) rfl d_Reader_takes_113 ?_
    refine lv_bipush (v := 8) hx hb d_Reader_takes_116 (by decide) ?_
    refine lv_icmp_ne (tgt := 129) hx hb d_Reader_takes_118 (by decide) (fun c_12 => ?_) (fun c_12 => ?_)
    · replace hf := o_neg c_12 hf
      refine lv_aload_n hx hb d_Reader_takes_129 rfl (lv_at hl 0 rfl) ?_
      refine lv_aload_n hx hb d_Reader_takes_130 rfl (lv_at hl 1 rfl) ?_
      refine lv_aload_n hx hb d_Reader_takes_131 rfl (lv_at hl 2 rfl) ?_
      obtain ⟨t_13, hg_13, hf⟩ := o_bind hf
      refine x_virt (w' := [(h_this, .inr (1, [.int t_13.2.1, .int v_isNegative])), (h_p1, .inr (5, [.ref h_p1_signs, .int v_p1_size, .int v_p1_at, .int v_p1_kind, .int v_p1_amount, .long v_p1_letters])), (h_p2, .inr (3, [.ref h_p2_names, .ref h_p2_spans, .ref h_p2_costs, .ref h_p2_sizes, .ref h_p2_kinds, .ref h_p2_firsts, .ref h_p2_seconds, .ref h_p2_numbers, .int v_p2_count])), (h_p2_names, .inl (cL, 6, .inr (.inl v_p2_names))), (h_p2_spans, .inl (cI, 6, .inl v_p2_spans)), (h_p2_costs, .inl (cI, 6, .inl v_p2_costs)), (h_p2_sizes, .inl (cI, 6, .inl v_p2_sizes)), (h_p2_kinds, .inl (cI, 36, .inl t_13.2.2)), (h_p2_firsts, .inl (cI, 36, .inl v_p2_firsts)), (h_p2_seconds, .inl (cI, 36, .inl v_p2_seconds)), (h_p2_numbers, .inl (cI, 36, .inl v_p2_numbers))]) (As := [.ref h_p1, .ref h_p2]) (rest := []) hx hb hml hl.1 hown hT hK hN hP hD hS hA (c_Reader_takesRelation l dC dI cI cL cC h_this h_p1 h_p2 h_p1_signs h_p2_names h_p2_spans h_p2_costs h_p2_sizes h_p2_kinds h_p2_firsts h_p2_seconds h_p2_numbers H.size v_due v_isNegative v_p1_size v_p1_at v_p1_kind v_p1_amount v_p1_letters v_p2_count v_p2_sizes v_p2_kinds t_13 hg_13) kM_Reader_45 kI_Reader_takesRelation kS_174 kN_Reader kC_Reader_takesRelation hd_Reader_takesRelation rfl 0 rfl rfl rfl ⟨Nat.le_of_ble_eq_true rfl, Nat.le_of_ble_eq_true rfl⟩ rfl rfl ⟨Nat.zero_le _, Nat.zero_le _⟩ rfl (Nat.le_of_ble_eq_true rfl) d_Reader_takes_132 [0, 1, 2, 6, 7] rfl rfl [.inr 0, .inr 1, .inr 2, .inl 3, .inl 4, .inl 5, .inr 3, .inr 4, .inl 8, .inl 9, .inl 10] rfl rfl rfl (fun H locs hP hD hS => ?_)
      obtain ⟨hz_14, hf⟩ := o_zb hf
      rw [hQ, ← Option.some.inj hf]
      exact W.zret (ty := .boolean) hx hb hr hz_14 (fun t9 ht9 hW9 => ⟨rfl, by rw [ht9]; exact hP, hS.F ht9⟩) hS.2.2 d_Reader_takes_135
    · replace hf := o_pos c_12 hf
      refine lv_aload_n hx hb d_Reader_takes_121 rfl (lv_at hl 0 rfl) ?_
      refine lv_iconst (v := 4) hx hb d_Reader_takes_122 (by decide) ?_
      obtain ⟨t_15, hg_15, hf⟩ := o_bind hf
      refine x_virt (w' := [(h_this, .inr (1, [.int t_15.2, .int v_isNegative])), (h_p1, .inr (5, [.ref h_p1_signs, .int v_p1_size, .int v_p1_at, .int v_p1_kind, .int v_p1_amount, .long v_p1_letters])), (h_p2, .inr (3, [.ref h_p2_names, .ref h_p2_spans, .ref h_p2_costs, .ref h_p2_sizes, .ref h_p2_kinds, .ref h_p2_firsts, .ref h_p2_seconds, .ref h_p2_numbers, .int v_p2_count])), (h_p2_names, .inl (cL, 6, .inr (.inl v_p2_names))), (h_p2_spans, .inl (cI, 6, .inl v_p2_spans)), (h_p2_costs, .inl (cI, 6, .inl v_p2_costs)), (h_p2_sizes, .inl (cI, 6, .inl v_p2_sizes)), (h_p2_kinds, .inl (cI, 36, .inl v_p2_kinds)), (h_p2_firsts, .inl (cI, 36, .inl v_p2_firsts)), (h_p2_seconds, .inl (cI, 36, .inl v_p2_seconds)), (h_p2_numbers, .inl (cI, 36, .inl v_p2_numbers))]) (As := [.int 4]) (rest := []) hx hb hml hl.1 hown hT hK hN hP hD hS hA (c_Reader_makeDue l dC dI cI cL cC h_this H.size v_due v_isNegative 4 t_15 hg_15) kM_Reader_38 kI_Reader_makeDue kS_134 kN_Reader kC_Reader_makeDue hd_Reader_makeDue rfl 0 rfl rfl rfl ⟨Nat.le_of_ble_eq_true rfl, Nat.le_of_ble_eq_true rfl⟩ rfl rfl ⟨Nat.zero_le _, Nat.zero_le _⟩ rfl (Nat.le_of_ble_eq_true rfl) d_Reader_takes_123 [0] rfl rfl [.inr 0, .inl 1, .inl 2, .inl 3, .inl 4, .inl 5, .inl 6, .inl 7, .inl 8, .inl 9, .inl 10] rfl rfl rfl (fun H locs hP hD hS => ?_)
      refine lv_goto (tgt := 135) hx hb d_Reader_takes_126 (by decide) ?_
      obtain ⟨hz_16, hf⟩ := o_zb hf
      rw [hQ, ← Option.some.inj hf]
      exact W.zret (ty := .boolean) hx hb hr hz_16 (fun t9 ht9 hW9 => ⟨rfl, by rw [ht9]; exact hP, hS.F ht9⟩) hS.2.2 d_Reader_takes_135
  replace hf := o_neg c_11 hf
  rcases Decidable.em (v_due = (4 : Int32)) with c_17 | c_17
  · replace hf := o_pos c_17 hf
    refine x_tabIn (tgt := 136) hx hb d_Reader_takes_4 c_17 (by decide) (by decide) rfl (by decide) ?_
    refine lv_aload_n hx hb d_Reader_takes_136 rfl (lv_at hl 0 rfl) ?_
    refine lv_aload_n hx hb d_Reader_takes_137 rfl (lv_at hl 1 rfl) ?_
    refine lv_aload_n hx hb d_Reader_takes_138 rfl (lv_at hl 2 rfl) ?_
    obtain ⟨t_18, hg_18, hf⟩ := o_bind hf
    refine x_virt (w' := [(h_this, .inr (1, [.int t_18.2.1, .int v_isNegative])), (h_p1, .inr (5, [.ref h_p1_signs, .int v_p1_size, .int v_p1_at, .int v_p1_kind, .int v_p1_amount, .long v_p1_letters])), (h_p2, .inr (3, [.ref h_p2_names, .ref h_p2_spans, .ref h_p2_costs, .ref h_p2_sizes, .ref h_p2_kinds, .ref h_p2_firsts, .ref h_p2_seconds, .ref h_p2_numbers, .int v_p2_count])), (h_p2_names, .inl (cL, 6, .inr (.inl v_p2_names))), (h_p2_spans, .inl (cI, 6, .inl v_p2_spans)), (h_p2_costs, .inl (cI, 6, .inl v_p2_costs)), (h_p2_sizes, .inl (cI, 6, .inl v_p2_sizes)), (h_p2_kinds, .inl (cI, 36, .inl v_p2_kinds)), (h_p2_firsts, .inl (cI, 36, .inl v_p2_firsts)), (h_p2_seconds, .inl (cI, 36, .inl t_18.2.2)), (h_p2_numbers, .inl (cI, 36, .inl v_p2_numbers))]) (As := [.ref h_p1, .ref h_p2]) (rest := []) hx hb hml hl.1 hown hT hK hN hP hD hS hA (c_Reader_takesSecondPoint l dC dI cI cL cC h_this h_p1 h_p2 h_p1_signs h_p2_names h_p2_spans h_p2_costs h_p2_sizes h_p2_kinds h_p2_firsts h_p2_seconds h_p2_numbers H.size v_due v_isNegative v_p1_size v_p1_at v_p1_kind v_p1_amount v_p1_letters v_p2_count v_p2_sizes v_p2_seconds t_18 hg_18) kM_Reader_48 kI_Reader_takesSecondPoint kS_177 kN_Reader kC_Reader_takesSecondPoint hd_Reader_takesSecondPoint rfl 0 rfl rfl rfl ⟨Nat.le_of_ble_eq_true rfl, Nat.le_of_ble_eq_true rfl⟩ rfl rfl ⟨Nat.zero_le _, Nat.zero_le _⟩ rfl (Nat.le_of_ble_eq_true rfl) d_Reader_takes_139 [0, 1, 2, 6, 9] rfl rfl [.inr 0, .inr 1, .inr 2, .inl 3, .inl 4, .inl 5, .inr 3, .inl 7, .inl 8, .inr 4, .inl 10] rfl rfl rfl (fun H locs hP hD hS => ?_)
    obtain ⟨hz_19, hf⟩ := o_zb hf
    rw [hQ, ← Option.some.inj hf]
    exact W.zret (ty := .boolean) hx hb hr hz_19 (fun t9 ht9 hW9 => ⟨rfl, by rw [ht9]; exact hP, hS.F ht9⟩) hS.2.2 d_Reader_takes_142
  replace hf := o_neg c_17 hf
  rcases Decidable.em (v_due = (5 : Int32)) with c_20 | c_20
  · replace hf := o_pos c_20 hf
    refine x_tabIn (tgt := 143) hx hb d_Reader_takes_4 c_20 (by decide) (by decide) rfl (by decide) ?_
    refine lv_aload_n hx hb d_Reader_takes_143 rfl (lv_at hl 0 rfl) ?_
    refine lv_aload_n hx hb d_Reader_takes_144 rfl (lv_at hl 1 rfl) ?_
    refine lv_aload_n hx hb d_Reader_takes_145 rfl (lv_at hl 2 rfl) ?_
    obtain ⟨t_21, hg_21, hf⟩ := o_bind hf
    refine x_virt (w' := [(h_this, .inr (1, [.int t_21.2.1, .int v_isNegative])), (h_p1, .inr (5, [.ref h_p1_signs, .int v_p1_size, .int v_p1_at, .int v_p1_kind, .int v_p1_amount, .long v_p1_letters])), (h_p2, .inr (3, [.ref h_p2_names, .ref h_p2_spans, .ref h_p2_costs, .ref h_p2_sizes, .ref h_p2_kinds, .ref h_p2_firsts, .ref h_p2_seconds, .ref h_p2_numbers, .int v_p2_count])), (h_p2_names, .inl (cL, 6, .inr (.inl v_p2_names))), (h_p2_spans, .inl (cI, 6, .inl v_p2_spans)), (h_p2_costs, .inl (cI, 6, .inl v_p2_costs)), (h_p2_sizes, .inl (cI, 6, .inl v_p2_sizes)), (h_p2_kinds, .inl (cI, 36, .inl t_21.2.2)), (h_p2_firsts, .inl (cI, 36, .inl v_p2_firsts)), (h_p2_seconds, .inl (cI, 36, .inl v_p2_seconds)), (h_p2_numbers, .inl (cI, 36, .inl v_p2_numbers))]) (As := [.ref h_p1, .ref h_p2]) (rest := []) hx hb hml hl.1 hown hT hK hN hP hD hS hA (c_Reader_takesRelation l dC dI cI cL cC h_this h_p1 h_p2 h_p1_signs h_p2_names h_p2_spans h_p2_costs h_p2_sizes h_p2_kinds h_p2_firsts h_p2_seconds h_p2_numbers H.size v_due v_isNegative v_p1_size v_p1_at v_p1_kind v_p1_amount v_p1_letters v_p2_count v_p2_sizes v_p2_kinds t_21 hg_21) kM_Reader_45 kI_Reader_takesRelation kS_174 kN_Reader kC_Reader_takesRelation hd_Reader_takesRelation rfl 0 rfl rfl rfl ⟨Nat.le_of_ble_eq_true rfl, Nat.le_of_ble_eq_true rfl⟩ rfl rfl ⟨Nat.zero_le _, Nat.zero_le _⟩ rfl (Nat.le_of_ble_eq_true rfl) d_Reader_takes_146 [0, 1, 2, 6, 7] rfl rfl [.inr 0, .inr 1, .inr 2, .inl 3, .inl 4, .inl 5, .inr 3, .inr 4, .inl 8, .inl 9, .inl 10] rfl rfl rfl (fun H locs hP hD hS => ?_)
    obtain ⟨hz_22, hf⟩ := o_zb hf
    rw [hQ, ← Option.some.inj hf]
    exact W.zret (ty := .boolean) hx hb hr hz_22 (fun t9 ht9 hW9 => ⟨rfl, by rw [ht9]; exact hP, hS.F ht9⟩) hS.2.2 d_Reader_takes_149
  replace hf := o_neg c_20 hf
  rcases Decidable.em (v_due = (6 : Int32)) with c_23 | c_23
  · replace hf := o_pos c_23 hf
    refine x_tabIn (tgt := 150) hx hb d_Reader_takes_4 c_23 (by decide) (by decide) rfl (by decide) ?_
    refine lv_aload_n hx hb d_Reader_takes_150 rfl (lv_at hl 1 rfl) ?_
    refine va_get (D := (dC, dI)) (ci := 5) (v := .int v_p1_kind) (C := R_Text) (T := T_Text) (N := 6) hx hb hT i_Text hown hK hP 1 rfl rfl 3 (by decide) (hT _ kF_Reader_25) (fun _ h9 => h9) rfl d_Reader_takes_151 ?_
    refine lv_bipush (v := 8) hx hb d_Reader_takes_154 (by decide) ?_
    refine lv_icmp_ne (tgt := 166) hx hb d_Reader_takes_156 (by decide) (fun c_24 => ?_) (fun c_24 => ?_)
    · replace hf := o_neg c_24 hf
      refine lv_aload_n hx hb d_Reader_takes_166 rfl (lv_at hl 0 rfl) ?_
      refine lv_aload_n hx hb d_Reader_takes_167 rfl (lv_at hl 1 rfl) ?_
      refine lv_aload_n hx hb d_Reader_takes_168 rfl (lv_at hl 2 rfl) ?_
      obtain ⟨t_25, hg_25, hf⟩ := o_bind hf
      refine x_virt (w' := [(h_this, .inr (1, [.int t_25.2.1, .int v_isNegative])), (h_p1, .inr (5, [.ref h_p1_signs, .int v_p1_size, .int v_p1_at, .int v_p1_kind, .int v_p1_amount, .long v_p1_letters])), (h_p2, .inr (3, [.ref h_p2_names, .ref h_p2_spans, .ref h_p2_costs, .ref h_p2_sizes, .ref h_p2_kinds, .ref h_p2_firsts, .ref h_p2_seconds, .ref h_p2_numbers, .int v_p2_count])), (h_p2_names, .inl (cL, 6, .inr (.inl v_p2_names))), (h_p2_spans, .inl (cI, 6, .inl v_p2_spans)), (h_p2_costs, .inl (cI, 6, .inl v_p2_costs)), (h_p2_sizes, .inl (cI, 6, .inl t_25.2.2.1)), (h_p2_kinds, .inl (cI, 36, .inl v_p2_kinds)), (h_p2_firsts, .inl (cI, 36, .inl v_p2_firsts)), (h_p2_seconds, .inl (cI, 36, .inl v_p2_seconds)), (h_p2_numbers, .inl (cI, 36, .inl t_25.2.2.2))]) (As := [.ref h_p1, .ref h_p2]) (rest := []) hx hb hml hl.1 hown hT hK hN hP hD hS hA (c_Reader_takesNumber l dC dI cI cL cC h_this h_p1 h_p2 h_p1_signs h_p2_names h_p2_spans h_p2_costs h_p2_sizes h_p2_kinds h_p2_firsts h_p2_seconds h_p2_numbers H.size v_due v_isNegative v_p1_size v_p1_at v_p1_kind v_p1_amount v_p1_letters v_p2_count v_p2_sizes v_p2_numbers t_25 hg_25) kM_Reader_55 kI_Reader_takesNumber kS_180 kN_Reader kC_Reader_takesNumber hd_Reader_takesNumber rfl 0 rfl rfl rfl ⟨Nat.le_of_ble_eq_true rfl, Nat.le_of_ble_eq_true rfl⟩ rfl rfl ⟨Nat.zero_le _, Nat.zero_le _⟩ rfl (Nat.le_of_ble_eq_true rfl) d_Reader_takes_169 [0, 1, 2, 6, 10] rfl rfl [.inr 0, .inr 1, .inr 2, .inl 3, .inl 4, .inl 5, .inr 3, .inl 7, .inl 8, .inl 9, .inr 4] rfl rfl rfl (fun H locs hP hD hS => ?_)
      obtain ⟨hz_26, hf⟩ := o_zb hf
      rw [hQ, ← Option.some.inj hf]
      exact W.zret (ty := .boolean) hx hb hr hz_26 (fun t9 ht9 hW9 => ⟨rfl, by rw [ht9]; exact hP, hS.F ht9⟩) hS.2.2 d_Reader_takes_172
    · replace hf := o_pos c_24 hf
      refine lv_aload_n hx hb d_Reader_takes_159 rfl (lv_at hl 0 rfl) ?_
      obtain ⟨t_27, hg_27, hf⟩ := o_bind hf
      refine x_virt (w' := [(h_this, .inr (1, [.int t_27.2.1, .int t_27.2.2])), (h_p1, .inr (5, [.ref h_p1_signs, .int v_p1_size, .int v_p1_at, .int v_p1_kind, .int v_p1_amount, .long v_p1_letters])), (h_p2, .inr (3, [.ref h_p2_names, .ref h_p2_spans, .ref h_p2_costs, .ref h_p2_sizes, .ref h_p2_kinds, .ref h_p2_firsts, .ref h_p2_seconds, .ref h_p2_numbers, .int v_p2_count])), (h_p2_names, .inl (cL, 6, .inr (.inl v_p2_names))), (h_p2_spans, .inl (cI, 6, .inl v_p2_spans)), (h_p2_costs, .inl (cI, 6, .inl v_p2_costs)), (h_p2_sizes, .inl (cI, 6, .inl v_p2_sizes)), (h_p2_kinds, .inl (cI, 36, .inl v_p2_kinds)), (h_p2_firsts, .inl (cI, 36, .inl v_p2_firsts)), (h_p2_seconds, .inl (cI, 36, .inl v_p2_seconds)), (h_p2_numbers, .inl (cI, 36, .inl v_p2_numbers))]) (As := []) (rest := []) hx hb hml hl.1 hown hT hK hN hP hD hS hA (c_Reader_takesMinus l dC dI cI cL cC h_this H.size v_due v_isNegative t_27 hg_27) kM_Reader_51 kI_Reader_takesMinus kS_183 kN_Reader kC_Reader_takesMinus hd_Reader_takesMinus rfl 0 rfl rfl rfl ⟨Nat.le_of_ble_eq_true rfl, Nat.le_of_ble_eq_true rfl⟩ rfl rfl ⟨Nat.zero_le _, Nat.zero_le _⟩ rfl (Nat.le_of_ble_eq_true rfl) d_Reader_takes_160 [0] rfl rfl [.inr 0, .inl 1, .inl 2, .inl 3, .inl 4, .inl 5, .inl 6, .inl 7, .inl 8, .inl 9, .inl 10] rfl rfl rfl (fun H locs hP hD hS => ?_)
      refine lv_goto (tgt := 172) hx hb d_Reader_takes_163 (by decide) ?_
      obtain ⟨hz_28, hf⟩ := o_zb hf
      rw [hQ, ← Option.some.inj hf]
      exact W.zret (ty := .boolean) hx hb hr hz_28 (fun t9 ht9 hW9 => ⟨rfl, by rw [ht9]; exact hP, hS.F ht9⟩) hS.2.2 d_Reader_takes_172
  replace hf := o_neg c_23 hf
  rcases Decidable.em (v_due = (7 : Int32)) with c_29 | c_29
  · replace hf := o_pos c_29 hf
    refine x_tabIn (tgt := 173) hx hb d_Reader_takes_4 c_29 (by decide) (by decide) rfl (by decide) ?_
    refine lv_aload_n hx hb d_Reader_takes_173 rfl (lv_at hl 0 rfl) ?_
    refine lv_aload_n hx hb d_Reader_takes_174 rfl (lv_at hl 1 rfl) ?_
    refine lv_aload_n hx hb d_Reader_takes_175 rfl (lv_at hl 2 rfl) ?_
    obtain ⟨t_30, hg_30, hf⟩ := o_bind hf
    refine x_virt (w' := [(h_this, .inr (1, [.int t_30.2.1, .int v_isNegative])), (h_p1, .inr (5, [.ref h_p1_signs, .int v_p1_size, .int v_p1_at, .int v_p1_kind, .int v_p1_amount, .long v_p1_letters])), (h_p2, .inr (3, [.ref h_p2_names, .ref h_p2_spans, .ref h_p2_costs, .ref h_p2_sizes, .ref h_p2_kinds, .ref h_p2_firsts, .ref h_p2_seconds, .ref h_p2_numbers, .int v_p2_count])), (h_p2_names, .inl (cL, 6, .inr (.inl v_p2_names))), (h_p2_spans, .inl (cI, 6, .inl v_p2_spans)), (h_p2_costs, .inl (cI, 6, .inl v_p2_costs)), (h_p2_sizes, .inl (cI, 6, .inl t_30.2.2.1)), (h_p2_kinds, .inl (cI, 36, .inl v_p2_kinds)), (h_p2_firsts, .inl (cI, 36, .inl v_p2_firsts)), (h_p2_seconds, .inl (cI, 36, .inl v_p2_seconds)), (h_p2_numbers, .inl (cI, 36, .inl t_30.2.2.2))]) (As := [.ref h_p1, .ref h_p2]) (rest := []) hx hb hml hl.1 hown hT hK hN hP hD hS hA (c_Reader_takesNumber l dC dI cI cL cC h_this h_p1 h_p2 h_p1_signs h_p2_names h_p2_spans h_p2_costs h_p2_sizes h_p2_kinds h_p2_firsts h_p2_seconds h_p2_numbers H.size v_due v_isNegative v_p1_size v_p1_at v_p1_kind v_p1_amount v_p1_letters v_p2_count v_p2_sizes v_p2_numbers t_30 hg_30) kM_Reader_55 kI_Reader_takesNumber kS_180 kN_Reader kC_Reader_takesNumber hd_Reader_takesNumber rfl 0 rfl rfl rfl ⟨Nat.le_of_ble_eq_true rfl, Nat.le_of_ble_eq_true rfl⟩ rfl rfl ⟨Nat.zero_le _, Nat.zero_le _⟩ rfl (Nat.le_of_ble_eq_true rfl) d_Reader_takes_176 [0, 1, 2, 6, 10] rfl rfl [.inr 0, .inr 1, .inr 2, .inl 3, .inl 4, .inl 5, .inr 3, .inl 7, .inl 8, .inl 9, .inr 4] rfl rfl rfl (fun H locs hP hD hS => ?_)
    obtain ⟨hz_31, hf⟩ := o_zb hf
    rw [hQ, ← Option.some.inj hf]
    exact W.zret (ty := .boolean) hx hb hr hz_31 (fun t9 ht9 hW9 => ⟨rfl, by rw [ht9]; exact hP, hS.F ht9⟩) hS.2.2 d_Reader_takes_179
  replace hf := o_neg c_29 hf
  rcases Decidable.em (v_due = (8 : Int32)) with c_32 | c_32
  · replace hf := o_pos c_32 hf
    refine x_tabIn (tgt := 180) hx hb d_Reader_takes_4 c_32 (by decide) (by decide) rfl (by decide) ?_
    refine lv_aload_n hx hb d_Reader_takes_180 rfl (lv_at hl 0 rfl) ?_
    refine lv_aload_n hx hb d_Reader_takes_181 rfl (lv_at hl 1 rfl) ?_
    refine lv_aload_n hx hb d_Reader_takes_182 rfl (lv_at hl 2 rfl) ?_
    obtain ⟨t_33, hg_33, hf⟩ := o_bind hf
    refine x_virt (w' := [(h_this, .inr (1, [.int t_33.2.1, .int v_isNegative])), (h_p1, .inr (5, [.ref h_p1_signs, .int v_p1_size, .int v_p1_at, .int v_p1_kind, .int v_p1_amount, .long v_p1_letters])), (h_p2, .inr (3, [.ref h_p2_names, .ref h_p2_spans, .ref h_p2_costs, .ref h_p2_sizes, .ref h_p2_kinds, .ref h_p2_firsts, .ref h_p2_seconds, .ref h_p2_numbers, .int v_p2_count])), (h_p2_names, .inl (cL, 6, .inr (.inl v_p2_names))), (h_p2_spans, .inl (cI, 6, .inl v_p2_spans)), (h_p2_costs, .inl (cI, 6, .inl v_p2_costs)), (h_p2_sizes, .inl (cI, 6, .inl v_p2_sizes)), (h_p2_kinds, .inl (cI, 36, .inl v_p2_kinds)), (h_p2_firsts, .inl (cI, 36, .inl t_33.2.2)), (h_p2_seconds, .inl (cI, 36, .inl v_p2_seconds)), (h_p2_numbers, .inl (cI, 36, .inl v_p2_numbers))]) (As := [.ref h_p1, .ref h_p2]) (rest := []) hx hb hml hl.1 hown hT hK hN hP hD hS hA (c_Reader_takesWatchedPoint l dC dI cI cL cC h_this h_p1 h_p2 h_p1_signs h_p2_names h_p2_spans h_p2_costs h_p2_sizes h_p2_kinds h_p2_firsts h_p2_seconds h_p2_numbers H.size v_due v_isNegative v_p1_size v_p1_at v_p1_kind v_p1_amount v_p1_letters v_p2_count v_p2_sizes v_p2_firsts t_33 hg_33) kM_Reader_58 kI_Reader_takesWatchedPoint kS_186 kN_Reader kC_Reader_takesWatchedPoint hd_Reader_takesWatchedPoint rfl 0 rfl rfl rfl ⟨Nat.le_of_ble_eq_true rfl, Nat.le_of_ble_eq_true rfl⟩ rfl rfl ⟨Nat.zero_le _, Nat.zero_le _⟩ rfl (Nat.le_of_ble_eq_true rfl) d_Reader_takes_183 [0, 1, 2, 6, 8] rfl rfl [.inr 0, .inr 1, .inr 2, .inl 3, .inl 4, .inl 5, .inr 3, .inl 7, .inr 4, .inl 9, .inl 10] rfl rfl rfl (fun H locs hP hD hS => ?_)
    obtain ⟨hz_34, hf⟩ := o_zb hf
    rw [hQ, ← Option.some.inj hf]
    exact W.zret (ty := .boolean) hx hb hr hz_34 (fun t9 ht9 hW9 => ⟨rfl, by rw [ht9]; exact hP, hS.F ht9⟩) hS.2.2 d_Reader_takes_186
  replace hf := o_neg c_32 hf
  rcases Decidable.em (v_due = (9 : Int32)) with c_35 | c_35
  · replace hf := o_pos c_35 hf
    refine x_tabIn (tgt := 187) hx hb d_Reader_takes_4 c_35 (by decide) (by decide) rfl (by decide) ?_
    refine lv_aload_n hx hb d_Reader_takes_187 rfl (lv_at hl 0 rfl) ?_
    refine lv_aload_n hx hb d_Reader_takes_188 rfl (lv_at hl 1 rfl) ?_
    refine lv_aload_n hx hb d_Reader_takes_189 rfl (lv_at hl 2 rfl) ?_
    obtain ⟨t_36, hg_36, hf⟩ := o_bind hf
    refine x_virt (w' := [(h_this, .inr (1, [.int t_36.2, .int v_isNegative])), (h_p1, .inr (5, [.ref h_p1_signs, .int v_p1_size, .int v_p1_at, .int v_p1_kind, .int v_p1_amount, .long v_p1_letters])), (h_p2, .inr (3, [.ref h_p2_names, .ref h_p2_spans, .ref h_p2_costs, .ref h_p2_sizes, .ref h_p2_kinds, .ref h_p2_firsts, .ref h_p2_seconds, .ref h_p2_numbers, .int v_p2_count])), (h_p2_names, .inl (cL, 6, .inr (.inl v_p2_names))), (h_p2_spans, .inl (cI, 6, .inl v_p2_spans)), (h_p2_costs, .inl (cI, 6, .inl v_p2_costs)), (h_p2_sizes, .inl (cI, 6, .inl v_p2_sizes)), (h_p2_kinds, .inl (cI, 36, .inl v_p2_kinds)), (h_p2_firsts, .inl (cI, 36, .inl v_p2_firsts)), (h_p2_seconds, .inl (cI, 36, .inl v_p2_seconds)), (h_p2_numbers, .inl (cI, 36, .inl v_p2_numbers))]) (As := [.ref h_p1, .ref h_p2]) (rest := []) hx hb hml hl.1 hown hT hK hN hP hD hS hA (c_Reader_takesAndOrFor l dC dI cI cL cC h_this h_p1 h_p2 h_p1_signs h_p2_names h_p2_spans h_p2_costs h_p2_sizes h_p2_kinds h_p2_firsts h_p2_seconds h_p2_numbers H.size v_due v_isNegative v_p1_size v_p1_at v_p1_kind v_p1_amount v_p1_letters v_p2_count v_p2_sizes t_36 hg_36) kM_Reader_61 kI_Reader_takesAndOrFor kS_189 kN_Reader kC_Reader_takesAndOrFor hd_Reader_takesAndOrFor rfl 0 rfl rfl rfl ⟨Nat.le_of_ble_eq_true rfl, Nat.le_of_ble_eq_true rfl⟩ rfl rfl ⟨Nat.zero_le _, Nat.zero_le _⟩ rfl (Nat.le_of_ble_eq_true rfl) d_Reader_takes_190 [0, 1, 2, 6] rfl rfl [.inr 0, .inr 1, .inr 2, .inl 3, .inl 4, .inl 5, .inr 3, .inl 7, .inl 8, .inl 9, .inl 10] rfl rfl rfl (fun H locs hP hD hS => ?_)
    obtain ⟨hz_37, hf⟩ := o_zb hf
    rw [hQ, ← Option.some.inj hf]
    exact W.zret (ty := .boolean) hx hb hr hz_37 (fun t9 ht9 hW9 => ⟨rfl, by rw [ht9]; exact hP, hS.F ht9⟩) hS.2.2 d_Reader_takes_193
  replace hf := o_neg c_35 hf
  rcases Decidable.em (v_due = (10 : Int32)) with c_38 | c_38
  · replace hf := o_pos c_38 hf
    refine x_tabIn (tgt := 194) hx hb d_Reader_takes_4 c_38 (by decide) (by decide) rfl (by decide) ?_
    refine lv_aload_n hx hb d_Reader_takes_194 rfl (lv_at hl 0 rfl) ?_
    refine lv_aload_n hx hb d_Reader_takes_195 rfl (lv_at hl 1 rfl) ?_
    refine lv_aload_n hx hb d_Reader_takes_196 rfl (lv_at hl 2 rfl) ?_
    obtain ⟨t_39, hg_39, hf⟩ := o_bind hf
    refine x_virt (w' := [(h_this, .inr (1, [.int t_39.2.1, .int v_isNegative])), (h_p1, .inr (5, [.ref h_p1_signs, .int v_p1_size, .int v_p1_at, .int v_p1_kind, .int v_p1_amount, .long v_p1_letters])), (h_p2, .inr (3, [.ref h_p2_names, .ref h_p2_spans, .ref h_p2_costs, .ref h_p2_sizes, .ref h_p2_kinds, .ref h_p2_firsts, .ref h_p2_seconds, .ref h_p2_numbers, .int v_p2_count])), (h_p2_names, .inl (cL, 6, .inr (.inl v_p2_names))), (h_p2_spans, .inl (cI, 6, .inl t_39.2.2)), (h_p2_costs, .inl (cI, 6, .inl v_p2_costs)), (h_p2_sizes, .inl (cI, 6, .inl v_p2_sizes)), (h_p2_kinds, .inl (cI, 36, .inl v_p2_kinds)), (h_p2_firsts, .inl (cI, 36, .inl v_p2_firsts)), (h_p2_seconds, .inl (cI, 36, .inl v_p2_seconds)), (h_p2_numbers, .inl (cI, 36, .inl v_p2_numbers))]) (As := [.ref h_p1, .ref h_p2]) (rest := []) hx hb hml hl.1 hown hT hK hN hP hD hS hA (c_Reader_takesSpan l dC dI cI cL cC h_this h_p1 h_p2 h_p1_signs h_p2_names h_p2_spans h_p2_costs h_p2_sizes h_p2_kinds h_p2_firsts h_p2_seconds h_p2_numbers H.size v_due v_isNegative v_p1_size v_p1_at v_p1_kind v_p1_amount v_p1_letters v_p2_count v_p2_spans t_39 hg_39) kM_Reader_64 kI_Reader_takesSpan kS_192 kN_Reader kC_Reader_takesSpan hd_Reader_takesSpan rfl 0 rfl rfl rfl ⟨Nat.le_of_ble_eq_true rfl, Nat.le_of_ble_eq_true rfl⟩ rfl rfl ⟨Nat.zero_le _, Nat.zero_le _⟩ rfl (Nat.le_of_ble_eq_true rfl) d_Reader_takes_197 [0, 1, 2, 4] rfl rfl [.inr 0, .inr 1, .inr 2, .inl 3, .inr 3, .inl 5, .inl 6, .inl 7, .inl 8, .inl 9, .inl 10] rfl rfl rfl (fun H locs hP hD hS => ?_)
    obtain ⟨hz_40, hf⟩ := o_zb hf
    rw [hQ, ← Option.some.inj hf]
    exact W.zret (ty := .boolean) hx hb hr hz_40 (fun t9 ht9 hW9 => ⟨rfl, by rw [ht9]; exact hP, hS.F ht9⟩) hS.2.2 d_Reader_takes_200
  replace hf := o_neg c_38 hf
  rcases Decidable.em (v_due = (11 : Int32)) with c_41 | c_41
  · replace hf := o_pos c_41 hf
    refine x_tabIn (tgt := 201) hx hb d_Reader_takes_4 c_41 (by decide) (by decide) rfl (by decide) ?_
    refine lv_aload_n hx hb d_Reader_takes_201 rfl (lv_at hl 1 rfl) ?_
    refine va_get (D := (dC, dI)) (ci := 5) (v := .int v_p1_kind) (C := R_Text) (T := T_Text) (N := 6) hx hb hT i_Text hown hK hP 1 rfl rfl 3 (by decide) (hT _ kF_Reader_25) (fun _ h9 => h9) rfl d_Reader_takes_202 ?_
    refine lv_bipush (v := 10) hx hb d_Reader_takes_205 (by decide) ?_
    refine lv_icmp_ne (tgt := 223) hx hb d_Reader_takes_207 (by decide) (fun c_42 => ?_) (fun c_42 => ?_)
    · replace hf := o_neg c_42 hf
      refine lv_iconst (v := 0) hx hb d_Reader_takes_223 (by decide) ?_
      rw [hQ, ← Option.some.inj hf]
      exact W.zret (ty := .boolean) hx hb hr rfl (fun t9 ht9 hW9 => ⟨rfl, by rw [ht9]; exact hP, hS.F ht9⟩) hS.2.2 d_Reader_takes_224
    · replace hf := o_pos c_42 hf
      refine lv_aload_n hx hb d_Reader_takes_210 rfl (lv_at hl 0 rfl) ?_
      refine lv_bipush (v := 12) hx hb d_Reader_takes_211 (by decide) ?_
      obtain ⟨t_43, hg_43, hf⟩ := o_bind hf
      refine x_virt (w' := [(h_this, .inr (1, [.int t_43.2, .int v_isNegative])), (h_p1, .inr (5, [.ref h_p1_signs, .int v_p1_size, .int v_p1_at, .int v_p1_kind, .int v_p1_amount, .long v_p1_letters])), (h_p2, .inr (3, [.ref h_p2_names, .ref h_p2_spans, .ref h_p2_costs, .ref h_p2_sizes, .ref h_p2_kinds, .ref h_p2_firsts, .ref h_p2_seconds, .ref h_p2_numbers, .int v_p2_count])), (h_p2_names, .inl (cL, 6, .inr (.inl v_p2_names))), (h_p2_spans, .inl (cI, 6, .inl v_p2_spans)), (h_p2_costs, .inl (cI, 6, .inl v_p2_costs)), (h_p2_sizes, .inl (cI, 6, .inl v_p2_sizes)), (h_p2_kinds, .inl (cI, 36, .inl v_p2_kinds)), (h_p2_firsts, .inl (cI, 36, .inl v_p2_firsts)), (h_p2_seconds, .inl (cI, 36, .inl v_p2_seconds)), (h_p2_numbers, .inl (cI, 36, .inl v_p2_numbers))]) (As := [.int 12]) (rest := []) hx hb hml hl.1 hown hT hK hN hP hD hS hA (c_Reader_makeDue l dC dI cI cL cC h_this H.size v_due v_isNegative 12 t_43 hg_43) kM_Reader_38 kI_Reader_makeDue kS_134 kN_Reader kC_Reader_makeDue hd_Reader_makeDue rfl 0 rfl rfl rfl ⟨Nat.le_of_ble_eq_true rfl, Nat.le_of_ble_eq_true rfl⟩ rfl rfl ⟨Nat.zero_le _, Nat.zero_le _⟩ rfl (Nat.le_of_ble_eq_true rfl) d_Reader_takes_213 [0] rfl rfl [.inr 0, .inl 1, .inl 2, .inl 3, .inl 4, .inl 5, .inl 6, .inl 7, .inl 8, .inl 9, .inl 10] rfl rfl rfl (fun H locs hP hD hS => ?_)
      refine lv_if_eq (tgt := 223) hx hb d_Reader_takes_216 (by decide) (fun c_44 => ?_) (fun c_44 => ?_)
      · replace hf := o_pos c_44 hf
        refine lv_iconst (v := 0) hx hb d_Reader_takes_223 (by decide) ?_
        rw [hQ, ← Option.some.inj hf]
        exact W.zret (ty := .boolean) hx hb hr rfl (fun t9 ht9 hW9 => ⟨rfl, by rw [ht9]; exact hP, hS.F ht9⟩) hS.2.2 d_Reader_takes_224
      · replace hf := o_neg c_44 hf
        refine lv_iconst (v := 1) hx hb d_Reader_takes_219 (by decide) ?_
        refine lv_goto (tgt := 224) hx hb d_Reader_takes_220 (by decide) ?_
        rw [hQ, ← Option.some.inj hf]
        exact W.zret (ty := .boolean) hx hb hr rfl (fun t9 ht9 hW9 => ⟨rfl, by rw [ht9]; exact hP, hS.F ht9⟩) hS.2.2 d_Reader_takes_224
  replace hf := o_neg c_41 hf
  rcases Decidable.em (v_due = (12 : Int32)) with c_45 | c_45
  · replace hf := o_pos c_45 hf
    refine x_tabIn (tgt := 225) hx hb d_Reader_takes_4 c_45 (by decide) (by decide) rfl (by decide) ?_
    refine lv_aload_n hx hb d_Reader_takes_225 rfl (lv_at hl 0 rfl) ?_
    refine lv_aload_n hx hb d_Reader_takes_226 rfl (lv_at hl 1 rfl) ?_
    refine lv_aload_n hx hb d_Reader_takes_227 rfl (lv_at hl 2 rfl) ?_
    obtain ⟨t_46, hg_46, hf⟩ := o_bind hf
    refine x_virt (w' := [(h_this, .inr (1, [.int t_46.2.1, .int v_isNegative])), (h_p1, .inr (5, [.ref h_p1_signs, .int v_p1_size, .int v_p1_at, .int v_p1_kind, .int v_p1_amount, .long v_p1_letters])), (h_p2, .inr (3, [.ref h_p2_names, .ref h_p2_spans, .ref h_p2_costs, .ref h_p2_sizes, .ref h_p2_kinds, .ref h_p2_firsts, .ref h_p2_seconds, .ref h_p2_numbers, .int v_p2_count])), (h_p2_names, .inl (cL, 6, .inr (.inl v_p2_names))), (h_p2_spans, .inl (cI, 6, .inl v_p2_spans)), (h_p2_costs, .inl (cI, 6, .inl t_46.2.2)), (h_p2_sizes, .inl (cI, 6, .inl v_p2_sizes)), (h_p2_kinds, .inl (cI, 36, .inl v_p2_kinds)), (h_p2_firsts, .inl (cI, 36, .inl v_p2_firsts)), (h_p2_seconds, .inl (cI, 36, .inl v_p2_seconds)), (h_p2_numbers, .inl (cI, 36, .inl v_p2_numbers))]) (As := [.ref h_p1, .ref h_p2]) (rest := []) hx hb hml hl.1 hown hT hK hN hP hD hS hA (c_Reader_takesCost l dC dI cI cL cC h_this h_p1 h_p2 h_p1_signs h_p2_names h_p2_spans h_p2_costs h_p2_sizes h_p2_kinds h_p2_firsts h_p2_seconds h_p2_numbers H.size v_due v_isNegative v_p1_size v_p1_at v_p1_kind v_p1_amount v_p1_letters v_p2_count v_p2_costs t_46 hg_46) kM_Reader_67 kI_Reader_takesCost kS_195 kN_Reader kC_Reader_takesCost hd_Reader_takesCost rfl 0 rfl rfl rfl ⟨Nat.le_of_ble_eq_true rfl, Nat.le_of_ble_eq_true rfl⟩ rfl rfl ⟨Nat.zero_le _, Nat.zero_le _⟩ rfl (Nat.le_of_ble_eq_true rfl) d_Reader_takes_228 [0, 1, 2, 5] rfl rfl [.inr 0, .inr 1, .inr 2, .inl 3, .inl 4, .inr 3, .inl 6, .inl 7, .inl 8, .inl 9, .inl 10] rfl rfl rfl (fun H locs hP hD hS => ?_)
    obtain ⟨hz_47, hf⟩ := o_zb hf
    rw [hQ, ← Option.some.inj hf]
    exact W.zret (ty := .boolean) hx hb hr hz_47 (fun t9 ht9 hW9 => ⟨rfl, by rw [ht9]; exact hP, hS.F ht9⟩) hS.2.2 d_Reader_takes_231
  replace hf := o_neg c_45 hf
  rcases Decidable.em (v_due = (13 : Int32)) with c_48 | c_48
  · replace hf := o_pos c_48 hf
    refine x_tabIn (tgt := 232) hx hb d_Reader_takes_4 c_48 (by decide) (by decide) rfl (by decide) ?_
    refine lv_aload_n hx hb d_Reader_takes_232 rfl (lv_at hl 0 rfl) ?_
    refine lv_aload_n hx hb d_Reader_takes_233 rfl (lv_at hl 1 rfl) ?_
    refine lv_aload_n hx hb d_Reader_takes_234 rfl (lv_at hl 2 rfl) ?_
    obtain ⟨t_49, hg_49, hf⟩ := o_bind hf
    refine x_virt (w' := [(h_this, .inr (1, [.int t_49.2.1, .int v_isNegative])), (h_p1, .inr (5, [.ref h_p1_signs, .int v_p1_size, .int v_p1_at, .int v_p1_kind, .int v_p1_amount, .long v_p1_letters])), (h_p2, .inr (3, [.ref h_p2_names, .ref h_p2_spans, .ref h_p2_costs, .ref h_p2_sizes, .ref h_p2_kinds, .ref h_p2_firsts, .ref h_p2_seconds, .ref h_p2_numbers, .int t_49.2.2])), (h_p2_names, .inl (cL, 6, .inr (.inl v_p2_names))), (h_p2_spans, .inl (cI, 6, .inl v_p2_spans)), (h_p2_costs, .inl (cI, 6, .inl v_p2_costs)), (h_p2_sizes, .inl (cI, 6, .inl v_p2_sizes)), (h_p2_kinds, .inl (cI, 36, .inl v_p2_kinds)), (h_p2_firsts, .inl (cI, 36, .inl v_p2_firsts)), (h_p2_seconds, .inl (cI, 36, .inl v_p2_seconds)), (h_p2_numbers, .inl (cI, 36, .inl v_p2_numbers))]) (As := [.ref h_p1, .ref h_p2]) (rest := []) hx hb hml hl.1 hown hT hK hN hP hD hS hA (c_Reader_takesSemicolon l dC dI cI cL cC h_this h_p1 h_p2 h_p1_signs h_p2_names h_p2_spans h_p2_costs h_p2_sizes h_p2_kinds h_p2_firsts h_p2_seconds h_p2_numbers H.size v_due v_isNegative v_p1_size v_p1_at v_p1_kind v_p1_amount v_p1_letters v_p2_count t_49 hg_49) kM_Reader_70 kI_Reader_takesSemicolon kS_198 kN_Reader kC_Reader_takesSemicolon hd_Reader_takesSemicolon rfl 0 rfl rfl rfl ⟨Nat.le_of_ble_eq_true rfl, Nat.le_of_ble_eq_true rfl⟩ rfl rfl ⟨Nat.zero_le _, Nat.zero_le _⟩ rfl (Nat.le_of_ble_eq_true rfl) d_Reader_takes_235 [0, 1, 2] rfl rfl [.inr 0, .inr 1, .inr 2, .inl 3, .inl 4, .inl 5, .inl 6, .inl 7, .inl 8, .inl 9, .inl 10] rfl rfl rfl (fun H locs hP hD hS => ?_)
    obtain ⟨hz_50, hf⟩ := o_zb hf
    rw [hQ, ← Option.some.inj hf]
    exact W.zret (ty := .boolean) hx hb hr hz_50 (fun t9 ht9 hW9 => ⟨rfl, by rw [ht9]; exact hP, hS.F ht9⟩) hS.2.2 d_Reader_takes_238
  replace hf := o_neg c_48 hf
  refine lv_tableOut (tgt := 239) hx hb d_Reader_takes_4 (by have q_1 : ¬ (0 : Int) = (v_due : Int32).toInt := x_ne c_1; have q_4 : ¬ (1 : Int) = (v_due : Int32).toInt := x_ne c_4; have q_8 : ¬ (2 : Int) = (v_due : Int32).toInt := x_ne c_8; have q_11 : ¬ (3 : Int) = (v_due : Int32).toInt := x_ne c_11; have q_17 : ¬ (4 : Int) = (v_due : Int32).toInt := x_ne c_17; have q_20 : ¬ (5 : Int) = (v_due : Int32).toInt := x_ne c_20; have q_23 : ¬ (6 : Int) = (v_due : Int32).toInt := x_ne c_23; have q_29 : ¬ (7 : Int) = (v_due : Int32).toInt := x_ne c_29; have q_32 : ¬ (8 : Int) = (v_due : Int32).toInt := x_ne c_32; have q_35 : ¬ (9 : Int) = (v_due : Int32).toInt := x_ne c_35; have q_38 : ¬ (10 : Int) = (v_due : Int32).toInt := x_ne c_38; have q_41 : ¬ (11 : Int) = (v_due : Int32).toInt := x_ne c_41; have q_45 : ¬ (12 : Int) = (v_due : Int32).toInt := x_ne c_45; have q_48 : ¬ (13 : Int) = (v_due : Int32).toInt := x_ne c_48; omega) (by decide) ?_
  refine lv_iconst (v := 0) hx hb d_Reader_takes_239 (by decide) ?_
  rw [hQ, ← Option.some.inj hf]
  exact W.zret (ty := .boolean) hx hb hr rfl (fun t9 ht9 hW9 => ⟨rfl, by rw [ht9]; exact hP, hS.F ht9⟩) hS.2.2 d_Reader_takes_240
def rm_Reader_read : Room := { frames := 5, cells := 0, slots := 0, locals := 104 }
set_option maxHeartbeats 4000000 in
set_option maxRecDepth 100000 in
theorem c_Reader_read (l : Launch) (dC : Nat → ClassId) (dI : Nat → Nat → Nat) (cI cL cC : ClassId) (h_this h_p1 h_p2 h_p1_signs h_p2_names h_p2_spans h_p2_costs h_p2_sizes h_p2_kinds h_p2_firsts h_p2_seconds h_p2_numbers : Nat) (sz : Nat) (fu : Nat) (v_due : Int32) (v_isNegative : Int32) (v_p1_size : Int32) (v_p1_at : Int32) (v_p1_kind : Int32) (v_p1_amount : Int32) (v_p1_letters : Int64) (v_p1_signs : Nat → Int32) (v_p2_count : Int32) (v_p2_names : Nat → Int64) (v_p2_spans : Nat → Int32) (v_p2_costs : Nat → Int32) (v_p2_sizes : Nat → Int32) (v_p2_kinds : Nat → Int32) (v_p2_firsts : Nat → Int32) (v_p2_seconds : Nat → Int32) (v_p2_numbers : Nat → Int32) (t : Int32 × Int32 × Int32 × Int32 × Int32 × Int32 × Int64 × Int32 × (Nat → Int64) × (Nat → Int32) × (Nat → Int32) × (Nat → Int32) × (Nat → Int32) × (Nat → Int32) × (Nat → Int32) × (Nat → Int32)) (hf : f_Reader_read fu v_due v_isNegative v_p1_size v_p1_at v_p1_kind v_p1_amount v_p1_letters v_p1_signs v_p2_count v_p2_names v_p2_spans v_p2_costs v_p2_sizes v_p2_kinds v_p2_firsts v_p2_seconds v_p2_numbers = some t) : Met l y_Reader_read (Cond.code y_Reader_read prog_3_method_2_code 4 (some .int) :: xT) rm_Reader_read (va_Pc [.ref h_this, .ref h_p1, .ref h_p2] (xP (dC, dI) (xTy cI cL cC) [(h_this, .inr (1, [.int v_due, .int v_isNegative])), (h_p1, .inr (5, [.ref h_p1_signs, .int v_p1_size, .int v_p1_at, .int v_p1_kind, .int v_p1_amount, .long v_p1_letters])), (h_p1_signs, .inl (cC, 1000, .inl v_p1_signs)), (h_p2, .inr (3, [.ref h_p2_names, .ref h_p2_spans, .ref h_p2_costs, .ref h_p2_sizes, .ref h_p2_kinds, .ref h_p2_firsts, .ref h_p2_seconds, .ref h_p2_numbers, .int v_p2_count])), (h_p2_names, .inl (cL, 6, .inr (.inl v_p2_names))), (h_p2_spans, .inl (cI, 6, .inl v_p2_spans)), (h_p2_costs, .inl (cI, 6, .inl v_p2_costs)), (h_p2_sizes, .inl (cI, 6, .inl v_p2_sizes)), (h_p2_kinds, .inl (cI, 36, .inl v_p2_kinds)), (h_p2_firsts, .inl (cI, 36, .inl v_p2_firsts)), (h_p2_seconds, .inl (cI, 36, .inl v_p2_seconds)), (h_p2_numbers, .inl (cI, 36, .inl v_p2_numbers))] sz)) (xQ (dC, dI) [(h_this, .inr (1, [.int t.2.1, .int t.2.2.1])), (h_p1, .inr (5, [.ref h_p1_signs, .int v_p1_size, .int t.2.2.2.1, .int t.2.2.2.2.1, .int t.2.2.2.2.2.1, .long t.2.2.2.2.2.2.1])), (h_p1_signs, .inl (cC, 1000, .inl v_p1_signs)), (h_p2, .inr (3, [.ref h_p2_names, .ref h_p2_spans, .ref h_p2_costs, .ref h_p2_sizes, .ref h_p2_kinds, .ref h_p2_firsts, .ref h_p2_seconds, .ref h_p2_numbers, .int t.2.2.2.2.2.2.2.1])), (h_p2_names, .inl (cL, 6, .inr (.inl t.2.2.2.2.2.2.2.2.1))), (h_p2_spans, .inl (cI, 6, .inl t.2.2.2.2.2.2.2.2.2.1)), (h_p2_costs, .inl (cI, 6, .inl t.2.2.2.2.2.2.2.2.2.2.1)), (h_p2_sizes, .inl (cI, 6, .inl t.2.2.2.2.2.2.2.2.2.2.2.1)), (h_p2_kinds, .inl (cI, 36, .inl t.2.2.2.2.2.2.2.2.2.2.2.2.1)), (h_p2_firsts, .inl (cI, 36, .inl t.2.2.2.2.2.2.2.2.2.2.2.2.2.1)), (h_p2_seconds, .inl (cI, 36, .inl t.2.2.2.2.2.2.2.2.2.2.2.2.2.2.1)), (h_p2_numbers, .inl (cI, 36, .inl t.2.2.2.2.2.2.2.2.2.2.2.2.2.2.2))] (va_A [(h_this, .inr (1, [.int v_due, .int v_isNegative])), (h_p1, .inr (5, [.ref h_p1_signs, .int v_p1_size, .int v_p1_at, .int v_p1_kind, .int v_p1_amount, .long v_p1_letters])), (h_p1_signs, .inl (cC, 1000, .inl v_p1_signs)), (h_p2, .inr (3, [.ref h_p2_names, .ref h_p2_spans, .ref h_p2_costs, .ref h_p2_sizes, .ref h_p2_kinds, .ref h_p2_firsts, .ref h_p2_seconds, .ref h_p2_numbers, .int v_p2_count])), (h_p2_names, .inl (cL, 6, .inr (.inl v_p2_names))), (h_p2_spans, .inl (cI, 6, .inl v_p2_spans)), (h_p2_costs, .inl (cI, 6, .inl v_p2_costs)), (h_p2_sizes, .inl (cI, 6, .inl v_p2_sizes)), (h_p2_kinds, .inl (cI, 36, .inl v_p2_kinds)), (h_p2_firsts, .inl (cI, 36, .inl v_p2_firsts)), (h_p2_seconds, .inl (cI, 36, .inl v_p2_seconds)), (h_p2_numbers, .inl (cI, 36, .inl v_p2_numbers))] sz) (some (.int t.1))) 0 0 (va_A [(h_this, .inr (1, [.int v_due, .int v_isNegative])), (h_p1, .inr (5, [.ref h_p1_signs, .int v_p1_size, .int v_p1_at, .int v_p1_kind, .int v_p1_amount, .long v_p1_letters])), (h_p1_signs, .inl (cC, 1000, .inl v_p1_signs)), (h_p2, .inr (3, [.ref h_p2_names, .ref h_p2_spans, .ref h_p2_costs, .ref h_p2_sizes, .ref h_p2_kinds, .ref h_p2_firsts, .ref h_p2_seconds, .ref h_p2_numbers, .int v_p2_count])), (h_p2_names, .inl (cL, 6, .inr (.inl v_p2_names))), (h_p2_spans, .inl (cI, 6, .inl v_p2_spans)), (h_p2_costs, .inl (cI, 6, .inl v_p2_costs)), (h_p2_sizes, .inl (cI, 6, .inl v_p2_sizes)), (h_p2_kinds, .inl (cI, 36, .inl v_p2_kinds)), (h_p2_firsts, .inl (cI, 36, .inl v_p2_firsts)), (h_p2_seconds, .inl (cI, 36, .inl v_p2_seconds)), (h_p2_numbers, .inl (cI, 36, .inl v_p2_numbers))] sz) := by
  refine Met.ofW (cc := prog_3_method_2_code) (maxL := 4) (ret := (some .int)) (by decide) rfl ?_
  intro p e s m args below meth c s₁ B hml hv
  obtain ⟨hargs, hsz, hP, hK, hN, hD0⟩ := hv
  have hx := B.exec
  have hb := B.bytes
  have hr := B.returns
  have hT : ∀ w ∈ xT, w.before args s = true := fun w hw => atoms_spec (ws := Cond.code y_Reader_read prog_3_method_2_code 4 (some .int) :: xT) B.pre w (List.mem_cons_of_mem _ hw)
  have hown : s.vm.findClass R_Reader = some m.cls := findClass_of_methodNamed B.named
  have hlocks := B.notSynchronized
  subst hsz
  have hD := hD0.self (sz := s.heap.size)
  generalize hAe : va_A [(h_this, .inr (1, [.int v_due, .int v_isNegative])), (h_p1, .inr (5, [.ref h_p1_signs, .int v_p1_size, .int v_p1_at, .int v_p1_kind, .int v_p1_amount, .long v_p1_letters])), (h_p1_signs, .inl (cC, 1000, .inl v_p1_signs)), (h_p2, .inr (3, [.ref h_p2_names, .ref h_p2_spans, .ref h_p2_costs, .ref h_p2_sizes, .ref h_p2_kinds, .ref h_p2_firsts, .ref h_p2_seconds, .ref h_p2_numbers, .int v_p2_count])), (h_p2_names, .inl (cL, 6, .inr (.inl v_p2_names))), (h_p2_spans, .inl (cI, 6, .inl v_p2_spans)), (h_p2_costs, .inl (cI, 6, .inl v_p2_costs)), (h_p2_sizes, .inl (cI, 6, .inl v_p2_sizes)), (h_p2_kinds, .inl (cI, 36, .inl v_p2_kinds)), (h_p2_firsts, .inl (cI, 36, .inl v_p2_firsts)), (h_p2_seconds, .inl (cI, 36, .inl v_p2_seconds)), (h_p2_numbers, .inl (cI, 36, .inl v_p2_numbers))] s.heap.size = A at hD ⊢
  have hA : ∀ q : Nat, s.heap.size ≤ q → A q := fun q h => by rw [← hAe]; exact Or.inr h
  have hS : va_S A s.heap s.heap [] := va_S.rf
  have hP : va_P (dC, dI) vwCl [(h_this, .inr (1, [.int v_due, .int v_isNegative])), (h_p1, .inr (5, [.ref h_p1_signs, .int v_p1_size, .int v_p1_at, .int v_p1_kind, .int v_p1_amount, .long v_p1_letters])), (h_p1_signs, .inl (cC, 1000, .inl v_p1_signs)), (h_p2, .inr (3, [.ref h_p2_names, .ref h_p2_spans, .ref h_p2_costs, .ref h_p2_sizes, .ref h_p2_kinds, .ref h_p2_firsts, .ref h_p2_seconds, .ref h_p2_numbers, .int v_p2_count])), (h_p2_names, .inl (cL, 6, .inr (.inl v_p2_names))), (h_p2_spans, .inl (cI, 6, .inl v_p2_spans)), (h_p2_costs, .inl (cI, 6, .inl v_p2_costs)), (h_p2_sizes, .inl (cI, 6, .inl v_p2_sizes)), (h_p2_kinds, .inl (cI, 36, .inl v_p2_kinds)), (h_p2_firsts, .inl (cI, 36, .inl v_p2_firsts)), (h_p2_seconds, .inl (cI, 36, .inl v_p2_seconds)), (h_p2_numbers, .inl (cI, 36, .inl v_p2_numbers))] s.heap := hP
  have hl := lv_entry ([.ref h_this, .ref h_p1, .ref h_p2]) (n := 4) (Nat.le_of_ble_eq_true rfl)
  rw [show entryFrame m args 4 = entryFrame m ([.ref h_this, .ref h_p1, .ref h_p2] : List Value).toArray 4 from by rw [hargs], lg_entry_eq]
  generalize (lg_sl ([.ref h_this, .ref h_p1, .ref h_p2]) ++ List.replicate (4 - (lg_sl ([.ref h_this, .ref h_p1, .ref h_p2])).length) Slot.unset).toArray = ls at hl ⊢
  have hl : lv_has ls 4 [(0, .ref h_this), (1, .ref h_p1), (2, .ref h_p2)] := hl
  obtain ⟨Q, hQ⟩ : ∃ Q, Q = MQ below (xQ (dC, dI) [(h_this, .inr (1, [.int t.2.1, .int t.2.2.1])), (h_p1, .inr (5, [.ref h_p1_signs, .int v_p1_size, .int t.2.2.2.1, .int t.2.2.2.2.1, .int t.2.2.2.2.2.1, .long t.2.2.2.2.2.2.1])), (h_p1_signs, .inl (cC, 1000, .inl v_p1_signs)), (h_p2, .inr (3, [.ref h_p2_names, .ref h_p2_spans, .ref h_p2_costs, .ref h_p2_sizes, .ref h_p2_kinds, .ref h_p2_firsts, .ref h_p2_seconds, .ref h_p2_numbers, .int t.2.2.2.2.2.2.2.1])), (h_p2_names, .inl (cL, 6, .inr (.inl t.2.2.2.2.2.2.2.2.1))), (h_p2_spans, .inl (cI, 6, .inl t.2.2.2.2.2.2.2.2.2.1)), (h_p2_costs, .inl (cI, 6, .inl t.2.2.2.2.2.2.2.2.2.2.1)), (h_p2_sizes, .inl (cI, 6, .inl t.2.2.2.2.2.2.2.2.2.2.2.1)), (h_p2_kinds, .inl (cI, 36, .inl t.2.2.2.2.2.2.2.2.2.2.2.2.1)), (h_p2_firsts, .inl (cI, 36, .inl t.2.2.2.2.2.2.2.2.2.2.2.2.2.1)), (h_p2_seconds, .inl (cI, 36, .inl t.2.2.2.2.2.2.2.2.2.2.2.2.2.2.1)), (h_p2_numbers, .inl (cI, 36, .inl t.2.2.2.2.2.2.2.2.2.2.2.2.2.2.2))] A (some (.int t.1))) args s 0 0 A := ⟨_, rfl⟩
  rw [← hQ]
  show W p l e rm_Reader_read s m args below meth c s.heap [] 0 0 Q _
  obtain ⟨H, hH⟩ : ∃ H, H = s.heap := ⟨_, rfl⟩
  obtain ⟨locs, hlocs⟩ : ∃ L : List Loc, L = [] := ⟨_, rfl⟩
  rw [← hlocs] at hS ⊢
  have hS : va_S A s.heap H locs := by rw [hH]; exact hS
  rw [← hH] at hP ⊢
  replace hf := f_Reader_read_u hf
  refine lv_iconst (v := 0) hx hb d_Reader_read_0 (by decide) ?_
  refine lv_istore_n (lv' := [(3, .int 0), (0, .ref h_this), (1, .ref h_p1), (2, .ref h_p2)]) hx hb d_Reader_read_1 rfl hl (by decide) rfl (fun ls hl => ?_)
  refine lv_aload_n hx hb d_Reader_read_2 rfl (lv_at hl 1 rfl) ?_
  refine lv_iconst (v := 0) hx hb d_Reader_read_3 (by decide) ?_
  refine va_put (D := (dC, dI)) (ci := 1) (v := .int 0) (ty := .int) (C := R_Reader) (T := T_Reader) (N := 2) hx hb hT i_Reader ty_Reader ty_Reader_ok n_Reader hown hK hP hD hS 0 rfl rfl 0 (by decide) (hT _ kF_Reader_11) (fun _ h9 => h9) rfl (by decide +kernel) rfl rfl (Nat.le_of_ble_eq_true rfl) d_Reader_read_4 (fun H locs hP hD hS => ?_)
  have hP : va_P (dC, dI) vwCl [(h_this, .inr (1, [.int 0, .int v_isNegative])), (h_p1, .inr (5, [.ref h_p1_signs, .int v_p1_size, .int v_p1_at, .int v_p1_kind, .int v_p1_amount, .long v_p1_letters])), (h_p1_signs, .inl (cC, 1000, .inl v_p1_signs)), (h_p2, .inr (3, [.ref h_p2_names, .ref h_p2_spans, .ref h_p2_costs, .ref h_p2_sizes, .ref h_p2_kinds, .ref h_p2_firsts, .ref h_p2_seconds, .ref h_p2_numbers, .int v_p2_count])), (h_p2_names, .inl (cL, 6, .inr (.inl v_p2_names))), (h_p2_spans, .inl (cI, 6, .inl v_p2_spans)), (h_p2_costs, .inl (cI, 6, .inl v_p2_costs)), (h_p2_sizes, .inl (cI, 6, .inl v_p2_sizes)), (h_p2_kinds, .inl (cI, 36, .inl v_p2_kinds)), (h_p2_firsts, .inl (cI, 36, .inl v_p2_firsts)), (h_p2_seconds, .inl (cI, 36, .inl v_p2_seconds)), (h_p2_numbers, .inl (cI, 36, .inl v_p2_numbers))] H := hP
  have hD : va_D A [(h_this, .inr (1, [.int 0, .int v_isNegative])), (h_p1, .inr (5, [.ref h_p1_signs, .int v_p1_size, .int v_p1_at, .int v_p1_kind, .int v_p1_amount, .long v_p1_letters])), (h_p1_signs, .inl (cC, 1000, .inl v_p1_signs)), (h_p2, .inr (3, [.ref h_p2_names, .ref h_p2_spans, .ref h_p2_costs, .ref h_p2_sizes, .ref h_p2_kinds, .ref h_p2_firsts, .ref h_p2_seconds, .ref h_p2_numbers, .int v_p2_count])), (h_p2_names, .inl (cL, 6, .inr (.inl v_p2_names))), (h_p2_spans, .inl (cI, 6, .inl v_p2_spans)), (h_p2_costs, .inl (cI, 6, .inl v_p2_costs)), (h_p2_sizes, .inl (cI, 6, .inl v_p2_sizes)), (h_p2_kinds, .inl (cI, 36, .inl v_p2_kinds)), (h_p2_firsts, .inl (cI, 36, .inl v_p2_firsts)), (h_p2_seconds, .inl (cI, 36, .inl v_p2_seconds)), (h_p2_numbers, .inl (cI, 36, .inl v_p2_numbers))] := hD
  refine lv_aload_n hx hb d_Reader_read_7 rfl (lv_at hl 3 rfl) ?_
  refine lv_iconst (v := 0) hx hb d_Reader_read_8 (by decide) ?_
  refine va_put (D := (dC, dI)) (ci := 3) (v := .int 0) (ty := .int) (C := R_RuleSet) (T := T_RuleSet) (N := 9) hx hb hT i_RuleSet ty_RuleSet ty_RuleSet_ok n_RuleSet hown hK hP hD hS 3 rfl rfl 8 (by decide) (hT _ kF_Reader_15) (fun _ h9 => h9) rfl (by decide +kernel) rfl rfl (Nat.le_of_ble_eq_true rfl) d_Reader_read_9 (fun H locs hP hD hS => ?_)
  have hP : va_P (dC, dI) vwCl [(h_this, .inr (1, [.int 0, .int v_isNegative])), (h_p1, .inr (5, [.ref h_p1_signs, .int v_p1_size, .int v_p1_at, .int v_p1_kind, .int v_p1_amount, .long v_p1_letters])), (h_p1_signs, .inl (cC, 1000, .inl v_p1_signs)), (h_p2, .inr (3, [.ref h_p2_names, .ref h_p2_spans, .ref h_p2_costs, .ref h_p2_sizes, .ref h_p2_kinds, .ref h_p2_firsts, .ref h_p2_seconds, .ref h_p2_numbers, .int 0])), (h_p2_names, .inl (cL, 6, .inr (.inl v_p2_names))), (h_p2_spans, .inl (cI, 6, .inl v_p2_spans)), (h_p2_costs, .inl (cI, 6, .inl v_p2_costs)), (h_p2_sizes, .inl (cI, 6, .inl v_p2_sizes)), (h_p2_kinds, .inl (cI, 36, .inl v_p2_kinds)), (h_p2_firsts, .inl (cI, 36, .inl v_p2_firsts)), (h_p2_seconds, .inl (cI, 36, .inl v_p2_seconds)), (h_p2_numbers, .inl (cI, 36, .inl v_p2_numbers))] H := hP
  have hD : va_D A [(h_this, .inr (1, [.int 0, .int v_isNegative])), (h_p1, .inr (5, [.ref h_p1_signs, .int v_p1_size, .int v_p1_at, .int v_p1_kind, .int v_p1_amount, .long v_p1_letters])), (h_p1_signs, .inl (cC, 1000, .inl v_p1_signs)), (h_p2, .inr (3, [.ref h_p2_names, .ref h_p2_spans, .ref h_p2_costs, .ref h_p2_sizes, .ref h_p2_kinds, .ref h_p2_firsts, .ref h_p2_seconds, .ref h_p2_numbers, .int 0])), (h_p2_names, .inl (cL, 6, .inr (.inl v_p2_names))), (h_p2_spans, .inl (cI, 6, .inl v_p2_spans)), (h_p2_costs, .inl (cI, 6, .inl v_p2_costs)), (h_p2_sizes, .inl (cI, 6, .inl v_p2_sizes)), (h_p2_kinds, .inl (cI, 36, .inl v_p2_kinds)), (h_p2_firsts, .inl (cI, 36, .inl v_p2_firsts)), (h_p2_seconds, .inl (cI, 36, .inl v_p2_seconds)), (h_p2_numbers, .inl (cI, 36, .inl v_p2_numbers))] := hD
  refine lv_aload_n hx hb d_Reader_read_12 rfl (lv_at hl 2 rfl) ?_
  obtain ⟨t_1, hg_1, hf⟩ := o_bind hf
  refine x_virt (w' := [(h_this, .inr (1, [.int 0, .int v_isNegative])), (h_p1, .inr (5, [.ref h_p1_signs, .int v_p1_size, .int t_1.1, .int t_1.2.1, .int t_1.2.2.1, .long t_1.2.2.2])), (h_p1_signs, .inl (cC, 1000, .inl v_p1_signs)), (h_p2, .inr (3, [.ref h_p2_names, .ref h_p2_spans, .ref h_p2_costs, .ref h_p2_sizes, .ref h_p2_kinds, .ref h_p2_firsts, .ref h_p2_seconds, .ref h_p2_numbers, .int 0])), (h_p2_names, .inl (cL, 6, .inr (.inl v_p2_names))), (h_p2_spans, .inl (cI, 6, .inl v_p2_spans)), (h_p2_costs, .inl (cI, 6, .inl v_p2_costs)), (h_p2_sizes, .inl (cI, 6, .inl v_p2_sizes)), (h_p2_kinds, .inl (cI, 36, .inl v_p2_kinds)), (h_p2_firsts, .inl (cI, 36, .inl v_p2_firsts)), (h_p2_seconds, .inl (cI, 36, .inl v_p2_seconds)), (h_p2_numbers, .inl (cI, 36, .inl v_p2_numbers))]) (As := []) (rest := []) hx hb hml hl.1 hown hT hK hN hP hD hS hA (c_Text_readFirst l dC dI cI cL cC h_p1 h_p1_signs H.size fu v_p1_size v_p1_at v_p1_kind v_p1_amount v_p1_letters v_p1_signs t_1 hg_1) kM_Reader_20 kI_Text_readFirst kS_202 kN_Text kC_Text_readFirst hd_Text_readFirst rfl 1 rfl rfl rfl ⟨Nat.le_of_ble_eq_true rfl, Nat.le_of_ble_eq_true rfl⟩ rfl rfl ⟨Nat.zero_le _, Nat.zero_le _⟩ rfl (Nat.le_of_ble_eq_true rfl) d_Reader_read_13 [1, 2] rfl rfl [.inl 0, .inr 0, .inr 1, .inl 3, .inl 4, .inl 5, .inl 6, .inl 7, .inl 8, .inl 9, .inl 10, .inl 11] rfl rfl rfl (fun H locs hP hD hS => ?_)
  have lp_16 : ∀ (k_49 : Int32 → (Int32) → (Int32) → (Int32) → (Int32) → (Int32) → (Int64) → (Int32) → (Nat → Int64) → (Nat → Int32) → (Nat → Int32) → (Nat → Int32) → (Nat → Int32) → (Nat → Int32) → (Nat → Int32) → (Nat → Int32) → Option (Int32 × Int32 × Int32 × Int32 × Int32 × Int32 × Int64 × Int32 × (Nat → Int64) × (Nat → Int32) × (Nat → Int32) × (Nat → Int32) × (Nat → Int32) × (Nat → Int32) × (Nat → Int32) × (Nat → Int32))) (hk_49 : ∀ (l3_16e : Int32) (v_due_16e : Int32) (v_isNegative_16e : Int32) (v_p1_at_16e : Int32) (v_p1_kind_16e : Int32) (v_p1_amount_16e : Int32) (v_p1_letters_16e : Int64) (v_p2_count_16e : Int32) (v_p2_names_16e : Nat → Int64) (v_p2_spans_16e : Nat → Int32) (v_p2_costs_16e : Nat → Int32) (v_p2_sizes_16e : Nat → Int32) (v_p2_kinds_16e : Nat → Int32) (v_p2_firsts_16e : Nat → Int32) (v_p2_seconds_16e : Nat → Int32) (v_p2_numbers_16e : Nat → Int32) (H : Heap) (locs : List Loc) (ls : Array Slot), k_49 l3_16e v_due_16e v_isNegative_16e v_p1_at_16e v_p1_kind_16e v_p1_amount_16e v_p1_letters_16e v_p2_count_16e v_p2_names_16e v_p2_spans_16e v_p2_costs_16e v_p2_sizes_16e v_p2_kinds_16e v_p2_firsts_16e v_p2_seconds_16e v_p2_numbers_16e = some t → va_P (dC, dI) vwCl [(h_this, .inr (1, [.int v_due_16e, .int v_isNegative_16e])), (h_p1, .inr (5, [.ref h_p1_signs, .int v_p1_size, .int v_p1_at_16e, .int v_p1_kind_16e, .int v_p1_amount_16e, .long v_p1_letters_16e])), (h_p1_signs, .inl (cC, 1000, .inl v_p1_signs)), (h_p2, .inr (3, [.ref h_p2_names, .ref h_p2_spans, .ref h_p2_costs, .ref h_p2_sizes, .ref h_p2_kinds, .ref h_p2_firsts, .ref h_p2_seconds, .ref h_p2_numbers, .int v_p2_count_16e])), (h_p2_names, .inl (cL, 6, .inr (.inl v_p2_names_16e))), (h_p2_spans, .inl (cI, 6, .inl v_p2_spans_16e)), (h_p2_costs, .inl (cI, 6, .inl v_p2_costs_16e)), (h_p2_sizes, .inl (cI, 6, .inl v_p2_sizes_16e)), (h_p2_kinds, .inl (cI, 36, .inl v_p2_kinds_16e)), (h_p2_firsts, .inl (cI, 36, .inl v_p2_firsts_16e)), (h_p2_seconds, .inl (cI, 36, .inl v_p2_seconds_16e)), (h_p2_numbers, .inl (cI, 36, .inl v_p2_numbers_16e))] H → va_D A [(h_this, .inr (1, [.int v_due_16e, .int v_isNegative_16e])), (h_p1, .inr (5, [.ref h_p1_signs, .int v_p1_size, .int v_p1_at_16e, .int v_p1_kind_16e, .int v_p1_amount_16e, .long v_p1_letters_16e])), (h_p1_signs, .inl (cC, 1000, .inl v_p1_signs)), (h_p2, .inr (3, [.ref h_p2_names, .ref h_p2_spans, .ref h_p2_costs, .ref h_p2_sizes, .ref h_p2_kinds, .ref h_p2_firsts, .ref h_p2_seconds, .ref h_p2_numbers, .int v_p2_count_16e])), (h_p2_names, .inl (cL, 6, .inr (.inl v_p2_names_16e))), (h_p2_spans, .inl (cI, 6, .inl v_p2_spans_16e)), (h_p2_costs, .inl (cI, 6, .inl v_p2_costs_16e)), (h_p2_sizes, .inl (cI, 6, .inl v_p2_sizes_16e)), (h_p2_kinds, .inl (cI, 36, .inl v_p2_kinds_16e)), (h_p2_firsts, .inl (cI, 36, .inl v_p2_firsts_16e)), (h_p2_seconds, .inl (cI, 36, .inl v_p2_seconds_16e)), (h_p2_numbers, .inl (cI, 36, .inl v_p2_numbers_16e))] → va_S A s.heap H locs → lv_has ls 4 [(0, .ref h_this), (1, .ref h_p1), (2, .ref h_p2), (3, .int l3_16e)] → W p l e rm_Reader_read s m args below meth c H locs 0 0 Q (F0 m 49 ls [])), ∀ (n : Nat) (l3_16 : Int32) (v_due_16 : Int32) (v_isNegative_16 : Int32) (v_p1_at_16 : Int32) (v_p1_kind_16 : Int32) (v_p1_amount_16 : Int32) (v_p1_letters_16 : Int64) (v_p2_count_16 : Int32) (v_p2_names_16 : Nat → Int64) (v_p2_spans_16 : Nat → Int32) (v_p2_costs_16 : Nat → Int32) (v_p2_sizes_16 : Nat → Int32) (v_p2_kinds_16 : Nat → Int32) (v_p2_firsts_16 : Nat → Int32) (v_p2_seconds_16 : Nat → Int32) (v_p2_numbers_16 : Nat → Int32) (H : Heap) (locs : List Loc) (ls : Array Slot), L_Reader_read_16 fu v_p1_size v_p1_signs k_49 n l3_16 v_due_16 v_isNegative_16 v_p1_at_16 v_p1_kind_16 v_p1_amount_16 v_p1_letters_16 v_p2_count_16 v_p2_names_16 v_p2_spans_16 v_p2_costs_16 v_p2_sizes_16 v_p2_kinds_16 v_p2_firsts_16 v_p2_seconds_16 v_p2_numbers_16 = some t → va_P (dC, dI) vwCl [(h_this, .inr (1, [.int v_due_16, .int v_isNegative_16])), (h_p1, .inr (5, [.ref h_p1_signs, .int v_p1_size, .int v_p1_at_16, .int v_p1_kind_16, .int v_p1_amount_16, .long v_p1_letters_16])), (h_p1_signs, .inl (cC, 1000, .inl v_p1_signs)), (h_p2, .inr (3, [.ref h_p2_names, .ref h_p2_spans, .ref h_p2_costs, .ref h_p2_sizes, .ref h_p2_kinds, .ref h_p2_firsts, .ref h_p2_seconds, .ref h_p2_numbers, .int v_p2_count_16])), (h_p2_names, .inl (cL, 6, .inr (.inl v_p2_names_16))), (h_p2_spans, .inl (cI, 6, .inl v_p2_spans_16)), (h_p2_costs, .inl (cI, 6, .inl v_p2_costs_16)), (h_p2_sizes, .inl (cI, 6, .inl v_p2_sizes_16)), (h_p2_kinds, .inl (cI, 36, .inl v_p2_kinds_16)), (h_p2_firsts, .inl (cI, 36, .inl v_p2_firsts_16)), (h_p2_seconds, .inl (cI, 36, .inl v_p2_seconds_16)), (h_p2_numbers, .inl (cI, 36, .inl v_p2_numbers_16))] H → va_D A [(h_this, .inr (1, [.int v_due_16, .int v_isNegative_16])), (h_p1, .inr (5, [.ref h_p1_signs, .int v_p1_size, .int v_p1_at_16, .int v_p1_kind_16, .int v_p1_amount_16, .long v_p1_letters_16])), (h_p1_signs, .inl (cC, 1000, .inl v_p1_signs)), (h_p2, .inr (3, [.ref h_p2_names, .ref h_p2_spans, .ref h_p2_costs, .ref h_p2_sizes, .ref h_p2_kinds, .ref h_p2_firsts, .ref h_p2_seconds, .ref h_p2_numbers, .int v_p2_count_16])), (h_p2_names, .inl (cL, 6, .inr (.inl v_p2_names_16))), (h_p2_spans, .inl (cI, 6, .inl v_p2_spans_16)), (h_p2_costs, .inl (cI, 6, .inl v_p2_costs_16)), (h_p2_sizes, .inl (cI, 6, .inl v_p2_sizes_16)), (h_p2_kinds, .inl (cI, 36, .inl v_p2_kinds_16)), (h_p2_firsts, .inl (cI, 36, .inl v_p2_firsts_16)), (h_p2_seconds, .inl (cI, 36, .inl v_p2_seconds_16)), (h_p2_numbers, .inl (cI, 36, .inl v_p2_numbers_16))] → va_S A s.heap H locs → lv_has ls 4 [(0, .ref h_this), (1, .ref h_p1), (2, .ref h_p2), (3, .int l3_16)] → W p l e rm_Reader_read s m args below meth c H locs 0 0 Q (F0 m 16 ls []) := by
    intro k_49 hk_49 n
    induction n with
    | zero => intro l3_16 v_due_16 v_isNegative_16 v_p1_at_16 v_p1_kind_16 v_p1_amount_16 v_p1_letters_16 v_p2_count_16 v_p2_names_16 v_p2_spans_16 v_p2_costs_16 v_p2_sizes_16 v_p2_kinds_16 v_p2_firsts_16 v_p2_seconds_16 v_p2_numbers_16 H locs ls hf; exact (L_Reader_read_16_z hf).elim
    | succ n ih =>
      intro l3_16 v_due_16 v_isNegative_16 v_p1_at_16 v_p1_kind_16 v_p1_amount_16 v_p1_letters_16 v_p2_count_16 v_p2_names_16 v_p2_spans_16 v_p2_costs_16 v_p2_sizes_16 v_p2_kinds_16 v_p2_firsts_16 v_p2_seconds_16 v_p2_numbers_16 H locs ls hf hP hD hS hl
      replace hf := L_Reader_read_16_u hf
      refine lv_iload_n hx hb d_Reader_read_16 rfl (lv_at hl 3 rfl) ?_
      refine lv_sipush (v := 1000) hx hb d_Reader_read_17 (by decide) ?_
      refine lv_icmp_ge (tgt := 49) hx hb d_Reader_read_20 (by decide) (fun c_2 => ?_) (fun c_2 => ?_)
      · replace hf := o_pos c_2 hf
        exact hk_49 l3_16 v_due_16 v_isNegative_16 v_p1_at_16 v_p1_kind_16 v_p1_amount_16 v_p1_letters_16 v_p2_count_16 v_p2_names_16 v_p2_spans_16 v_p2_costs_16 v_p2_sizes_16 v_p2_kinds_16 v_p2_firsts_16 v_p2_seconds_16 v_p2_numbers_16 H locs ls hf hP hD hS (lv_sub hl [0, 1, 2, 3] rfl)
      · replace hf := o_neg c_2 hf
        refine lv_aload_n hx hb d_Reader_read_23 rfl (lv_at hl 1 rfl) ?_
        refine va_get (D := (dC, dI)) (ci := 5) (v := .int v_p1_kind_16) (C := R_Text) (T := T_Text) (N := 6) hx hb hT i_Text hown hK hP 1 rfl rfl 3 (by decide) (hT _ kF_Reader_25) (fun _ h9 => h9) rfl d_Reader_read_24 ?_
        refine lv_if_eq (tgt := 49) hx hb d_Reader_read_27 (by decide) (fun c_3 => ?_) (fun c_3 => ?_)
        · replace hf := o_pos c_3 hf
          exact hk_49 l3_16 v_due_16 v_isNegative_16 v_p1_at_16 v_p1_kind_16 v_p1_amount_16 v_p1_letters_16 v_p2_count_16 v_p2_names_16 v_p2_spans_16 v_p2_costs_16 v_p2_sizes_16 v_p2_kinds_16 v_p2_firsts_16 v_p2_seconds_16 v_p2_numbers_16 H locs ls hf hP hD hS (lv_sub hl [0, 1, 2, 3] rfl)
        · replace hf := o_neg c_3 hf
          refine lv_aload_n hx hb d_Reader_read_30 rfl (lv_at hl 0 rfl) ?_
          refine lv_aload_n hx hb d_Reader_read_31 rfl (lv_at hl 1 rfl) ?_
          refine lv_aload_n hx hb d_Reader_read_32 rfl (lv_at hl 2 rfl) ?_
          obtain ⟨t_4, hg_4, hf⟩ := o_bind hf
          refine x_virt (w' := [(h_this, .inr (1, [.int t_4.2.1, .int t_4.2.2.1])), (h_p1, .inr (5, [.ref h_p1_signs, .int v_p1_size, .int v_p1_at_16, .int v_p1_kind_16, .int v_p1_amount_16, .long v_p1_letters_16])), (h_p1_signs, .inl (cC, 1000, .inl v_p1_signs)), (h_p2, .inr (3, [.ref h_p2_names, .ref h_p2_spans, .ref h_p2_costs, .ref h_p2_sizes, .ref h_p2_kinds, .ref h_p2_firsts, .ref h_p2_seconds, .ref h_p2_numbers, .int t_4.2.2.2.1])), (h_p2_names, .inl (cL, 6, .inr (.inl t_4.2.2.2.2.1))), (h_p2_spans, .inl (cI, 6, .inl t_4.2.2.2.2.2.1)), (h_p2_costs, .inl (cI, 6, .inl t_4.2.2.2.2.2.2.1)), (h_p2_sizes, .inl (cI, 6, .inl t_4.2.2.2.2.2.2.2.1)), (h_p2_kinds, .inl (cI, 36, .inl t_4.2.2.2.2.2.2.2.2.1)), (h_p2_firsts, .inl (cI, 36, .inl t_4.2.2.2.2.2.2.2.2.2.1)), (h_p2_seconds, .inl (cI, 36, .inl t_4.2.2.2.2.2.2.2.2.2.2.1)), (h_p2_numbers, .inl (cI, 36, .inl t_4.2.2.2.2.2.2.2.2.2.2.2))]) (As := [.ref h_p1, .ref h_p2]) (rest := []) hx hb hml hl.1 hown hT hK hN hP hD hS hA (c_Reader_takes l dC dI cI cL cC h_this h_p1 h_p2 h_p1_signs h_p2_names h_p2_spans h_p2_costs h_p2_sizes h_p2_kinds h_p2_firsts h_p2_seconds h_p2_numbers H.size fu v_due_16 v_isNegative_16 v_p1_size v_p1_at_16 v_p1_kind_16 v_p1_amount_16 v_p1_letters_16 v_p2_count_16 v_p2_names_16 v_p2_spans_16 v_p2_costs_16 v_p2_sizes_16 v_p2_kinds_16 v_p2_firsts_16 v_p2_seconds_16 v_p2_numbers_16 t_4 hg_4) kM_Reader_28 kI_Reader_takes kS_205 kN_Reader kC_Reader_takes hd_Reader_takes rfl 0 rfl rfl rfl ⟨Nat.le_of_ble_eq_true rfl, Nat.le_of_ble_eq_true rfl⟩ rfl rfl ⟨Nat.zero_le _, Nat.zero_le _⟩ rfl (Nat.le_of_ble_eq_true rfl) d_Reader_read_33 [0, 1, 3, 4, 5, 6, 7, 8, 9, 10, 11] rfl rfl [.inr 0, .inr 1, .inl 2, .inr 2, .inr 3, .inr 4, .inr 5, .inr 6, .inr 7, .inr 8, .inr 9, .inr 10] rfl rfl rfl (fun H locs hP hD hS => ?_)
          refine lv_if_eq (tgt := 49) hx hb d_Reader_read_36 (by decide) (fun c_5 => ?_) (fun c_5 => ?_)
          · replace hf := o_pos c_5 hf
            exact hk_49 l3_16 t_4.2.1 t_4.2.2.1 v_p1_at_16 v_p1_kind_16 v_p1_amount_16 v_p1_letters_16 t_4.2.2.2.1 t_4.2.2.2.2.1 t_4.2.2.2.2.2.1 t_4.2.2.2.2.2.2.1 t_4.2.2.2.2.2.2.2.1 t_4.2.2.2.2.2.2.2.2.1 t_4.2.2.2.2.2.2.2.2.2.1 t_4.2.2.2.2.2.2.2.2.2.2.1 t_4.2.2.2.2.2.2.2.2.2.2.2 H locs ls hf hP hD hS (lv_sub hl [0, 1, 2, 3] rfl)
          · replace hf := o_neg c_5 hf
            refine lv_aload_n hx hb d_Reader_read_39 rfl (lv_at hl 1 rfl) ?_
            obtain ⟨t_6, hg_6, hf⟩ := o_bind hf
            refine x_virt (w' := [(h_this, .inr (1, [.int t_4.2.1, .int t_4.2.2.1])), (h_p1, .inr (5, [.ref h_p1_signs, .int v_p1_size, .int t_6.1, .int t_6.2.1, .int t_6.2.2.1, .long t_6.2.2.2])), (h_p1_signs, .inl (cC, 1000, .inl v_p1_signs)), (h_p2, .inr (3, [.ref h_p2_names, .ref h_p2_spans, .ref h_p2_costs, .ref h_p2_sizes, .ref h_p2_kinds, .ref h_p2_firsts, .ref h_p2_seconds, .ref h_p2_numbers, .int t_4.2.2.2.1])), (h_p2_names, .inl (cL, 6, .inr (.inl t_4.2.2.2.2.1))), (h_p2_spans, .inl (cI, 6, .inl t_4.2.2.2.2.2.1)), (h_p2_costs, .inl (cI, 6, .inl t_4.2.2.2.2.2.2.1)), (h_p2_sizes, .inl (cI, 6, .inl t_4.2.2.2.2.2.2.2.1)), (h_p2_kinds, .inl (cI, 36, .inl t_4.2.2.2.2.2.2.2.2.1)), (h_p2_firsts, .inl (cI, 36, .inl t_4.2.2.2.2.2.2.2.2.2.1)), (h_p2_seconds, .inl (cI, 36, .inl t_4.2.2.2.2.2.2.2.2.2.2.1)), (h_p2_numbers, .inl (cI, 36, .inl t_4.2.2.2.2.2.2.2.2.2.2.2))]) (As := []) (rest := []) hx hb hml hl.1 hown hT hK hN hP hD hS hA (c_Text_readNext l dC dI cI cL cC h_p1 h_p1_signs H.size fu v_p1_size v_p1_at_16 v_p1_kind_16 v_p1_amount_16 v_p1_letters_16 v_p1_signs t_6 hg_6) kM_Reader_32 kI_Text_readNext kS_93 kN_Text kC_Text_readNext hd_Text_readNext rfl 1 rfl rfl rfl ⟨Nat.le_of_ble_eq_true rfl, Nat.le_of_ble_eq_true rfl⟩ rfl rfl ⟨Nat.zero_le _, Nat.zero_le _⟩ rfl (Nat.le_of_ble_eq_true rfl) d_Reader_read_40 [1, 2] rfl rfl [.inl 0, .inr 0, .inr 1, .inl 3, .inl 4, .inl 5, .inl 6, .inl 7, .inl 8, .inl 9, .inl 10, .inl 11] rfl rfl rfl (fun H locs hP hD hS => ?_)
            refine lv_iinc (v := l3_16 + 1) (lv' := [(3, .int (l3_16 + 1)), (0, .ref h_this), (1, .ref h_p1), (2, .ref h_p2)]) hx hb d_Reader_read_43 hl (k := 3) rfl rfl (by decide) rfl (fun ls hl => ?_)
            refine lv_goto (tgt := 16) hx hb d_Reader_read_46 (by decide) ?_
            exact ih (l3_16 + 1) t_4.2.1 t_4.2.2.1 t_6.1 t_6.2.1 t_6.2.2.1 t_6.2.2.2 t_4.2.2.2.1 t_4.2.2.2.2.1 t_4.2.2.2.2.2.1 t_4.2.2.2.2.2.2.1 t_4.2.2.2.2.2.2.2.1 t_4.2.2.2.2.2.2.2.2.1 t_4.2.2.2.2.2.2.2.2.2.1 t_4.2.2.2.2.2.2.2.2.2.2.1 t_4.2.2.2.2.2.2.2.2.2.2.2 H locs ls hf hP hD hS (lv_sub hl [1, 2, 3, 0] rfl)
  refine lp_16 _ (fun l3_16e v_due_16e v_isNegative_16e v_p1_at_16e v_p1_kind_16e v_p1_amount_16e v_p1_letters_16e v_p2_count_16e v_p2_names_16e v_p2_spans_16e v_p2_costs_16e v_p2_sizes_16e v_p2_kinds_16e v_p2_firsts_16e v_p2_seconds_16e v_p2_numbers_16e H locs ls hf hP hD hS hl => ?_) fu 0 0 v_isNegative t_1.1 t_1.2.1 t_1.2.2.1 t_1.2.2.2 0 v_p2_names v_p2_spans v_p2_costs v_p2_sizes v_p2_kinds v_p2_firsts v_p2_seconds v_p2_numbers H locs ls hf hP hD hS (lv_sub hl [1, 2, 3, 0] rfl)
  refine lv_aload_n hx hb d_Reader_read_49 rfl (lv_at hl 1 rfl) ?_
  refine va_get (D := (dC, dI)) (ci := 5) (v := .int v_p1_kind_16e) (C := R_Text) (T := T_Text) (N := 6) hx hb hT i_Text hown hK hP 1 rfl rfl 3 (by decide) (hT _ kF_Reader_25) (fun _ h9 => h9) rfl d_Reader_read_50 ?_
  refine lv_if_ne (tgt := 70) hx hb d_Reader_read_53 (by decide) (fun c_7 => ?_) (fun c_7 => ?_)
  · replace hf := o_neg c_7 hf
    refine lv_iconst (v := (-1)) hx hb d_Reader_read_70 (by decide) ?_
    refine lv_iload_n hx hb d_Reader_read_71 rfl (lv_at hl 3 rfl) ?_
    refine lv_isub hx hb d_Reader_read_72 ?_
    rw [hQ, ← Option.some.inj hf]
    exact W.iret hx hb hr (fun t9 ht9 hW9 => ⟨rfl, by rw [ht9]; exact hP, hS.F ht9⟩) hS.2.2 d_Reader_read_73
  · replace hf := o_pos c_7 hf
    refine lv_aload_n hx hb d_Reader_read_56 rfl (lv_at hl 0 rfl) ?_
    refine va_get (D := (dC, dI)) (ci := 1) (v := .int v_due_16e) (C := R_Reader) (T := T_Reader) (N := 2) hx hb hT i_Reader hown hK hP 0 rfl rfl 0 (by decide) (hT _ kF_Reader_11) (fun _ h9 => h9) rfl d_Reader_read_57 ?_
    refine lv_if_ne (tgt := 70) hx hb d_Reader_read_60 (by decide) (fun c_8 => ?_) (fun c_8 => ?_)
    · replace hf := o_neg c_8 hf
      refine lv_iconst (v := (-1)) hx hb d_Reader_read_70 (by decide) ?_
      refine lv_iload_n hx hb d_Reader_read_71 rfl (lv_at hl 3 rfl) ?_
      refine lv_isub hx hb d_Reader_read_72 ?_
      rw [hQ, ← Option.some.inj hf]
      exact W.iret hx hb hr (fun t9 ht9 hW9 => ⟨rfl, by rw [ht9]; exact hP, hS.F ht9⟩) hS.2.2 d_Reader_read_73
    · replace hf := o_pos c_8 hf
      refine lv_aload_n hx hb d_Reader_read_63 rfl (lv_at hl 2 rfl) ?_
      refine va_get (D := (dC, dI)) (ci := 3) (v := .int v_p2_count_16e) (C := R_RuleSet) (T := T_RuleSet) (N := 9) hx hb hT i_RuleSet hown hK hP 3 rfl rfl 8 (by decide) (hT _ kF_Reader_15) (fun _ h9 => h9) rfl d_Reader_read_64 ?_
      refine lv_goto (tgt := 73) hx hb d_Reader_read_67 (by decide) ?_
      rw [hQ, ← Option.some.inj hf]
      exact W.iret hx hb hr (fun t9 ht9 hW9 => ⟨rfl, by rw [ht9]; exact hP, hS.F ht9⟩) hS.2.2 d_Reader_read_73
