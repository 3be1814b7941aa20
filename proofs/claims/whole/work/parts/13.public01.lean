def f_FaultRules_fault (v_found_isThere : Int32) (v_found_count : Int32) (v_found_faultRules : Nat → Int32) (v_found_begins : Nat → Int32) (v_found_ends : Nat → Int32) (v_found_faultCosts : Nat → Int32) (p1 : Int32) (p2 : Int32) : Option (Nat × Int32) :=
  (if p1 < 0 then (some (1, 0)) else (if p2 < 0 then (some (1, 0)) else (if p2 ≤ 3 then (if v_found_isThere = 0 then (some (2, 0)) else (if v_found_count ≤ p1 then (some (0, (-1))) else ((f_Run_part v_found_faultRules v_found_begins v_found_ends v_found_faultCosts p1 p2).bind (fun t_6 => (some (0, t_6)))))) else (some (1, 0)))))
theorem f_FaultRules_fault_u {v_found_isThere : Int32} {v_found_count : Int32} {v_found_faultRules : Nat → Int32} {v_found_begins : Nat → Int32} {v_found_ends : Nat → Int32} {v_found_faultCosts : Nat → Int32} {p1 : Int32} {p2 : Int32} {t : Nat × Int32} (h : f_FaultRules_fault v_found_isThere v_found_count v_found_faultRules v_found_begins v_found_ends v_found_faultCosts p1 p2 = some t) : (if p1 < 0 then (some (1, 0)) else (if p2 < 0 then (some (1, 0)) else (if p2 ≤ 3 then (if v_found_isThere = 0 then (some (2, 0)) else (if v_found_count ≤ p1 then (some (0, (-1))) else ((f_Run_part v_found_faultRules v_found_begins v_found_ends v_found_faultCosts p1 p2).bind (fun t_6 => (some (0, t_6)))))) else (some (1, 0))))) = some t := h
def f_FaultRules_money (v_found_isThere : Int32) (v_found_total : Int32) : Option (Nat × Int32) :=
  (if v_found_isThere = 0 then (some (2, 0)) else (some (0, v_found_total)))
theorem f_FaultRules_money_u {v_found_isThere : Int32} {v_found_total : Int32} {t : Nat × Int32} (h : f_FaultRules_money v_found_isThere v_found_total = some t) : (if v_found_isThere = 0 then (some (2, 0)) else (some (0, v_found_total))) = some t := h
def f_FaultRules_held (v_found_isThere : Int32) (v_found_minutesHeld : Nat → Int32) (v_ruleSet_count : Int32) (p1 : Int32) : Option (Nat × Int32) :=
  (if p1 < 0 then (some (1, 0)) else (if p1 < v_ruleSet_count then (if v_found_isThere = 0 then (some (2, 0)) else (bd p1 6 (some (0, v_found_minutesHeld (p1 : Int32).toNatClampNeg)))) else (some (1, 0))))
theorem f_FaultRules_held_u {v_found_isThere : Int32} {v_found_minutesHeld : Nat → Int32} {v_ruleSet_count : Int32} {p1 : Int32} {t : Nat × Int32} (h : f_FaultRules_held v_found_isThere v_found_minutesHeld v_ruleSet_count p1 = some t) : (if p1 < 0 then (some (1, 0)) else (if p1 < v_ruleSet_count then (if v_found_isThere = 0 then (some (2, 0)) else (bd p1 6 (some (0, v_found_minutesHeld (p1 : Int32).toNatClampNeg)))) else (some (1, 0)))) = some t := h
def f_FaultRules_holds (fu : Nat) (v_rows_minutes : Nat → Int32) (v_rows_values : Nat → Int32) (v_rows_starts : Nat → Int32) (v_rows_seen : Nat → Int32) (v_ruleSet_count : Int32) (v_ruleSet_sizes : Nat → Int32) (v_ruleSet_kinds : Nat → Int32) (v_ruleSet_firsts : Nat → Int32) (v_ruleSet_seconds : Nat → Int32) (v_ruleSet_numbers : Nat → Int32) (p1 : Int32) (p2 : Int32) (p3 : Int32) : Option (Nat × Int32 × (Nat → Int32)) :=
  (if p1 < 0 then (some (1, 0, v_rows_seen)) else (if v_ruleSet_count ≤ p1 then (some (1, 0, v_rows_seen)) else (if p2 < 0 then (some (1, 0, v_rows_seen)) else (bd p1 6 (if (v_ruleSet_sizes (p1 : Int32).toNatClampNeg) ≤ p2 then (some (1, 0, v_rows_seen)) else ((f_FaultRules_isMinute p3).bind (fun t_6 => (if t_6 = 0 then (some (1, 0, v_rows_seen)) else ((f_Rows_rewind fu v_rows_seen).bind (fun t_8 => ((f_Rows_advance fu v_rows_minutes v_rows_starts t_8 p3).bind (fun t_9 => ((f_RuleSet_testHolds v_ruleSet_kinds v_ruleSet_firsts v_ruleSet_seconds v_ruleSet_numbers v_rows_minutes v_rows_values v_rows_starts t_9 ((p1 * 6) + p2) p3).bind (fun t_10 => (zb t_10 (some (0, t_10, t_9)))))))))))))))))
theorem f_FaultRules_holds_u {fu : Nat} {v_rows_minutes : Nat → Int32} {v_rows_values : Nat → Int32} {v_rows_starts : Nat → Int32} {v_rows_seen : Nat → Int32} {v_ruleSet_count : Int32} {v_ruleSet_sizes : Nat → Int32} {v_ruleSet_kinds : Nat → Int32} {v_ruleSet_firsts : Nat → Int32} {v_ruleSet_seconds : Nat → Int32} {v_ruleSet_numbers : Nat → Int32} {p1 : Int32} {p2 : Int32} {p3 : Int32} {t : Nat × Int32 × (Nat → Int32)} (h : f_FaultRules_holds fu v_rows_minutes v_rows_values v_rows_starts v_rows_seen v_ruleSet_count v_ruleSet_sizes v_ruleSet_kinds v_ruleSet_firsts v_ruleSet_seconds v_ruleSet_numbers p1 p2 p3 = some t) : (if p1 < 0 then (some (1, 0, v_rows_seen)) else (if v_ruleSet_count ≤ p1 then (some (1, 0, v_rows_seen)) else (if p2 < 0 then (some (1, 0, v_rows_seen)) else (bd p1 6 (if (v_ruleSet_sizes (p1 : Int32).toNatClampNeg) ≤ p2 then (some (1, 0, v_rows_seen)) else ((f_FaultRules_isMinute p3).bind (fun t_6 => (if t_6 = 0 then (some (1, 0, v_rows_seen)) else ((f_Rows_rewind fu v_rows_seen).bind (fun t_8 => ((f_Rows_advance fu v_rows_minutes v_rows_starts t_8 p3).bind (fun t_9 => ((f_RuleSet_testHolds v_ruleSet_kinds v_ruleSet_firsts v_ruleSet_seconds v_ruleSet_numbers v_rows_minutes v_rows_values v_rows_starts t_9 ((p1 * 6) + p2) p3).bind (fun t_10 => (zb t_10 (some (0, t_10, t_9))))))))))))))))) = some t := h
def L_FaultRules_line_71 (fu : Nat) (v_rows_minutes : Nat → Int32) (v_rows_values : Nat → Int32) (v_rows_starts : Nat → Int32) (v_leftOut_count : Int32) (v_leftOut_minutes : Nat → Int32) (l1_71 : Int32) (l2_71 : Int32) (l4_71 : Int32) (l5_71 : Int32) (k_189 : Int64 → Int64 → Int64 → Int64 → Int64 → (Nat → Int32) → Option (Nat × Int64 × (Nat → Int32))) : Nat → Int64 → Int64 → Int64 → Int64 → Int64 → Int32 → (Nat → Int32) → Option (Nat × Int64 × (Nat → Int32))
  | 0, _, _, _, _, _, _, _ => none
  | n + 1, l6_71, l8_71, l10_71, l12_71, l14_71, l16_71, v_rows_seen_71 => (if l4_71 < l16_71 then (k_189 l6_71 l8_71 l10_71 l12_71 l14_71 v_rows_seen_71) else ((f_Rows_advance fu v_rows_minutes v_rows_starts v_rows_seen_71 l16_71).bind (fun t_11 => ((f_Rows_has t_11 l1_71).bind (fun t_12 => (if t_12 = 0 then ((L_FaultRules_line_71 fu v_rows_minutes v_rows_values v_rows_starts v_leftOut_count v_leftOut_minutes l1_71 l2_71 l4_71 l5_71 k_189 n) l6_71 l8_71 l10_71 l12_71 l14_71 (l16_71 + 1) t_11) else ((f_Rows_has t_11 l2_71).bind (fun t_14 => (if t_14 = 0 then ((L_FaultRules_line_71 fu v_rows_minutes v_rows_values v_rows_starts v_leftOut_count v_leftOut_minutes l1_71 l2_71 l4_71 l5_71 k_189 n) l6_71 l8_71 l10_71 l12_71 l14_71 (l16_71 + 1) t_11) else ((f_LeftOut_has fu v_leftOut_count v_leftOut_minutes l16_71).bind (fun t_16 => (if t_16 = 0 then ((f_Rows_latestValue v_rows_values v_rows_starts t_11 l2_71).bind (fun t_18 => ((f_Rows_latestValue v_rows_values v_rows_starts t_11 l1_71).bind (fun t_19 => ((L_FaultRules_line_71 fu v_rows_minutes v_rows_values v_rows_starts v_leftOut_count v_leftOut_minutes l1_71 l2_71 l4_71 l5_71 k_189 n) (l6_71 + 1) (l8_71 + ((t_18 : Int32).toInt64)) (l10_71 + ((t_19 : Int32).toInt64)) (l12_71 + (((t_18 : Int32).toInt64) * ((t_18 : Int32).toInt64))) (l14_71 + (((t_18 : Int32).toInt64) * ((t_19 : Int32).toInt64))) (l16_71 + 1) t_11))))) else ((L_FaultRules_line_71 fu v_rows_minutes v_rows_values v_rows_starts v_leftOut_count v_leftOut_minutes l1_71 l2_71 l4_71 l5_71 k_189 n) l6_71 l8_71 l10_71 l12_71 l14_71 (l16_71 + 1) t_11)))))))))))))
theorem L_FaultRules_line_71_z {fu : Nat} {v_rows_minutes : Nat → Int32} {v_rows_values : Nat → Int32} {v_rows_starts : Nat → Int32} {v_leftOut_count : Int32} {v_leftOut_minutes : Nat → Int32} {l1_71 : Int32} {l2_71 : Int32} {l4_71 : Int32} {l5_71 : Int32} {k_189 : Int64 → Int64 → Int64 → Int64 → Int64 → (Nat → Int32) → Option (Nat × Int64 × (Nat → Int32))} {l6_71 : Int64} {l8_71 : Int64} {l10_71 : Int64} {l12_71 : Int64} {l14_71 : Int64} {l16_71 : Int32} {v_rows_seen_71 : Nat → Int32} {t : Nat × Int64 × (Nat → Int32)} (h : L_FaultRules_line_71 fu v_rows_minutes v_rows_values v_rows_starts v_leftOut_count v_leftOut_minutes l1_71 l2_71 l4_71 l5_71 k_189 0 l6_71 l8_71 l10_71 l12_71 l14_71 l16_71 v_rows_seen_71 = some t) : False := by cases (show (none : Option (Nat × Int64 × (Nat → Int32))) = some t from h)
theorem L_FaultRules_line_71_u {fu : Nat} {v_rows_minutes : Nat → Int32} {v_rows_values : Nat → Int32} {v_rows_starts : Nat → Int32} {v_leftOut_count : Int32} {v_leftOut_minutes : Nat → Int32} {l1_71 : Int32} {l2_71 : Int32} {l4_71 : Int32} {l5_71 : Int32} {k_189 : Int64 → Int64 → Int64 → Int64 → Int64 → (Nat → Int32) → Option (Nat × Int64 × (Nat → Int32))} {n : Nat} {l6_71 : Int64} {l8_71 : Int64} {l10_71 : Int64} {l12_71 : Int64} {l14_71 : Int64} {l16_71 : Int32} {v_rows_seen_71 : Nat → Int32} {t : Nat × Int64 × (Nat → Int32)} (h : L_FaultRules_line_71 fu v_rows_minutes v_rows_values v_rows_starts v_leftOut_count v_leftOut_minutes l1_71 l2_71 l4_71 l5_71 k_189 (n + 1) l6_71 l8_71 l10_71 l12_71 l14_71 l16_71 v_rows_seen_71 = some t) : (if l4_71 < l16_71 then (k_189 l6_71 l8_71 l10_71 l12_71 l14_71 v_rows_seen_71) else ((f_Rows_advance fu v_rows_minutes v_rows_starts v_rows_seen_71 l16_71).bind (fun t_11 => ((f_Rows_has t_11 l1_71).bind (fun t_12 => (if t_12 = 0 then ((L_FaultRules_line_71 fu v_rows_minutes v_rows_values v_rows_starts v_leftOut_count v_leftOut_minutes l1_71 l2_71 l4_71 l5_71 k_189 n) l6_71 l8_71 l10_71 l12_71 l14_71 (l16_71 + 1) t_11) else ((f_Rows_has t_11 l2_71).bind (fun t_14 => (if t_14 = 0 then ((L_FaultRules_line_71 fu v_rows_minutes v_rows_values v_rows_starts v_leftOut_count v_leftOut_minutes l1_71 l2_71 l4_71 l5_71 k_189 n) l6_71 l8_71 l10_71 l12_71 l14_71 (l16_71 + 1) t_11) else ((f_LeftOut_has fu v_leftOut_count v_leftOut_minutes l16_71).bind (fun t_16 => (if t_16 = 0 then ((f_Rows_latestValue v_rows_values v_rows_starts t_11 l2_71).bind (fun t_18 => ((f_Rows_latestValue v_rows_values v_rows_starts t_11 l1_71).bind (fun t_19 => ((L_FaultRules_line_71 fu v_rows_minutes v_rows_values v_rows_starts v_leftOut_count v_leftOut_minutes l1_71 l2_71 l4_71 l5_71 k_189 n) (l6_71 + 1) (l8_71 + ((t_18 : Int32).toInt64)) (l10_71 + ((t_19 : Int32).toInt64)) (l12_71 + (((t_18 : Int32).toInt64) * ((t_18 : Int32).toInt64))) (l14_71 + (((t_18 : Int32).toInt64) * ((t_19 : Int32).toInt64))) (l16_71 + 1) t_11))))) else ((L_FaultRules_line_71 fu v_rows_minutes v_rows_values v_rows_starts v_leftOut_count v_leftOut_minutes l1_71 l2_71 l4_71 l5_71 k_189 n) l6_71 l8_71 l10_71 l12_71 l14_71 (l16_71 + 1) t_11))))))))))))) = some t := h
def f_FaultRules_line (fu : Nat) (v_rows_minutes : Nat → Int32) (v_rows_values : Nat → Int32) (v_rows_starts : Nat → Int32) (v_rows_seen : Nat → Int32) (v_leftOut_count : Int32) (v_leftOut_minutes : Nat → Int32) (p1 : Int32) (p2 : Int32) (p3 : Int32) (p4 : Int32) (p5 : Int32) : Option (Nat × Int64 × (Nat → Int32)) :=
  ((f_FaultRules_isPoint p1).bind (fun t_1 => (if t_1 = 0 then (some (1, 0, v_rows_seen)) else ((f_FaultRules_isPoint p2).bind (fun t_3 => (if t_3 = 0 then (some (1, 0, v_rows_seen)) else ((f_FaultRules_isStretch p3 p4 60).bind (fun t_5 => (if t_5 = 0 then (some (1, 0, v_rows_seen)) else (if p5 < 0 then (some (1, 0, v_rows_seen)) else (if p5 ≤ 2 then ((f_Rows_rewind fu v_rows_seen).bind (fun t_9 => (L_FaultRules_line_71 fu v_rows_minutes v_rows_values v_rows_starts v_leftOut_count v_leftOut_minutes p1 p2 p4 p5 (fun (l6_71x20 : Int64) (l8_71x21 : Int64) (l10_71x22 : Int64) (l12_71x23 : Int64) (l14_71x24 : Int64) (v_rows_seen_71x25 : Nat → Int32) => (if p5 = 2 then (some (0, l6_71x20, v_rows_seen_71x25)) else ((f_FaultRules_lowest fu ((l6_71x20 * l14_71x24) - (l8_71x21 * l10_71x22)) ((l6_71x20 * l12_71x23) - (l8_71x21 * l8_71x21)) p5).bind (fun t_27 => (some (0, t_27, v_rows_seen_71x25)))))) fu 0 0 0 0 0 p3 t_9))) else (some (1, 0, v_rows_seen)))))))))))))
theorem f_FaultRules_line_u {fu : Nat} {v_rows_minutes : Nat → Int32} {v_rows_values : Nat → Int32} {v_rows_starts : Nat → Int32} {v_rows_seen : Nat → Int32} {v_leftOut_count : Int32} {v_leftOut_minutes : Nat → Int32} {p1 : Int32} {p2 : Int32} {p3 : Int32} {p4 : Int32} {p5 : Int32} {t : Nat × Int64 × (Nat → Int32)} (h : f_FaultRules_line fu v_rows_minutes v_rows_values v_rows_starts v_rows_seen v_leftOut_count v_leftOut_minutes p1 p2 p3 p4 p5 = some t) : ((f_FaultRules_isPoint p1).bind (fun t_1 => (if t_1 = 0 then (some (1, 0, v_rows_seen)) else ((f_FaultRules_isPoint p2).bind (fun t_3 => (if t_3 = 0 then (some (1, 0, v_rows_seen)) else ((f_FaultRules_isStretch p3 p4 60).bind (fun t_5 => (if t_5 = 0 then (some (1, 0, v_rows_seen)) else (if p5 < 0 then (some (1, 0, v_rows_seen)) else (if p5 ≤ 2 then ((f_Rows_rewind fu v_rows_seen).bind (fun t_9 => (L_FaultRules_line_71 fu v_rows_minutes v_rows_values v_rows_starts v_leftOut_count v_leftOut_minutes p1 p2 p4 p5 (fun (l6_71x20 : Int64) (l8_71x21 : Int64) (l10_71x22 : Int64) (l12_71x23 : Int64) (l14_71x24 : Int64) (v_rows_seen_71x25 : Nat → Int32) => (if p5 = 2 then (some (0, l6_71x20, v_rows_seen_71x25)) else ((f_FaultRules_lowest fu ((l6_71x20 * l14_71x24) - (l8_71x21 * l10_71x22)) ((l6_71x20 * l12_71x23) - (l8_71x21 * l8_71x21)) p5).bind (fun t_27 => (some (0, t_27, v_rows_seen_71x25)))))) fu 0 0 0 0 0 p3 t_9))) else (some (1, 0, v_rows_seen))))))))))))) = some t := h
def f_FaultRules_leave (fu : Nat) (v_leftOut_count : Int32) (v_leftOut_minutes : Nat → Int32) (p1 : Int32) (p2 : Int32) : Option (Nat × Int32 × Int32 × (Nat → Int32)) :=
  ((f_FaultRules_isMinute p1).bind (fun t_1 => (if t_1 = 0 then (some (1, 0, v_leftOut_count, v_leftOut_minutes)) else ((f_LeftOut_has fu v_leftOut_count v_leftOut_minutes p1).bind (fun t_3 => (if p2 = 0 then (if p2 = 0 then (if p2 = 0 then (if t_3 = 0 then (zb t_3 (some (0, t_3, v_leftOut_count, v_leftOut_minutes))) else ((f_LeftOut_remove fu v_leftOut_count v_leftOut_minutes p1).bind (fun t_10 => (zb t_3 (some (0, t_3, t_10.1, t_10.2)))))) else (zb t_3 (some (0, t_3, v_leftOut_count, v_leftOut_minutes)))) else (if t_3 = 0 then ((f_LeftOut_add v_leftOut_count v_leftOut_minutes p1).bind (fun t_19 => (if p2 = 0 then (if t_3 = 0 then (zb t_3 (some (0, t_3, t_19.1, t_19.2))) else ((f_LeftOut_remove fu t_19.1 t_19.2 p1).bind (fun t_24 => (zb t_3 (some (0, t_3, t_24.1, t_24.2)))))) else (zb t_3 (some (0, t_3, t_19.1, t_19.2)))))) else (if p2 = 0 then (if t_3 = 0 then (zb t_3 (some (0, t_3, v_leftOut_count, v_leftOut_minutes))) else ((f_LeftOut_remove fu v_leftOut_count v_leftOut_minutes p1).bind (fun t_17 => (zb t_3 (some (0, t_3, t_17.1, t_17.2)))))) else (zb t_3 (some (0, t_3, v_leftOut_count, v_leftOut_minutes)))))) else (if t_3 = 0 then ((f_LeftOut_isFull v_leftOut_count).bind (fun t_48 => (if t_48 = 0 then (if p2 = 0 then (if p2 = 0 then (if t_3 = 0 then (zb t_3 (some (0, t_3, v_leftOut_count, v_leftOut_minutes))) else ((f_LeftOut_remove fu v_leftOut_count v_leftOut_minutes p1).bind (fun t_55 => (zb t_3 (some (0, t_3, t_55.1, t_55.2)))))) else (zb t_3 (some (0, t_3, v_leftOut_count, v_leftOut_minutes)))) else (if t_3 = 0 then ((f_LeftOut_add v_leftOut_count v_leftOut_minutes p1).bind (fun t_64 => (if p2 = 0 then (if t_3 = 0 then (zb t_3 (some (0, t_3, t_64.1, t_64.2))) else ((f_LeftOut_remove fu t_64.1 t_64.2 p1).bind (fun t_69 => (zb t_3 (some (0, t_3, t_69.1, t_69.2)))))) else (zb t_3 (some (0, t_3, t_64.1, t_64.2)))))) else (if p2 = 0 then (if t_3 = 0 then (zb t_3 (some (0, t_3, v_leftOut_count, v_leftOut_minutes))) else ((f_LeftOut_remove fu v_leftOut_count v_leftOut_minutes p1).bind (fun t_62 => (zb t_3 (some (0, t_3, t_62.1, t_62.2)))))) else (zb t_3 (some (0, t_3, v_leftOut_count, v_leftOut_minutes)))))) else (some (2, 0, v_leftOut_count, v_leftOut_minutes))))) else (if p2 = 0 then (if p2 = 0 then (if t_3 = 0 then (zb t_3 (some (0, t_3, v_leftOut_count, v_leftOut_minutes))) else ((f_LeftOut_remove fu v_leftOut_count v_leftOut_minutes p1).bind (fun t_32 => (zb t_3 (some (0, t_3, t_32.1, t_32.2)))))) else (zb t_3 (some (0, t_3, v_leftOut_count, v_leftOut_minutes)))) else (if t_3 = 0 then ((f_LeftOut_add v_leftOut_count v_leftOut_minutes p1).bind (fun t_41 => (if p2 = 0 then (if t_3 = 0 then (zb t_3 (some (0, t_3, t_41.1, t_41.2))) else ((f_LeftOut_remove fu t_41.1 t_41.2 p1).bind (fun t_46 => (zb t_3 (some (0, t_3, t_46.1, t_46.2)))))) else (zb t_3 (some (0, t_3, t_41.1, t_41.2)))))) else (if p2 = 0 then (if t_3 = 0 then (zb t_3 (some (0, t_3, v_leftOut_count, v_leftOut_minutes))) else ((f_LeftOut_remove fu v_leftOut_count v_leftOut_minutes p1).bind (fun t_39 => (zb t_3 (some (0, t_3, t_39.1, t_39.2)))))) else (zb t_3 (some (0, t_3, v_leftOut_count, v_leftOut_minutes)))))))))))))
theorem f_FaultRules_leave_u {fu : Nat} {v_leftOut_count : Int32} {v_leftOut_minutes : Nat → Int32} {p1 : Int32} {p2 : Int32} {t : Nat × Int32 × Int32 × (Nat → Int32)} (h : f_FaultRules_leave fu v_leftOut_count v_leftOut_minutes p1 p2 = some t) : ((f_FaultRules_isMinute p1).bind (fun t_1 => (if t_1 = 0 then (some (1, 0, v_leftOut_count, v_leftOut_minutes)) else ((f_LeftOut_has fu v_leftOut_count v_leftOut_minutes p1).bind (fun t_3 => (if p2 = 0 then (if p2 = 0 then (if p2 = 0 then (if t_3 = 0 then (zb t_3 (some (0, t_3, v_leftOut_count, v_leftOut_minutes))) else ((f_LeftOut_remove fu v_leftOut_count v_leftOut_minutes p1).bind (fun t_10 => (zb t_3 (some (0, t_3, t_10.1, t_10.2)))))) else (zb t_3 (some (0, t_3, v_leftOut_count, v_leftOut_minutes)))) else (if t_3 = 0 then ((f_LeftOut_add v_leftOut_count v_leftOut_minutes p1).bind (fun t_19 => (if p2 = 0 then (if t_3 = 0 then (zb t_3 (some (0, t_3, t_19.1, t_19.2))) else ((f_LeftOut_remove fu t_19.1 t_19.2 p1).bind (fun t_24 => (zb t_3 (some (0, t_3, t_24.1, t_24.2)))))) else (zb t_3 (some (0, t_3, t_19.1, t_19.2)))))) else (if p2 = 0 then (if t_3 = 0 then (zb t_3 (some (0, t_3, v_leftOut_count, v_leftOut_minutes))) else ((f_LeftOut_remove fu v_leftOut_count v_leftOut_minutes p1).bind (fun t_17 => (zb t_3 (some (0, t_3, t_17.1, t_17.2)))))) else (zb t_3 (some (0, t_3, v_leftOut_count, v_leftOut_minutes)))))) else (if t_3 = 0 then ((f_LeftOut_isFull v_leftOut_count).bind (fun t_48 => (if t_48 = 0 then (if p2 = 0 then (if p2 = 0 then (if t_3 = 0 then (zb t_3 (some (0, t_3, v_leftOut_count, v_leftOut_minutes))) else ((f_LeftOut_remove fu v_leftOut_count v_leftOut_minutes p1).bind (fun t_55 => (zb t_3 (some (0, t_3, t_55.1, t_55.2)))))) else (zb t_3 (some (0, t_3, v_leftOut_count, v_leftOut_minutes)))) else (if t_3 = 0 then ((f_LeftOut_add v_leftOut_count v_leftOut_minutes p1).bind (fun t_64 => (if p2 = 0 then (if t_3 = 0 then (zb t_3 (some (0, t_3, t_64.1, t_64.2))) else ((f_LeftOut_remove fu t_64.1 t_64.2 p1).bind (fun t_69 => (zb t_3 (some (0, t_3, t_69.1, t_69.2)))))) else (zb t_3 (some (0, t_3, t_64.1, t_64.2)))))) else (if p2 = 0 then (if t_3 = 0 then (zb t_3 (some (0, t_3, v_leftOut_count, v_leftOut_minutes))) else ((f_LeftOut_remove fu v_leftOut_count v_leftOut_minutes p1).bind (fun t_62 => (zb t_3 (some (0, t_3, t_62.1, t_62.2)))))) else (zb t_3 (some (0, t_3, v_leftOut_count, v_leftOut_minutes)))))) else (some (2, 0, v_leftOut_count, v_leftOut_minutes))))) else (if p2 = 0 then (if p2 = 0 then (if t_3 = 0 then (zb t_3 (some (0, t_3, v_leftOut_count, v_leftOut_minutes))) else ((f_LeftOut_remove fu v_leftOut_count v_leftOut_minutes p1).bind (fun t_32 => (zb t_3 (some (0, t_3, t_32.1, t_32.2)))))) else (zb t_3 (some (0, t_3, v_leftOut_count, v_leftOut_minutes)))) else (if t_3 = 0 then ((f_LeftOut_add v_leftOut_count v_leftOut_minutes p1).bind (fun t_41 => (if p2 = 0 then (if t_3 = 0 then (zb t_3 (some (0, t_3, t_41.1, t_41.2))) else ((f_LeftOut_remove fu t_41.1 t_41.2 p1).bind (fun t_46 => (zb t_3 (some (0, t_3, t_46.1, t_46.2)))))) else (zb t_3 (some (0, t_3, t_41.1, t_41.2)))))) else (if p2 = 0 then (if t_3 = 0 then (zb t_3 (some (0, t_3, v_leftOut_count, v_leftOut_minutes))) else ((f_LeftOut_remove fu v_leftOut_count v_leftOut_minutes p1).bind (fun t_39 => (zb t_3 (some (0, t_3, t_39.1, t_39.2)))))) else (zb t_3 (some (0, t_3, v_leftOut_count, v_leftOut_minutes))))))))))))) = some t := h
def rm_FaultRules_fault : Room := { frames := 6, cells := 1, slots := 6, locals := 90 }
set_option maxHeartbeats 4000000 in
set_option maxRecDepth 100000 in
theorem c_FaultRules_fault (l : Launch) (dC : Nat → ClassId) (dI : Nat → Nat → Nat) (cI cL cC : ClassId) (h_this h_rows h_text h_reader h_found h_leftOut h_brought h_ruleSet h_draft h_found_minutesHeld h_found_since h_found_faultRules h_found_begins h_found_ends h_found_faultCosts : Nat) (sz : Nat) (v_found_isThere : Int32) (v_found_count : Int32) (v_found_total : Int32) (v_found_faultyRules : Int32) (v_found_faultRules : Nat → Int32) (v_found_begins : Nat → Int32) (v_found_ends : Nat → Int32) (v_found_faultCosts : Nat → Int32) (p1 : Int32) (p2 : Int32) (t : Nat × Int32) (hf : f_FaultRules_fault v_found_isThere v_found_count v_found_faultRules v_found_begins v_found_ends v_found_faultCosts p1 p2 = some t) (hltr : l.stackTraces = false) : xMet l y_FaultRules_fault (Cond.code y_FaultRules_fault prog_1_method_8_code 3 (some .int) :: xT) rm_FaultRules_fault (va_Pc [.ref h_this, .int p1, .int p2] (xPT (dC, dI) (xTy cI cL cC) [(h_this, .inr (6, [.ref h_rows, .ref h_text, .ref h_reader, .ref h_found, .ref h_leftOut, .ref h_brought, .ref h_ruleSet, .ref h_draft])), (h_found, .inr (4, [.int v_found_isThere, .int v_found_count, .int v_found_total, .int v_found_faultyRules, .ref h_found_minutesHeld, .ref h_found_since, .ref h_found_faultRules, .ref h_found_begins, .ref h_found_ends, .ref h_found_faultCosts])), (h_found_faultRules, .inl (cI, 726, .inl v_found_faultRules)), (h_found_begins, .inl (cI, 726, .inl v_found_begins)), (h_found_ends, .inl (cI, 726, .inl v_found_ends)), (h_found_faultCosts, .inl (cI, 726, .inl v_found_faultCosts))] sz)) (xQT (dC, dI) [(h_this, .inr (6, [.ref h_rows, .ref h_text, .ref h_reader, .ref h_found, .ref h_leftOut, .ref h_brought, .ref h_ruleSet, .ref h_draft])), (h_found, .inr (4, [.int v_found_isThere, .int v_found_count, .int v_found_total, .int v_found_faultyRules, .ref h_found_minutesHeld, .ref h_found_since, .ref h_found_faultRules, .ref h_found_begins, .ref h_found_ends, .ref h_found_faultCosts])), (h_found_faultRules, .inl (cI, 726, .inl v_found_faultRules)), (h_found_begins, .inl (cI, 726, .inl v_found_begins)), (h_found_ends, .inl (cI, 726, .inl v_found_ends)), (h_found_faultCosts, .inl (cI, 726, .inl v_found_faultCosts))] (va_A [(h_this, .inr (6, [.ref h_rows, .ref h_text, .ref h_reader, .ref h_found, .ref h_leftOut, .ref h_brought, .ref h_ruleSet, .ref h_draft])), (h_found, .inr (4, [.int v_found_isThere, .int v_found_count, .int v_found_total, .int v_found_faultyRules, .ref h_found_minutesHeld, .ref h_found_since, .ref h_found_faultRules, .ref h_found_begins, .ref h_found_ends, .ref h_found_faultCosts])), (h_found_faultRules, .inl (cI, 726, .inl v_found_faultRules)), (h_found_begins, .inl (cI, 726, .inl v_found_begins)), (h_found_ends, .inl (cI, 726, .inl v_found_ends)), (h_found_faultCosts, .inl (cI, 726, .inl v_found_faultCosts))] sz) t.1 (some (.int t.2))) 1 6 (va_A [(h_this, .inr (6, [.ref h_rows, .ref h_text, .ref h_reader, .ref h_found, .ref h_leftOut, .ref h_brought, .ref h_ruleSet, .ref h_draft])), (h_found, .inr (4, [.int v_found_isThere, .int v_found_count, .int v_found_total, .int v_found_faultyRules, .ref h_found_minutesHeld, .ref h_found_since, .ref h_found_faultRules, .ref h_found_begins, .ref h_found_ends, .ref h_found_faultCosts])), (h_found_faultRules, .inl (cI, 726, .inl v_found_faultRules)), (h_found_begins, .inl (cI, 726, .inl v_found_begins)), (h_found_ends, .inl (cI, 726, .inl v_found_ends)), (h_found_faultCosts, .inl (cI, 726, .inl v_found_faultCosts))] sz) := by
  refine xMet_ofW (cc := prog_1_method_8_code) (maxL := 3) (ret := (some .int)) (by decide) rfl ?_
  intro p e s m args below meth c s₁ B hml hv
  obtain ⟨hargs, ⟨hsz, hP, hK, hN, hD0⟩, hxW⟩ := hv
  have hx := B.exec
  have hb := B.bytes
  have hr := B.returns
  have hT : ∀ w ∈ xT, w.before args s = true := fun w hw => atoms_spec (ws := Cond.code y_FaultRules_fault prog_1_method_8_code 3 (some .int) :: xT) B.pre w (List.mem_cons_of_mem _ hw)
  have hown : s.vm.findClass R_FaultRules = some m.cls := findClass_of_methodNamed B.named
  have hlocks := B.notSynchronized
  subst hsz
  have hD := hD0.self (sz := s.heap.size)
  have hNS : ∀ (q : Nat) (cell : Cell), va_A [(h_this, .inr (6, [.ref h_rows, .ref h_text, .ref h_reader, .ref h_found, .ref h_leftOut, .ref h_brought, .ref h_ruleSet, .ref h_draft])), (h_found, .inr (4, [.int v_found_isThere, .int v_found_count, .int v_found_total, .int v_found_faultyRules, .ref h_found_minutesHeld, .ref h_found_since, .ref h_found_faultRules, .ref h_found_begins, .ref h_found_ends, .ref h_found_faultCosts])), (h_found_faultRules, .inl (cI, 726, .inl v_found_faultRules)), (h_found_begins, .inl (cI, 726, .inl v_found_begins)), (h_found_ends, .inl (cI, 726, .inl v_found_ends)), (h_found_faultCosts, .inl (cI, 726, .inl v_found_faultCosts))] s.heap.size q → s.heap[q]? = some cell → cell.vm.isStatics = false := x_noSt hP
  have hnh : c.exceptionTable.toList = [] := x_nh B (atoms_spec (ws := Cond.code y_FaultRules_fault prog_1_method_8_code 3 (some .int) :: xT) B.pre _ List.mem_cons_self)
  generalize hAe : va_A [(h_this, .inr (6, [.ref h_rows, .ref h_text, .ref h_reader, .ref h_found, .ref h_leftOut, .ref h_brought, .ref h_ruleSet, .ref h_draft])), (h_found, .inr (4, [.int v_found_isThere, .int v_found_count, .int v_found_total, .int v_found_faultyRules, .ref h_found_minutesHeld, .ref h_found_since, .ref h_found_faultRules, .ref h_found_begins, .ref h_found_ends, .ref h_found_faultCosts])), (h_found_faultRules, .inl (cI, 726, .inl v_found_faultRules)), (h_found_begins, .inl (cI, 726, .inl v_found_begins)), (h_found_ends, .inl (cI, 726, .inl v_found_ends)), (h_found_faultCosts, .inl (cI, 726, .inl v_found_faultCosts))] s.heap.size = A at hD hNS ⊢
  have hA : ∀ q : Nat, s.heap.size ≤ q → A q := fun q h => by rw [← hAe]; exact Or.inr h
  have hS : va_S A s.heap s.heap [] := va_S.rf
  have hP : va_P (dC, dI) vwCl [(h_this, .inr (6, [.ref h_rows, .ref h_text, .ref h_reader, .ref h_found, .ref h_leftOut, .ref h_brought, .ref h_ruleSet, .ref h_draft])), (h_found, .inr (4, [.int v_found_isThere, .int v_found_count, .int v_found_total, .int v_found_faultyRules, .ref h_found_minutesHeld, .ref h_found_since, .ref h_found_faultRules, .ref h_found_begins, .ref h_found_ends, .ref h_found_faultCosts])), (h_found_faultRules, .inl (cI, 726, .inl v_found_faultRules)), (h_found_begins, .inl (cI, 726, .inl v_found_begins)), (h_found_ends, .inl (cI, 726, .inl v_found_ends)), (h_found_faultCosts, .inl (cI, 726, .inl v_found_faultCosts))] s.heap := hP
  have hl := lv_entry ([.ref h_this, .int p1, .int p2]) (n := 3) (Nat.le_of_ble_eq_true rfl)
  rw [show entryFrame m args 3 = entryFrame m ([.ref h_this, .int p1, .int p2] : List Value).toArray 3 from by rw [hargs], lg_entry_eq]
  generalize (lg_sl ([.ref h_this, .int p1, .int p2]) ++ List.replicate (3 - (lg_sl ([.ref h_this, .int p1, .int p2])).length) Slot.unset).toArray = ls at hl ⊢
  have hl : lv_has ls 3 [(0, .ref h_this), (1, .int p1), (2, .int p2)] := hl
  obtain ⟨Q, hQ⟩ : ∃ Q, Q = xMQ below (xQT (dC, dI) [(h_this, .inr (6, [.ref h_rows, .ref h_text, .ref h_reader, .ref h_found, .ref h_leftOut, .ref h_brought, .ref h_ruleSet, .ref h_draft])), (h_found, .inr (4, [.int v_found_isThere, .int v_found_count, .int v_found_total, .int v_found_faultyRules, .ref h_found_minutesHeld, .ref h_found_since, .ref h_found_faultRules, .ref h_found_begins, .ref h_found_ends, .ref h_found_faultCosts])), (h_found_faultRules, .inl (cI, 726, .inl v_found_faultRules)), (h_found_begins, .inl (cI, 726, .inl v_found_begins)), (h_found_ends, .inl (cI, 726, .inl v_found_ends)), (h_found_faultCosts, .inl (cI, 726, .inl v_found_faultCosts))] A t.1 (some (.int t.2))) args s 1 6 A := ⟨_, rfl⟩
  rw [← hQ]
  show W p l e rm_FaultRules_fault s m args below meth c s.heap [] 0 0 Q _
  obtain ⟨H, hH⟩ : ∃ H, H = s.heap := ⟨_, rfl⟩
  obtain ⟨locs, hlocs⟩ : ∃ L : List Loc, L = [] := ⟨_, rfl⟩
  rw [← hlocs] at hS ⊢
  have hS : va_S A s.heap H locs := by rw [hH]; exact hS
  rw [← hH] at hP ⊢
  replace hf := f_FaultRules_fault_u hf
  refine lv_iload_n hx hb d_FaultRules_fault_0 rfl (lv_at hl 1 rfl) ?_
  refine lv_if_lt (tgt := 13) hx hb d_FaultRules_fault_1 (by decide) (fun c_1 => ?_) (fun c_1 => ?_)
  · replace hf := o_pos c_1 hf
    rw [hQ, ← Option.some.inj hf]
    exact x_throw hx hb hltr hml hl.1 hown hT hxW hNS hP hS hA hlocks hnh 1 (by decide) kA_IAE kE_IAE kN_IAE kO_IAE (List.mem_of_getElem? (i := 9) rfl) (by decide +kernel) d_FaultRules_fault_13 d_FaultRules_fault_16 d_FaultRules_fault_17 d_FaultRules_fault_19 d_FaultRules_fault_22 (Nat.le_of_ble_eq_true rfl) (Nat.le_of_ble_eq_true rfl) (Nat.le_of_ble_eq_true rfl) (Nat.le_of_ble_eq_true rfl)
  · replace hf := o_neg c_1 hf
    refine lv_iload_n hx hb d_FaultRules_fault_4 rfl (lv_at hl 2 rfl) ?_
    refine lv_if_lt (tgt := 13) hx hb d_FaultRules_fault_5 (by decide) (fun c_2 => ?_) (fun c_2 => ?_)
    · replace hf := o_pos c_2 hf
      rw [hQ, ← Option.some.inj hf]
      exact x_throw hx hb hltr hml hl.1 hown hT hxW hNS hP hS hA hlocks hnh 1 (by decide) kA_IAE kE_IAE kN_IAE kO_IAE (List.mem_of_getElem? (i := 9) rfl) (by decide +kernel) d_FaultRules_fault_13 d_FaultRules_fault_16 d_FaultRules_fault_17 d_FaultRules_fault_19 d_FaultRules_fault_22 (Nat.le_of_ble_eq_true rfl) (Nat.le_of_ble_eq_true rfl) (Nat.le_of_ble_eq_true rfl) (Nat.le_of_ble_eq_true rfl)
    · replace hf := o_neg c_2 hf
      refine lv_iload_n hx hb d_FaultRules_fault_8 rfl (lv_at hl 2 rfl) ?_
      refine lv_iconst (v := 3) hx hb d_FaultRules_fault_9 (by decide) ?_
      refine lv_icmp_le (tgt := 23) hx hb d_FaultRules_fault_10 (by decide) (fun c_3 => ?_) (fun c_3 => ?_)
      · replace hf := o_pos c_3 hf
        refine lv_aload_n hx hb d_FaultRules_fault_23 rfl (lv_at hl 0 rfl) ?_
        refine va_get (D := (dC, dI)) (ci := 6) (v := .ref h_found) (C := R_FaultRules) (T := T_FaultRules) (N := 8) hx hb hT i_FaultRules hown hK hP 0 rfl rfl 3 (by decide) (hT _ kF_FaultRules_33) (fun _ h9 => h9) rfl d_FaultRules_fault_24 ?_
        refine va_get (D := (dC, dI)) (ci := 4) (v := .int v_found_isThere) (C := R_Run) (T := T_Run) (N := 10) hx hb hT i_Run hown hK hP 1 rfl rfl 0 (by decide) (hT _ kF_FaultRules_127) (fun _ h9 => h9) rfl d_FaultRules_fault_27 ?_
        refine lv_if_ne (tgt := 43) hx hb d_FaultRules_fault_30 (by decide) (fun c_4 => ?_) (fun c_4 => ?_)
        · replace hf := o_neg c_4 hf
          refine lv_iload_n hx hb d_FaultRules_fault_43 rfl (lv_at hl 1 rfl) ?_
          refine lv_aload_n hx hb d_FaultRules_fault_44 rfl (lv_at hl 0 rfl) ?_
          refine va_get (D := (dC, dI)) (ci := 6) (v := .ref h_found) (C := R_FaultRules) (T := T_FaultRules) (N := 8) hx hb hT i_FaultRules hown hK hP 0 rfl rfl 3 (by decide) (hT _ kF_FaultRules_33) (fun _ h9 => h9) rfl d_FaultRules_fault_45 ?_
          refine va_get (D := (dC, dI)) (ci := 4) (v := .int v_found_count) (C := R_Run) (T := T_Run) (N := 10) hx hb hT i_Run hown hK hP 1 rfl rfl 1 (by decide) (hT _ kF_FaultRules_146) (fun _ h9 => h9) rfl d_FaultRules_fault_48 ?_
          refine lv_icmp_ge (tgt := 66) hx hb d_FaultRules_fault_51 (by decide) (fun c_5 => ?_) (fun c_5 => ?_)
          · replace hf := o_pos c_5 hf
            refine lv_iconst (v := (-1)) hx hb d_FaultRules_fault_66 (by decide) ?_
            rw [hQ, ← Option.some.inj hf]
            refine x_ret ?_
            refine W.widen (k := 1) (n := 6) (Nat.zero_le _) (Nat.zero_le _) ?_
            exact W.iret hx hb hr (fun t9 ht9 hW9 => ⟨by rw [ht9]; exact hP, hS.F ht9, Or.inl ⟨rfl, rfl⟩⟩) hS.2.2 d_FaultRules_fault_67
          · replace hf := o_neg c_5 hf
            refine lv_aload_n hx hb d_FaultRules_fault_54 rfl (lv_at hl 0 rfl) ?_
            refine va_get (D := (dC, dI)) (ci := 6) (v := .ref h_found) (C := R_FaultRules) (T := T_FaultRules) (N := 8) hx hb hT i_FaultRules hown hK hP 0 rfl rfl 3 (by decide) (hT _ kF_FaultRules_33) (fun _ h9 => h9) rfl d_FaultRules_fault_55 ?_
            refine lv_iload_n hx hb d_FaultRules_fault_58 rfl (lv_at hl 1 rfl) ?_
            refine lv_iload_n hx hb d_FaultRules_fault_59 rfl (lv_at hl 2 rfl) ?_
            obtain ⟨t_6, hg_6, hf⟩ := o_bind hf
            refine x_virt (w' := [(h_this, .inr (6, [.ref h_rows, .ref h_text, .ref h_reader, .ref h_found, .ref h_leftOut, .ref h_brought, .ref h_ruleSet, .ref h_draft])), (h_found, .inr (4, [.int v_found_isThere, .int v_found_count, .int v_found_total, .int v_found_faultyRules, .ref h_found_minutesHeld, .ref h_found_since, .ref h_found_faultRules, .ref h_found_begins, .ref h_found_ends, .ref h_found_faultCosts])), (h_found_faultRules, .inl (cI, 726, .inl v_found_faultRules)), (h_found_begins, .inl (cI, 726, .inl v_found_begins)), (h_found_ends, .inl (cI, 726, .inl v_found_ends)), (h_found_faultCosts, .inl (cI, 726, .inl v_found_faultCosts))]) (As := [.int p1, .int p2]) (rest := []) hx hb hml hl.1 hown hT hK hN hP hD hS hA (c_Run_part l dC dI cI cL cC h_found h_found_minutesHeld h_found_since h_found_faultRules h_found_begins h_found_ends h_found_faultCosts H.size v_found_isThere v_found_count v_found_total v_found_faultyRules v_found_faultRules v_found_begins v_found_ends v_found_faultCosts p1 p2 t_6 hg_6) kM_FaultRules_151 kI_Run_part kS_320 kN_Run kC_Run_part hd_Run_part rfl 1 rfl rfl rfl ⟨Nat.le_of_ble_eq_true rfl, Nat.le_of_ble_eq_true rfl⟩ rfl rfl ⟨Nat.zero_le _, Nat.zero_le _⟩ rfl (Nat.le_of_ble_eq_true rfl) d_FaultRules_fault_60 [1, 2, 3, 4, 5] rfl rfl [.inl 0, .inr 0, .inr 1, .inr 2, .inr 3, .inr 4] rfl rfl rfl (fun H locs hP hD hS => ?_)
            refine lv_goto (tgt := 67) hx hb d_FaultRules_fault_63 (by decide) ?_
            rw [hQ, ← Option.some.inj hf]
            refine x_ret ?_
            refine W.widen (k := 1) (n := 6) (Nat.zero_le _) (Nat.zero_le _) ?_
            exact W.iret hx hb hr (fun t9 ht9 hW9 => ⟨by rw [ht9]; exact hP, hS.F ht9, Or.inl ⟨rfl, rfl⟩⟩) hS.2.2 d_FaultRules_fault_67
        · replace hf := o_pos c_4 hf
          rw [hQ, ← Option.some.inj hf]
          exact x_throw hx hb hltr hml hl.1 hown hT hxW hNS hP hS hA hlocks hnh 2 (by decide) kA_ISE kE_ISE kN_ISE kO_ISE (List.mem_of_getElem? (i := 10) rfl) (by decide +kernel) d_FaultRules_fault_33 d_FaultRules_fault_36 d_FaultRules_fault_37 d_FaultRules_fault_39 d_FaultRules_fault_42 (Nat.le_of_ble_eq_true rfl) (Nat.le_of_ble_eq_true rfl) (Nat.le_of_ble_eq_true rfl) (Nat.le_of_ble_eq_true rfl)
      · replace hf := o_neg c_3 hf
        rw [hQ, ← Option.some.inj hf]
        exact x_throw hx hb hltr hml hl.1 hown hT hxW hNS hP hS hA hlocks hnh 1 (by decide) kA_IAE kE_IAE kN_IAE kO_IAE (List.mem_of_getElem? (i := 9) rfl) (by decide +kernel) d_FaultRules_fault_13 d_FaultRules_fault_16 d_FaultRules_fault_17 d_FaultRules_fault_19 d_FaultRules_fault_22 (Nat.le_of_ble_eq_true rfl) (Nat.le_of_ble_eq_true rfl) (Nat.le_of_ble_eq_true rfl) (Nat.le_of_ble_eq_true rfl)
def rm_FaultRules_money : Room := { frames := 6, cells := 1, slots := 6, locals := 90 }
set_option maxHeartbeats 4000000 in
set_option maxRecDepth 100000 in
theorem c_FaultRules_money (l : Launch) (dC : Nat → ClassId) (dI : Nat → Nat → Nat) (cI cL cC : ClassId) (h_this h_rows h_text h_reader h_found h_leftOut h_brought h_ruleSet h_draft h_found_minutesHeld h_found_since h_found_faultRules h_found_begins h_found_ends h_found_faultCosts : Nat) (sz : Nat) (v_found_isThere : Int32) (v_found_count : Int32) (v_found_total : Int32) (v_found_faultyRules : Int32) (t : Nat × Int32) (hf : f_FaultRules_money v_found_isThere v_found_total = some t) (hltr : l.stackTraces = false) : xMet l y_FaultRules_money (Cond.code y_FaultRules_money prog_1_method_9_code 1 (some .int) :: xT) rm_FaultRules_money (va_Pc [.ref h_this] (xPT (dC, dI) (xTy cI cL cC) [(h_this, .inr (6, [.ref h_rows, .ref h_text, .ref h_reader, .ref h_found, .ref h_leftOut, .ref h_brought, .ref h_ruleSet, .ref h_draft])), (h_found, .inr (4, [.int v_found_isThere, .int v_found_count, .int v_found_total, .int v_found_faultyRules, .ref h_found_minutesHeld, .ref h_found_since, .ref h_found_faultRules, .ref h_found_begins, .ref h_found_ends, .ref h_found_faultCosts]))] sz)) (xQT (dC, dI) [(h_this, .inr (6, [.ref h_rows, .ref h_text, .ref h_reader, .ref h_found, .ref h_leftOut, .ref h_brought, .ref h_ruleSet, .ref h_draft])), (h_found, .inr (4, [.int v_found_isThere, .int v_found_count, .int v_found_total, .int v_found_faultyRules, .ref h_found_minutesHeld, .ref h_found_since, .ref h_found_faultRules, .ref h_found_begins, .ref h_found_ends, .ref h_found_faultCosts]))] (va_A [(h_this, .inr (6, [.ref h_rows, .ref h_text, .ref h_reader, .ref h_found, .ref h_leftOut, .ref h_brought, .ref h_ruleSet, .ref h_draft])), (h_found, .inr (4, [.int v_found_isThere, .int v_found_count, .int v_found_total, .int v_found_faultyRules, .ref h_found_minutesHeld, .ref h_found_since, .ref h_found_faultRules, .ref h_found_begins, .ref h_found_ends, .ref h_found_faultCosts]))] sz) t.1 (some (.int t.2))) 1 6 (va_A [(h_this, .inr (6, [.ref h_rows, .ref h_text, .ref h_reader, .ref h_found, .ref h_leftOut, .ref h_brought, .ref h_ruleSet, .ref h_draft])), (h_found, .inr (4, [.int v_found_isThere, .int v_found_count, .int v_found_total, .int v_found_faultyRules, .ref h_found_minutesHeld, .ref h_found_since, .ref h_found_faultRules, .ref h_found_begins, .ref h_found_ends, .ref h_found_faultCosts]))] sz) := by
  refine xMet_ofW (cc := prog_1_method_9_code) (maxL := 1) (ret := (some .int)) (by decide) rfl ?_
  intro p e s m args below meth c s₁ B hml hv
  obtain ⟨hargs, ⟨hsz, hP, hK, hN, hD0⟩, hxW⟩ := hv
  have hx := B.exec
  have hb := B.bytes
  have hr := B.returns
  have hT : ∀ w ∈ xT, w.before args s = true := fun w hw => atoms_spec (ws := Cond.code y_FaultRules_money prog_1_method_9_code 1 (some .int) :: xT) B.pre w (List.mem_cons_of_mem _ hw)
  have hown : s.vm.findClass R_FaultRules = some m.cls := findClass_of_methodNamed B.named
  have hlocks := B.notSynchronized
  subst hsz
  have hD := hD0.self (sz := s.heap.size)
  have hNS : ∀ (q : Nat) (cell : Cell), va_A [(h_this, .inr (6, [.ref h_rows, .ref h_text, .ref h_reader, .ref h_found, .ref h_leftOut, .ref h_brought, .ref h_ruleSet, .ref h_draft])), (h_found, .inr (4, [.int v_found_isThere, .int v_found_count, .int v_found_total, .int v_found_faultyRules, .ref h_found_minutesHeld, .ref h_found_since, .ref h_found_faultRules, .ref h_found_begins, .ref h_found_ends, .ref h_found_faultCosts]))] s.heap.size q → s.heap[q]? = some cell → cell.vm.isStatics = false := x_noSt hP
  have hnh : c.exceptionTable.toList = [] := x_nh B (atoms_spec (ws := Cond.code y_FaultRules_money prog_1_method_9_code 1 (some .int) :: xT) B.pre _ List.mem_cons_self)
  generalize hAe : va_A [(h_this, .inr (6, [.ref h_rows, .ref h_text, .ref h_reader, .ref h_found, .ref h_leftOut, .ref h_brought, .ref h_ruleSet, .ref h_draft])), (h_found, .inr (4, [.int v_found_isThere, .int v_found_count, .int v_found_total, .int v_found_faultyRules, .ref h_found_minutesHeld, .ref h_found_since, .ref h_found_faultRules, .ref h_found_begins, .ref h_found_ends, .ref h_found_faultCosts]))] s.heap.size = A at hD hNS ⊢
  have hA : ∀ q : Nat, s.heap.size ≤ q → A q := fun q h => by rw [← hAe]; exact Or.inr h
  have hS : va_S A s.heap s.heap [] := va_S.rf
  have hP : va_P (dC, dI) vwCl [(h_this, .inr (6, [.ref h_rows, .ref h_text, .ref h_reader, .ref h_found, .ref h_leftOut, .ref h_brought, .ref h_ruleSet, .ref h_draft])), (h_found, .inr (4, [.int v_found_isThere, .int v_found_count, .int v_found_total, .int v_found_faultyRules, .ref h_found_minutesHeld, .ref h_found_since, .ref h_found_faultRules, .ref h_found_begins, .ref h_found_ends, .ref h_found_faultCosts]))] s.heap := hP
  have hl := lv_entry ([.ref h_this]) (n := 1) (Nat.le_of_ble_eq_true rfl)
  rw [show entryFrame m args 1 = entryFrame m ([.ref h_this] : List Value).toArray 1 from by rw [hargs], lg_entry_eq]
  generalize (lg_sl ([.ref h_this]) ++ List.replicate (1 - (lg_sl ([.ref h_this])).length) Slot.unset).toArray = ls at hl ⊢
  have hl : lv_has ls 1 [(0, .ref h_this)] := hl
  obtain ⟨Q, hQ⟩ : ∃ Q, Q = xMQ below (xQT (dC, dI) [(h_this, .inr (6, [.ref h_rows, .ref h_text, .ref h_reader, .ref h_found, .ref h_leftOut, .ref h_brought, .ref h_ruleSet, .ref h_draft])), (h_found, .inr (4, [.int v_found_isThere, .int v_found_count, .int v_found_total, .int v_found_faultyRules, .ref h_found_minutesHeld, .ref h_found_since, .ref h_found_faultRules, .ref h_found_begins, .ref h_found_ends, .ref h_found_faultCosts]))] A t.1 (some (.int t.2))) args s 1 6 A := ⟨_, rfl⟩
  rw [← hQ]
  show W p l e rm_FaultRules_money s m args below meth c s.heap [] 0 0 Q _
  obtain ⟨H, hH⟩ : ∃ H, H = s.heap := ⟨_, rfl⟩
  obtain ⟨locs, hlocs⟩ : ∃ L : List Loc, L = [] := ⟨_, rfl⟩
  rw [← hlocs] at hS ⊢
  have hS : va_S A s.heap H locs := by rw [hH]; exact hS
  rw [← hH] at hP ⊢
  replace hf := f_FaultRules_money_u hf
  refine lv_aload_n hx hb d_FaultRules_money_0 rfl (lv_at hl 0 rfl) ?_
  refine va_get (D := (dC, dI)) (ci := 6) (v := .ref h_found) (C := R_FaultRules) (T := T_FaultRules) (N := 8) hx hb hT i_FaultRules hown hK hP 0 rfl rfl 3 (by decide) (hT _ kF_FaultRules_33) (fun _ h9 => h9) rfl d_FaultRules_money_1 ?_
  refine va_get (D := (dC, dI)) (ci := 4) (v := .int v_found_isThere) (C := R_Run) (T := T_Run) (N := 10) hx hb hT i_Run hown hK hP 1 rfl rfl 0 (by decide) (hT _ kF_FaultRules_127) (fun _ h9 => h9) rfl d_FaultRules_money_4 ?_
  refine lv_if_ne (tgt := 20) hx hb d_FaultRules_money_7 (by decide) (fun c_1 => ?_) (fun c_1 => ?_)
  · replace hf := o_neg c_1 hf
    refine lv_aload_n hx hb d_FaultRules_money_20 rfl (lv_at hl 0 rfl) ?_
    refine va_get (D := (dC, dI)) (ci := 6) (v := .ref h_found) (C := R_FaultRules) (T := T_FaultRules) (N := 8) hx hb hT i_FaultRules hown hK hP 0 rfl rfl 3 (by decide) (hT _ kF_FaultRules_33) (fun _ h9 => h9) rfl d_FaultRules_money_21 ?_
    refine va_get (D := (dC, dI)) (ci := 4) (v := .int v_found_total) (C := R_Run) (T := T_Run) (N := 10) hx hb hT i_Run hown hK hP 1 rfl rfl 2 (by decide) (hT _ kF_FaultRules_155) (fun _ h9 => h9) rfl d_FaultRules_money_24 ?_
    rw [hQ, ← Option.some.inj hf]
    refine x_ret ?_
    refine W.widen (k := 1) (n := 6) (Nat.zero_le _) (Nat.zero_le _) ?_
    exact W.iret hx hb hr (fun t9 ht9 hW9 => ⟨by rw [ht9]; exact hP, hS.F ht9, Or.inl ⟨rfl, rfl⟩⟩) hS.2.2 d_FaultRules_money_27
  · replace hf := o_pos c_1 hf
    rw [hQ, ← Option.some.inj hf]
    exact x_throw hx hb hltr hml hl.1 hown hT hxW hNS hP hS hA hlocks hnh 2 (by decide) kA_ISE kE_ISE kN_ISE kO_ISE (List.mem_of_getElem? (i := 10) rfl) (by decide +kernel) d_FaultRules_money_10 d_FaultRules_money_13 d_FaultRules_money_14 d_FaultRules_money_16 d_FaultRules_money_19 (Nat.le_of_ble_eq_true rfl) (Nat.le_of_ble_eq_true rfl) (Nat.le_of_ble_eq_true rfl) (Nat.le_of_ble_eq_true rfl)
def rm_FaultRules_held : Room := { frames := 6, cells := 1, slots := 6, locals := 90 }
set_option maxHeartbeats 4000000 in
set_option maxRecDepth 100000 in
theorem c_FaultRules_held (l : Launch) (dC : Nat → ClassId) (dI : Nat → Nat → Nat) (cI cL cC : ClassId) (h_this h_rows h_text h_reader h_found h_leftOut h_brought h_ruleSet h_draft h_found_minutesHeld h_found_since h_found_faultRules h_found_begins h_found_ends h_found_faultCosts h_ruleSet_names h_ruleSet_spans h_ruleSet_costs h_ruleSet_sizes h_ruleSet_kinds h_ruleSet_firsts h_ruleSet_seconds h_ruleSet_numbers : Nat) (sz : Nat) (v_found_isThere : Int32) (v_found_count : Int32) (v_found_total : Int32) (v_found_faultyRules : Int32) (v_found_minutesHeld : Nat → Int32) (v_ruleSet_count : Int32) (p1 : Int32) (t : Nat × Int32) (hf : f_FaultRules_held v_found_isThere v_found_minutesHeld v_ruleSet_count p1 = some t) (hltr : l.stackTraces = false) : xMet l y_FaultRules_held (Cond.code y_FaultRules_held prog_1_method_10_code 2 (some .int) :: xT) rm_FaultRules_held (va_Pc [.ref h_this, .int p1] (xPT (dC, dI) (xTy cI cL cC) [(h_this, .inr (6, [.ref h_rows, .ref h_text, .ref h_reader, .ref h_found, .ref h_leftOut, .ref h_brought, .ref h_ruleSet, .ref h_draft])), (h_found, .inr (4, [.int v_found_isThere, .int v_found_count, .int v_found_total, .int v_found_faultyRules, .ref h_found_minutesHeld, .ref h_found_since, .ref h_found_faultRules, .ref h_found_begins, .ref h_found_ends, .ref h_found_faultCosts])), (h_found_minutesHeld, .inl (cI, 6, .inl v_found_minutesHeld)), (h_ruleSet, .inr (3, [.ref h_ruleSet_names, .ref h_ruleSet_spans, .ref h_ruleSet_costs, .ref h_ruleSet_sizes, .ref h_ruleSet_kinds, .ref h_ruleSet_firsts, .ref h_ruleSet_seconds, .ref h_ruleSet_numbers, .int v_ruleSet_count]))] sz)) (xQT (dC, dI) [(h_this, .inr (6, [.ref h_rows, .ref h_text, .ref h_reader, .ref h_found, .ref h_leftOut, .ref h_brought, .ref h_ruleSet, .ref h_draft])), (h_found, .inr (4, [.int v_found_isThere, .int v_found_count, .int v_found_total, .int v_found_faultyRules, .ref h_found_minutesHeld, .ref h_found_since, .ref h_found_faultRules, .ref h_found_begins, .ref h_found_ends, .ref h_found_faultCosts])), (h_found_minutesHeld, .inl (cI, 6, .inl v_found_minutesHeld)), (h_ruleSet, .inr (3, [.ref h_ruleSet_names, .ref h_ruleSet_spans, .ref h_ruleSet_costs, .ref h_ruleSet_sizes, .ref h_ruleSet_kinds, .ref h_ruleSet_firsts, .ref h_ruleSet_seconds, .ref h_ruleSet_numbers, .int v_ruleSet_count]))] (va_A [(h_this, .inr (6, [.ref h_rows, .ref h_text, .ref h_reader, .ref h_found, .ref h_leftOut, .ref h_brought, .ref h_ruleSet, .ref h_draft])), (h_found, .inr (4, [.int v_found_isThere, .int v_found_count, .int v_found_total, .int v_found_faultyRules, .ref h_found_minutesHeld, .ref h_found_since, .ref h_found_faultRules, .ref h_found_begins, .ref h_found_ends, .ref h_found_faultCosts])), (h_found_minutesHeld, .inl (cI, 6, .inl v_found_minutesHeld)), (h_ruleSet, .inr (3, [.ref h_ruleSet_names, .ref h_ruleSet_spans, .ref h_ruleSet_costs, .ref h_ruleSet_sizes, .ref h_ruleSet_kinds, .ref h_ruleSet_firsts, .ref h_ruleSet_seconds, .ref h_ruleSet_numbers, .int v_ruleSet_count]))] sz) t.1 (some (.int t.2))) 1 6 (va_A [(h_this, .inr (6, [.ref h_rows, .ref h_text, .ref h_reader, .ref h_found, .ref h_leftOut, .ref h_brought, .ref h_ruleSet, .ref h_draft])), (h_found, .inr (4, [.int v_found_isThere, .int v_found_count, .int v_found_total, .int v_found_faultyRules, .ref h_found_minutesHeld, .ref h_found_since, .ref h_found_faultRules, .ref h_found_begins, .ref h_found_ends, .ref h_found_faultCosts])), (h_found_minutesHeld, .inl (cI, 6, .inl v_found_minutesHeld)), (h_ruleSet, .inr (3, [.ref h_ruleSet_names, .ref h_ruleSet_spans, .ref h_ruleSet_costs, .ref h_ruleSet_sizes, .ref h_ruleSet_kinds, .ref h_ruleSet_firsts, .ref h_ruleSet_seconds, .ref h_ruleSet_numbers, .int v_ruleSet_count]))] sz) := by
  refine xMet_ofW (cc := prog_1_method_10_code) (maxL := 2) (ret := (some .int)) (by decide) rfl ?_
  intro p e s m args below meth c s₁ B hml hv
  obtain ⟨hargs, ⟨hsz, hP, hK, hN, hD0⟩, hxW⟩ := hv
  have hx := B.exec
  have hb := B.bytes
  have hr := B.returns
  have hT : ∀ w ∈ xT, w.before args s = true := fun w hw => atoms_spec (ws := Cond.code y_FaultRules_held prog_1_method_10_code 2 (some .int) :: xT) B.pre w (List.mem_cons_of_mem _ hw)
  have hown : s.vm.findClass R_FaultRules = some m.cls := findClass_of_methodNamed B.named
  have hlocks := B.notSynchronized
  subst hsz
  have hD := hD0.self (sz := s.heap.size)
  have hNS : ∀ (q : Nat) (cell : Cell), va_A [(h_this, .inr (6, [.ref h_rows, .ref h_text, .ref h_reader, .ref h_found, .ref h_leftOut, .ref h_brought, .ref h_ruleSet, .ref h_draft])), (h_found, .inr (4, [.int v_found_isThere, .int v_found_count, .int v_found_total, .int v_found_faultyRules, .ref h_found_minutesHeld, .ref h_found_since, .ref h_found_faultRules, .ref h_found_begins, .ref h_found_ends, .ref h_found_faultCosts])), (h_found_minutesHeld, .inl (cI, 6, .inl v_found_minutesHeld)), (h_ruleSet, .inr (3, [.ref h_ruleSet_names, .ref h_ruleSet_spans, .ref h_ruleSet_costs, .ref h_ruleSet_sizes, .ref h_ruleSet_kinds, .ref h_ruleSet_firsts, .ref h_ruleSet_seconds, .ref h_ruleSet_numbers, .int v_ruleSet_count]))] s.heap.size q → s.heap[q]? = some cell → cell.vm.isStatics = false := x_noSt hP
  have hnh : c.exceptionTable.toList = [] := x_nh B (atoms_spec (ws := Cond.code y_FaultRules_held prog_1_method_10_code 2 (some .int) :: xT) B.pre _ List.mem_cons_self)
  generalize hAe : va_A [(h_this, .inr (6, [.ref h_rows, .ref h_text, .ref h_reader, .ref h_found, .ref h_leftOut, .ref h_brought, .ref h_ruleSet, .ref h_draft])), (h_found, .inr (4, [.int v_found_isThere, .int v_found_count, .int v_found_total, .int v_found_faultyRules, .ref h_found_minutesHeld, .ref h_found_since, .ref h_found_faultRules, .ref h_found_begins, .ref h_found_ends, .ref h_found_faultCosts])), (h_found_minutesHeld, .inl (cI, 6, .inl v_found_minutesHeld)), (h_ruleSet, .inr (3, [.ref h_ruleSet_names, .ref h_ruleSet_spans, .ref h_ruleSet_costs, .ref h_ruleSet_sizes, .ref h_ruleSet_kinds, .ref h_ruleSet_firsts, .ref h_ruleSet_seconds, .ref h_ruleSet_numbers, .int v_ruleSet_count]))] s.heap.size = A at hD hNS ⊢
  have hA : ∀ q : Nat, s.heap.size ≤ q → A q := fun q h => by rw [← hAe]; exact Or.inr h
  have hS : va_S A s.heap s.heap [] := va_S.rf
  have hP : va_P (dC, dI) vwCl [(h_this, .inr (6, [.ref h_rows, .ref h_text, .ref h_reader, .ref h_found, .ref h_leftOut, .ref h_brought, .ref h_ruleSet, .ref h_draft])), (h_found, .inr (4, [.int v_found_isThere, .int v_found_count, .int v_found_total, .int v_found_faultyRules, .ref h_found_minutesHeld, .ref h_found_since, .ref h_found_faultRules, .ref h_found_begins, .ref h_found_ends, .ref h_found_faultCosts])), (h_found_minutesHeld, .inl (cI, 6, .inl v_found_minutesHeld)), (h_ruleSet, .inr (3, [.ref h_ruleSet_names, .ref h_ruleSet_spans, .ref h_ruleSet_costs, .ref h_ruleSet_sizes, .ref h_ruleSet_kinds, .ref h_ruleSet_firsts, .ref h_ruleSet_seconds, .ref h_ruleSet_numbers, .int v_ruleSet_count]))] s.heap := hP
  have hl := lv_entry ([.ref h_this, .int p1]) (n := 2) (Nat.le_of_ble_eq_true rfl)
  rw [show entryFrame m args 2 = entryFrame m ([.ref h_this, .int p1] : List Value).toArray 2 from by rw [hargs], lg_entry_eq]
  generalize (lg_sl ([.ref h_this, .int p1]) ++ List.replicate (2 - (lg_sl ([.ref h_this, .int p1])).length) Slot.unset).toArray = ls at hl ⊢
  have hl : lv_has ls 2 [(0, .ref h_this), (1, .int p1)] := hl
  obtain ⟨Q, hQ⟩ : ∃ Q, Q = xMQ below (xQT (dC, dI) [(h_this, .inr (6, [.ref h_rows, .ref h_text, .ref h_reader, .ref h_found, .ref h_leftOut, .ref h_brought, .ref h_ruleSet, .ref h_draft])), (h_found, .inr (4, [.int v_found_isThere, .int v_found_count, .int v_found_total, .int v_found_faultyRules, .ref h_found_minutesHeld, .ref h_found_since, .ref h_found_faultRules, .ref h_found_begins, .ref h_found_ends, .ref h_found_faultCosts])), (h_found_minutesHeld, .inl (cI, 6, .inl v_found_minutesHeld)), (h_ruleSet, .inr (3, [.ref h_ruleSet_names, .ref h_ruleSet_spans, .ref h_ruleSet_costs, .ref h_ruleSet_sizes, .ref h_ruleSet_kinds, .ref h_ruleSet_firsts, .ref h_ruleSet_seconds, .ref h_ruleSet_numbers, .int v_ruleSet_count]))] A t.1 (some (.int t.2))) args s 1 6 A := ⟨_, rfl⟩
  rw [← hQ]
  show W p l e rm_FaultRules_held s m args below meth c s.heap [] 0 0 Q _
  obtain ⟨H, hH⟩ : ∃ H, H = s.heap := ⟨_, rfl⟩
  obtain ⟨locs, hlocs⟩ : ∃ L : List Loc, L = [] := ⟨_, rfl⟩
  rw [← hlocs] at hS ⊢
  have hS : va_S A s.heap H locs := by rw [hH]; exact hS
  rw [← hH] at hP ⊢
  replace hf := f_FaultRules_held_u hf
  refine lv_iload_n hx hb d_FaultRules_held_0 rfl (lv_at hl 1 rfl) ?_
  refine lv_if_lt (tgt := 15) hx hb d_FaultRules_held_1 (by decide) (fun c_1 => ?_) (fun c_1 => ?_)
  · replace hf := o_pos c_1 hf
    rw [hQ, ← Option.some.inj hf]
    exact x_throw hx hb hltr hml hl.1 hown hT hxW hNS hP hS hA hlocks hnh 1 (by decide) kA_IAE kE_IAE kN_IAE kO_IAE (List.mem_of_getElem? (i := 11) rfl) (by decide +kernel) d_FaultRules_held_15 d_FaultRules_held_18 d_FaultRules_held_19 d_FaultRules_held_21 d_FaultRules_held_24 (Nat.le_of_ble_eq_true rfl) (Nat.le_of_ble_eq_true rfl) (Nat.le_of_ble_eq_true rfl) (Nat.le_of_ble_eq_true rfl)
  · replace hf := o_neg c_1 hf
    refine lv_iload_n hx hb d_FaultRules_held_4 rfl (lv_at hl 1 rfl) ?_
    refine lv_aload_n hx hb d_FaultRules_held_5 rfl (lv_at hl 0 rfl) ?_
    refine va_get (D := (dC, dI)) (ci := 6) (v := .ref h_ruleSet) (C := R_FaultRules) (T := T_FaultRules) (N := 8) hx hb hT i_FaultRules hown hK hP 0 rfl rfl 6 (by decide) (hT _ kF_FaultRules_51) (fun _ h9 => h9) rfl d_FaultRules_held_6 ?_
    refine va_get (D := (dC, dI)) (ci := 3) (v := .int v_ruleSet_count) (C := R_RuleSet) (T := T_RuleSet) (N := 9) hx hb hT i_RuleSet hown hK hP 3 rfl rfl 8 (by decide) (hT _ kF_FaultRules_137) (fun _ h9 => h9) rfl d_FaultRules_held_9 ?_
    refine lv_icmp_lt (tgt := 25) hx hb d_FaultRules_held_12 (by decide) (fun c_2 => ?_) (fun c_2 => ?_)
    · replace hf := o_pos c_2 hf
      refine lv_aload_n hx hb d_FaultRules_held_25 rfl (lv_at hl 0 rfl) ?_
      refine va_get (D := (dC, dI)) (ci := 6) (v := .ref h_found) (C := R_FaultRules) (T := T_FaultRules) (N := 8) hx hb hT i_FaultRules hown hK hP 0 rfl rfl 3 (by decide) (hT _ kF_FaultRules_33) (fun _ h9 => h9) rfl d_FaultRules_held_26 ?_
      refine va_get (D := (dC, dI)) (ci := 4) (v := .int v_found_isThere) (C := R_Run) (T := T_Run) (N := 10) hx hb hT i_Run hown hK hP 1 rfl rfl 0 (by decide) (hT _ kF_FaultRules_127) (fun _ h9 => h9) rfl d_FaultRules_held_29 ?_
      refine lv_if_ne (tgt := 45) hx hb d_FaultRules_held_32 (by decide) (fun c_3 => ?_) (fun c_3 => ?_)
      · replace hf := o_neg c_3 hf
        refine lv_aload_n hx hb d_FaultRules_held_45 rfl (lv_at hl 0 rfl) ?_
        refine va_get (D := (dC, dI)) (ci := 6) (v := .ref h_found) (C := R_FaultRules) (T := T_FaultRules) (N := 8) hx hb hT i_FaultRules hown hK hP 0 rfl rfl 3 (by decide) (hT _ kF_FaultRules_33) (fun _ h9 => h9) rfl d_FaultRules_held_46 ?_
        refine va_get (D := (dC, dI)) (ci := 4) (v := .ref h_found_minutesHeld) (C := R_Run) (T := T_Run) (N := 10) hx hb hT i_Run hown hK hP 1 rfl rfl 4 (by decide) (hT _ kF_FaultRules_160) (fun _ h9 => h9) rfl d_FaultRules_held_49 ?_
        refine lv_iload_n hx hb d_FaultRules_held_52 rfl (lv_at hl 1 rfl) ?_
        obtain ⟨hi_4, hf⟩ := o_in hf
        refine va_iald hx hb hK hP 2 0 rfl rfl hi_4 d_FaultRules_held_53 ?_
        rw [hQ, ← Option.some.inj hf]
        refine x_ret ?_
        refine W.widen (k := 1) (n := 6) (Nat.zero_le _) (Nat.zero_le _) ?_
        exact W.iret hx hb hr (fun t9 ht9 hW9 => ⟨by rw [ht9]; exact hP, hS.F ht9, Or.inl ⟨rfl, rfl⟩⟩) hS.2.2 d_FaultRules_held_54
      · replace hf := o_pos c_3 hf
        rw [hQ, ← Option.some.inj hf]
        exact x_throw hx hb hltr hml hl.1 hown hT hxW hNS hP hS hA hlocks hnh 2 (by decide) kA_ISE kE_ISE kN_ISE kO_ISE (List.mem_of_getElem? (i := 10) rfl) (by decide +kernel) d_FaultRules_held_35 d_FaultRules_held_38 d_FaultRules_held_39 d_FaultRules_held_41 d_FaultRules_held_44 (Nat.le_of_ble_eq_true rfl) (Nat.le_of_ble_eq_true rfl) (Nat.le_of_ble_eq_true rfl) (Nat.le_of_ble_eq_true rfl)
    · replace hf := o_neg c_2 hf
      rw [hQ, ← Option.some.inj hf]
      exact x_throw hx hb hltr hml hl.1 hown hT hxW hNS hP hS hA hlocks hnh 1 (by decide) kA_IAE kE_IAE kN_IAE kO_IAE (List.mem_of_getElem? (i := 11) rfl) (by decide +kernel) d_FaultRules_held_15 d_FaultRules_held_18 d_FaultRules_held_19 d_FaultRules_held_21 d_FaultRules_held_24 (Nat.le_of_ble_eq_true rfl) (Nat.le_of_ble_eq_true rfl) (Nat.le_of_ble_eq_true rfl) (Nat.le_of_ble_eq_true rfl)
def rm_FaultRules_holds : Room := { frames := 6, cells := 1, slots := 6, locals := 90 }
set_option maxHeartbeats 4000000 in
set_option maxRecDepth 100000 in
theorem c_FaultRules_holds (l : Launch) (dC : Nat → ClassId) (dI : Nat → Nat → Nat) (cI cL cC : ClassId) (h_this h_rows h_text h_reader h_found h_leftOut h_brought h_ruleSet h_draft h_rows_minutes h_rows_values h_rows_starts h_rows_seen h_ruleSet_names h_ruleSet_spans h_ruleSet_costs h_ruleSet_sizes h_ruleSet_kinds h_ruleSet_firsts h_ruleSet_seconds h_ruleSet_numbers : Nat) (sz : Nat) (fu : Nat) (v_rows_minutes : Nat → Int32) (v_rows_values : Nat → Int32) (v_rows_starts : Nat → Int32) (v_rows_seen : Nat → Int32) (v_ruleSet_count : Int32) (v_ruleSet_sizes : Nat → Int32) (v_ruleSet_kinds : Nat → Int32) (v_ruleSet_firsts : Nat → Int32) (v_ruleSet_seconds : Nat → Int32) (v_ruleSet_numbers : Nat → Int32) (p1 : Int32) (p2 : Int32) (p3 : Int32) (t : Nat × Int32 × (Nat → Int32)) (hf : f_FaultRules_holds fu v_rows_minutes v_rows_values v_rows_starts v_rows_seen v_ruleSet_count v_ruleSet_sizes v_ruleSet_kinds v_ruleSet_firsts v_ruleSet_seconds v_ruleSet_numbers p1 p2 p3 = some t) (hltr : l.stackTraces = false) : xMet l y_FaultRules_holds (Cond.code y_FaultRules_holds prog_1_method_11_code 4 (some .boolean) :: xT) rm_FaultRules_holds (va_Pc [.ref h_this, .int p1, .int p2, .int p3] (xPT (dC, dI) (xTy cI cL cC) [(h_this, .inr (6, [.ref h_rows, .ref h_text, .ref h_reader, .ref h_found, .ref h_leftOut, .ref h_brought, .ref h_ruleSet, .ref h_draft])), (h_rows, .inr (2, [.ref h_rows_minutes, .ref h_rows_values, .ref h_rows_starts, .ref h_rows_seen])), (h_rows_minutes, .inl (cI, 120, .inl v_rows_minutes)), (h_rows_values, .inl (cI, 120, .inl v_rows_values)), (h_rows_starts, .inl (cI, 17, .inl v_rows_starts)), (h_rows_seen, .inl (cI, 16, .inl v_rows_seen)), (h_ruleSet, .inr (3, [.ref h_ruleSet_names, .ref h_ruleSet_spans, .ref h_ruleSet_costs, .ref h_ruleSet_sizes, .ref h_ruleSet_kinds, .ref h_ruleSet_firsts, .ref h_ruleSet_seconds, .ref h_ruleSet_numbers, .int v_ruleSet_count])), (h_ruleSet_sizes, .inl (cI, 6, .inl v_ruleSet_sizes)), (h_ruleSet_kinds, .inl (cI, 36, .inl v_ruleSet_kinds)), (h_ruleSet_firsts, .inl (cI, 36, .inl v_ruleSet_firsts)), (h_ruleSet_seconds, .inl (cI, 36, .inl v_ruleSet_seconds)), (h_ruleSet_numbers, .inl (cI, 36, .inl v_ruleSet_numbers))] sz)) (xQT (dC, dI) [(h_this, .inr (6, [.ref h_rows, .ref h_text, .ref h_reader, .ref h_found, .ref h_leftOut, .ref h_brought, .ref h_ruleSet, .ref h_draft])), (h_rows, .inr (2, [.ref h_rows_minutes, .ref h_rows_values, .ref h_rows_starts, .ref h_rows_seen])), (h_rows_minutes, .inl (cI, 120, .inl v_rows_minutes)), (h_rows_values, .inl (cI, 120, .inl v_rows_values)), (h_rows_starts, .inl (cI, 17, .inl v_rows_starts)), (h_rows_seen, .inl (cI, 16, .inl t.2.2)), (h_ruleSet, .inr (3, [.ref h_ruleSet_names, .ref h_ruleSet_spans, .ref h_ruleSet_costs, .ref h_ruleSet_sizes, .ref h_ruleSet_kinds, .ref h_ruleSet_firsts, .ref h_ruleSet_seconds, .ref h_ruleSet_numbers, .int v_ruleSet_count])), (h_ruleSet_sizes, .inl (cI, 6, .inl v_ruleSet_sizes)), (h_ruleSet_kinds, .inl (cI, 36, .inl v_ruleSet_kinds)), (h_ruleSet_firsts, .inl (cI, 36, .inl v_ruleSet_firsts)), (h_ruleSet_seconds, .inl (cI, 36, .inl v_ruleSet_seconds)), (h_ruleSet_numbers, .inl (cI, 36, .inl v_ruleSet_numbers))] (va_A [(h_this, .inr (6, [.ref h_rows, .ref h_text, .ref h_reader, .ref h_found, .ref h_leftOut, .ref h_brought, .ref h_ruleSet, .ref h_draft])), (h_rows, .inr (2, [.ref h_rows_minutes, .ref h_rows_values, .ref h_rows_starts, .ref h_rows_seen])), (h_rows_minutes, .inl (cI, 120, .inl v_rows_minutes)), (h_rows_values, .inl (cI, 120, .inl v_rows_values)), (h_rows_starts, .inl (cI, 17, .inl v_rows_starts)), (h_rows_seen, .inl (cI, 16, .inl v_rows_seen)), (h_ruleSet, .inr (3, [.ref h_ruleSet_names, .ref h_ruleSet_spans, .ref h_ruleSet_costs, .ref h_ruleSet_sizes, .ref h_ruleSet_kinds, .ref h_ruleSet_firsts, .ref h_ruleSet_seconds, .ref h_ruleSet_numbers, .int v_ruleSet_count])), (h_ruleSet_sizes, .inl (cI, 6, .inl v_ruleSet_sizes)), (h_ruleSet_kinds, .inl (cI, 36, .inl v_ruleSet_kinds)), (h_ruleSet_firsts, .inl (cI, 36, .inl v_ruleSet_firsts)), (h_ruleSet_seconds, .inl (cI, 36, .inl v_ruleSet_seconds)), (h_ruleSet_numbers, .inl (cI, 36, .inl v_ruleSet_numbers))] sz) t.1 (some (.int t.2.1))) 1 6 (va_A [(h_this, .inr (6, [.ref h_rows, .ref h_text, .ref h_reader, .ref h_found, .ref h_leftOut, .ref h_brought, .ref h_ruleSet, .ref h_draft])), (h_rows, .inr (2, [.ref h_rows_minutes, .ref h_rows_values, .ref h_rows_starts, .ref h_rows_seen])), (h_rows_minutes, .inl (cI, 120, .inl v_rows_minutes)), (h_rows_values, .inl (cI, 120, .inl v_rows_values)), (h_rows_starts, .inl (cI, 17, .inl v_rows_starts)), (h_rows_seen, .inl (cI, 16, .inl v_rows_seen)), (h_ruleSet, .inr (3, [.ref h_ruleSet_names, .ref h_ruleSet_spans, .ref h_ruleSet_costs, .ref h_ruleSet_sizes, .ref h_ruleSet_kinds, .ref h_ruleSet_firsts, .ref h_ruleSet_seconds, .ref h_ruleSet_numbers, .int v_ruleSet_count])), (h_ruleSet_sizes, .inl (cI, 6, .inl v_ruleSet_sizes)), (h_ruleSet_kinds, .inl (cI, 36, .inl v_ruleSet_kinds)), (h_ruleSet_firsts, .inl (cI, 36, .inl v_ruleSet_firsts)), (h_ruleSet_seconds, .inl (cI, 36, .inl v_ruleSet_seconds)), (h_ruleSet_numbers, .inl (cI, 36, .inl v_ruleSet_numbers))] sz) := by
  refine xMet_ofW (cc := prog_1_method_11_code) (maxL := 4) (ret := (some .boolean)) (by decide) rfl ?_
  intro p e s m args below meth c s₁ B hml hv
  obtain ⟨hargs, ⟨hsz, hP, hK, hN, hD0⟩, hxW⟩ := hv
  have hx := B.exec
  have hb := B.bytes
  have hr := B.returns
  have hT : ∀ w ∈ xT, w.before args s = true := fun w hw => atoms_spec (ws := Cond.code y_FaultRules_holds prog_1_method_11_code 4 (some .boolean) :: xT) B.pre w (List.mem_cons_of_mem _ hw)
  have hown : s.vm.findClass R_FaultRules = some m.cls := findClass_of_methodNamed B.named
  have hlocks := B.notSynchronized
  subst hsz
  have hD := hD0.self (sz := s.heap.size)
  have hNS : ∀ (q : Nat) (cell : Cell), va_A [(h_this, .inr (6, [.ref h_rows, .ref h_text, .ref h_reader, .ref h_found, .ref h_leftOut, .ref h_brought, .ref h_ruleSet, .ref h_draft])), (h_rows, .inr (2, [.ref h_rows_minutes, .ref h_rows_values, .ref h_rows_starts, .ref h_rows_seen])), (h_rows_minutes, .inl (cI, 120, .inl v_rows_minutes)), (h_rows_values, .inl (cI, 120, .inl v_rows_values)), (h_rows_starts, .inl (cI, 17, .inl v_rows_starts)), (h_rows_seen, .inl (cI, 16, .inl v_rows_seen)), (h_ruleSet, .inr (3, [.ref h_ruleSet_names, .ref h_ruleSet_spans, .ref h_ruleSet_costs, .ref h_ruleSet_sizes, .ref h_ruleSet_kinds, .ref h_ruleSet_firsts, .ref h_ruleSet_seconds, .ref h_ruleSet_numbers, .int v_ruleSet_count])), (h_ruleSet_sizes, .inl (cI, 6, .inl v_ruleSet_sizes)), (h_ruleSet_kinds, .inl (cI, 36, .inl v_ruleSet_kinds)), (h_ruleSet_firsts, .inl (cI, 36, .inl v_ruleSet_firsts)), (h_ruleSet_seconds, .inl (cI, 36, .inl v_ruleSet_seconds)), (h_ruleSet_numbers, .inl (cI, 36, .inl v_ruleSet_numbers))] s.heap.size q → s.heap[q]? = some cell → cell.vm.isStatics = false := x_noSt hP
  have hnh : c.exceptionTable.toList = [] := x_nh B (atoms_spec (ws := Cond.code y_FaultRules_holds prog_1_method_11_code 4 (some .boolean) :: xT) B.pre _ List.mem_cons_self)
  generalize hAe : va_A [(h_this, .inr (6, [.ref h_rows, .ref h_text, .ref h_reader, .ref h_found, .ref h_leftOut, .ref h_brought, .ref h_ruleSet, .ref h_draft])), (h_rows, .inr (2, [.ref h_rows_minutes, .ref h_rows_values, .ref h_rows_starts, .ref h_rows_seen])), (h_rows_minutes, .inl (cI, 120, .inl v_rows_minutes)), (h_rows_values, .inl (cI, 120, .inl v_rows_values)), (h_rows_starts, .inl (cI, 17, .inl v_rows_starts)), (h_rows_seen, .inl (cI, 16, .inl v_rows_seen)), (h_ruleSet, .inr (3, [.ref h_ruleSet_names, .ref h_ruleSet_spans, .ref h_ruleSet_costs, .ref h_ruleSet_sizes, .ref h_ruleSet_kinds, .ref h_ruleSet_firsts, .ref h_ruleSet_seconds, .ref h_ruleSet_numbers, .int v_ruleSet_count])), (h_ruleSet_sizes, .inl (cI, 6, .inl v_ruleSet_sizes)), (h_ruleSet_kinds, .inl (cI, 36, .inl v_ruleSet_kinds)), (h_ruleSet_firsts, .inl (cI, 36, .inl v_ruleSet_firsts)), (h_ruleSet_seconds, .inl (cI, 36, .inl v_ruleSet_seconds)), (h_ruleSet_numbers, .inl (cI, 36, .inl v_ruleSet_numbers))] s.heap.size = A at hD hNS ⊢
  have hA : ∀ q : Nat, s.heap.size ≤ q → A q := fun q h => by rw [← hAe]; exact Or.inr h
  have hS : va_S A s.heap s.heap [] := va_S.rf
  have hP : va_P (dC, dI) vwCl [(h_this, .inr (6, [.ref h_rows, .ref h_text, .ref h_reader, .ref h_found, .ref h_leftOut, .ref h_brought, .ref h_ruleSet, .ref h_draft])), (h_rows, .inr (2, [.ref h_rows_minutes, .ref h_rows_values, .ref h_rows_starts, .ref h_rows_seen])), (h_rows_minutes, .inl (cI, 120, .inl v_rows_minutes)), (h_rows_values, .inl (cI, 120, .inl v_rows_values)), (h_rows_starts, .inl (cI, 17, .inl v_rows_starts)), (h_rows_seen, .inl (cI, 16, .inl v_rows_seen)), (h_ruleSet, .inr (3, [.ref h_ruleSet_names, .ref h_ruleSet_spans, .ref h_ruleSet_costs, .ref h_ruleSet_sizes, .ref h_ruleSet_kinds, .ref h_ruleSet_firsts, .ref h_ruleSet_seconds, .ref h_ruleSet_numbers, .int v_ruleSet_count])), (h_ruleSet_sizes, .inl (cI, 6, .inl v_ruleSet_sizes)), (h_ruleSet_kinds, .inl (cI, 36, .inl v_ruleSet_kinds)), (h_ruleSet_firsts, .inl (cI, 36, .inl v_ruleSet_firsts)), (h_ruleSet_seconds, .inl (cI, 36, .inl v_ruleSet_seconds)), (h_ruleSet_numbers, .inl (cI, 36, .inl v_ruleSet_numbers))] s.heap := hP
  have hl := lv_entry ([.ref h_this, .int p1, .int p2, .int p3]) (n := 4) (Nat.le_of_ble_eq_true rfl)
  rw [show entryFrame m args 4 = entryFrame m ([.ref h_this, .int p1, .int p2, .int p3] : List Value).toArray 4 from by rw [hargs], lg_entry_eq]
  generalize (lg_sl ([.ref h_this, .int p1, .int p2, .int p3]) ++ List.replicate (4 - (lg_sl ([.ref h_this, .int p1, .int p2, .int p3])).length) Slot.unset).toArray = ls at hl ⊢
  have hl : lv_has ls 4 [(0, .ref h_this), (1, .int p1), (2, .int p2), (3, .int p3)] := hl
  obtain ⟨Q, hQ⟩ : ∃ Q, Q = xMQ below (xQT (dC, dI) [(h_this, .inr (6, [.ref h_rows, .ref h_text, .ref h_reader, .ref h_found, .ref h_leftOut, .ref h_brought, .ref h_ruleSet, .ref h_draft])), (h_rows, .inr (2, [.ref h_rows_minutes, .ref h_rows_values, .ref h_rows_starts, .ref h_rows_seen])), (h_rows_minutes, .inl (cI, 120, .inl v_rows_minutes)), (h_rows_values, .inl (cI, 120, .inl v_rows_values)), (h_rows_starts, .inl (cI, 17, .inl v_rows_starts)), (h_rows_seen, .inl (cI, 16, .inl t.2.2)), (h_ruleSet, .inr (3, [.ref h_ruleSet_names, .ref h_ruleSet_spans, .ref h_ruleSet_costs, .ref h_ruleSet_sizes, .ref h_ruleSet_kinds, .ref h_ruleSet_firsts, .ref h_ruleSet_seconds, .ref h_ruleSet_numbers, .int v_ruleSet_count])), (h_ruleSet_sizes, .inl (cI, 6, .inl v_ruleSet_sizes)), (h_ruleSet_kinds, .inl (cI, 36, .inl v_ruleSet_kinds)), (h_ruleSet_firsts, .inl (cI, 36, .inl v_ruleSet_firsts)), (h_ruleSet_seconds, .inl (cI, 36, .inl v_ruleSet_seconds)), (h_ruleSet_numbers, .inl (cI, 36, .inl v_ruleSet_numbers))] A t.1 (some (.int t.2.1))) args s 1 6 A := ⟨_, rfl⟩
  rw [← hQ]
  show W p l e rm_FaultRules_holds s m args below meth c s.heap [] 0 0 Q _
  obtain ⟨H, hH⟩ : ∃ H, H = s.heap := ⟨_, rfl⟩
  obtain ⟨locs, hlocs⟩ : ∃ L : List Loc, L = [] := ⟨_, rfl⟩
  rw [← hlocs] at hS ⊢
  have hS : va_S A s.heap H locs := by rw [hH]; exact hS
  rw [← hH] at hP ⊢
  replace hf := f_FaultRules_holds_u hf
  refine lv_iload_n hx hb d_FaultRules_holds_0 rfl (lv_at hl 1 rfl) ?_
  refine lv_if_lt (tgt := 39) hx hb d_FaultRules_holds_1 (by decide) (fun c_1 => ?_) (fun c_1 => ?_)
  · replace hf := o_pos c_1 hf
    rw [hQ, ← Option.some.inj hf]
    exact x_throw hx hb hltr hml hl.1 hown hT hxW hNS hP hS hA hlocks hnh 1 (by decide) kA_IAE kE_IAE kN_IAE kO_IAE (List.mem_of_getElem? (i := 12) rfl) (by decide +kernel) d_FaultRules_holds_39 d_FaultRules_holds_42 d_FaultRules_holds_43 d_FaultRules_holds_45 d_FaultRules_holds_48 (Nat.le_of_ble_eq_true rfl) (Nat.le_of_ble_eq_true rfl) (Nat.le_of_ble_eq_true rfl) (Nat.le_of_ble_eq_true rfl)
  · replace hf := o_neg c_1 hf
    refine lv_iload_n hx hb d_FaultRules_holds_4 rfl (lv_at hl 1 rfl) ?_
    refine lv_aload_n hx hb d_FaultRules_holds_5 rfl (lv_at hl 0 rfl) ?_
    refine va_get (D := (dC, dI)) (ci := 6) (v := .ref h_ruleSet) (C := R_FaultRules) (T := T_FaultRules) (N := 8) hx hb hT i_FaultRules hown hK hP 0 rfl rfl 6 (by decide) (hT _ kF_FaultRules_51) (fun _ h9 => h9) rfl d_FaultRules_holds_6 ?_
    refine va_get (D := (dC, dI)) (ci := 3) (v := .int v_ruleSet_count) (C := R_RuleSet) (T := T_RuleSet) (N := 9) hx hb hT i_RuleSet hown hK hP 6 rfl rfl 8 (by decide) (hT _ kF_FaultRules_137) (fun _ h9 => h9) rfl d_FaultRules_holds_9 ?_
    refine lv_icmp_ge (tgt := 39) hx hb d_FaultRules_holds_12 (by decide) (fun c_2 => ?_) (fun c_2 => ?_)
    · replace hf := o_pos c_2 hf
      rw [hQ, ← Option.some.inj hf]
      exact x_throw hx hb hltr hml hl.1 hown hT hxW hNS hP hS hA hlocks hnh 1 (by decide) kA_IAE kE_IAE kN_IAE kO_IAE (List.mem_of_getElem? (i := 12) rfl) (by decide +kernel) d_FaultRules_holds_39 d_FaultRules_holds_42 d_FaultRules_holds_43 d_FaultRules_holds_45 d_FaultRules_holds_48 (Nat.le_of_ble_eq_true rfl) (Nat.le_of_ble_eq_true rfl) (Nat.le_of_ble_eq_true rfl) (Nat.le_of_ble_eq_true rfl)
    · replace hf := o_neg c_2 hf
      refine lv_iload_n hx hb d_FaultRules_holds_15 rfl (lv_at hl 2 rfl) ?_
      refine lv_if_lt (tgt := 39) hx hb d_FaultRules_holds_16 (by decide) (fun c_3 => ?_) (fun c_3 => ?_)
      · replace hf := o_pos c_3 hf
        rw [hQ, ← Option.some.inj hf]
        exact x_throw hx hb hltr hml hl.1 hown hT hxW hNS hP hS hA hlocks hnh 1 (by decide) kA_IAE kE_IAE kN_IAE kO_IAE (List.mem_of_getElem? (i := 12) rfl) (by decide +kernel) d_FaultRules_holds_39 d_FaultRules_holds_42 d_FaultRules_holds_43 d_FaultRules_holds_45 d_FaultRules_holds_48 (Nat.le_of_ble_eq_true rfl) (Nat.le_of_ble_eq_true rfl) (Nat.le_of_ble_eq_true rfl) (Nat.le_of_ble_eq_true rfl)
      · replace hf := o_neg c_3 hf
        refine lv_iload_n hx hb d_FaultRules_holds_19 rfl (lv_at hl 2 rfl) ?_
        refine lv_aload_n hx hb d_FaultRules_holds_20 rfl (lv_at hl 0 rfl) ?_
        refine va_get (D := (dC, dI)) (ci := 6) (v := .ref h_ruleSet) (C := R_FaultRules) (T := T_FaultRules) (N := 8) hx hb hT i_FaultRules hown hK hP 0 rfl rfl 6 (by decide) (hT _ kF_FaultRules_51) (fun _ h9 => h9) rfl d_FaultRules_holds_21 ?_
        refine va_get (D := (dC, dI)) (ci := 3) (v := .ref h_ruleSet_sizes) (C := R_RuleSet) (T := T_RuleSet) (N := 9) hx hb hT i_RuleSet hown hK hP 6 rfl rfl 3 (by decide) (hT _ kF_FaultRules_163) (fun _ h9 => h9) rfl d_FaultRules_holds_24 ?_
        refine lv_iload_n hx hb d_FaultRules_holds_27 rfl (lv_at hl 1 rfl) ?_
        obtain ⟨hi_4, hf⟩ := o_in hf
        refine va_iald hx hb hK hP 7 0 rfl rfl hi_4 d_FaultRules_holds_28 ?_
        refine lv_icmp_ge (tgt := 39) hx hb d_FaultRules_holds_29 (by decide) (fun c_5 => ?_) (fun c_5 => ?_)
        · replace hf := o_pos c_5 hf
          rw [hQ, ← Option.some.inj hf]
          exact x_throw hx hb hltr hml hl.1 hown hT hxW hNS hP hS hA hlocks hnh 1 (by decide) kA_IAE kE_IAE kN_IAE kO_IAE (List.mem_of_getElem? (i := 12) rfl) (by decide +kernel) d_FaultRules_holds_39 d_FaultRules_holds_42 d_FaultRules_holds_43 d_FaultRules_holds_45 d_FaultRules_holds_48 (Nat.le_of_ble_eq_true rfl) (Nat.le_of_ble_eq_true rfl) (Nat.le_of_ble_eq_true rfl) (Nat.le_of_ble_eq_true rfl)
        · replace hf := o_neg c_5 hf
          refine lv_iload_n hx hb d_FaultRules_holds_32 rfl (lv_at hl 3 rfl) ?_
          obtain ⟨t_6, hg_6, hf⟩ := o_bind hf
          refine x_stat (w' := [(h_this, .inr (6, [.ref h_rows, .ref h_text, .ref h_reader, .ref h_found, .ref h_leftOut, .ref h_brought, .ref h_ruleSet, .ref h_draft])), (h_rows, .inr (2, [.ref h_rows_minutes, .ref h_rows_values, .ref h_rows_starts, .ref h_rows_seen])), (h_rows_minutes, .inl (cI, 120, .inl v_rows_minutes)), (h_rows_values, .inl (cI, 120, .inl v_rows_values)), (h_rows_starts, .inl (cI, 17, .inl v_rows_starts)), (h_rows_seen, .inl (cI, 16, .inl v_rows_seen)), (h_ruleSet, .inr (3, [.ref h_ruleSet_names, .ref h_ruleSet_spans, .ref h_ruleSet_costs, .ref h_ruleSet_sizes, .ref h_ruleSet_kinds, .ref h_ruleSet_firsts, .ref h_ruleSet_seconds, .ref h_ruleSet_numbers, .int v_ruleSet_count])), (h_ruleSet_sizes, .inl (cI, 6, .inl v_ruleSet_sizes)), (h_ruleSet_kinds, .inl (cI, 36, .inl v_ruleSet_kinds)), (h_ruleSet_firsts, .inl (cI, 36, .inl v_ruleSet_firsts)), (h_ruleSet_seconds, .inl (cI, 36, .inl v_ruleSet_seconds)), (h_ruleSet_numbers, .inl (cI, 36, .inl v_ruleSet_numbers))]) (As := [.int p3]) (rest := []) hx hb hml hl.1 hown hT hK hN hP hD hS hA (c_FaultRules_isMinute l dC dI cI cL cC H.size p3 t_6 hg_6) kM_FaultRules_62 kT_FaultRules_isMinute kN_FaultRules kC_FaultRules_isMinute hd_FaultRules_isMinute rfl ⟨Nat.le_of_ble_eq_true rfl, Nat.le_of_ble_eq_true rfl⟩ rfl rfl ⟨Nat.zero_le _, Nat.zero_le _⟩ rfl (Nat.le_of_ble_eq_true rfl) d_FaultRules_holds_33 [] rfl rfl [.inl 0, .inl 1, .inl 2, .inl 3, .inl 4, .inl 5, .inl 6, .inl 7, .inl 8, .inl 9, .inl 10, .inl 11] rfl rfl rfl (fun H locs hP hD hS => ?_)
          refine lv_if_ne (tgt := 49) hx hb d_FaultRules_holds_36 (by decide) (fun c_7 => ?_) (fun c_7 => ?_)
          · replace hf := o_neg c_7 hf
            refine lv_aload_n hx hb d_FaultRules_holds_49 rfl (lv_at hl 0 rfl) ?_
            refine va_get (D := (dC, dI)) (ci := 6) (v := .ref h_rows) (C := R_FaultRules) (T := T_FaultRules) (N := 8) hx hb hT i_FaultRules hown hK hP 0 rfl rfl 0 (by decide) (hT _ kF_FaultRules_12) (fun _ h9 => h9) rfl d_FaultRules_holds_50 ?_
            obtain ⟨t_8, hg_8, hf⟩ := o_bind hf
            refine x_virt (w' := [(h_this, .inr (6, [.ref h_rows, .ref h_text, .ref h_reader, .ref h_found, .ref h_leftOut, .ref h_brought, .ref h_ruleSet, .ref h_draft])), (h_rows, .inr (2, [.ref h_rows_minutes, .ref h_rows_values, .ref h_rows_starts, .ref h_rows_seen])), (h_rows_minutes, .inl (cI, 120, .inl v_rows_minutes)), (h_rows_values, .inl (cI, 120, .inl v_rows_values)), (h_rows_starts, .inl (cI, 17, .inl v_rows_starts)), (h_rows_seen, .inl (cI, 16, .inl t_8)), (h_ruleSet, .inr (3, [.ref h_ruleSet_names, .ref h_ruleSet_spans, .ref h_ruleSet_costs, .ref h_ruleSet_sizes, .ref h_ruleSet_kinds, .ref h_ruleSet_firsts, .ref h_ruleSet_seconds, .ref h_ruleSet_numbers, .int v_ruleSet_count])), (h_ruleSet_sizes, .inl (cI, 6, .inl v_ruleSet_sizes)), (h_ruleSet_kinds, .inl (cI, 36, .inl v_ruleSet_kinds)), (h_ruleSet_firsts, .inl (cI, 36, .inl v_ruleSet_firsts)), (h_ruleSet_seconds, .inl (cI, 36, .inl v_ruleSet_seconds)), (h_ruleSet_numbers, .inl (cI, 36, .inl v_ruleSet_numbers))]) (As := []) (rest := []) hx hb hml hl.1 hown hT hK hN hP hD hS hA (c_Rows_rewind l dC dI cI cL cC h_rows h_rows_minutes h_rows_values h_rows_starts h_rows_seen H.size fu v_rows_seen t_8 hg_8) kM_FaultRules_93 kI_Rows_rewind kS_249 kN_Rows kC_Rows_rewind hd_Rows_rewind rfl 1 rfl rfl rfl ⟨Nat.le_of_ble_eq_true rfl, Nat.le_of_ble_eq_true rfl⟩ rfl rfl ⟨Nat.zero_le _, Nat.zero_le _⟩ rfl (Nat.le_of_ble_eq_true rfl) d_FaultRules_holds_53 [1, 5] rfl rfl [.inl 0, .inr 0, .inl 2, .inl 3, .inl 4, .inr 1, .inl 6, .inl 7, .inl 8, .inl 9, .inl 10, .inl 11] rfl rfl rfl (fun H locs hP hD hS => ?_)
            refine lv_aload_n hx hb d_FaultRules_holds_56 rfl (lv_at hl 0 rfl) ?_
            refine va_get (D := (dC, dI)) (ci := 6) (v := .ref h_rows) (C := R_FaultRules) (T := T_FaultRules) (N := 8) hx hb hT i_FaultRules hown hK hP 0 rfl rfl 0 (by decide) (hT _ kF_FaultRules_12) (fun _ h9 => h9) rfl d_FaultRules_holds_57 ?_
            refine lv_iload_n hx hb d_FaultRules_holds_60 rfl (lv_at hl 3 rfl) ?_
            obtain ⟨t_9, hg_9, hf⟩ := o_bind hf
            refine x_virt (w' := [(h_this, .inr (6, [.ref h_rows, .ref h_text, .ref h_reader, .ref h_found, .ref h_leftOut, .ref h_brought, .ref h_ruleSet, .ref h_draft])), (h_rows, .inr (2, [.ref h_rows_minutes, .ref h_rows_values, .ref h_rows_starts, .ref h_rows_seen])), (h_rows_minutes, .inl (cI, 120, .inl v_rows_minutes)), (h_rows_values, .inl (cI, 120, .inl v_rows_values)), (h_rows_starts, .inl (cI, 17, .inl v_rows_starts)), (h_rows_seen, .inl (cI, 16, .inl t_9)), (h_ruleSet, .inr (3, [.ref h_ruleSet_names, .ref h_ruleSet_spans, .ref h_ruleSet_costs, .ref h_ruleSet_sizes, .ref h_ruleSet_kinds, .ref h_ruleSet_firsts, .ref h_ruleSet_seconds, .ref h_ruleSet_numbers, .int v_ruleSet_count])), (h_ruleSet_sizes, .inl (cI, 6, .inl v_ruleSet_sizes)), (h_ruleSet_kinds, .inl (cI, 36, .inl v_ruleSet_kinds)), (h_ruleSet_firsts, .inl (cI, 36, .inl v_ruleSet_firsts)), (h_ruleSet_seconds, .inl (cI, 36, .inl v_ruleSet_seconds)), (h_ruleSet_numbers, .inl (cI, 36, .inl v_ruleSet_numbers))]) (As := [.int p3]) (rest := []) hx hb hml hl.1 hown hT hK hN hP hD hS hA (c_Rows_advance l dC dI cI cL cC h_rows h_rows_minutes h_rows_values h_rows_starts h_rows_seen H.size fu v_rows_minutes v_rows_starts t_8 p3 t_9 hg_9) kM_FaultRules_96 kI_Rows_advance kS_252 kN_Rows kC_Rows_advance hd_Rows_advance rfl 1 rfl rfl rfl ⟨Nat.le_of_ble_eq_true rfl, Nat.le_of_ble_eq_true rfl⟩ rfl rfl ⟨Nat.zero_le _, Nat.zero_le _⟩ rfl (Nat.le_of_ble_eq_true rfl) d_FaultRules_holds_61 [1, 2, 4, 5] rfl rfl [.inl 0, .inr 0, .inr 1, .inl 3, .inr 2, .inr 3, .inl 6, .inl 7, .inl 8, .inl 9, .inl 10, .inl 11] rfl rfl rfl (fun H locs hP hD hS => ?_)
            refine lv_aload_n hx hb d_FaultRules_holds_64 rfl (lv_at hl 0 rfl) ?_
            refine va_get (D := (dC, dI)) (ci := 6) (v := .ref h_ruleSet) (C := R_FaultRules) (T := T_FaultRules) (N := 8) hx hb hT i_FaultRules hown hK hP 0 rfl rfl 6 (by decide) (hT _ kF_FaultRules_51) (fun _ h9 => h9) rfl d_FaultRules_holds_65 ?_
            refine lv_iload_n hx hb d_FaultRules_holds_68 rfl (lv_at hl 1 rfl) ?_
            refine lv_bipush (v := 6) hx hb d_FaultRules_holds_69 (by decide) ?_
            refine lv_imul hx hb d_FaultRules_holds_71 ?_
            refine lv_iload_n hx hb d_FaultRules_holds_72 rfl (lv_at hl 2 rfl) ?_
            refine lv_iadd hx hb d_FaultRules_holds_73 ?_
            refine lv_aload_n hx hb d_FaultRules_holds_74 rfl (lv_at hl 0 rfl) ?_
            refine va_get (D := (dC, dI)) (ci := 6) (v := .ref h_rows) (C := R_FaultRules) (T := T_FaultRules) (N := 8) hx hb hT i_FaultRules hown hK hP 0 rfl rfl 0 (by decide) (hT _ kF_FaultRules_12) (fun _ h9 => h9) rfl d_FaultRules_holds_75 ?_
            refine lv_iload_n hx hb d_FaultRules_holds_78 rfl (lv_at hl 3 rfl) ?_
            obtain ⟨t_10, hg_10, hf⟩ := o_bind hf
            refine x_virt (w' := [(h_this, .inr (6, [.ref h_rows, .ref h_text, .ref h_reader, .ref h_found, .ref h_leftOut, .ref h_brought, .ref h_ruleSet, .ref h_draft])), (h_rows, .inr (2, [.ref h_rows_minutes, .ref h_rows_values, .ref h_rows_starts, .ref h_rows_seen])), (h_rows_minutes, .inl (cI, 120, .inl v_rows_minutes)), (h_rows_values, .inl (cI, 120, .inl v_rows_values)), (h_rows_starts, .inl (cI, 17, .inl v_rows_starts)), (h_rows_seen, .inl (cI, 16, .inl t_9)), (h_ruleSet, .inr (3, [.ref h_ruleSet_names, .ref h_ruleSet_spans, .ref h_ruleSet_costs, .ref h_ruleSet_sizes, .ref h_ruleSet_kinds, .ref h_ruleSet_firsts, .ref h_ruleSet_seconds, .ref h_ruleSet_numbers, .int v_ruleSet_count])), (h_ruleSet_sizes, .inl (cI, 6, .inl v_ruleSet_sizes)), (h_ruleSet_kinds, .inl (cI, 36, .inl v_ruleSet_kinds)), (h_ruleSet_firsts, .inl (cI, 36, .inl v_ruleSet_firsts)), (h_ruleSet_seconds, .inl (cI, 36, .inl v_ruleSet_seconds)), (h_ruleSet_numbers, .inl (cI, 36, .inl v_ruleSet_numbers))]) (As := [.int ((p1 * 6) + p2), .ref h_rows, .int p3]) (rest := []) hx hb hml hl.1 hown hT hK hN hP hD hS hA (c_RuleSet_testHolds l dC dI cI cL cC h_ruleSet h_rows h_ruleSet_names h_ruleSet_spans h_ruleSet_costs h_ruleSet_sizes h_ruleSet_kinds h_ruleSet_firsts h_ruleSet_seconds h_ruleSet_numbers h_rows_minutes h_rows_values h_rows_starts h_rows_seen H.size v_ruleSet_count v_ruleSet_kinds v_ruleSet_firsts v_ruleSet_seconds v_ruleSet_numbers v_rows_minutes v_rows_values v_rows_starts t_9 ((p1 * 6) + p2) p3 t_10 hg_10) kM_FaultRules_168 kI_RuleSet_testHolds kS_125 kN_RuleSet kC_RuleSet_testHolds hd_RuleSet_testHolds rfl 6 rfl rfl rfl ⟨Nat.le_of_ble_eq_true rfl, Nat.le_of_ble_eq_true rfl⟩ rfl rfl ⟨Nat.zero_le _, Nat.zero_le _⟩ rfl (Nat.le_of_ble_eq_true rfl) d_FaultRules_holds_79 [6, 8, 9, 10, 11, 1, 2, 3, 4, 5] rfl rfl [.inl 0, .inr 5, .inr 6, .inr 7, .inr 8, .inr 9, .inr 0, .inl 7, .inr 1, .inr 2, .inr 3, .inr 4] rfl rfl rfl (fun H locs hP hD hS => ?_)
            obtain ⟨hz_11, hf⟩ := o_zb hf
            rw [hQ, ← Option.some.inj hf]
            refine x_ret ?_
            refine W.widen (k := 1) (n := 6) (Nat.zero_le _) (Nat.zero_le _) ?_
            exact W.zret (ty := .boolean) hx hb hr hz_11 (fun t9 ht9 hW9 => ⟨by rw [ht9]; exact hP, hS.F ht9, Or.inl ⟨rfl, rfl⟩⟩) hS.2.2 d_FaultRules_holds_82
          · replace hf := o_pos c_7 hf
            rw [hQ, ← Option.some.inj hf]
            exact x_throw hx hb hltr hml hl.1 hown hT hxW hNS hP hS hA hlocks hnh 1 (by decide) kA_IAE kE_IAE kN_IAE kO_IAE (List.mem_of_getElem? (i := 12) rfl) (by decide +kernel) d_FaultRules_holds_39 d_FaultRules_holds_42 d_FaultRules_holds_43 d_FaultRules_holds_45 d_FaultRules_holds_48 (Nat.le_of_ble_eq_true rfl) (Nat.le_of_ble_eq_true rfl) (Nat.le_of_ble_eq_true rfl) (Nat.le_of_ble_eq_true rfl)
def rm_FaultRules_line : Room := { frames := 6, cells := 1, slots := 6, locals := 90 }
set_option maxHeartbeats 4000000 in
set_option maxRecDepth 100000 in
theorem c_FaultRules_line (l : Launch) (dC : Nat → ClassId) (dI : Nat → Nat → Nat) (cI cL cC : ClassId) (h_this h_rows h_text h_reader h_found h_leftOut h_brought h_ruleSet h_draft h_rows_minutes h_rows_values h_rows_starts h_rows_seen h_leftOut_minutes : Nat) (sz : Nat) (fu : Nat) (v_rows_minutes : Nat → Int32) (v_rows_values : Nat → Int32) (v_rows_starts : Nat → Int32) (v_rows_seen : Nat → Int32) (v_leftOut_count : Int32) (v_leftOut_minutes : Nat → Int32) (p1 : Int32) (p2 : Int32) (p3 : Int32) (p4 : Int32) (p5 : Int32) (t : Nat × Int64 × (Nat → Int32)) (hf : f_FaultRules_line fu v_rows_minutes v_rows_values v_rows_starts v_rows_seen v_leftOut_count v_leftOut_minutes p1 p2 p3 p4 p5 = some t) (hltr : l.stackTraces = false) : xMet l y_FaultRules_line (Cond.code y_FaultRules_line prog_1_method_12_code 21 (some .long) :: xT) rm_FaultRules_line (va_Pc [.ref h_this, .int p1, .int p2, .int p3, .int p4, .int p5] (xPT (dC, dI) (xTy cI cL cC) [(h_this, .inr (6, [.ref h_rows, .ref h_text, .ref h_reader, .ref h_found, .ref h_leftOut, .ref h_brought, .ref h_ruleSet, .ref h_draft])), (h_rows, .inr (2, [.ref h_rows_minutes, .ref h_rows_values, .ref h_rows_starts, .ref h_rows_seen])), (h_rows_minutes, .inl (cI, 120, .inl v_rows_minutes)), (h_rows_values, .inl (cI, 120, .inl v_rows_values)), (h_rows_starts, .inl (cI, 17, .inl v_rows_starts)), (h_rows_seen, .inl (cI, 16, .inl v_rows_seen)), (h_leftOut, .inr (0, [.ref h_leftOut_minutes, .int v_leftOut_count])), (h_leftOut_minutes, .inl (cI, 100, .inl v_leftOut_minutes))] sz)) (xQT (dC, dI) [(h_this, .inr (6, [.ref h_rows, .ref h_text, .ref h_reader, .ref h_found, .ref h_leftOut, .ref h_brought, .ref h_ruleSet, .ref h_draft])), (h_rows, .inr (2, [.ref h_rows_minutes, .ref h_rows_values, .ref h_rows_starts, .ref h_rows_seen])), (h_rows_minutes, .inl (cI, 120, .inl v_rows_minutes)), (h_rows_values, .inl (cI, 120, .inl v_rows_values)), (h_rows_starts, .inl (cI, 17, .inl v_rows_starts)), (h_rows_seen, .inl (cI, 16, .inl t.2.2)), (h_leftOut, .inr (0, [.ref h_leftOut_minutes, .int v_leftOut_count])), (h_leftOut_minutes, .inl (cI, 100, .inl v_leftOut_minutes))] (va_A [(h_this, .inr (6, [.ref h_rows, .ref h_text, .ref h_reader, .ref h_found, .ref h_leftOut, .ref h_brought, .ref h_ruleSet, .ref h_draft])), (h_rows, .inr (2, [.ref h_rows_minutes, .ref h_rows_values, .ref h_rows_starts, .ref h_rows_seen])), (h_rows_minutes, .inl (cI, 120, .inl v_rows_minutes)), (h_rows_values, .inl (cI, 120, .inl v_rows_values)), (h_rows_starts, .inl (cI, 17, .inl v_rows_starts)), (h_rows_seen, .inl (cI, 16, .inl v_rows_seen)), (h_leftOut, .inr (0, [.ref h_leftOut_minutes, .int v_leftOut_count])), (h_leftOut_minutes, .inl (cI, 100, .inl v_leftOut_minutes))] sz) t.1 (some (.long t.2.1))) 1 6 (va_A [(h_this, .inr (6, [.ref h_rows, .ref h_text, .ref h_reader, .ref h_found, .ref h_leftOut, .ref h_brought, .ref h_ruleSet, .ref h_draft])), (h_rows, .inr (2, [.ref h_rows_minutes, .ref h_rows_values, .ref h_rows_starts, .ref h_rows_seen])), (h_rows_minutes, .inl (cI, 120, .inl v_rows_minutes)), (h_rows_values, .inl (cI, 120, .inl v_rows_values)), (h_rows_starts, .inl (cI, 17, .inl v_rows_starts)), (h_rows_seen, .inl (cI, 16, .inl v_rows_seen)), (h_leftOut, .inr (0, [.ref h_leftOut_minutes, .int v_leftOut_count])), (h_leftOut_minutes, .inl (cI, 100, .inl v_leftOut_minutes))] sz) := by
  refine xMet_ofW (cc := prog_1_method_12_code) (maxL := 21) (ret := (some .long)) (by decide) rfl ?_
  intro p e s m args below meth c s₁ B hml hv
  obtain ⟨hargs, ⟨hsz, hP, hK, hN, hD0⟩, hxW⟩ := hv
  have hx := B.exec
  have hb := B.bytes
  have hr := B.returns
  have hT : ∀ w ∈ xT, w.before args s = true := fun w hw => atoms_spec (ws := Cond.code y_FaultRules_line prog_1_method_12_code 21 (some .long) :: xT) B.pre w (List.mem_cons_of_mem _ hw)
  have hown : s.vm.findClass R_FaultRules = some m.cls := findClass_of_methodNamed B.named
  have hlocks := B.notSynchronized
  subst hsz
  have hD := hD0.self (sz := s.heap.size)
  have hNS : ∀ (q : Nat) (cell : Cell), va_A [(h_this, .inr (6, [.ref h_rows, .ref h_text, .ref h_reader, .ref h_found, .ref h_leftOut, .ref h_brought, .ref h_ruleSet, .ref h_draft])), (h_rows, .inr (2, [.ref h_rows_minutes, .ref h_rows_values, .ref h_rows_starts, .ref h_rows_seen])), (h_rows_minutes, .inl (cI, 120, .inl v_rows_minutes)), (h_rows_values, .inl (cI, 120, .inl v_rows_values)), (h_rows_starts, .inl (cI, 17, .inl v_rows_starts)), (h_rows_seen, .inl (cI, 16, .inl v_rows_seen)), (h_leftOut, .inr (0, [.ref h_leftOut_minutes, .int v_leftOut_count])), (h_leftOut_minutes, .inl (cI, 100, .inl v_leftOut_minutes))] s.heap.size q → s.heap[q]? = some cell → cell.vm.isStatics = false := x_noSt hP
  have hnh : c.exceptionTable.toList = [] := x_nh B (atoms_spec (ws := Cond.code y_FaultRules_line prog_1_method_12_code 21 (some .long) :: xT) B.pre _ List.mem_cons_self)
  generalize hAe : va_A [(h_this, .inr (6, [.ref h_rows, .ref h_text, .ref h_reader, .ref h_found, .ref h_leftOut, .ref h_brought, .ref h_ruleSet, .ref h_draft])), (h_rows, .inr (2, [.ref h_rows_minutes, .ref h_rows_values, .ref h_rows_starts, .ref h_rows_seen])), (h_rows_minutes, .inl (cI, 120, .inl v_rows_minutes)), (h_rows_values, .inl (cI, 120, .inl v_rows_values)), (h_rows_starts, .inl (cI, 17, .inl v_rows_starts)), (h_rows_seen, .inl (cI, 16, .inl v_rows_seen)), (h_leftOut, .inr (0, [.ref h_leftOut_minutes, .int v_leftOut_count])), (h_leftOut_minutes, .inl (cI, 100, .inl v_leftOut_minutes))] s.heap.size = A at hD hNS ⊢
  have hA : ∀ q : Nat, s.heap.size ≤ q → A q := fun q h => by rw [← hAe]; exact Or.inr h
  have hS : va_S A s.heap s.heap [] := va_S.rf
  have hP : va_P (dC, dI) vwCl [(h_this, .inr (6, [.ref h_rows, .ref h_text, .ref h_reader, .ref h_found, .ref h_leftOut, .ref h_brought, .ref h_ruleSet, .ref h_draft])), (h_rows, .inr (2, [.ref h_rows_minutes, .ref h_rows_values, .ref h_rows_starts, .ref h_rows_seen])), (h_rows_minutes, .inl (cI, 120, .inl v_rows_minutes)), (h_rows_values, .inl (cI, 120, .inl v_rows_values)), (h_rows_starts, .inl (cI, 17, .inl v_rows_starts)), (h_rows_seen, .inl (cI, 16, .inl v_rows_seen)), (h_leftOut, .inr (0, [.ref h_leftOut_minutes, .int v_leftOut_count])), (h_leftOut_minutes, .inl (cI, 100, .inl v_leftOut_minutes))] s.heap := hP
  have hl := lv_entry ([.ref h_this, .int p1, .int p2, .int p3, .int p4, .int p5]) (n := 21) (Nat.le_of_ble_eq_true rfl)
  rw [show entryFrame m args 21 = entryFrame m ([.ref h_this, .int p1, .int p2, .int p3, .int p4, .int p5] : List Value).toArray 21 from by rw [hargs], lg_entry_eq]
  generalize (lg_sl ([.ref h_this, .int p1, .int p2, .int p3, .int p4, .int p5]) ++ List.replicate (21 - (lg_sl ([.ref h_this, .int p1, .int p2, .int p3, .int p4, .int p5])).length) Slot.unset).toArray = ls at hl ⊢
  have hl : lv_has ls 21 [(0, .ref h_this), (1, .int p1), (2, .int p2), (3, .int p3), (4, .int p4), (5, .int p5)] := hl
  obtain ⟨Q, hQ⟩ : ∃ Q, Q = xMQ below (xQT (dC, dI) [(h_this, .inr (6, [.ref h_rows, .ref h_text, .ref h_reader, .ref h_found, .ref h_leftOut, .ref h_brought, .ref h_ruleSet, .ref h_draft])), (h_rows, .inr (2, [.ref h_rows_minutes, .ref h_rows_values, .ref h_rows_starts, .ref h_rows_seen])), (h_rows_minutes, .inl (cI, 120, .inl v_rows_minutes)), (h_rows_values, .inl (cI, 120, .inl v_rows_values)), (h_rows_starts, .inl (cI, 17, .inl v_rows_starts)), (h_rows_seen, .inl (cI, 16, .inl t.2.2)), (h_leftOut, .inr (0, [.ref h_leftOut_minutes, .int v_leftOut_count])), (h_leftOut_minutes, .inl (cI, 100, .inl v_leftOut_minutes))] A t.1 (some (.long t.2.1))) args s 1 6 A := ⟨_, rfl⟩
  rw [← hQ]
  show W p l e rm_FaultRules_line s m args below meth c s.heap [] 0 0 Q _
  obtain ⟨H, hH⟩ : ∃ H, H = s.heap := ⟨_, rfl⟩
  obtain ⟨locs, hlocs⟩ : ∃ L : List Loc, L = [] := ⟨_, rfl⟩
  rw [← hlocs] at hS ⊢
  have hS : va_S A s.heap H locs := by rw [hH]; exact hS
  rw [← hH] at hP ⊢
  replace hf := f_FaultRules_line_u hf
  refine lv_iload_n hx hb d_FaultRules_line_0 rfl (lv_at hl 1 rfl) ?_
  obtain ⟨t_1, hg_1, hf⟩ := o_bind hf
  refine x_stat (w' := [(h_this, .inr (6, [.ref h_rows, .ref h_text, .ref h_reader, .ref h_found, .ref h_leftOut, .ref h_brought, .ref h_ruleSet, .ref h_draft])), (h_rows, .inr (2, [.ref h_rows_minutes, .ref h_rows_values, .ref h_rows_starts, .ref h_rows_seen])), (h_rows_minutes, .inl (cI, 120, .inl v_rows_minutes)), (h_rows_values, .inl (cI, 120, .inl v_rows_values)), (h_rows_starts, .inl (cI, 17, .inl v_rows_starts)), (h_rows_seen, .inl (cI, 16, .inl v_rows_seen)), (h_leftOut, .inr (0, [.ref h_leftOut_minutes, .int v_leftOut_count])), (h_leftOut_minutes, .inl (cI, 100, .inl v_leftOut_minutes))]) (As := [.int p1]) (rest := []) hx hb hml hl.1 hown hT hK hN hP hD hS hA (c_FaultRules_isPoint l dC dI cI cL cC H.size p1 t_1 hg_1) kM_FaultRules_58 kT_FaultRules_isPoint kN_FaultRules kC_FaultRules_isPoint hd_FaultRules_isPoint rfl ⟨Nat.le_of_ble_eq_true rfl, Nat.le_of_ble_eq_true rfl⟩ rfl rfl ⟨Nat.zero_le _, Nat.zero_le _⟩ rfl (Nat.le_of_ble_eq_true rfl) d_FaultRules_line_1 [] rfl rfl [.inl 0, .inl 1, .inl 2, .inl 3, .inl 4, .inl 5, .inl 6, .inl 7] rfl rfl rfl (fun H locs hP hD hS => ?_)
  refine lv_if_eq (tgt := 36) hx hb d_FaultRules_line_4 (by decide) (fun c_2 => ?_) (fun c_2 => ?_)
  · replace hf := o_pos c_2 hf
    rw [hQ, ← Option.some.inj hf]
    exact x_throw hx hb hltr hml hl.1 hown hT hxW hNS hP hS hA hlocks hnh 1 (by decide) kA_IAE kE_IAE kN_IAE kO_IAE (List.mem_of_getElem? (i := 13) rfl) (by decide +kernel) d_FaultRules_line_36 d_FaultRules_line_39 d_FaultRules_line_40 d_FaultRules_line_42 d_FaultRules_line_45 (Nat.le_of_ble_eq_true rfl) (Nat.le_of_ble_eq_true rfl) (Nat.le_of_ble_eq_true rfl) (Nat.le_of_ble_eq_true rfl)
  · replace hf := o_neg c_2 hf
    refine lv_iload_n hx hb d_FaultRules_line_7 rfl (lv_at hl 2 rfl) ?_
    obtain ⟨t_3, hg_3, hf⟩ := o_bind hf
    refine x_stat (w' := [(h_this, .inr (6, [.ref h_rows, .ref h_text, .ref h_reader, .ref h_found, .ref h_leftOut, .ref h_brought, .ref h_ruleSet, .ref h_draft])), (h_rows, .inr (2, [.ref h_rows_minutes, .ref h_rows_values, .ref h_rows_starts, .ref h_rows_seen])), (h_rows_minutes, .inl (cI, 120, .inl v_rows_minutes)), (h_rows_values, .inl (cI, 120, .inl v_rows_values)), (h_rows_starts, .inl (cI, 17, .inl v_rows_starts)), (h_rows_seen, .inl (cI, 16, .inl v_rows_seen)), (h_leftOut, .inr (0, [.ref h_leftOut_minutes, .int v_leftOut_count])), (h_leftOut_minutes, .inl (cI, 100, .inl v_leftOut_minutes))]) (As := [.int p2]) (rest := []) hx hb hml hl.1 hown hT hK hN hP hD hS hA (c_FaultRules_isPoint l dC dI cI cL cC H.size p2 t_3 hg_3) kM_FaultRules_58 kT_FaultRules_isPoint kN_FaultRules kC_FaultRules_isPoint hd_FaultRules_isPoint rfl ⟨Nat.le_of_ble_eq_true rfl, Nat.le_of_ble_eq_true rfl⟩ rfl rfl ⟨Nat.zero_le _, Nat.zero_le _⟩ rfl (Nat.le_of_ble_eq_true rfl) d_FaultRules_line_8 [] rfl rfl [.inl 0, .inl 1, .inl 2, .inl 3, .inl 4, .inl 5, .inl 6, .inl 7] rfl rfl rfl (fun H locs hP hD hS => ?_)
    refine lv_if_eq (tgt := 36) hx hb d_FaultRules_line_11 (by decide) (fun c_4 => ?_) (fun c_4 => ?_)
    · replace hf := o_pos c_4 hf
      rw [hQ, ← Option.some.inj hf]
      exact x_throw hx hb hltr hml hl.1 hown hT hxW hNS hP hS hA hlocks hnh 1 (by decide) kA_IAE kE_IAE kN_IAE kO_IAE (List.mem_of_getElem? (i := 13) rfl) (by decide +kernel) d_FaultRules_line_36 d_FaultRules_line_39 d_FaultRules_line_40 d_FaultRules_line_42 d_FaultRules_line_45 (Nat.le_of_ble_eq_true rfl) (Nat.le_of_ble_eq_true rfl) (Nat.le_of_ble_eq_true rfl) (Nat.le_of_ble_eq_true rfl)
    · replace hf := o_neg c_4 hf
      refine lv_iload_n hx hb d_FaultRules_line_14 rfl (lv_at hl 3 rfl) ?_
      refine lv_iload hx hb d_FaultRules_line_15 (lv_at hl 4 rfl) ?_
      refine lv_bipush (v := 60) hx hb d_FaultRules_line_17 (by decide) ?_
      obtain ⟨t_5, hg_5, hf⟩ := o_bind hf
      refine x_stat (w' := [(h_this, .inr (6, [.ref h_rows, .ref h_text, .ref h_reader, .ref h_found, .ref h_leftOut, .ref h_brought, .ref h_ruleSet, .ref h_draft])), (h_rows, .inr (2, [.ref h_rows_minutes, .ref h_rows_values, .ref h_rows_starts, .ref h_rows_seen])), (h_rows_minutes, .inl (cI, 120, .inl v_rows_minutes)), (h_rows_values, .inl (cI, 120, .inl v_rows_values)), (h_rows_starts, .inl (cI, 17, .inl v_rows_starts)), (h_rows_seen, .inl (cI, 16, .inl v_rows_seen)), (h_leftOut, .inr (0, [.ref h_leftOut_minutes, .int v_leftOut_count])), (h_leftOut_minutes, .inl (cI, 100, .inl v_leftOut_minutes))]) (As := [.int p3, .int p4, .int 60]) (rest := []) hx hb hml hl.1 hown hT hK hN hP hD hS hA (c_FaultRules_isStretch l dC dI cI cL cC H.size p3 p4 60 t_5 hg_5) kM_FaultRules_131 kT_FaultRules_isStretch kN_FaultRules kC_FaultRules_isStretch hd_FaultRules_isStretch rfl ⟨Nat.le_of_ble_eq_true rfl, Nat.le_of_ble_eq_true rfl⟩ rfl rfl ⟨Nat.zero_le _, Nat.zero_le _⟩ rfl (Nat.le_of_ble_eq_true rfl) d_FaultRules_line_19 [] rfl rfl [.inl 0, .inl 1, .inl 2, .inl 3, .inl 4, .inl 5, .inl 6, .inl 7] rfl rfl rfl (fun H locs hP hD hS => ?_)
      refine lv_if_eq (tgt := 36) hx hb d_FaultRules_line_22 (by decide) (fun c_6 => ?_) (fun c_6 => ?_)
      · replace hf := o_pos c_6 hf
        rw [hQ, ← Option.some.inj hf]
        exact x_throw hx hb hltr hml hl.1 hown hT hxW hNS hP hS hA hlocks hnh 1 (by decide) kA_IAE kE_IAE kN_IAE kO_IAE (List.mem_of_getElem? (i := 13) rfl) (by decide +kernel) d_FaultRules_line_36 d_FaultRules_line_39 d_FaultRules_line_40 d_FaultRules_line_42 d_FaultRules_line_45 (Nat.le_of_ble_eq_true rfl) (Nat.le_of_ble_eq_true rfl) (Nat.le_of_ble_eq_true rfl) (Nat.le_of_ble_eq_true rfl)
      · replace hf := o_neg c_6 hf
        refine lv_iload hx hb d_FaultRules_line_25 (lv_at hl 5 rfl) ?_
        refine lv_if_lt (tgt := 36) hx hb d_FaultRules_line_27 (by decide) (fun c_7 => ?_) (fun c_7 => ?_)
        · replace hf := o_pos c_7 hf
          rw [hQ, ← Option.some.inj hf]
          exact x_throw hx hb hltr hml hl.1 hown hT hxW hNS hP hS hA hlocks hnh 1 (by decide) kA_IAE kE_IAE kN_IAE kO_IAE (List.mem_of_getElem? (i := 13) rfl) (by decide +kernel) d_FaultRules_line_36 d_FaultRules_line_39 d_FaultRules_line_40 d_FaultRules_line_42 d_FaultRules_line_45 (Nat.le_of_ble_eq_true rfl) (Nat.le_of_ble_eq_true rfl) (Nat.le_of_ble_eq_true rfl) (Nat.le_of_ble_eq_true rfl)
        · replace hf := o_neg c_7 hf
          refine lv_iload hx hb d_FaultRules_line_30 (lv_at hl 5 rfl) ?_
          refine lv_iconst (v := 2) hx hb d_FaultRules_line_32 (by decide) ?_
          refine lv_icmp_le (tgt := 46) hx hb d_FaultRules_line_33 (by decide) (fun c_8 => ?_) (fun c_8 => ?_)
          · replace hf := o_pos c_8 hf
            refine lv_lconst (v := 0) hx hb d_FaultRules_line_46 (by decide) ?_
            refine lv_lstore (lv' := [(6, .long 0), (0, .ref h_this), (1, .int p1), (2, .int p2), (3, .int p3), (4, .int p4), (5, .int p5)]) hx hb d_FaultRules_line_47 hl (by decide) rfl (fun ls hl => ?_)
            refine lv_lconst (v := 0) hx hb d_FaultRules_line_49 (by decide) ?_
            refine lv_lstore (lv' := [(8, .long 0), (6, .long 0), (0, .ref h_this), (1, .int p1), (2, .int p2), (3, .int p3), (4, .int p4), (5, .int p5)]) hx hb d_FaultRules_line_50 hl (by decide) rfl (fun ls hl => ?_)
            refine lv_lconst (v := 0) hx hb d_FaultRules_line_52 (by decide) ?_
            refine lv_lstore (lv' := [(10, .long 0), (8, .long 0), (6, .long 0), (0, .ref h_this), (1, .int p1), (2, .int p2), (3, .int p3), (4, .int p4), (5, .int p5)]) hx hb d_FaultRules_line_53 hl (by decide) rfl (fun ls hl => ?_)
            refine lv_lconst (v := 0) hx hb d_FaultRules_line_55 (by decide) ?_
            refine lv_lstore (lv' := [(12, .long 0), (10, .long 0), (8, .long 0), (6, .long 0), (0, .ref h_this), (1, .int p1), (2, .int p2), (3, .int p3), (4, .int p4), (5, .int p5)]) hx hb d_FaultRules_line_56 hl (by decide) rfl (fun ls hl => ?_)
            refine lv_lconst (v := 0) hx hb d_FaultRules_line_58 (by decide) ?_
            refine lv_lstore (lv' := [(14, .long 0), (12, .long 0), (10, .long 0), (8, .long 0), (6, .long 0), (0, .ref h_this), (1, .int p1), (2, .int p2), (3, .int p3), (4, .int p4), (5, .int p5)]) hx hb d_FaultRules_line_59 hl (by decide) rfl (fun ls hl => ?_)
            refine lv_aload_n hx hb d_FaultRules_line_61 rfl (lv_at hl 5 rfl) ?_
            refine va_get (D := (dC, dI)) (ci := 6) (v := .ref h_rows) (C := R_FaultRules) (T := T_FaultRules) (N := 8) hx hb hT i_FaultRules hown hK hP 0 rfl rfl 0 (by decide) (hT _ kF_FaultRules_12) (fun _ h9 => h9) rfl d_FaultRules_line_62 ?_
            obtain ⟨t_9, hg_9, hf⟩ := o_bind hf
            refine x_virt (w' := [(h_this, .inr (6, [.ref h_rows, .ref h_text, .ref h_reader, .ref h_found, .ref h_leftOut, .ref h_brought, .ref h_ruleSet, .ref h_draft])), (h_rows, .inr (2, [.ref h_rows_minutes, .ref h_rows_values, .ref h_rows_starts, .ref h_rows_seen])), (h_rows_minutes, .inl (cI, 120, .inl v_rows_minutes)), (h_rows_values, .inl (cI, 120, .inl v_rows_values)), (h_rows_starts, .inl (cI, 17, .inl v_rows_starts)), (h_rows_seen, .inl (cI, 16, .inl t_9)), (h_leftOut, .inr (0, [.ref h_leftOut_minutes, .int v_leftOut_count])), (h_leftOut_minutes, .inl (cI, 100, .inl v_leftOut_minutes))]) (As := []) (rest := []) hx hb hml hl.1 hown hT hK hN hP hD hS hA (c_Rows_rewind l dC dI cI cL cC h_rows h_rows_minutes h_rows_values h_rows_starts h_rows_seen H.size fu v_rows_seen t_9 hg_9) kM_FaultRules_93 kI_Rows_rewind kS_249 kN_Rows kC_Rows_rewind hd_Rows_rewind rfl 1 rfl rfl rfl ⟨Nat.le_of_ble_eq_true rfl, Nat.le_of_ble_eq_true rfl⟩ rfl rfl ⟨Nat.zero_le _, Nat.zero_le _⟩ rfl (Nat.le_of_ble_eq_true rfl) d_FaultRules_line_65 [1, 5] rfl rfl [.inl 0, .inr 0, .inl 2, .inl 3, .inl 4, .inr 1, .inl 6, .inl 7] rfl rfl rfl (fun H locs hP hD hS => ?_)
            refine lv_iload_n hx hb d_FaultRules_line_68 rfl (lv_at hl 8 rfl) ?_
            refine lv_istore (lv' := [(16, .int p3), (14, .long 0), (12, .long 0), (10, .long 0), (8, .long 0), (6, .long 0), (0, .ref h_this), (1, .int p1), (2, .int p2), (3, .int p3), (4, .int p4), (5, .int p5)]) hx hb d_FaultRules_line_69 hl (by decide) rfl (fun ls hl => ?_)
            have lp_71 : ∀ (k_189 : Int64 → Int64 → Int64 → Int64 → Int64 → (Nat → Int32) → Option (Nat × Int64 × (Nat → Int32))) (hk_189 : ∀ (l6_71e : Int64) (l8_71e : Int64) (l10_71e : Int64) (l12_71e : Int64) (l14_71e : Int64) (v_rows_seen_71e : Nat → Int32) (H : Heap) (locs : List Loc) (ls : Array Slot), k_189 l6_71e l8_71e l10_71e l12_71e l14_71e v_rows_seen_71e = some t → va_P (dC, dI) vwCl [(h_this, .inr (6, [.ref h_rows, .ref h_text, .ref h_reader, .ref h_found, .ref h_leftOut, .ref h_brought, .ref h_ruleSet, .ref h_draft])), (h_rows, .inr (2, [.ref h_rows_minutes, .ref h_rows_values, .ref h_rows_starts, .ref h_rows_seen])), (h_rows_minutes, .inl (cI, 120, .inl v_rows_minutes)), (h_rows_values, .inl (cI, 120, .inl v_rows_values)), (h_rows_starts, .inl (cI, 17, .inl v_rows_starts)), (h_rows_seen, .inl (cI, 16, .inl v_rows_seen_71e)), (h_leftOut, .inr (0, [.ref h_leftOut_minutes, .int v_leftOut_count])), (h_leftOut_minutes, .inl (cI, 100, .inl v_leftOut_minutes))] H → va_D A [(h_this, .inr (6, [.ref h_rows, .ref h_text, .ref h_reader, .ref h_found, .ref h_leftOut, .ref h_brought, .ref h_ruleSet, .ref h_draft])), (h_rows, .inr (2, [.ref h_rows_minutes, .ref h_rows_values, .ref h_rows_starts, .ref h_rows_seen])), (h_rows_minutes, .inl (cI, 120, .inl v_rows_minutes)), (h_rows_values, .inl (cI, 120, .inl v_rows_values)), (h_rows_starts, .inl (cI, 17, .inl v_rows_starts)), (h_rows_seen, .inl (cI, 16, .inl v_rows_seen_71e)), (h_leftOut, .inr (0, [.ref h_leftOut_minutes, .int v_leftOut_count])), (h_leftOut_minutes, .inl (cI, 100, .inl v_leftOut_minutes))] → va_S A s.heap H locs → lv_has ls 21 [(5, .int p5), (6, .long l6_71e), (8, .long l8_71e), (10, .long l10_71e), (12, .long l12_71e), (14, .long l14_71e)] → W p l e rm_FaultRules_line s m args below meth c H locs 0 0 Q (F0 m 189 ls [])), ∀ (n : Nat) (l6_71 : Int64) (l8_71 : Int64) (l10_71 : Int64) (l12_71 : Int64) (l14_71 : Int64) (l16_71 : Int32) (v_rows_seen_71 : Nat → Int32) (H : Heap) (locs : List Loc) (ls : Array Slot), L_FaultRules_line_71 fu v_rows_minutes v_rows_values v_rows_starts v_leftOut_count v_leftOut_minutes p1 p2 p4 p5 k_189 n l6_71 l8_71 l10_71 l12_71 l14_71 l16_71 v_rows_seen_71 = some t → va_P (dC, dI) vwCl [(h_this, .inr (6, [.ref h_rows, .ref h_text, .ref h_reader, .ref h_found, .ref h_leftOut, .ref h_brought, .ref h_ruleSet, .ref h_draft])), (h_rows, .inr (2, [.ref h_rows_minutes, .ref h_rows_values, .ref h_rows_starts, .ref h_rows_seen])), (h_rows_minutes, .inl (cI, 120, .inl v_rows_minutes)), (h_rows_values, .inl (cI, 120, .inl v_rows_values)), (h_rows_starts, .inl (cI, 17, .inl v_rows_starts)), (h_rows_seen, .inl (cI, 16, .inl v_rows_seen_71)), (h_leftOut, .inr (0, [.ref h_leftOut_minutes, .int v_leftOut_count])), (h_leftOut_minutes, .inl (cI, 100, .inl v_leftOut_minutes))] H → va_D A [(h_this, .inr (6, [.ref h_rows, .ref h_text, .ref h_reader, .ref h_found, .ref h_leftOut, .ref h_brought, .ref h_ruleSet, .ref h_draft])), (h_rows, .inr (2, [.ref h_rows_minutes, .ref h_rows_values, .ref h_rows_starts, .ref h_rows_seen])), (h_rows_minutes, .inl (cI, 120, .inl v_rows_minutes)), (h_rows_values, .inl (cI, 120, .inl v_rows_values)), (h_rows_starts, .inl (cI, 17, .inl v_rows_starts)), (h_rows_seen, .inl (cI, 16, .inl v_rows_seen_71)), (h_leftOut, .inr (0, [.ref h_leftOut_minutes, .int v_leftOut_count])), (h_leftOut_minutes, .inl (cI, 100, .inl v_leftOut_minutes))] → va_S A s.heap H locs → lv_has ls 21 [(0, .ref h_this), (1, .int p1), (2, .int p2), (4, .int p4), (5, .int p5), (6, .long l6_71), (8, .long l8_71), (10, .long l10_71), (12, .long l12_71), (14, .long l14_71), (16, .int l16_71)] → W p l e rm_FaultRules_line s m args below meth c H locs 0 0 Q (F0 m 71 ls []) := by
              intro k_189 hk_189 n
              induction n with
              | zero => intro l6_71 l8_71 l10_71 l12_71 l14_71 l16_71 v_rows_seen_71 H locs ls hf; exact (L_FaultRules_line_71_z hf).elim
              | succ n ih =>
                intro l6_71 l8_71 l10_71 l12_71 l14_71 l16_71 v_rows_seen_71 H locs ls hf hP hD hS hl
                replace hf := L_FaultRules_line_71_u hf
                refine lv_iload hx hb d_FaultRules_line_71 (lv_at hl 10 rfl) ?_
                refine lv_iload hx hb d_FaultRules_line_73 (lv_at hl 3 rfl) ?_
                refine lv_icmp_gt (tgt := 189) hx hb d_FaultRules_line_75 (by decide) (fun c_10 => ?_) (fun c_10 => ?_)
                · replace hf := o_pos c_10 hf
                  exact hk_189 l6_71 l8_71 l10_71 l12_71 l14_71 v_rows_seen_71 H locs ls hf hP hD hS (lv_sub hl [4, 5, 6, 7, 8, 9] rfl)
                · replace hf := o_neg c_10 hf
                  refine lv_aload_n hx hb d_FaultRules_line_78 rfl (lv_at hl 0 rfl) ?_
                  refine va_get (D := (dC, dI)) (ci := 6) (v := .ref h_rows) (C := R_FaultRules) (T := T_FaultRules) (N := 8) hx hb hT i_FaultRules hown hK hP 0 rfl rfl 0 (by decide) (hT _ kF_FaultRules_12) (fun _ h9 => h9) rfl d_FaultRules_line_79 ?_
                  refine lv_iload hx hb d_FaultRules_line_82 (lv_at hl 10 rfl) ?_
                  obtain ⟨t_11, hg_11, hf⟩ := o_bind hf
                  refine x_virt (w' := [(h_this, .inr (6, [.ref h_rows, .ref h_text, .ref h_reader, .ref h_found, .ref h_leftOut, .ref h_brought, .ref h_ruleSet, .ref h_draft])), (h_rows, .inr (2, [.ref h_rows_minutes, .ref h_rows_values, .ref h_rows_starts, .ref h_rows_seen])), (h_rows_minutes, .inl (cI, 120, .inl v_rows_minutes)), (h_rows_values, .inl (cI, 120, .inl v_rows_values)), (h_rows_starts, .inl (cI, 17, .inl v_rows_starts)), (h_rows_seen, .inl (cI, 16, .inl t_11)), (h_leftOut, .inr (0, [.ref h_leftOut_minutes, .int v_leftOut_count])), (h_leftOut_minutes, .inl (cI, 100, .inl v_leftOut_minutes))]) (As := [.int l16_71]) (rest := []) hx hb hml hl.1 hown hT hK hN hP hD hS hA (c_Rows_advance l dC dI cI cL cC h_rows h_rows_minutes h_rows_values h_rows_starts h_rows_seen H.size fu v_rows_minutes v_rows_starts v_rows_seen_71 l16_71 t_11 hg_11) kM_FaultRules_96 kI_Rows_advance kS_252 kN_Rows kC_Rows_advance hd_Rows_advance rfl 1 rfl rfl rfl ⟨Nat.le_of_ble_eq_true rfl, Nat.le_of_ble_eq_true rfl⟩ rfl rfl ⟨Nat.zero_le _, Nat.zero_le _⟩ rfl (Nat.le_of_ble_eq_true rfl) d_FaultRules_line_84 [1, 2, 4, 5] rfl rfl [.inl 0, .inr 0, .inr 1, .inl 3, .inr 2, .inr 3, .inl 6, .inl 7] rfl rfl rfl (fun H locs hP hD hS => ?_)
                  refine lv_aload_n hx hb d_FaultRules_line_87 rfl (lv_at hl 0 rfl) ?_
                  refine va_get (D := (dC, dI)) (ci := 6) (v := .ref h_rows) (C := R_FaultRules) (T := T_FaultRules) (N := 8) hx hb hT i_FaultRules hown hK hP 0 rfl rfl 0 (by decide) (hT _ kF_FaultRules_12) (fun _ h9 => h9) rfl d_FaultRules_line_88 ?_
                  refine lv_iload_n hx hb d_FaultRules_line_91 rfl (lv_at hl 1 rfl) ?_
                  obtain ⟨t_12, hg_12, hf⟩ := o_bind hf
                  refine x_virt (w' := [(h_this, .inr (6, [.ref h_rows, .ref h_text, .ref h_reader, .ref h_found, .ref h_leftOut, .ref h_brought, .ref h_ruleSet, .ref h_draft])), (h_rows, .inr (2, [.ref h_rows_minutes, .ref h_rows_values, .ref h_rows_starts, .ref h_rows_seen])), (h_rows_minutes, .inl (cI, 120, .inl v_rows_minutes)), (h_rows_values, .inl (cI, 120, .inl v_rows_values)), (h_rows_starts, .inl (cI, 17, .inl v_rows_starts)), (h_rows_seen, .inl (cI, 16, .inl t_11)), (h_leftOut, .inr (0, [.ref h_leftOut_minutes, .int v_leftOut_count])), (h_leftOut_minutes, .inl (cI, 100, .inl v_leftOut_minutes))]) (As := [.int p1]) (rest := []) hx hb hml hl.1 hown hT hK hN hP hD hS hA (c_Rows_has l dC dI cI cL cC h_rows h_rows_minutes h_rows_values h_rows_starts h_rows_seen H.size t_11 p1 t_12 hg_12) kM_FaultRules_100 kI_Rows_has kS_110 kN_Rows kC_Rows_has hd_Rows_has rfl 1 rfl rfl rfl ⟨Nat.le_of_ble_eq_true rfl, Nat.le_of_ble_eq_true rfl⟩ rfl rfl ⟨Nat.zero_le _, Nat.zero_le _⟩ rfl (Nat.le_of_ble_eq_true rfl) d_FaultRules_line_92 [1, 5] rfl rfl [.inl 0, .inr 0, .inl 2, .inl 3, .inl 4, .inr 1, .inl 6, .inl 7] rfl rfl rfl (fun H locs hP hD hS => ?_)
                  refine lv_if_eq (tgt := 183) hx hb d_FaultRules_line_95 (by decide) (fun c_13 => ?_) (fun c_13 => ?_)
                  · replace hf := o_pos c_13 hf
                    refine lv_iinc (v := l16_71 + 1) (lv' := [(16, .int (l16_71 + 1)), (0, .ref h_this), (1, .int p1), (2, .int p2), (4, .int p4), (5, .int p5), (6, .long l6_71), (8, .long l8_71), (10, .long l10_71), (12, .long l12_71), (14, .long l14_71)]) hx hb d_FaultRules_line_183 hl (k := 10) rfl rfl (by decide) rfl (fun ls hl => ?_)
                    refine lv_goto (tgt := 71) hx hb d_FaultRules_line_186 (by decide) ?_
                    exact ih l6_71 l8_71 l10_71 l12_71 l14_71 (l16_71 + 1) t_11 H locs ls hf hP hD hS (lv_sub hl [1, 2, 3, 4, 5, 6, 7, 8, 9, 10, 0] rfl)
                  · replace hf := o_neg c_13 hf
                    refine lv_aload_n hx hb d_FaultRules_line_98 rfl (lv_at hl 0 rfl) ?_
                    refine va_get (D := (dC, dI)) (ci := 6) (v := .ref h_rows) (C := R_FaultRules) (T := T_FaultRules) (N := 8) hx hb hT i_FaultRules hown hK hP 0 rfl rfl 0 (by decide) (hT _ kF_FaultRules_12) (fun _ h9 => h9) rfl d_FaultRules_line_99 ?_
                    refine lv_iload_n hx hb d_FaultRules_line_102 rfl (lv_at hl 2 rfl) ?_
                    obtain ⟨t_14, hg_14, hf⟩ := o_bind hf
                    refine x_virt (w' := [(h_this, .inr (6, [.ref h_rows, .ref h_text, .ref h_reader, .ref h_found, .ref h_leftOut, .ref h_brought, .ref h_ruleSet, .ref h_draft])), (h_rows, .inr (2, [.ref h_rows_minutes, .ref h_rows_values, .ref h_rows_starts, .ref h_rows_seen])), (h_rows_minutes, .inl (cI, 120, .inl v_rows_minutes)), (h_rows_values, .inl (cI, 120, .inl v_rows_values)), (h_rows_starts, .inl (cI, 17, .inl v_rows_starts)), (h_rows_seen, .inl (cI, 16, .inl t_11)), (h_leftOut, .inr (0, [.ref h_leftOut_minutes, .int v_leftOut_count])), (h_leftOut_minutes, .inl (cI, 100, .inl v_leftOut_minutes))]) (As := [.int p2]) (rest := []) hx hb hml hl.1 hown hT hK hN hP hD hS hA (c_Rows_has l dC dI cI cL cC h_rows h_rows_minutes h_rows_values h_rows_starts h_rows_seen H.size t_11 p2 t_14 hg_14) kM_FaultRules_100 kI_Rows_has kS_110 kN_Rows kC_Rows_has hd_Rows_has rfl 1 rfl rfl rfl ⟨Nat.le_of_ble_eq_true rfl, Nat.le_of_ble_eq_true rfl⟩ rfl rfl ⟨Nat.zero_le _, Nat.zero_le _⟩ rfl (Nat.le_of_ble_eq_true rfl) d_FaultRules_line_103 [1, 5] rfl rfl [.inl 0, .inr 0, .inl 2, .inl 3, .inl 4, .inr 1, .inl 6, .inl 7] rfl rfl rfl (fun H locs hP hD hS => ?_)
                    refine lv_if_eq (tgt := 183) hx hb d_FaultRules_line_106 (by decide) (fun c_15 => ?_) (fun c_15 => ?_)
                    · replace hf := o_pos c_15 hf
                      refine lv_iinc (v := l16_71 + 1) (lv' := [(16, .int (l16_71 + 1)), (0, .ref h_this), (1, .int p1), (2, .int p2), (4, .int p4), (5, .int p5), (6, .long l6_71), (8, .long l8_71), (10, .long l10_71), (12, .long l12_71), (14, .long l14_71)]) hx hb d_FaultRules_line_183 hl (k := 10) rfl rfl (by decide) rfl (fun ls hl => ?_)
                      refine lv_goto (tgt := 71) hx hb d_FaultRules_line_186 (by decide) ?_
                      exact ih l6_71 l8_71 l10_71 l12_71 l14_71 (l16_71 + 1) t_11 H locs ls hf hP hD hS (lv_sub hl [1, 2, 3, 4, 5, 6, 7, 8, 9, 10, 0] rfl)
                    · replace hf := o_neg c_15 hf
                      refine lv_aload_n hx hb d_FaultRules_line_109 rfl (lv_at hl 0 rfl) ?_
                      refine va_get (D := (dC, dI)) (ci := 6) (v := .ref h_leftOut) (C := R_FaultRules) (T := T_FaultRules) (N := 8) hx hb hT i_FaultRules hown hK hP 0 rfl rfl 4 (by decide) (hT _ kF_FaultRules_40) (fun _ h9 => h9) rfl d_FaultRules_line_110 ?_
                      refine lv_iload hx hb d_FaultRules_line_113 (lv_at hl 10 rfl) ?_
                      obtain ⟨t_16, hg_16, hf⟩ := o_bind hf
                      refine x_virt (w' := [(h_this, .inr (6, [.ref h_rows, .ref h_text, .ref h_reader, .ref h_found, .ref h_leftOut, .ref h_brought, .ref h_ruleSet, .ref h_draft])), (h_rows, .inr (2, [.ref h_rows_minutes, .ref h_rows_values, .ref h_rows_starts, .ref h_rows_seen])), (h_rows_minutes, .inl (cI, 120, .inl v_rows_minutes)), (h_rows_values, .inl (cI, 120, .inl v_rows_values)), (h_rows_starts, .inl (cI, 17, .inl v_rows_starts)), (h_rows_seen, .inl (cI, 16, .inl t_11)), (h_leftOut, .inr (0, [.ref h_leftOut_minutes, .int v_leftOut_count])), (h_leftOut_minutes, .inl (cI, 100, .inl v_leftOut_minutes))]) (As := [.int l16_71]) (rest := []) hx hb hml hl.1 hown hT hK hN hP hD hS hA (c_LeftOut_has l dC dI cI cL cC h_leftOut h_leftOut_minutes H.size fu v_leftOut_count v_leftOut_minutes l16_71 t_16 hg_16) kM_FaultRules_174 kI_LeftOut_has kS_339 kN_LeftOut kC_LeftOut_has hd_LeftOut_has rfl 6 rfl rfl rfl ⟨Nat.le_of_ble_eq_true rfl, Nat.le_of_ble_eq_true rfl⟩ rfl rfl ⟨Nat.zero_le _, Nat.zero_le _⟩ rfl (Nat.le_of_ble_eq_true rfl) d_FaultRules_line_115 [6, 7] rfl rfl [.inl 0, .inl 1, .inl 2, .inl 3, .inl 4, .inl 5, .inr 0, .inr 1] rfl rfl rfl (fun H locs hP hD hS => ?_)
                      refine lv_if_ne (tgt := 183) hx hb d_FaultRules_line_118 (by decide) (fun c_17 => ?_) (fun c_17 => ?_)
                      · replace hf := o_neg c_17 hf
                        refine lv_iinc (v := l16_71 + 1) (lv' := [(16, .int (l16_71 + 1)), (0, .ref h_this), (1, .int p1), (2, .int p2), (4, .int p4), (5, .int p5), (6, .long l6_71), (8, .long l8_71), (10, .long l10_71), (12, .long l12_71), (14, .long l14_71)]) hx hb d_FaultRules_line_183 hl (k := 10) rfl rfl (by decide) rfl (fun ls hl => ?_)
                        refine lv_goto (tgt := 71) hx hb d_FaultRules_line_186 (by decide) ?_
                        exact ih l6_71 l8_71 l10_71 l12_71 l14_71 (l16_71 + 1) t_11 H locs ls hf hP hD hS (lv_sub hl [1, 2, 3, 4, 5, 6, 7, 8, 9, 10, 0] rfl)
                      · replace hf := o_pos c_17 hf
                        refine lv_aload_n hx hb d_FaultRules_line_121 rfl (lv_at hl 0 rfl) ?_
                        refine va_get (D := (dC, dI)) (ci := 6) (v := .ref h_rows) (C := R_FaultRules) (T := T_FaultRules) (N := 8) hx hb hT i_FaultRules hown hK hP 0 rfl rfl 0 (by decide) (hT _ kF_FaultRules_12) (fun _ h9 => h9) rfl d_FaultRules_line_122 ?_
                        refine lv_iload_n hx hb d_FaultRules_line_125 rfl (lv_at hl 2 rfl) ?_
                        obtain ⟨t_18, hg_18, hf⟩ := o_bind hf
                        refine x_virt (w' := [(h_this, .inr (6, [.ref h_rows, .ref h_text, .ref h_reader, .ref h_found, .ref h_leftOut, .ref h_brought, .ref h_ruleSet, .ref h_draft])), (h_rows, .inr (2, [.ref h_rows_minutes, .ref h_rows_values, .ref h_rows_starts, .ref h_rows_seen])), (h_rows_minutes, .inl (cI, 120, .inl v_rows_minutes)), (h_rows_values, .inl (cI, 120, .inl v_rows_values)), (h_rows_starts, .inl (cI, 17, .inl v_rows_starts)), (h_rows_seen, .inl (cI, 16, .inl t_11)), (h_leftOut, .inr (0, [.ref h_leftOut_minutes, .int v_leftOut_count])), (h_leftOut_minutes, .inl (cI, 100, .inl v_leftOut_minutes))]) (As := [.int p2]) (rest := []) hx hb hml hl.1 hown hT hK hN hP hD hS hA (c_Rows_latestValue l dC dI cI cL cC h_rows h_rows_minutes h_rows_values h_rows_starts h_rows_seen H.size v_rows_values v_rows_starts t_11 p2 t_18 hg_18) kM_FaultRules_105 kI_Rows_latestValue kS_107 kN_Rows kC_Rows_latestValue hd_Rows_latestValue rfl 1 rfl rfl rfl ⟨Nat.le_of_ble_eq_true rfl, Nat.le_of_ble_eq_true rfl⟩ rfl rfl ⟨Nat.zero_le _, Nat.zero_le _⟩ rfl (Nat.le_of_ble_eq_true rfl) d_FaultRules_line_126 [1, 3, 4, 5] rfl rfl [.inl 0, .inr 0, .inl 2, .inr 1, .inr 2, .inr 3, .inl 6, .inl 7] rfl rfl rfl (fun H locs hP hD hS => ?_)
                        refine lv_i2l (v := (t_18 : Int32).toInt64) hx hb d_FaultRules_line_129 rfl ?_
                        refine lv_lstore (lv' := [(17, .long ((t_18 : Int32).toInt64)), (0, .ref h_this), (1, .int p1), (2, .int p2), (4, .int p4), (5, .int p5), (6, .long l6_71), (8, .long l8_71), (10, .long l10_71), (12, .long l12_71), (14, .long l14_71), (16, .int l16_71)]) hx hb d_FaultRules_line_130 hl (by decide) rfl (fun ls hl => ?_)
                        refine lv_aload_n hx hb d_FaultRules_line_132 rfl (lv_at hl 1 rfl) ?_
                        refine va_get (D := (dC, dI)) (ci := 6) (v := .ref h_rows) (C := R_FaultRules) (T := T_FaultRules) (N := 8) hx hb hT i_FaultRules hown hK hP 0 rfl rfl 0 (by decide) (hT _ kF_FaultRules_12) (fun _ h9 => h9) rfl d_FaultRules_line_133 ?_
                        refine lv_iload_n hx hb d_FaultRules_line_136 rfl (lv_at hl 2 rfl) ?_
                        obtain ⟨t_19, hg_19, hf⟩ := o_bind hf
                        refine x_virt (w' := [(h_this, .inr (6, [.ref h_rows, .ref h_text, .ref h_reader, .ref h_found, .ref h_leftOut, .ref h_brought, .ref h_ruleSet, .ref h_draft])), (h_rows, .inr (2, [.ref h_rows_minutes, .ref h_rows_values, .ref h_rows_starts, .ref h_rows_seen])), (h_rows_minutes, .inl (cI, 120, .inl v_rows_minutes)), (h_rows_values, .inl (cI, 120, .inl v_rows_values)), (h_rows_starts, .inl (cI, 17, .inl v_rows_starts)), (h_rows_seen, .inl (cI, 16, .inl t_11)), (h_leftOut, .inr (0, [.ref h_leftOut_minutes, .int v_leftOut_count])), (h_leftOut_minutes, .inl (cI, 100, .inl v_leftOut_minutes))]) (As := [.int p1]) (rest := []) hx hb hml hl.1 hown hT hK hN hP hD hS hA (c_Rows_latestValue l dC dI cI cL cC h_rows h_rows_minutes h_rows_values h_rows_starts h_rows_seen H.size v_rows_values v_rows_starts t_11 p1 t_19 hg_19) kM_FaultRules_105 kI_Rows_latestValue kS_107 kN_Rows kC_Rows_latestValue hd_Rows_latestValue rfl 1 rfl rfl rfl ⟨Nat.le_of_ble_eq_true rfl, Nat.le_of_ble_eq_true rfl⟩ rfl rfl ⟨Nat.zero_le _, Nat.zero_le _⟩ rfl (Nat.le_of_ble_eq_true rfl) d_FaultRules_line_137 [1, 3, 4, 5] rfl rfl [.inl 0, .inr 0, .inl 2, .inr 1, .inr 2, .inr 3, .inl 6, .inl 7] rfl rfl rfl (fun H locs hP hD hS => ?_)
                        refine lv_i2l (v := (t_19 : Int32).toInt64) hx hb d_FaultRules_line_140 rfl ?_
                        refine lv_lstore (lv' := [(19, .long ((t_19 : Int32).toInt64)), (17, .long ((t_18 : Int32).toInt64)), (0, .ref h_this), (1, .int p1), (2, .int p2), (4, .int p4), (5, .int p5), (6, .long l6_71), (8, .long l8_71), (10, .long l10_71), (12, .long l12_71), (14, .long l14_71), (16, .int l16_71)]) hx hb d_FaultRules_line_141 hl (by decide) rfl (fun ls hl => ?_)
                        refine lv_lload hx hb d_FaultRules_line_143 (lv_at hl 7 rfl) ?_
                        refine lv_lconst (v := 1) hx hb d_FaultRules_line_145 (by decide) ?_
                        refine lv_ladd hx hb d_FaultRules_line_146 ?_
                        refine lv_lstore (lv' := [(6, .long (l6_71 + 1)), (19, .long ((t_19 : Int32).toInt64)), (17, .long ((t_18 : Int32).toInt64)), (0, .ref h_this), (1, .int p1), (2, .int p2), (4, .int p4), (5, .int p5), (8, .long l8_71), (10, .long l10_71), (12, .long l12_71), (14, .long l14_71), (16, .int l16_71)]) hx hb d_FaultRules_line_147 hl (by decide) rfl (fun ls hl => ?_)
                        refine lv_lload hx hb d_FaultRules_line_149 (lv_at hl 8 rfl) ?_
                        refine lv_lload hx hb d_FaultRules_line_151 (lv_at hl 2 rfl) ?_
                        refine lv_ladd hx hb d_FaultRules_line_153 ?_
                        refine lv_lstore (lv' := [(8, .long (l8_71 + ((t_18 : Int32).toInt64))), (6, .long (l6_71 + 1)), (19, .long ((t_19 : Int32).toInt64)), (17, .long ((t_18 : Int32).toInt64)), (0, .ref h_this), (1, .int p1), (2, .int p2), (4, .int p4), (5, .int p5), (10, .long l10_71), (12, .long l12_71), (14, .long l14_71), (16, .int l16_71)]) hx hb d_FaultRules_line_154 hl (by decide) rfl (fun ls hl => ?_)
                        refine lv_lload hx hb d_FaultRules_line_156 (lv_at hl 9 rfl) ?_
                        refine lv_lload hx hb d_FaultRules_line_158 (lv_at hl 2 rfl) ?_
                        refine lv_ladd hx hb d_FaultRules_line_160 ?_
                        refine lv_lstore (lv' := [(10, .long (l10_71 + ((t_19 : Int32).toInt64))), (8, .long (l8_71 + ((t_18 : Int32).toInt64))), (6, .long (l6_71 + 1)), (19, .long ((t_19 : Int32).toInt64)), (17, .long ((t_18 : Int32).toInt64)), (0, .ref h_this), (1, .int p1), (2, .int p2), (4, .int p4), (5, .int p5), (12, .long l12_71), (14, .long l14_71), (16, .int l16_71)]) hx hb d_FaultRules_line_161 hl (by decide) rfl (fun ls hl => ?_)
                        refine lv_lload hx hb d_FaultRules_line_163 (lv_at hl 10 rfl) ?_
                        refine lv_lload hx hb d_FaultRules_line_165 (lv_at hl 4 rfl) ?_
                        refine lv_lload hx hb d_FaultRules_line_167 (lv_at hl 4 rfl) ?_
                        refine lv_lmul hx hb d_FaultRules_line_169 ?_
                        refine lv_ladd hx hb d_FaultRules_line_170 ?_
                        refine lv_lstore (lv' := [(12, .long (l12_71 + (((t_18 : Int32).toInt64) * ((t_18 : Int32).toInt64)))), (10, .long (l10_71 + ((t_19 : Int32).toInt64))), (8, .long (l8_71 + ((t_18 : Int32).toInt64))), (6, .long (l6_71 + 1)), (19, .long ((t_19 : Int32).toInt64)), (17, .long ((t_18 : Int32).toInt64)), (0, .ref h_this), (1, .int p1), (2, .int p2), (4, .int p4), (5, .int p5), (14, .long l14_71), (16, .int l16_71)]) hx hb d_FaultRules_line_171 hl (by decide) rfl (fun ls hl => ?_)
                        refine lv_lload hx hb d_FaultRules_line_173 (lv_at hl 11 rfl) ?_
                        refine lv_lload hx hb d_FaultRules_line_175 (lv_at hl 5 rfl) ?_
                        refine lv_lload hx hb d_FaultRules_line_177 (lv_at hl 4 rfl) ?_
                        refine lv_lmul hx hb d_FaultRules_line_179 ?_
                        refine lv_ladd hx hb d_FaultRules_line_180 ?_
                        refine lv_lstore (lv' := [(14, .long (l14_71 + (((t_18 : Int32).toInt64) * ((t_19 : Int32).toInt64)))), (12, .long (l12_71 + (((t_18 : Int32).toInt64) * ((t_18 : Int32).toInt64)))), (10, .long (l10_71 + ((t_19 : Int32).toInt64))), (8, .long (l8_71 + ((t_18 : Int32).toInt64))), (6, .long (l6_71 + 1)), (19, .long ((t_19 : Int32).toInt64)), (17, .long ((t_18 : Int32).toInt64)), (0, .ref h_this), (1, .int p1), (2, .int p2), (4, .int p4), (5, .int p5), (16, .int l16_71)]) hx hb d_FaultRules_line_181 hl (by decide) rfl (fun ls hl => ?_)
                        refine lv_iinc (v := l16_71 + 1) (lv' := [(16, .int (l16_71 + 1)), (14, .long (l14_71 + (((t_18 : Int32).toInt64) * ((t_19 : Int32).toInt64)))), (12, .long (l12_71 + (((t_18 : Int32).toInt64) * ((t_18 : Int32).toInt64)))), (10, .long (l10_71 + ((t_19 : Int32).toInt64))), (8, .long (l8_71 + ((t_18 : Int32).toInt64))), (6, .long (l6_71 + 1)), (19, .long ((t_19 : Int32).toInt64)), (17, .long ((t_18 : Int32).toInt64)), (0, .ref h_this), (1, .int p1), (2, .int p2), (4, .int p4), (5, .int p5)]) hx hb d_FaultRules_line_183 hl (k := 12) rfl rfl (by decide) rfl (fun ls hl => ?_)
                        refine lv_goto (tgt := 71) hx hb d_FaultRules_line_186 (by decide) ?_
                        exact ih (l6_71 + 1) (l8_71 + ((t_18 : Int32).toInt64)) (l10_71 + ((t_19 : Int32).toInt64)) (l12_71 + (((t_18 : Int32).toInt64) * ((t_18 : Int32).toInt64))) (l14_71 + (((t_18 : Int32).toInt64) * ((t_19 : Int32).toInt64))) (l16_71 + 1) t_11 H locs ls hf hP hD hS (lv_sub hl [8, 9, 10, 11, 12, 5, 4, 3, 2, 1, 0] rfl)
            refine lp_71 _ (fun l6_71e l8_71e l10_71e l12_71e l14_71e v_rows_seen_71e H locs ls hf hP hD hS hl => ?_) fu 0 0 0 0 0 p3 t_9 H locs ls hf hP hD hS (lv_sub hl [6, 7, 8, 10, 11, 5, 4, 3, 2, 1, 0] rfl)
            refine lv_iload hx hb d_FaultRules_line_189 (lv_at hl 0 rfl) ?_
            refine lv_iconst (v := 2) hx hb d_FaultRules_line_191 (by decide) ?_
            refine lv_icmp_ne (tgt := 200) hx hb d_FaultRules_line_192 (by decide) (fun c_20 => ?_) (fun c_20 => ?_)
            · replace hf := o_neg c_20 hf
              refine lv_lload hx hb d_FaultRules_line_200 (lv_at hl 1 rfl) ?_
              refine lv_lload hx hb d_FaultRules_line_202 (lv_at hl 5 rfl) ?_
              refine lv_lmul hx hb d_FaultRules_line_204 ?_
              refine lv_lload hx hb d_FaultRules_line_205 (lv_at hl 2 rfl) ?_
              refine lv_lload hx hb d_FaultRules_line_207 (lv_at hl 3 rfl) ?_
              refine lv_lmul hx hb d_FaultRules_line_209 ?_
              refine lv_lsub hx hb d_FaultRules_line_210 ?_
              refine lv_lload hx hb d_FaultRules_line_211 (lv_at hl 1 rfl) ?_
              refine lv_lload hx hb d_FaultRules_line_213 (lv_at hl 4 rfl) ?_
              refine lv_lmul hx hb d_FaultRules_line_215 ?_
              refine lv_lload hx hb d_FaultRules_line_216 (lv_at hl 2 rfl) ?_
              refine lv_lload hx hb d_FaultRules_line_218 (lv_at hl 2 rfl) ?_
              refine lv_lmul hx hb d_FaultRules_line_220 ?_
              refine lv_lsub hx hb d_FaultRules_line_221 ?_
              refine lv_iload hx hb d_FaultRules_line_222 (lv_at hl 0 rfl) ?_
              obtain ⟨t_21, hg_21, hf⟩ := o_bind hf
              refine x_stat (w' := [(h_this, .inr (6, [.ref h_rows, .ref h_text, .ref h_reader, .ref h_found, .ref h_leftOut, .ref h_brought, .ref h_ruleSet, .ref h_draft])), (h_rows, .inr (2, [.ref h_rows_minutes, .ref h_rows_values, .ref h_rows_starts, .ref h_rows_seen])), (h_rows_minutes, .inl (cI, 120, .inl v_rows_minutes)), (h_rows_values, .inl (cI, 120, .inl v_rows_values)), (h_rows_starts, .inl (cI, 17, .inl v_rows_starts)), (h_rows_seen, .inl (cI, 16, .inl v_rows_seen_71e)), (h_leftOut, .inr (0, [.ref h_leftOut_minutes, .int v_leftOut_count])), (h_leftOut_minutes, .inl (cI, 100, .inl v_leftOut_minutes))]) (As := [.long ((l6_71e * l14_71e) - (l8_71e * l10_71e)), .long ((l6_71e * l12_71e) - (l8_71e * l8_71e)), .int p5]) (rest := []) hx hb hml hl.1 hown hT hK hN hP hD hS hA (c_FaultRules_lowest l dC dI cI cL cC H.size fu ((l6_71e * l14_71e) - (l8_71e * l10_71e)) ((l6_71e * l12_71e) - (l8_71e * l8_71e)) p5 t_21 hg_21) kM_FaultRules_175 kT_FaultRules_lowest kN_FaultRules kC_FaultRules_lowest hd_FaultRules_lowest rfl ⟨Nat.le_of_ble_eq_true rfl, Nat.le_of_ble_eq_true rfl⟩ rfl rfl ⟨Nat.zero_le _, Nat.zero_le _⟩ rfl (Nat.le_of_ble_eq_true rfl) d_FaultRules_line_224 [] rfl rfl [.inl 0, .inl 1, .inl 2, .inl 3, .inl 4, .inl 5, .inl 6, .inl 7] rfl rfl rfl (fun H locs hP hD hS => ?_)
              rw [hQ, ← Option.some.inj hf]
              refine x_ret ?_
              refine W.widen (k := 1) (n := 6) (Nat.zero_le _) (Nat.zero_le _) ?_
              exact W.lret hx hb hr (fun t9 ht9 hW9 => ⟨by rw [ht9]; exact hP, hS.F ht9, Or.inl ⟨rfl, rfl⟩⟩) hS.2.2 d_FaultRules_line_227
            · replace hf := o_pos c_20 hf
              refine lv_lload hx hb d_FaultRules_line_195 (lv_at hl 1 rfl) ?_
              refine lv_goto (tgt := 227) hx hb d_FaultRules_line_197 (by decide) ?_
              rw [hQ, ← Option.some.inj hf]
              refine x_ret ?_
              refine W.widen (k := 1) (n := 6) (Nat.zero_le _) (Nat.zero_le _) ?_
              exact W.lret hx hb hr (fun t9 ht9 hW9 => ⟨by rw [ht9]; exact hP, hS.F ht9, Or.inl ⟨rfl, rfl⟩⟩) hS.2.2 d_FaultRules_line_227
          · replace hf := o_neg c_8 hf
            rw [hQ, ← Option.some.inj hf]
            exact x_throw hx hb hltr hml hl.1 hown hT hxW hNS hP hS hA hlocks hnh 1 (by decide) kA_IAE kE_IAE kN_IAE kO_IAE (List.mem_of_getElem? (i := 13) rfl) (by decide +kernel) d_FaultRules_line_36 d_FaultRules_line_39 d_FaultRules_line_40 d_FaultRules_line_42 d_FaultRules_line_45 (Nat.le_of_ble_eq_true rfl) (Nat.le_of_ble_eq_true rfl) (Nat.le_of_ble_eq_true rfl) (Nat.le_of_ble_eq_true rfl)
def rm_FaultRules_leave : Room := { frames := 6, cells := 1, slots := 6, locals := 90 }
set_option maxHeartbeats 4000000 in
set_option maxRecDepth 100000 in
theorem c_FaultRules_leave (l : Launch) (dC : Nat → ClassId) (dI : Nat → Nat → Nat) (cI cL cC : ClassId) (h_this h_rows h_text h_reader h_found h_leftOut h_brought h_ruleSet h_draft h_leftOut_minutes : Nat) (sz : Nat) (fu : Nat) (v_leftOut_count : Int32) (v_leftOut_minutes : Nat → Int32) (p1 : Int32) (p2 : Int32) (t : Nat × Int32 × Int32 × (Nat → Int32)) (hf : f_FaultRules_leave fu v_leftOut_count v_leftOut_minutes p1 p2 = some t) (hltr : l.stackTraces = false) : xMet l y_FaultRules_leave (Cond.code y_FaultRules_leave prog_1_method_13_code 4 (some .boolean) :: xT) rm_FaultRules_leave (va_Pc [.ref h_this, .int p1, .int p2] (xPT (dC, dI) (xTy cI cL cC) [(h_this, .inr (6, [.ref h_rows, .ref h_text, .ref h_reader, .ref h_found, .ref h_leftOut, .ref h_brought, .ref h_ruleSet, .ref h_draft])), (h_leftOut, .inr (0, [.ref h_leftOut_minutes, .int v_leftOut_count])), (h_leftOut_minutes, .inl (cI, 100, .inl v_leftOut_minutes))] sz)) (xQT (dC, dI) [(h_this, .inr (6, [.ref h_rows, .ref h_text, .ref h_reader, .ref h_found, .ref h_leftOut, .ref h_brought, .ref h_ruleSet, .ref h_draft])), (h_leftOut, .inr (0, [.ref h_leftOut_minutes, .int t.2.2.1])), (h_leftOut_minutes, .inl (cI, 100, .inl t.2.2.2))] (va_A [(h_this, .inr (6, [.ref h_rows, .ref h_text, .ref h_reader, .ref h_found, .ref h_leftOut, .ref h_brought, .ref h_ruleSet, .ref h_draft])), (h_leftOut, .inr (0, [.ref h_leftOut_minutes, .int v_leftOut_count])), (h_leftOut_minutes, .inl (cI, 100, .inl v_leftOut_minutes))] sz) t.1 (some (.int t.2.1))) 1 6 (va_A [(h_this, .inr (6, [.ref h_rows, .ref h_text, .ref h_reader, .ref h_found, .ref h_leftOut, .ref h_brought, .ref h_ruleSet, .ref h_draft])), (h_leftOut, .inr (0, [.ref h_leftOut_minutes, .int v_leftOut_count])), (h_leftOut_minutes, .inl (cI, 100, .inl v_leftOut_minutes))] sz) := by
  refine xMet_ofW (cc := prog_1_method_13_code) (maxL := 4) (ret := (some .boolean)) (by decide) rfl ?_
  intro p e s m args below meth c s₁ B hml hv
  obtain ⟨hargs, ⟨hsz, hP, hK, hN, hD0⟩, hxW⟩ := hv
  have hx := B.exec
  have hb := B.bytes
  have hr := B.returns
  have hT : ∀ w ∈ xT, w.before args s = true := fun w hw => atoms_spec (ws := Cond.code y_FaultRules_leave prog_1_method_13_code 4 (some .boolean) :: xT) B.pre w (List.mem_cons_of_mem _ hw)
  have hown : s.vm.findClass R_FaultRules = some m.cls := findClass_of_methodNamed B.named
  have hlocks := B.notSynchronized
  subst hsz
  have hD := hD0.self (sz := s.heap.size)
  have hNS : ∀ (q : Nat) (cell : Cell), va_A [(h_this, .inr (6, [.ref h_rows, .ref h_text, .ref h_reader, .ref h_found, .ref h_leftOut, .ref h_brought, .ref h_ruleSet, .ref h_draft])), (h_leftOut, .inr (0, [.ref h_leftOut_minutes, .int v_leftOut_count])), (h_leftOut_minutes, .inl (cI, 100, .inl v_leftOut_minutes))] s.heap.size q → s.heap[q]? = some cell → cell.vm.isStatics = false := x_noSt hP
  have hnh : c.exceptionTable.toList = [] := x_nh B (atoms_spec (ws := Cond.code y_FaultRules_leave prog_1_method_13_code 4 (some .boolean) :: xT) B.pre _ List.mem_cons_self)
  generalize hAe : va_A [(h_this, .inr (6, [.ref h_rows, .ref h_text, .ref h_reader, .ref h_found, .ref h_leftOut, .ref h_brought, .ref h_ruleSet, .ref h_draft])), (h_leftOut, .inr (0, [.ref h_leftOut_minutes, .int v_leftOut_count])), (h_leftOut_minutes, .inl (cI, 100, .inl v_leftOut_minutes))] s.heap.size = A at hD hNS ⊢
  have hA : ∀ q : Nat, s.heap.size ≤ q → A q := fun q h => by rw [← hAe]; exact Or.inr h
  have hS : va_S A s.heap s.heap [] := va_S.rf
  have hP : va_P (dC, dI) vwCl [(h_this, .inr (6, [.ref h_rows, .ref h_text, .ref h_reader, .ref h_found, .ref h_leftOut, .ref h_brought, .ref h_ruleSet, .ref h_draft])), (h_leftOut, .inr (0, [.ref h_leftOut_minutes, .int v_leftOut_count])), (h_leftOut_minutes, .inl (cI, 100, .inl v_leftOut_minutes))] s.heap := hP
  have hl := lv_entry ([.ref h_this, .int p1, .int p2]) (n := 4) (Nat.le_of_ble_eq_true rfl)
  rw [show entryFrame m args 4 = entryFrame m ([.ref h_this, .int p1, .int p2] : List Value).toArray 4 from by rw [hargs], lg_entry_eq]
  generalize (lg_sl ([.ref h_this, .int p1, .int p2]) ++ List.replicate (4 - (lg_sl ([.ref h_this, .int p1, .int p2])).length) Slot.unset).toArray = ls at hl ⊢
  have hl : lv_has ls 4 [(0, .ref h_this), (1, .int p1), (2, .int p2)] := hl
  obtain ⟨Q, hQ⟩ : ∃ Q, Q = xMQ below (xQT (dC, dI) [(h_this, .inr (6, [.ref h_rows, .ref h_text, .ref h_reader, .ref h_found, .ref h_leftOut, .ref h_brought, .ref h_ruleSet, .ref h_draft])), (h_leftOut, .inr (0, [.ref h_leftOut_minutes, .int t.2.2.1])), (h_leftOut_minutes, .inl (cI, 100, .inl t.2.2.2))] A t.1 (some (.int t.2.1))) args s 1 6 A := ⟨_, rfl⟩
  rw [← hQ]
  show W p l e rm_FaultRules_leave s m args below meth c s.heap [] 0 0 Q _
  obtain ⟨H, hH⟩ : ∃ H, H = s.heap := ⟨_, rfl⟩
  obtain ⟨locs, hlocs⟩ : ∃ L : List Loc, L = [] := ⟨_, rfl⟩
  rw [← hlocs] at hS ⊢
  have hS : va_S A s.heap H locs := by rw [hH]; exact hS
  rw [← hH] at hP ⊢
  replace hf := f_FaultRules_leave_u hf
  refine lv_iload_n hx hb d_FaultRules_leave_0 rfl (lv_at hl 1 rfl) ?_
  obtain ⟨t_1, hg_1, hf⟩ := o_bind hf
  refine x_stat (w' := [(h_this, .inr (6, [.ref h_rows, .ref h_text, .ref h_reader, .ref h_found, .ref h_leftOut, .ref h_brought, .ref h_ruleSet, .ref h_draft])), (h_leftOut, .inr (0, [.ref h_leftOut_minutes, .int v_leftOut_count])), (h_leftOut_minutes, .inl (cI, 100, .inl v_leftOut_minutes))]) (As := [.int p1]) (rest := []) hx hb hml hl.1 hown hT hK hN hP hD hS hA (c_FaultRules_isMinute l dC dI cI cL cC H.size p1 t_1 hg_1) kM_FaultRules_62 kT_FaultRules_isMinute kN_FaultRules kC_FaultRules_isMinute hd_FaultRules_isMinute rfl ⟨Nat.le_of_ble_eq_true rfl, Nat.le_of_ble_eq_true rfl⟩ rfl rfl ⟨Nat.zero_le _, Nat.zero_le _⟩ rfl (Nat.le_of_ble_eq_true rfl) d_FaultRules_leave_1 [] rfl rfl [.inl 0, .inl 1, .inl 2] rfl rfl rfl (fun H locs hP hD hS => ?_)
  refine lv_if_ne (tgt := 17) hx hb d_FaultRules_leave_4 (by decide) (fun c_2 => ?_) (fun c_2 => ?_)
  · replace hf := o_neg c_2 hf
    refine lv_aload_n hx hb d_FaultRules_leave_17 rfl (lv_at hl 0 rfl) ?_
    refine va_get (D := (dC, dI)) (ci := 6) (v := .ref h_leftOut) (C := R_FaultRules) (T := T_FaultRules) (N := 8) hx hb hT i_FaultRules hown hK hP 0 rfl rfl 4 (by decide) (hT _ kF_FaultRules_40) (fun _ h9 => h9) rfl d_FaultRules_leave_18 ?_
    refine lv_iload_n hx hb d_FaultRules_leave_21 rfl (lv_at hl 1 rfl) ?_
    obtain ⟨t_3, hg_3, hf⟩ := o_bind hf
    refine x_virt (w' := [(h_this, .inr (6, [.ref h_rows, .ref h_text, .ref h_reader, .ref h_found, .ref h_leftOut, .ref h_brought, .ref h_ruleSet, .ref h_draft])), (h_leftOut, .inr (0, [.ref h_leftOut_minutes, .int v_leftOut_count])), (h_leftOut_minutes, .inl (cI, 100, .inl v_leftOut_minutes))]) (As := [.int p1]) (rest := []) hx hb hml hl.1 hown hT hK hN hP hD hS hA (c_LeftOut_has l dC dI cI cL cC h_leftOut h_leftOut_minutes H.size fu v_leftOut_count v_leftOut_minutes p1 t_3 hg_3) kM_FaultRules_174 kI_LeftOut_has kS_339 kN_LeftOut kC_LeftOut_has hd_LeftOut_has rfl 1 rfl rfl rfl ⟨Nat.le_of_ble_eq_true rfl, Nat.le_of_ble_eq_true rfl⟩ rfl rfl ⟨Nat.zero_le _, Nat.zero_le _⟩ rfl (Nat.le_of_ble_eq_true rfl) d_FaultRules_leave_22 [1, 2] rfl rfl [.inl 0, .inr 0, .inr 1] rfl rfl rfl (fun H locs hP hD hS => ?_)
    refine lv_istore_n (lv' := [(3, .int t_3), (0, .ref h_this), (1, .int p1), (2, .int p2)]) hx hb d_FaultRules_leave_25 rfl hl (by decide) rfl (fun ls hl => ?_)
    refine lv_iload_n hx hb d_FaultRules_leave_26 rfl (lv_at hl 3 rfl) ?_
    refine lv_if_eq (tgt := 54) hx hb d_FaultRules_leave_27 (by decide) (fun c_4 => ?_) (fun c_4 => ?_)
    · replace hf := o_pos c_4 hf
      refine lv_iload_n hx hb d_FaultRules_leave_54 rfl (lv_at hl 3 rfl) ?_
      refine lv_if_eq (tgt := 70) hx hb d_FaultRules_leave_55 (by decide) (fun c_5 => ?_) (fun c_5 => ?_)
      · replace hf := o_pos c_5 hf
        refine lv_iload_n hx hb d_FaultRules_leave_70 rfl (lv_at hl 3 rfl) ?_
        refine lv_if_ne (tgt := 86) hx hb d_FaultRules_leave_71 (by decide) (fun c_6 => ?_) (fun c_6 => ?_)
        · replace hf := o_neg c_6 hf
          refine lv_iload_n hx hb d_FaultRules_leave_86 rfl (lv_at hl 0 rfl) ?_
          obtain ⟨hz_7, hf⟩ := o_zb hf
          rw [hQ, ← Option.some.inj hf]
          refine x_ret ?_
          refine W.widen (k := 1) (n := 6) (Nat.zero_le _) (Nat.zero_le _) ?_
          exact W.zret (ty := .boolean) hx hb hr hz_7 (fun t9 ht9 hW9 => ⟨by rw [ht9]; exact hP, hS.F ht9, Or.inl ⟨rfl, rfl⟩⟩) hS.2.2 d_FaultRules_leave_87
        · replace hf := o_pos c_6 hf
          refine lv_iload_n hx hb d_FaultRules_leave_74 rfl (lv_at hl 0 rfl) ?_
          refine lv_if_eq (tgt := 86) hx hb d_FaultRules_leave_75 (by decide) (fun c_8 => ?_) (fun c_8 => ?_)
          · replace hf := o_pos c_8 hf
            refine lv_iload_n hx hb d_FaultRules_leave_86 rfl (lv_at hl 0 rfl) ?_
            obtain ⟨hz_9, hf⟩ := o_zb hf
            rw [hQ, ← Option.some.inj hf]
            refine x_ret ?_
            refine W.widen (k := 1) (n := 6) (Nat.zero_le _) (Nat.zero_le _) ?_
            exact W.zret (ty := .boolean) hx hb hr hz_9 (fun t9 ht9 hW9 => ⟨by rw [ht9]; exact hP, hS.F ht9, Or.inl ⟨rfl, rfl⟩⟩) hS.2.2 d_FaultRules_leave_87
          · replace hf := o_neg c_8 hf
            refine lv_aload_n hx hb d_FaultRules_leave_78 rfl (lv_at hl 1 rfl) ?_
            refine va_get (D := (dC, dI)) (ci := 6) (v := .ref h_leftOut) (C := R_FaultRules) (T := T_FaultRules) (N := 8) hx hb hT i_FaultRules hown hK hP 0 rfl rfl 4 (by decide) (hT _ kF_FaultRules_40) (fun _ h9 => h9) rfl d_FaultRules_leave_79 ?_
            refine lv_iload_n hx hb d_FaultRules_leave_82 rfl (lv_at hl 2 rfl) ?_
            obtain ⟨t_10, hg_10, hf⟩ := o_bind hf
            refine x_virt (w' := [(h_this, .inr (6, [.ref h_rows, .ref h_text, .ref h_reader, .ref h_found, .ref h_leftOut, .ref h_brought, .ref h_ruleSet, .ref h_draft])), (h_leftOut, .inr (0, [.ref h_leftOut_minutes, .int t_10.1])), (h_leftOut_minutes, .inl (cI, 100, .inl t_10.2))]) (As := [.int p1]) (rest := []) hx hb hml hl.1 hown hT hK hN hP hD hS hA (c_LeftOut_remove l dC dI cI cL cC h_leftOut h_leftOut_minutes H.size fu v_leftOut_count v_leftOut_minutes p1 t_10 hg_10) kM_FaultRules_186 kI_LeftOut_remove kS_345 kN_LeftOut kC_LeftOut_remove hd_LeftOut_remove rfl 1 rfl rfl rfl ⟨Nat.le_of_ble_eq_true rfl, Nat.le_of_ble_eq_true rfl⟩ rfl rfl ⟨Nat.zero_le _, Nat.zero_le _⟩ rfl (Nat.le_of_ble_eq_true rfl) d_FaultRules_leave_83 [1, 2] rfl rfl [.inl 0, .inr 0, .inr 1] rfl rfl rfl (fun H locs hP hD hS => ?_)
            refine lv_iload_n hx hb d_FaultRules_leave_86 rfl (lv_at hl 0 rfl) ?_
            obtain ⟨hz_11, hf⟩ := o_zb hf
            rw [hQ, ← Option.some.inj hf]
            refine x_ret ?_
            refine W.widen (k := 1) (n := 6) (Nat.zero_le _) (Nat.zero_le _) ?_
            exact W.zret (ty := .boolean) hx hb hr hz_11 (fun t9 ht9 hW9 => ⟨by rw [ht9]; exact hP, hS.F ht9, Or.inl ⟨rfl, rfl⟩⟩) hS.2.2 d_FaultRules_leave_87
      · replace hf := o_neg c_5 hf
        refine lv_iload_n hx hb d_FaultRules_leave_58 rfl (lv_at hl 0 rfl) ?_
        refine lv_if_ne (tgt := 70) hx hb d_FaultRules_leave_59 (by decide) (fun c_12 => ?_) (fun c_12 => ?_)
        · replace hf := o_neg c_12 hf
          refine lv_iload_n hx hb d_FaultRules_leave_70 rfl (lv_at hl 3 rfl) ?_
          refine lv_if_ne (tgt := 86) hx hb d_FaultRules_leave_71 (by decide) (fun c_13 => ?_) (fun c_13 => ?_)
          · replace hf := o_neg c_13 hf
            refine lv_iload_n hx hb d_FaultRules_leave_86 rfl (lv_at hl 0 rfl) ?_
            obtain ⟨hz_14, hf⟩ := o_zb hf
            rw [hQ, ← Option.some.inj hf]
            refine x_ret ?_
            refine W.widen (k := 1) (n := 6) (Nat.zero_le _) (Nat.zero_le _) ?_
            exact W.zret (ty := .boolean) hx hb hr hz_14 (fun t9 ht9 hW9 => ⟨by rw [ht9]; exact hP, hS.F ht9, Or.inl ⟨rfl, rfl⟩⟩) hS.2.2 d_FaultRules_leave_87
          · replace hf := o_pos c_13 hf
            refine lv_iload_n hx hb d_FaultRules_leave_74 rfl (lv_at hl 0 rfl) ?_
            refine lv_if_eq (tgt := 86) hx hb d_FaultRules_leave_75 (by decide) (fun c_15 => ?_) (fun c_15 => ?_)
            · replace hf := o_pos c_15 hf
              refine lv_iload_n hx hb d_FaultRules_leave_86 rfl (lv_at hl 0 rfl) ?_
              obtain ⟨hz_16, hf⟩ := o_zb hf
              rw [hQ, ← Option.some.inj hf]
              refine x_ret ?_
              refine W.widen (k := 1) (n := 6) (Nat.zero_le _) (Nat.zero_le _) ?_
              exact W.zret (ty := .boolean) hx hb hr hz_16 (fun t9 ht9 hW9 => ⟨by rw [ht9]; exact hP, hS.F ht9, Or.inl ⟨rfl, rfl⟩⟩) hS.2.2 d_FaultRules_leave_87
            · replace hf := o_neg c_15 hf
              refine lv_aload_n hx hb d_FaultRules_leave_78 rfl (lv_at hl 1 rfl) ?_
              refine va_get (D := (dC, dI)) (ci := 6) (v := .ref h_leftOut) (C := R_FaultRules) (T := T_FaultRules) (N := 8) hx hb hT i_FaultRules hown hK hP 0 rfl rfl 4 (by decide) (hT _ kF_FaultRules_40) (fun _ h9 => h9) rfl d_FaultRules_leave_79 ?_
              refine lv_iload_n hx hb d_FaultRules_leave_82 rfl (lv_at hl 2 rfl) ?_
              obtain ⟨t_17, hg_17, hf⟩ := o_bind hf
              refine x_virt (w' := [(h_this, .inr (6, [.ref h_rows, .ref h_text, .ref h_reader, .ref h_found, .ref h_leftOut, .ref h_brought, .ref h_ruleSet, .ref h_draft])), (h_leftOut, .inr (0, [.ref h_leftOut_minutes, .int t_17.1])), (h_leftOut_minutes, .inl (cI, 100, .inl t_17.2))]) (As := [.int p1]) (rest := []) hx hb hml hl.1 hown hT hK hN hP hD hS hA (c_LeftOut_remove l dC dI cI cL cC h_leftOut h_leftOut_minutes H.size fu v_leftOut_count v_leftOut_minutes p1 t_17 hg_17) kM_FaultRules_186 kI_LeftOut_remove kS_345 kN_LeftOut kC_LeftOut_remove hd_LeftOut_remove rfl 1 rfl rfl rfl ⟨Nat.le_of_ble_eq_true rfl, Nat.le_of_ble_eq_true rfl⟩ rfl rfl ⟨Nat.zero_le _, Nat.zero_le _⟩ rfl (Nat.le_of_ble_eq_true rfl) d_FaultRules_leave_83 [1, 2] rfl rfl [.inl 0, .inr 0, .inr 1] rfl rfl rfl (fun H locs hP hD hS => ?_)
              refine lv_iload_n hx hb d_FaultRules_leave_86 rfl (lv_at hl 0 rfl) ?_
              obtain ⟨hz_18, hf⟩ := o_zb hf
              rw [hQ, ← Option.some.inj hf]
              refine x_ret ?_
              refine W.widen (k := 1) (n := 6) (Nat.zero_le _) (Nat.zero_le _) ?_
              exact W.zret (ty := .boolean) hx hb hr hz_18 (fun t9 ht9 hW9 => ⟨by rw [ht9]; exact hP, hS.F ht9, Or.inl ⟨rfl, rfl⟩⟩) hS.2.2 d_FaultRules_leave_87
        · replace hf := o_pos c_12 hf
          refine lv_aload_n hx hb d_FaultRules_leave_62 rfl (lv_at hl 1 rfl) ?_
          refine va_get (D := (dC, dI)) (ci := 6) (v := .ref h_leftOut) (C := R_FaultRules) (T := T_FaultRules) (N := 8) hx hb hT i_FaultRules hown hK hP 0 rfl rfl 4 (by decide) (hT _ kF_FaultRules_40) (fun _ h9 => h9) rfl d_FaultRules_leave_63 ?_
          refine lv_iload_n hx hb d_FaultRules_leave_66 rfl (lv_at hl 2 rfl) ?_
          obtain ⟨t_19, hg_19, hf⟩ := o_bind hf
          refine x_virt (w' := [(h_this, .inr (6, [.ref h_rows, .ref h_text, .ref h_reader, .ref h_found, .ref h_leftOut, .ref h_brought, .ref h_ruleSet, .ref h_draft])), (h_leftOut, .inr (0, [.ref h_leftOut_minutes, .int t_19.1])), (h_leftOut_minutes, .inl (cI, 100, .inl t_19.2))]) (As := [.int p1]) (rest := []) hx hb hml hl.1 hown hT hK hN hP hD hS hA (c_LeftOut_add l dC dI cI cL cC h_leftOut h_leftOut_minutes H.size v_leftOut_count v_leftOut_minutes p1 t_19 hg_19) kM_FaultRules_184 kI_LeftOut_add kS_348 kN_LeftOut kC_LeftOut_add hd_LeftOut_add rfl 1 rfl rfl rfl ⟨Nat.le_of_ble_eq_true rfl, Nat.le_of_ble_eq_true rfl⟩ rfl rfl ⟨Nat.zero_le _, Nat.zero_le _⟩ rfl (Nat.le_of_ble_eq_true rfl) d_FaultRules_leave_67 [1, 2] rfl rfl [.inl 0, .inr 0, .inr 1] rfl rfl rfl (fun H locs hP hD hS => ?_)
          refine lv_iload_n hx hb d_FaultRules_leave_70 rfl (lv_at hl 3 rfl) ?_
          refine lv_if_ne (tgt := 86) hx hb d_FaultRules_leave_71 (by decide) (fun c_20 => ?_) (fun c_20 => ?_)
          · replace hf := o_neg c_20 hf
            refine lv_iload_n hx hb d_FaultRules_leave_86 rfl (lv_at hl 0 rfl) ?_
            obtain ⟨hz_21, hf⟩ := o_zb hf
            rw [hQ, ← Option.some.inj hf]
            refine x_ret ?_
            refine W.widen (k := 1) (n := 6) (Nat.zero_le _) (Nat.zero_le _) ?_
            exact W.zret (ty := .boolean) hx hb hr hz_21 (fun t9 ht9 hW9 => ⟨by rw [ht9]; exact hP, hS.F ht9, Or.inl ⟨rfl, rfl⟩⟩) hS.2.2 d_FaultRules_leave_87
          · replace hf := o_pos c_20 hf
            refine lv_iload_n hx hb d_FaultRules_leave_74 rfl (lv_at hl 0 rfl) ?_
            refine lv_if_eq (tgt := 86) hx hb d_FaultRules_leave_75 (by decide) (fun c_22 => ?_) (fun c_22 => ?_)
            · replace hf := o_pos c_22 hf
              refine lv_iload_n hx hb d_FaultRules_leave_86 rfl (lv_at hl 0 rfl) ?_
              obtain ⟨hz_23, hf⟩ := o_zb hf
              rw [hQ, ← Option.some.inj hf]
              refine x_ret ?_
              refine W.widen (k := 1) (n := 6) (Nat.zero_le _) (Nat.zero_le _) ?_
              exact W.zret (ty := .boolean) hx hb hr hz_23 (fun t9 ht9 hW9 => ⟨by rw [ht9]; exact hP, hS.F ht9, Or.inl ⟨rfl, rfl⟩⟩) hS.2.2 d_FaultRules_leave_87
            · replace hf := o_neg c_22 hf
              refine lv_aload_n hx hb d_FaultRules_leave_78 rfl (lv_at hl 1 rfl) ?_
              refine va_get (D := (dC, dI)) (ci := 6) (v := .ref h_leftOut) (C := R_FaultRules) (T := T_FaultRules) (N := 8) hx hb hT i_FaultRules hown hK hP 0 rfl rfl 4 (by decide) (hT _ kF_FaultRules_40) (fun _ h9 => h9) rfl d_FaultRules_leave_79 ?_
              refine lv_iload_n hx hb d_FaultRules_leave_82 rfl (lv_at hl 2 rfl) ?_
              obtain ⟨t_24, hg_24, hf⟩ := o_bind hf
              refine x_virt (w' := [(h_this, .inr (6, [.ref h_rows, .ref h_text, .ref h_reader, .ref h_found, .ref h_leftOut, .ref h_brought, .ref h_ruleSet, .ref h_draft])), (h_leftOut, .inr (0, [.ref h_leftOut_minutes, .int t_24.1])), (h_leftOut_minutes, .inl (cI, 100, .inl t_24.2))]) (As := [.int p1]) (rest := []) hx hb hml hl.1 hown hT hK hN hP hD hS hA (c_LeftOut_remove l dC dI cI cL cC h_leftOut h_leftOut_minutes H.size fu t_19.1 t_19.2 p1 t_24 hg_24) kM_FaultRules_186 kI_LeftOut_remove kS_345 kN_LeftOut kC_LeftOut_remove hd_LeftOut_remove rfl 1 rfl rfl rfl ⟨Nat.le_of_ble_eq_true rfl, Nat.le_of_ble_eq_true rfl⟩ rfl rfl ⟨Nat.zero_le _, Nat.zero_le _⟩ rfl (Nat.le_of_ble_eq_true rfl) d_FaultRules_leave_83 [1, 2] rfl rfl [.inl 0, .inr 0, .inr 1] rfl rfl rfl (fun H locs hP hD hS => ?_)
              refine lv_iload_n hx hb d_FaultRules_leave_86 rfl (lv_at hl 0 rfl) ?_
              obtain ⟨hz_25, hf⟩ := o_zb hf
              rw [hQ, ← Option.some.inj hf]
              refine x_ret ?_
              refine W.widen (k := 1) (n := 6) (Nat.zero_le _) (Nat.zero_le _) ?_
              exact W.zret (ty := .boolean) hx hb hr hz_25 (fun t9 ht9 hW9 => ⟨by rw [ht9]; exact hP, hS.F ht9, Or.inl ⟨rfl, rfl⟩⟩) hS.2.2 d_FaultRules_leave_87
    · replace hf := o_neg c_4 hf
      refine lv_iload_n hx hb d_FaultRules_leave_30 rfl (lv_at hl 0 rfl) ?_
      refine lv_if_ne (tgt := 54) hx hb d_FaultRules_leave_31 (by decide) (fun c_26 => ?_) (fun c_26 => ?_)
      · replace hf := o_neg c_26 hf
        refine lv_iload_n hx hb d_FaultRules_leave_54 rfl (lv_at hl 3 rfl) ?_
        refine lv_if_eq (tgt := 70) hx hb d_FaultRules_leave_55 (by decide) (fun c_27 => ?_) (fun c_27 => ?_)
        · replace hf := o_pos c_27 hf
          refine lv_iload_n hx hb d_FaultRules_leave_70 rfl (lv_at hl 3 rfl) ?_
          refine lv_if_ne (tgt := 86) hx hb d_FaultRules_leave_71 (by decide) (fun c_28 => ?_) (fun c_28 => ?_)
          · replace hf := o_neg c_28 hf
            refine lv_iload_n hx hb d_FaultRules_leave_86 rfl (lv_at hl 0 rfl) ?_
            obtain ⟨hz_29, hf⟩ := o_zb hf
            rw [hQ, ← Option.some.inj hf]
            refine x_ret ?_
            refine W.widen (k := 1) (n := 6) (Nat.zero_le _) (Nat.zero_le _) ?_
            exact W.zret (ty := .boolean) hx hb hr hz_29 (fun t9 ht9 hW9 => ⟨by rw [ht9]; exact hP, hS.F ht9, Or.inl ⟨rfl, rfl⟩⟩) hS.2.2 d_FaultRules_leave_87
          · replace hf := o_pos c_28 hf
            refine lv_iload_n hx hb d_FaultRules_leave_74 rfl (lv_at hl 0 rfl) ?_
            refine lv_if_eq (tgt := 86) hx hb d_FaultRules_leave_75 (by decide) (fun c_30 => ?_) (fun c_30 => ?_)
            · replace hf := o_pos c_30 hf
              refine lv_iload_n hx hb d_FaultRules_leave_86 rfl (lv_at hl 0 rfl) ?_
              obtain ⟨hz_31, hf⟩ := o_zb hf
              rw [hQ, ← Option.some.inj hf]
              refine x_ret ?_
              refine W.widen (k := 1) (n := 6) (Nat.zero_le _) (Nat.zero_le _) ?_
              exact W.zret (ty := .boolean) hx hb hr hz_31 (fun t9 ht9 hW9 => ⟨by rw [ht9]; exact hP, hS.F ht9, Or.inl ⟨rfl, rfl⟩⟩) hS.2.2 d_FaultRules_leave_87
            · replace hf := o_neg c_30 hf
              refine lv_aload_n hx hb d_FaultRules_leave_78 rfl (lv_at hl 1 rfl) ?_
              refine va_get (D := (dC, dI)) (ci := 6) (v := .ref h_leftOut) (C := R_FaultRules) (T := T_FaultRules) (N := 8) hx hb hT i_FaultRules hown hK hP 0 rfl rfl 4 (by decide) (hT _ kF_FaultRules_40) (fun _ h9 => h9) rfl d_FaultRules_leave_79 ?_
              refine lv_iload_n hx hb d_FaultRules_leave_82 rfl (lv_at hl 2 rfl) ?_
              obtain ⟨t_32, hg_32, hf⟩ := o_bind hf
              refine x_virt (w' := [(h_this, .inr (6, [.ref h_rows, .ref h_text, .ref h_reader, .ref h_found, .ref h_leftOut, .ref h_brought, .ref h_ruleSet, .ref h_draft])), (h_leftOut, .inr (0, [.ref h_leftOut_minutes, .int t_32.1])), (h_leftOut_minutes, .inl (cI, 100, .inl t_32.2))]) (As := [.int p1]) (rest := []) hx hb hml hl.1 hown hT hK hN hP hD hS hA (c_LeftOut_remove l dC dI cI cL cC h_leftOut h_leftOut_minutes H.size fu v_leftOut_count v_leftOut_minutes p1 t_32 hg_32) kM_FaultRules_186 kI_LeftOut_remove kS_345 kN_LeftOut kC_LeftOut_remove hd_LeftOut_remove rfl 1 rfl rfl rfl ⟨Nat.le_of_ble_eq_true rfl, Nat.le_of_ble_eq_true rfl⟩ rfl rfl ⟨Nat.zero_le _, Nat.zero_le _⟩ rfl (Nat.le_of_ble_eq_true rfl) d_FaultRules_leave_83 [1, 2] rfl rfl [.inl 0, .inr 0, .inr 1] rfl rfl rfl (fun H locs hP hD hS => ?_)
              refine lv_iload_n hx hb d_FaultRules_leave_86 rfl (lv_at hl 0 rfl) ?_
              obtain ⟨hz_33, hf⟩ := o_zb hf
              rw [hQ, ← Option.some.inj hf]
              refine x_ret ?_
              refine W.widen (k := 1) (n := 6) (Nat.zero_le _) (Nat.zero_le _) ?_
              exact W.zret (ty := .boolean) hx hb hr hz_33 (fun t9 ht9 hW9 => ⟨by rw [ht9]; exact hP, hS.F ht9, Or.inl ⟨rfl, rfl⟩⟩) hS.2.2 d_FaultRules_leave_87
        · replace hf := o_neg c_27 hf
          refine lv_iload_n hx hb d_FaultRules_leave_58 rfl (lv_at hl 0 rfl) ?_
          refine lv_if_ne (tgt := 70) hx hb d_FaultRules_leave_59 (by decide) (fun c_34 => ?_) (fun c_34 => ?_)
          · replace hf := o_neg c_34 hf
            refine lv_iload_n hx hb d_FaultRules_leave_70 rfl (lv_at hl 3 rfl) ?_
            refine lv_if_ne (tgt := 86) hx hb d_FaultRules_leave_71 (by decide) (fun c_35 => ?_) (fun c_35 => ?_)
            · replace hf := o_neg c_35 hf
              refine lv_iload_n hx hb d_FaultRules_leave_86 rfl (lv_at hl 0 rfl) ?_
              obtain ⟨hz_36, hf⟩ := o_zb hf
              rw [hQ, ← Option.some.inj hf]
              refine x_ret ?_
              refine W.widen (k := 1) (n := 6) (Nat.zero_le _) (Nat.zero_le _) ?_
              exact W.zret (ty := .boolean) hx hb hr hz_36 (fun t9 ht9 hW9 => ⟨by rw [ht9]; exact hP, hS.F ht9, Or.inl ⟨rfl, rfl⟩⟩) hS.2.2 d_FaultRules_leave_87
            · replace hf := o_pos c_35 hf
              refine lv_iload_n hx hb d_FaultRules_leave_74 rfl (lv_at hl 0 rfl) ?_
              refine lv_if_eq (tgt := 86) hx hb d_FaultRules_leave_75 (by decide) (fun c_37 => ?_) (fun c_37 => ?_)
              · replace hf := o_pos c_37 hf
                refine lv_iload_n hx hb d_FaultRules_leave_86 rfl (lv_at hl 0 rfl) ?_
                obtain ⟨hz_38, hf⟩ := o_zb hf
                rw [hQ, ← Option.some.inj hf]
                refine x_ret ?_
                refine W.widen (k := 1) (n := 6) (Nat.zero_le _) (Nat.zero_le _) ?_
                exact W.zret (ty := .boolean) hx hb hr hz_38 (fun t9 ht9 hW9 => ⟨by rw [ht9]; exact hP, hS.F ht9, Or.inl ⟨rfl, rfl⟩⟩) hS.2.2 d_FaultRules_leave_87
              · replace hf := o_neg c_37 hf
                refine lv_aload_n hx hb d_FaultRules_leave_78 rfl (lv_at hl 1 rfl) ?_
                refine va_get (D := (dC, dI)) (ci := 6) (v := .ref h_leftOut) (C := R_FaultRules) (T := T_FaultRules) (N := 8) hx hb hT i_FaultRules hown hK hP 0 rfl rfl 4 (by decide) (hT _ kF_FaultRules_40) (fun _ h9 => h9) rfl d_FaultRules_leave_79 ?_
                refine lv_iload_n hx hb d_FaultRules_leave_82 rfl (lv_at hl 2 rfl) ?_
                obtain ⟨t_39, hg_39, hf⟩ := o_bind hf
                refine x_virt (w' := [(h_this, .inr (6, [.ref h_rows, .ref h_text, .ref h_reader, .ref h_found, .ref h_leftOut, .ref h_brought, .ref h_ruleSet, .ref h_draft])), (h_leftOut, .inr (0, [.ref h_leftOut_minutes, .int t_39.1])), (h_leftOut_minutes, .inl (cI, 100, .inl t_39.2))]) (As := [.int p1]) (rest := []) hx hb hml hl.1 hown hT hK hN hP hD hS hA (c_LeftOut_remove l dC dI cI cL cC h_leftOut h_leftOut_minutes H.size fu v_leftOut_count v_leftOut_minutes p1 t_39 hg_39) kM_FaultRules_186 kI_LeftOut_remove kS_345 kN_LeftOut kC_LeftOut_remove hd_LeftOut_remove rfl 1 rfl rfl rfl ⟨Nat.le_of_ble_eq_true rfl, Nat.le_of_ble_eq_true rfl⟩ rfl rfl ⟨Nat.zero_le _, Nat.zero_le _⟩ rfl (Nat.le_of_ble_eq_true rfl) d_FaultRules_leave_83 [1, 2] rfl rfl [.inl 0, .inr 0, .inr 1] rfl rfl rfl (fun H locs hP hD hS => ?_)
                refine lv_iload_n hx hb d_FaultRules_leave_86 rfl (lv_at hl 0 rfl) ?_
                obtain ⟨hz_40, hf⟩ := o_zb hf
                rw [hQ, ← Option.some.inj hf]
                refine x_ret ?_
                refine W.widen (k := 1) (n := 6) (Nat.zero_le _) (Nat.zero_le _) ?_
                exact W.zret (ty := .boolean) hx hb hr hz_40 (fun t9 ht9 hW9 => ⟨by rw [ht9]; exact hP, hS.F ht9, Or.inl ⟨rfl, rfl⟩⟩) hS.2.2 d_FaultRules_leave_87
          · replace hf := o_pos c_34 hf
            refine lv_aload_n hx hb d_FaultRules_leave_62 rfl (lv_at hl 1 rfl) ?_
            refine va_get (D := (dC, dI)) (ci := 6) (v := .ref h_leftOut) (C := R_FaultRules) (T := T_FaultRules) (N := 8) hx hb hT i_FaultRules hown hK hP 0 rfl rfl 4 (by decide) (hT _ kF_FaultRules_40) (fun _ h9 => h9) rfl d_FaultRules_leave_63 ?_
            refine lv_iload_n hx hb d_FaultRules_leave_66 rfl (lv_at hl 2 rfl) ?_
            obtain ⟨t_41, hg_41, hf⟩ := o_bind hf
            refine x_virt (w' := [(h_this, .inr (6, [.ref h_rows, .ref h_text, .ref h_reader, .ref h_found, .ref h_leftOut, .ref h_brought, .ref h_ruleSet, .ref h_draft])), (h_leftOut, .inr (0, [.ref h_leftOut_minutes, .int t_41.1])), (h_leftOut_minutes, .inl (cI, 100, .inl t_41.2))]) (As := [.int p1]) (rest := []) hx hb hml hl.1 hown hT hK hN hP hD hS hA (c_LeftOut_add l dC dI cI cL cC h_leftOut h_leftOut_minutes H.size v_leftOut_count v_leftOut_minutes p1 t_41 hg_41) kM_FaultRules_184 kI_LeftOut_add kS_348 kN_LeftOut kC_LeftOut_add hd_LeftOut_add rfl 1 rfl rfl rfl ⟨Nat.le_of_ble_eq_true rfl, Nat.le_of_ble_eq_true rfl⟩ rfl rfl ⟨Nat.zero_le _, Nat.zero_le _⟩ rfl (Nat.le_of_ble_eq_true rfl) d_FaultRules_leave_67 [1, 2] rfl rfl [.inl 0, .inr 0, .inr 1] rfl rfl rfl (fun H locs hP hD hS => ?_)
            refine lv_iload_n hx hb d_FaultRules_leave_70 rfl (lv_at hl 3 rfl) ?_
            refine lv_if_ne (tgt := 86) hx hb d_FaultRules_leave_71 (by decide) (fun c_42 => ?_) (fun c_42 => ?_)
            · replace hf := o_neg c_42 hf
              refine lv_iload_n hx hb d_FaultRules_leave_86 rfl (lv_at hl 0 rfl) ?_
              obtain ⟨hz_43, hf⟩ := o_zb hf
              rw [hQ, ← Option.some.inj hf]
              refine x_ret ?_
              refine W.widen (k := 1) (n := 6) (Nat.zero_le _) (Nat.zero_le _) ?_
              exact W.zret (ty := .boolean) hx hb hr hz_43 (fun t9 ht9 hW9 => ⟨by rw [ht9]; exact hP, hS.F ht9, Or.inl ⟨rfl, rfl⟩⟩) hS.2.2 d_FaultRules_leave_87
            · replace hf := o_pos c_42 hf
              refine lv_iload_n hx hb d_FaultRules_leave_74 rfl (lv_at hl 0 rfl) ?_
              refine lv_if_eq (tgt := 86) hx hb d_FaultRules_leave_75 (by decide) (fun c_44 => ?_) (fun c_44 => ?_)
              · replace hf := o_pos c_44 hf
                refine lv_iload_n hx hb d_FaultRules_leave_86 rfl (lv_at hl 0 rfl) ?_
                obtain ⟨hz_45, hf⟩ := o_zb hf
                rw [hQ, ← Option.some.inj hf]
                refine x_ret ?_
                refine W.widen (k := 1) (n := 6) (Nat.zero_le _) (Nat.zero_le _) ?_
                exact W.zret (ty := .boolean) hx hb hr hz_45 (fun t9 ht9 hW9 => ⟨by rw [ht9]; exact hP, hS.F ht9, Or.inl ⟨rfl, rfl⟩⟩) hS.2.2 d_FaultRules_leave_87
              · replace hf := o_neg c_44 hf
                refine lv_aload_n hx hb d_FaultRules_leave_78 rfl (lv_at hl 1 rfl) ?_
                refine va_get (D := (dC, dI)) (ci := 6) (v := .ref h_leftOut) (C := R_FaultRules) (T := T_FaultRules) (N := 8) hx hb hT i_FaultRules hown hK hP 0 rfl rfl 4 (by decide) (hT _ kF_FaultRules_40) (fun _ h9 => h9) rfl d_FaultRules_leave_79 ?_
                refine lv_iload_n hx hb d_FaultRules_leave_82 rfl (lv_at hl 2 rfl) ?_
                obtain ⟨t_46, hg_46, hf⟩ := o_bind hf
                refine x_virt (w' := [(h_this, .inr (6, [.ref h_rows, .ref h_text, .ref h_reader, .ref h_found, .ref h_leftOut, .ref h_brought, .ref h_ruleSet, .ref h_draft])), (h_leftOut, .inr (0, [.ref h_leftOut_minutes, .int t_46.1])), (h_leftOut_minutes, .inl (cI, 100, .inl t_46.2))]) (As := [.int p1]) (rest := []) hx hb hml hl.1 hown hT hK hN hP hD hS hA (c_LeftOut_remove l dC dI cI cL cC h_leftOut h_leftOut_minutes H.size fu t_41.1 t_41.2 p1 t_46 hg_46) kM_FaultRules_186 kI_LeftOut_remove kS_345 kN_LeftOut kC_LeftOut_remove hd_LeftOut_remove rfl 1 rfl rfl rfl ⟨Nat.le_of_ble_eq_true rfl, Nat.le_of_ble_eq_true rfl⟩ rfl rfl ⟨Nat.zero_le _, Nat.zero_le _⟩ rfl (Nat.le_of_ble_eq_true rfl) d_FaultRules_leave_83 [1, 2] rfl rfl [.inl 0, .inr 0, .inr 1] rfl rfl rfl (fun H locs hP hD hS => ?_)
                refine lv_iload_n hx hb d_FaultRules_leave_86 rfl (lv_at hl 0 rfl) ?_
                obtain ⟨hz_47, hf⟩ := o_zb hf
                rw [hQ, ← Option.some.inj hf]
                refine x_ret ?_
                refine W.widen (k := 1) (n := 6) (Nat.zero_le _) (Nat.zero_le _) ?_
                exact W.zret (ty := .boolean) hx hb hr hz_47 (fun t9 ht9 hW9 => ⟨by rw [ht9]; exact hP, hS.F ht9, Or.inl ⟨rfl, rfl⟩⟩) hS.2.2 d_FaultRules_leave_87
      · replace hf := o_pos c_26 hf
        refine lv_aload_n hx hb d_FaultRules_leave_34 rfl (lv_at hl 1 rfl) ?_
        refine va_get (D := (dC, dI)) (ci := 6) (v := .ref h_leftOut) (C := R_FaultRules) (T := T_FaultRules) (N := 8) hx hb hT i_FaultRules hown hK hP 0 rfl rfl 4 (by decide) (hT _ kF_FaultRules_40) (fun _ h9 => h9) rfl d_FaultRules_leave_35 ?_
        obtain ⟨t_48, hg_48, hf⟩ := o_bind hf
        refine x_virt (w' := [(h_this, .inr (6, [.ref h_rows, .ref h_text, .ref h_reader, .ref h_found, .ref h_leftOut, .ref h_brought, .ref h_ruleSet, .ref h_draft])), (h_leftOut, .inr (0, [.ref h_leftOut_minutes, .int v_leftOut_count])), (h_leftOut_minutes, .inl (cI, 100, .inl v_leftOut_minutes))]) (As := []) (rest := []) hx hb hml hl.1 hown hT hK hN hP hD hS hA (c_LeftOut_isFull l dC dI cI cL cC h_leftOut h_leftOut_minutes H.size v_leftOut_count t_48 hg_48) kM_FaultRules_181 kI_LeftOut_isFull kS_351 kN_LeftOut kC_LeftOut_isFull hd_LeftOut_isFull rfl 1 rfl rfl rfl ⟨Nat.le_of_ble_eq_true rfl, Nat.le_of_ble_eq_true rfl⟩ rfl rfl ⟨Nat.zero_le _, Nat.zero_le _⟩ rfl (Nat.le_of_ble_eq_true rfl) d_FaultRules_leave_38 [1] rfl rfl [.inl 0, .inr 0, .inl 2] rfl rfl rfl (fun H locs hP hD hS => ?_)
        refine lv_if_eq (tgt := 54) hx hb d_FaultRules_leave_41 (by decide) (fun c_49 => ?_) (fun c_49 => ?_)
        · replace hf := o_pos c_49 hf
          refine lv_iload_n hx hb d_FaultRules_leave_54 rfl (lv_at hl 3 rfl) ?_
          refine lv_if_eq (tgt := 70) hx hb d_FaultRules_leave_55 (by decide) (fun c_50 => ?_) (fun c_50 => ?_)
          · replace hf := o_pos c_50 hf
            refine lv_iload_n hx hb d_FaultRules_leave_70 rfl (lv_at hl 3 rfl) ?_
            refine lv_if_ne (tgt := 86) hx hb d_FaultRules_leave_71 (by decide) (fun c_51 => ?_) (fun c_51 => ?_)
            · replace hf := o_neg c_51 hf
              refine lv_iload_n hx hb d_FaultRules_leave_86 rfl (lv_at hl 0 rfl) ?_
              obtain ⟨hz_52, hf⟩ := o_zb hf
              rw [hQ, ← Option.some.inj hf]
              refine x_ret ?_
              refine W.widen (k := 1) (n := 6) (Nat.zero_le _) (Nat.zero_le _) ?_
              exact W.zret (ty := .boolean) hx hb hr hz_52 (fun t9 ht9 hW9 => ⟨by rw [ht9]; exact hP, hS.F ht9, Or.inl ⟨rfl, rfl⟩⟩) hS.2.2 d_FaultRules_leave_87
            · replace hf := o_pos c_51 hf
              refine lv_iload_n hx hb d_FaultRules_leave_74 rfl (lv_at hl 0 rfl) ?_
              refine lv_if_eq (tgt := 86) hx hb d_FaultRules_leave_75 (by decide) (fun c_53 => ?_) (fun c_53 => ?_)
              · replace hf := o_pos c_53 hf
                refine lv_iload_n hx hb d_FaultRules_leave_86 rfl (lv_at hl 0 rfl) ?_
                obtain ⟨hz_54, hf⟩ := o_zb hf
                rw [hQ, ← Option.some.inj hf]
                refine x_ret ?_
                refine W.widen (k := 1) (n := 6) (Nat.zero_le _) (Nat.zero_le _) ?_
                exact W.zret (ty := .boolean) hx hb hr hz_54 (fun t9 ht9 hW9 => ⟨by rw [ht9]; exact hP, hS.F ht9, Or.inl ⟨rfl, rfl⟩⟩) hS.2.2 d_FaultRules_leave_87
              · replace hf := o_neg c_53 hf
                refine lv_aload_n hx hb d_FaultRules_leave_78 rfl (lv_at hl 1 rfl) ?_
                refine va_get (D := (dC, dI)) (ci := 6) (v := .ref h_leftOut) (C := R_FaultRules) (T := T_FaultRules) (N := 8) hx hb hT i_FaultRules hown hK hP 0 rfl rfl 4 (by decide) (hT _ kF_FaultRules_40) (fun _ h9 => h9) rfl d_FaultRules_leave_79 ?_
                refine lv_iload_n hx hb d_FaultRules_leave_82 rfl (lv_at hl 2 rfl) ?_
                obtain ⟨t_55, hg_55, hf⟩ := o_bind hf
                refine x_virt (w' := [(h_this, .inr (6, [.ref h_rows, .ref h_text, .ref h_reader, .ref h_found, .ref h_leftOut, .ref h_brought, .ref h_ruleSet, .ref h_draft])), (h_leftOut, .inr (0, [.ref h_leftOut_minutes, .int t_55.1])), (h_leftOut_minutes, .inl (cI, 100, .inl t_55.2))]) (As := [.int p1]) (rest := []) hx hb hml hl.1 hown hT hK hN hP hD hS hA (c_LeftOut_remove l dC dI cI cL cC h_leftOut h_leftOut_minutes H.size fu v_leftOut_count v_leftOut_minutes p1 t_55 hg_55) kM_FaultRules_186 kI_LeftOut_remove kS_345 kN_LeftOut kC_LeftOut_remove hd_LeftOut_remove rfl 1 rfl rfl rfl ⟨Nat.le_of_ble_eq_true rfl, Nat.le_of_ble_eq_true rfl⟩ rfl rfl ⟨Nat.zero_le _, Nat.zero_le _⟩ rfl (Nat.le_of_ble_eq_true rfl) d_FaultRules_leave_83 [1, 2] rfl rfl [.inl 0, .inr 0, .inr 1] rfl rfl rfl (fun H locs hP hD hS => ?_)
                refine lv_iload_n hx hb d_FaultRules_leave_86 rfl (lv_at hl 0 rfl) ?_
                obtain ⟨hz_56, hf⟩ := o_zb hf
                rw [hQ, ← Option.some.inj hf]
                refine x_ret ?_
                refine W.widen (k := 1) (n := 6) (Nat.zero_le _) (Nat.zero_le _) ?_
                exact W.zret (ty := .boolean) hx hb hr hz_56 (fun t9 ht9 hW9 => ⟨by rw [ht9]; exact hP, hS.F ht9, Or.inl ⟨rfl, rfl⟩⟩) hS.2.2 d_FaultRules_leave_87
          · replace hf := o_neg c_50 hf
            refine lv_iload_n hx hb d_FaultRules_leave_58 rfl (lv_at hl 0 rfl) ?_
            refine lv_if_ne (tgt := 70) hx hb d_FaultRules_leave_59 (by decide) (fun c_57 => ?_) (fun c_57 => ?_)
            · replace hf := o_neg c_57 hf
              refine lv_iload_n hx hb d_FaultRules_leave_70 rfl (lv_at hl 3 rfl) ?_
              refine lv_if_ne (tgt := 86) hx hb d_FaultRules_leave_71 (by decide) (fun c_58 => ?_) (fun c_58 => ?_)
              · replace hf := o_neg c_58 hf
                refine lv_iload_n hx hb d_FaultRules_leave_86 rfl (lv_at hl 0 rfl) ?_
                obtain ⟨hz_59, hf⟩ := o_zb hf
                rw [hQ, ← Option.some.inj hf]
                refine x_ret ?_
                refine W.widen (k := 1) (n := 6) (Nat.zero_le _) (Nat.zero_le _) ?_
                exact W.zret (ty := .boolean) hx hb hr hz_59 (fun t9 ht9 hW9 => ⟨by rw [ht9]; exact hP, hS.F ht9, Or.inl ⟨rfl, rfl⟩⟩) hS.2.2 d_FaultRules_leave_87
              · replace hf := o_pos c_58 hf
                refine lv_iload_n hx hb d_FaultRules_leave_74 rfl (lv_at hl 0 rfl) ?_
                refine lv_if_eq (tgt := 86) hx hb d_FaultRules_leave_75 (by decide) (fun c_60 => ?_) (fun c_60 => ?_)
                · replace hf := o_pos c_60 hf
                  refine lv_iload_n hx hb d_FaultRules_leave_86 rfl (lv_at hl 0 rfl) ?_
                  obtain ⟨hz_61, hf⟩ := o_zb hf
                  rw [hQ, ← Option.some.inj hf]
                  refine x_ret ?_
                  refine W.widen (k := 1) (n := 6) (Nat.zero_le _) (Nat.zero_le _) ?_
                  exact W.zret (ty := .boolean) hx hb hr hz_61 (fun t9 ht9 hW9 => ⟨by rw [ht9]; exact hP, hS.F ht9, Or.inl ⟨rfl, rfl⟩⟩) hS.2.2 d_FaultRules_leave_87
                · replace hf := o_neg c_60 hf
                  refine lv_aload_n hx hb d_FaultRules_leave_78 rfl (lv_at hl 1 rfl) ?_
                  refine va_get (D := (dC, dI)) (ci := 6) (v := .ref h_leftOut) (C := R_FaultRules) (T := T_FaultRules) (N := 8) hx hb hT i_FaultRules hown hK hP 0 rfl rfl 4 (by decide) (hT _ kF_FaultRules_40) (fun _ h9 => h9) rfl d_FaultRules_leave_79 ?_
                  refine lv_iload_n hx hb d_FaultRules_leave_82 rfl (lv_at hl 2 rfl) ?_
                  obtain ⟨t_62, hg_62, hf⟩ := o_bind hf
                  refine x_virt (w' := [(h_this, .inr (6, [.ref h_rows, .ref h_text, .ref h_reader, .ref h_found, .ref h_leftOut, .ref h_brought, .ref h_ruleSet, .ref h_draft])), (h_leftOut, .inr (0, [.ref h_leftOut_minutes, .int t_62.1])), (h_leftOut_minutes, .inl (cI, 100, .inl t_62.2))]) (As := [.int p1]) (rest := []) hx hb hml hl.1 hown hT hK hN hP hD hS hA (c_LeftOut_remove l dC dI cI cL cC h_leftOut h_leftOut_minutes H.size fu v_leftOut_count v_leftOut_minutes p1 t_62 hg_62) kM_FaultRules_186 kI_LeftOut_remove kS_345 kN_LeftOut kC_LeftOut_remove hd_LeftOut_remove rfl 1 rfl rfl rfl ⟨Nat.le_of_ble_eq_true rfl, Nat.le_of_ble_eq_true rfl⟩ rfl rfl ⟨Nat.zero_le _, Nat.zero_le _⟩ rfl (Nat.le_of_ble_eq_true rfl) d_FaultRules_leave_83 [1, 2] rfl rfl [.inl 0, .inr 0, .inr 1] rfl rfl rfl (fun H locs hP hD hS => ?_)
                  refine lv_iload_n hx hb d_FaultRules_leave_86 rfl (lv_at hl 0 rfl) ?_
                  obtain ⟨hz_63, hf⟩ := o_zb hf
                  rw [hQ, ← Option.some.inj hf]
                  refine x_ret ?_
                  refine W.widen (k := 1) (n := 6) (Nat.zero_le _) (Nat.zero_le _) ?_
                  exact W.zret (ty := .boolean) hx hb hr hz_63 (fun t9 ht9 hW9 => ⟨by rw [ht9]; exact hP, hS.F ht9, Or.inl ⟨rfl, rfl⟩⟩) hS.2.2 d_FaultRules_leave_87
            · replace hf := o_pos c_57 hf
              refine lv_aload_n hx hb d_FaultRules_leave_62 rfl (lv_at hl 1 rfl) ?_
              refine va_get (D := (dC, dI)) (ci := 6) (v := .ref h_leftOut) (C := R_FaultRules) (T := T_FaultRules) (N := 8) hx hb hT i_FaultRules hown hK hP 0 rfl rfl 4 (by decide) (hT _ kF_FaultRules_40) (fun _ h9 => h9) rfl d_FaultRules_leave_63 ?_
              refine lv_iload_n hx hb d_FaultRules_leave_66 rfl (lv_at hl 2 rfl) ?_
              obtain ⟨t_64, hg_64, hf⟩ := o_bind hf
              refine x_virt (w' := [(h_this, .inr (6, [.ref h_rows, .ref h_text, .ref h_reader, .ref h_found, .ref h_leftOut, .ref h_brought, .ref h_ruleSet, .ref h_draft])), (h_leftOut, .inr (0, [.ref h_leftOut_minutes, .int t_64.1])), (h_leftOut_minutes, .inl (cI, 100, .inl t_64.2))]) (As := [.int p1]) (rest := []) hx hb hml hl.1 hown hT hK hN hP hD hS hA (c_LeftOut_add l dC dI cI cL cC h_leftOut h_leftOut_minutes H.size v_leftOut_count v_leftOut_minutes p1 t_64 hg_64) kM_FaultRules_184 kI_LeftOut_add kS_348 kN_LeftOut kC_LeftOut_add hd_LeftOut_add rfl 1 rfl rfl rfl ⟨Nat.le_of_ble_eq_true rfl, Nat.le_of_ble_eq_true rfl⟩ rfl rfl ⟨Nat.zero_le _, Nat.zero_le _⟩ rfl (Nat.le_of_ble_eq_true rfl) d_FaultRules_leave_67 [1, 2] rfl rfl [.inl 0, .inr 0, .inr 1] rfl rfl rfl (fun H locs hP hD hS => ?_)
              refine lv_iload_n hx hb d_FaultRules_leave_70 rfl (lv_at hl 3 rfl) ?_
              refine lv_if_ne (tgt := 86) hx hb d_FaultRules_leave_71 (by decide) (fun c_65 => ?_) (fun c_65 => ?_)
              · replace hf := o_neg c_65 hf
                refine lv_iload_n hx hb d_FaultRules_leave_86 rfl (lv_at hl 0 rfl) ?_
                obtain ⟨hz_66, hf⟩ := o_zb hf
                rw [hQ, ← Option.some.inj hf]
                refine x_ret ?_
                refine W.widen (k := 1) (n := 6) (Nat.zero_le _) (Nat.zero_le _) ?_
                exact W.zret (ty := .boolean) hx hb hr hz_66 (fun t9 ht9 hW9 => ⟨by rw [ht9]; exact hP, hS.F ht9, Or.inl ⟨rfl, rfl⟩⟩) hS.2.2 d_FaultRules_leave_87
              · replace hf := o_pos c_65 hf
                refine lv_iload_n hx hb d_FaultRules_leave_74 rfl (lv_at hl 0 rfl) ?_
                refine lv_if_eq (tgt := 86) hx hb d_FaultRules_leave_75 (by decide) (fun c_67 => ?_) (fun c_67 => ?_)
                · replace hf := o_pos c_67 hf
                  refine lv_iload_n hx hb d_FaultRules_leave_86 rfl (lv_at hl 0 rfl) ?_
                  obtain ⟨hz_68, hf⟩ := o_zb hf
                  rw [hQ, ← Option.some.inj hf]
                  refine x_ret ?_
                  refine W.widen (k := 1) (n := 6) (Nat.zero_le _) (Nat.zero_le _) ?_
                  exact W.zret (ty := .boolean) hx hb hr hz_68 (fun t9 ht9 hW9 => ⟨by rw [ht9]; exact hP, hS.F ht9, Or.inl ⟨rfl, rfl⟩⟩) hS.2.2 d_FaultRules_leave_87
                · replace hf := o_neg c_67 hf
                  refine lv_aload_n hx hb d_FaultRules_leave_78 rfl (lv_at hl 1 rfl) ?_
                  refine va_get (D := (dC, dI)) (ci := 6) (v := .ref h_leftOut) (C := R_FaultRules) (T := T_FaultRules) (N := 8) hx hb hT i_FaultRules hown hK hP 0 rfl rfl 4 (by decide) (hT _ kF_FaultRules_40) (fun _ h9 => h9) rfl d_FaultRules_leave_79 ?_
                  refine lv_iload_n hx hb d_FaultRules_leave_82 rfl (lv_at hl 2 rfl) ?_
                  obtain ⟨t_69, hg_69, hf⟩ := o_bind hf
                  refine x_virt (w' := [(h_this, .inr (6, [.ref h_rows, .ref h_text, .ref h_reader, .ref h_found, .ref h_leftOut, .ref h_brought, .ref h_ruleSet, .ref h_draft])), (h_leftOut, .inr (0, [.ref h_leftOut_minutes, .int t_69.1])), (h_leftOut_minutes, .inl (cI, 100, .inl t_69.2))]) (As := [.int p1]) (rest := []) hx hb hml hl.1 hown hT hK hN hP hD hS hA (c_LeftOut_remove l dC dI cI cL cC h_leftOut h_leftOut_minutes H.size fu t_64.1 t_64.2 p1 t_69 hg_69) kM_FaultRules_186 kI_LeftOut_remove kS_345 kN_LeftOut kC_LeftOut_remove hd_LeftOut_remove rfl 1 rfl rfl rfl ⟨Nat.le_of_ble_eq_true rfl, Nat.le_of_ble_eq_true rfl⟩ rfl rfl ⟨Nat.zero_le _, Nat.zero_le _⟩ rfl (Nat.le_of_ble_eq_true rfl) d_FaultRules_leave_83 [1, 2] rfl rfl [.inl 0, .inr 0, .inr 1] rfl rfl rfl (fun H locs hP hD hS => ?_)
                  refine lv_iload_n hx hb d_FaultRules_leave_86 rfl (lv_at hl 0 rfl) ?_
                  obtain ⟨hz_70, hf⟩ := o_zb hf
                  rw [hQ, ← Option.some.inj hf]
                  refine x_ret ?_
                  refine W.widen (k := 1) (n := 6) (Nat.zero_le _) (Nat.zero_le _) ?_
                  exact W.zret (ty := .boolean) hx hb hr hz_70 (fun t9 ht9 hW9 => ⟨by rw [ht9]; exact hP, hS.F ht9, Or.inl ⟨rfl, rfl⟩⟩) hS.2.2 d_FaultRules_leave_87
        · replace hf := o_neg c_49 hf
          rw [hQ, ← Option.some.inj hf]
          exact x_throw hx hb hltr hml hl.1 hown hT hxW hNS hP hS hA hlocks hnh 2 (by decide) kA_ISE kE_ISE kN_ISE kO_ISE (List.mem_of_getElem? (i := 15) rfl) (by decide +kernel) d_FaultRules_leave_44 d_FaultRules_leave_47 d_FaultRules_leave_48 d_FaultRules_leave_50 d_FaultRules_leave_53 (Nat.le_of_ble_eq_true rfl) (Nat.le_of_ble_eq_true rfl) (Nat.le_of_ble_eq_true rfl) (Nat.le_of_ble_eq_true rfl)
  · replace hf := o_pos c_2 hf
    rw [hQ, ← Option.some.inj hf]
    exact x_throw hx hb hltr hml hl.1 hown hT hxW hNS hP hS hA hlocks hnh 1 (by decide) kA_IAE kE_IAE kN_IAE kO_IAE (List.mem_of_getElem? (i := 14) rfl) (by decide +kernel) d_FaultRules_leave_7 d_FaultRules_leave_10 d_FaultRules_leave_11 d_FaultRules_leave_13 d_FaultRules_leave_16 (Nat.le_of_ble_eq_true rfl) (Nat.le_of_ble_eq_true rfl) (Nat.le_of_ble_eq_true rfl) (Nat.le_of_ble_eq_true rfl)
