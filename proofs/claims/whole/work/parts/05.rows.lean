def f_Rows_isFull (v_starts : Nat → Int32) : Option (Int32) :=
  (bd 16 17 (if (v_starts (16 : Int32).toNatClampNeg) < 120 then (some 0) else (some 1)))
theorem f_Rows_isFull_u {v_starts : Nat → Int32} {t : Int32} (h : f_Rows_isFull v_starts = some t) : (bd 16 17 (if (v_starts (16 : Int32).toNatClampNeg) < 120 then (some 0) else (some 1))) = some t := h
def f_Rows_isBehindLast (v_minutes : Nat → Int32) (v_starts : Nat → Int32) (p1 : Int32) (p2 : Int32) : Option (Int32) :=
  (bd (p1 + 1) 17 (bd p1 17 (if (v_starts (p1 + 1 : Int32).toNatClampNeg) = (v_starts (p1 : Int32).toNatClampNeg) then (some 1) else (bd ((v_starts (p1 + 1 : Int32).toNatClampNeg) - 1) 120 (if p2 ≤ (v_minutes ((v_starts (p1 + 1 : Int32).toNatClampNeg) - 1 : Int32).toNatClampNeg) then (some 0) else (some 1))))))
theorem f_Rows_isBehindLast_u {v_minutes : Nat → Int32} {v_starts : Nat → Int32} {p1 : Int32} {p2 : Int32} {t : Int32} (h : f_Rows_isBehindLast v_minutes v_starts p1 p2 = some t) : (bd (p1 + 1) 17 (bd p1 17 (if (v_starts (p1 + 1 : Int32).toNatClampNeg) = (v_starts (p1 : Int32).toNatClampNeg) then (some 1) else (bd ((v_starts (p1 + 1 : Int32).toNatClampNeg) - 1) 120 (if p2 ≤ (v_minutes ((v_starts (p1 + 1 : Int32).toNatClampNeg) - 1 : Int32).toNatClampNeg) then (some 0) else (some 1)))))) = some t := h
def L_Rows_add_81 (fu : Nat) (l1_81 : Int32) (k_105 : (Nat → Int32) → Option (Int32 × (Nat → Int32) × (Nat → Int32) × (Nat → Int32))) : Nat → Int32 → (Nat → Int32) → Option (Int32 × (Nat → Int32) × (Nat → Int32) × (Nat → Int32))
  | 0, _, _ => none
  | n + 1, l6_81, v_starts_81 => (if 16 < l6_81 then (k_105 v_starts_81) else (bd l6_81 17 (bd l6_81 17 ((L_Rows_add_81 fu l1_81 k_105 n) (l6_81 + 1) (upd v_starts_81 (l6_81 : Int32).toNatClampNeg ((v_starts_81 (l6_81 : Int32).toNatClampNeg) + 1))))))
theorem L_Rows_add_81_z {fu : Nat} {l1_81 : Int32} {k_105 : (Nat → Int32) → Option (Int32 × (Nat → Int32) × (Nat → Int32) × (Nat → Int32))} {l6_81 : Int32} {v_starts_81 : Nat → Int32} {t : Int32 × (Nat → Int32) × (Nat → Int32) × (Nat → Int32)} (h : L_Rows_add_81 fu l1_81 k_105 0 l6_81 v_starts_81 = some t) : False := by cases (show (none : Option (Int32 × (Nat → Int32) × (Nat → Int32) × (Nat → Int32))) = some t from h)
theorem L_Rows_add_81_u {fu : Nat} {l1_81 : Int32} {k_105 : (Nat → Int32) → Option (Int32 × (Nat → Int32) × (Nat → Int32) × (Nat → Int32))} {n : Nat} {l6_81 : Int32} {v_starts_81 : Nat → Int32} {t : Int32 × (Nat → Int32) × (Nat → Int32) × (Nat → Int32)} (h : L_Rows_add_81 fu l1_81 k_105 (n + 1) l6_81 v_starts_81 = some t) : (if 16 < l6_81 then (k_105 v_starts_81) else (bd l6_81 17 (bd l6_81 17 ((L_Rows_add_81 fu l1_81 k_105 n) (l6_81 + 1) (upd v_starts_81 (l6_81 : Int32).toNatClampNeg ((v_starts_81 (l6_81 : Int32).toNatClampNeg) + 1)))))) = some t := h
def f_Rows_add (fu : Nat) (v_minutes : Nat → Int32) (v_values : Nat → Int32) (v_starts : Nat → Int32) (p1 : Int32) (p2 : Int32) (p3 : Int32) : Option (Int32 × (Nat → Int32) × (Nat → Int32) × (Nat → Int32)) :=
  (bd (p1 + 1) 17 (bd 16 17 (cp (v_starts (p1 + 1 : Int32).toNatClampNeg) ((v_starts (p1 + 1 : Int32).toNatClampNeg) + 1) ((v_starts (16 : Int32).toNatClampNeg) - (v_starts (p1 + 1 : Int32).toNatClampNeg)) 120 120 (cp (v_starts (p1 + 1 : Int32).toNatClampNeg) ((v_starts (p1 + 1 : Int32).toNatClampNeg) + 1) ((v_starts (16 : Int32).toNatClampNeg) - (v_starts (p1 + 1 : Int32).toNatClampNeg)) 120 120 (bd (v_starts (p1 + 1 : Int32).toNatClampNeg) 120 (bd (v_starts (p1 + 1 : Int32).toNatClampNeg) 120 (L_Rows_add_81 fu p1 (fun (v_starts_81x10 : Nat → Int32) => (bd (p1 + 1) 17 (bd p1 17 (some ((v_starts_81x10 (p1 + 1 : Int32).toNatClampNeg) - (v_starts_81x10 (p1 : Int32).toNatClampNeg), upd (va_cpy v_minutes v_minutes (v_starts (p1 + 1 : Int32).toNatClampNeg : Int32).toNatClampNeg ((v_starts (p1 + 1 : Int32).toNatClampNeg) + 1 : Int32).toNatClampNeg ((v_starts (16 : Int32).toNatClampNeg) - (v_starts (p1 + 1 : Int32).toNatClampNeg) : Int32).toNatClampNeg) (v_starts (p1 + 1 : Int32).toNatClampNeg : Int32).toNatClampNeg p2, upd (va_cpy v_values v_values (v_starts (p1 + 1 : Int32).toNatClampNeg : Int32).toNatClampNeg ((v_starts (p1 + 1 : Int32).toNatClampNeg) + 1 : Int32).toNatClampNeg ((v_starts (16 : Int32).toNatClampNeg) - (v_starts (p1 + 1 : Int32).toNatClampNeg) : Int32).toNatClampNeg) (v_starts (p1 + 1 : Int32).toNatClampNeg : Int32).toNatClampNeg p3, v_starts_81x10))))) fu (p1 + 1) v_starts)))))))
theorem f_Rows_add_u {fu : Nat} {v_minutes : Nat → Int32} {v_values : Nat → Int32} {v_starts : Nat → Int32} {p1 : Int32} {p2 : Int32} {p3 : Int32} {t : Int32 × (Nat → Int32) × (Nat → Int32) × (Nat → Int32)} (h : f_Rows_add fu v_minutes v_values v_starts p1 p2 p3 = some t) : (bd (p1 + 1) 17 (bd 16 17 (cp (v_starts (p1 + 1 : Int32).toNatClampNeg) ((v_starts (p1 + 1 : Int32).toNatClampNeg) + 1) ((v_starts (16 : Int32).toNatClampNeg) - (v_starts (p1 + 1 : Int32).toNatClampNeg)) 120 120 (cp (v_starts (p1 + 1 : Int32).toNatClampNeg) ((v_starts (p1 + 1 : Int32).toNatClampNeg) + 1) ((v_starts (16 : Int32).toNatClampNeg) - (v_starts (p1 + 1 : Int32).toNatClampNeg)) 120 120 (bd (v_starts (p1 + 1 : Int32).toNatClampNeg) 120 (bd (v_starts (p1 + 1 : Int32).toNatClampNeg) 120 (L_Rows_add_81 fu p1 (fun (v_starts_81x10 : Nat → Int32) => (bd (p1 + 1) 17 (bd p1 17 (some ((v_starts_81x10 (p1 + 1 : Int32).toNatClampNeg) - (v_starts_81x10 (p1 : Int32).toNatClampNeg), upd (va_cpy v_minutes v_minutes (v_starts (p1 + 1 : Int32).toNatClampNeg : Int32).toNatClampNeg ((v_starts (p1 + 1 : Int32).toNatClampNeg) + 1 : Int32).toNatClampNeg ((v_starts (16 : Int32).toNatClampNeg) - (v_starts (p1 + 1 : Int32).toNatClampNeg) : Int32).toNatClampNeg) (v_starts (p1 + 1 : Int32).toNatClampNeg : Int32).toNatClampNeg p2, upd (va_cpy v_values v_values (v_starts (p1 + 1 : Int32).toNatClampNeg : Int32).toNatClampNeg ((v_starts (p1 + 1 : Int32).toNatClampNeg) + 1 : Int32).toNatClampNeg ((v_starts (16 : Int32).toNatClampNeg) - (v_starts (p1 + 1 : Int32).toNatClampNeg) : Int32).toNatClampNeg) (v_starts (p1 + 1 : Int32).toNatClampNeg : Int32).toNatClampNeg p3, v_starts_81x10))))) fu (p1 + 1) v_starts))))))) = some t := h
def f_Rows_rewind (fu : Nat) (v_seen : Nat → Int32) : Option ((Nat → Int32)) :=
  ((f_java_util_Arrays_fill fu 16 v_seen 0).bind (fun t_1 => (some t_1)))
theorem f_Rows_rewind_u {fu : Nat} {v_seen : Nat → Int32} {t : (Nat → Int32)} (h : f_Rows_rewind fu v_seen = some t) : ((f_java_util_Arrays_fill fu 16 v_seen 0).bind (fun t_1 => (some t_1))) = some t := h
def L_Rows_advance_22 (fu : Nat) (v_minutes : Nat → Int32) (v_starts : Nat → Int32) (l1_22 : Int32) (l2_22 : Int32) (k_50 : Int32 → Option ((Nat → Int32))) : Nat → Int32 → Option ((Nat → Int32))
  | 0, _ => none
  | n + 1, l3_22 => (bd (l2_22 + 1) 17 (if (v_starts (l2_22 + 1 : Int32).toNatClampNeg) ≤ l3_22 then (k_50 l3_22) else (bd l3_22 120 (if l1_22 < (v_minutes (l3_22 : Int32).toNatClampNeg) then (k_50 l3_22) else ((L_Rows_advance_22 fu v_minutes v_starts l1_22 l2_22 k_50 n) (l3_22 + 1))))))
theorem L_Rows_advance_22_z {fu : Nat} {v_minutes : Nat → Int32} {v_starts : Nat → Int32} {l1_22 : Int32} {l2_22 : Int32} {k_50 : Int32 → Option ((Nat → Int32))} {l3_22 : Int32} {t : (Nat → Int32)} (h : L_Rows_advance_22 fu v_minutes v_starts l1_22 l2_22 k_50 0 l3_22 = some t) : False := by cases (show (none : Option ((Nat → Int32))) = some t from h)
theorem L_Rows_advance_22_u {fu : Nat} {v_minutes : Nat → Int32} {v_starts : Nat → Int32} {l1_22 : Int32} {l2_22 : Int32} {k_50 : Int32 → Option ((Nat → Int32))} {n : Nat} {l3_22 : Int32} {t : (Nat → Int32)} (h : L_Rows_advance_22 fu v_minutes v_starts l1_22 l2_22 k_50 (n + 1) l3_22 = some t) : (bd (l2_22 + 1) 17 (if (v_starts (l2_22 + 1 : Int32).toNatClampNeg) ≤ l3_22 then (k_50 l3_22) else (bd l3_22 120 (if l1_22 < (v_minutes (l3_22 : Int32).toNatClampNeg) then (k_50 l3_22) else ((L_Rows_advance_22 fu v_minutes v_starts l1_22 l2_22 k_50 n) (l3_22 + 1)))))) = some t := h
def L_Rows_advance_2 (fu : Nat) (v_minutes : Nat → Int32) (v_starts : Nat → Int32) (l1_2 : Int32) : Nat → Int32 → (Nat → Int32) → Option ((Nat → Int32))
  | 0, _, _ => none
  | n + 1, l2_2, v_seen_2 => (if 16 ≤ l2_2 then (some v_seen_2) else (bd l2_2 17 (bd l2_2 16 (L_Rows_advance_22 fu v_minutes v_starts l1_2 l2_2 (fun (l3_22x8 : Int32) => (bd l2_2 17 (bd l2_2 16 ((L_Rows_advance_2 fu v_minutes v_starts l1_2 n) (l2_2 + 1) (upd v_seen_2 (l2_2 : Int32).toNatClampNeg (l3_22x8 - (v_starts (l2_2 : Int32).toNatClampNeg))))))) fu ((v_starts (l2_2 : Int32).toNatClampNeg) + (v_seen_2 (l2_2 : Int32).toNatClampNeg))))))
theorem L_Rows_advance_2_z {fu : Nat} {v_minutes : Nat → Int32} {v_starts : Nat → Int32} {l1_2 : Int32} {l2_2 : Int32} {v_seen_2 : Nat → Int32} {t : (Nat → Int32)} (h : L_Rows_advance_2 fu v_minutes v_starts l1_2 0 l2_2 v_seen_2 = some t) : False := by cases (show (none : Option ((Nat → Int32))) = some t from h)
theorem L_Rows_advance_2_u {fu : Nat} {v_minutes : Nat → Int32} {v_starts : Nat → Int32} {l1_2 : Int32} {n : Nat} {l2_2 : Int32} {v_seen_2 : Nat → Int32} {t : (Nat → Int32)} (h : L_Rows_advance_2 fu v_minutes v_starts l1_2 (n + 1) l2_2 v_seen_2 = some t) : (if 16 ≤ l2_2 then (some v_seen_2) else (bd l2_2 17 (bd l2_2 16 (L_Rows_advance_22 fu v_minutes v_starts l1_2 l2_2 (fun (l3_22x8 : Int32) => (bd l2_2 17 (bd l2_2 16 ((L_Rows_advance_2 fu v_minutes v_starts l1_2 n) (l2_2 + 1) (upd v_seen_2 (l2_2 : Int32).toNatClampNeg (l3_22x8 - (v_starts (l2_2 : Int32).toNatClampNeg))))))) fu ((v_starts (l2_2 : Int32).toNatClampNeg) + (v_seen_2 (l2_2 : Int32).toNatClampNeg)))))) = some t := h
def f_Rows_advance (fu : Nat) (v_minutes : Nat → Int32) (v_starts : Nat → Int32) (v_seen : Nat → Int32) (p1 : Int32) : Option ((Nat → Int32)) :=
  (L_Rows_advance_2 fu v_minutes v_starts p1 fu 0 v_seen)
theorem f_Rows_advance_u {fu : Nat} {v_minutes : Nat → Int32} {v_starts : Nat → Int32} {v_seen : Nat → Int32} {p1 : Int32} {t : (Nat → Int32)} (h : f_Rows_advance fu v_minutes v_starts v_seen p1 = some t) : (L_Rows_advance_2 fu v_minutes v_starts p1 fu 0 v_seen) = some t := h
def f_Rows_has (v_seen : Nat → Int32) (p1 : Int32) : Option (Int32) :=
  (bd p1 16 (if (v_seen (p1 : Int32).toNatClampNeg) ≤ 0 then (some 0) else (some 1)))
theorem f_Rows_has_u {v_seen : Nat → Int32} {p1 : Int32} {t : Int32} (h : f_Rows_has v_seen p1 = some t) : (bd p1 16 (if (v_seen (p1 : Int32).toNatClampNeg) ≤ 0 then (some 0) else (some 1))) = some t := h
def f_Rows_latestValue (v_values : Nat → Int32) (v_starts : Nat → Int32) (v_seen : Nat → Int32) (p1 : Int32) : Option (Int32) :=
  (bd p1 17 (bd p1 16 (bd (((v_starts (p1 : Int32).toNatClampNeg) + (v_seen (p1 : Int32).toNatClampNeg)) - 1) 120 (some (v_values (((v_starts (p1 : Int32).toNatClampNeg) + (v_seen (p1 : Int32).toNatClampNeg)) - 1 : Int32).toNatClampNeg)))))
theorem f_Rows_latestValue_u {v_values : Nat → Int32} {v_starts : Nat → Int32} {v_seen : Nat → Int32} {p1 : Int32} {t : Int32} (h : f_Rows_latestValue v_values v_starts v_seen p1 = some t) : (bd p1 17 (bd p1 16 (bd (((v_starts (p1 : Int32).toNatClampNeg) + (v_seen (p1 : Int32).toNatClampNeg)) - 1) 120 (some (v_values (((v_starts (p1 : Int32).toNatClampNeg) + (v_seen (p1 : Int32).toNatClampNeg)) - 1 : Int32).toNatClampNeg))))) = some t := h
def f_Rows_age (v_minutes : Nat → Int32) (v_starts : Nat → Int32) (v_seen : Nat → Int32) (p1 : Int32) (p2 : Int32) : Option (Int32) :=
  (bd p1 17 (bd p1 16 (bd (((v_starts (p1 : Int32).toNatClampNeg) + (v_seen (p1 : Int32).toNatClampNeg)) - 1) 120 (some (p2 - (v_minutes (((v_starts (p1 : Int32).toNatClampNeg) + (v_seen (p1 : Int32).toNatClampNeg)) - 1 : Int32).toNatClampNeg))))))
theorem f_Rows_age_u {v_minutes : Nat → Int32} {v_starts : Nat → Int32} {v_seen : Nat → Int32} {p1 : Int32} {p2 : Int32} {t : Int32} (h : f_Rows_age v_minutes v_starts v_seen p1 p2 = some t) : (bd p1 17 (bd p1 16 (bd (((v_starts (p1 : Int32).toNatClampNeg) + (v_seen (p1 : Int32).toNatClampNeg)) - 1) 120 (some (p2 - (v_minutes (((v_starts (p1 : Int32).toNatClampNeg) + (v_seen (p1 : Int32).toNatClampNeg)) - 1 : Int32).toNatClampNeg)))))) = some t := h
def f_Rows_lastStep (v_values : Nat → Int32) (v_starts : Nat → Int32) (v_seen : Nat → Int32) (p1 : Int32) : Option (Int32) :=
  (bd p1 16 (if 2 ≤ (v_seen (p1 : Int32).toNatClampNeg) then (bd p1 17 (bd p1 16 (bd (((v_starts (p1 : Int32).toNatClampNeg) + (v_seen (p1 : Int32).toNatClampNeg)) - 1) 120 (bd ((((v_starts (p1 : Int32).toNatClampNeg) + (v_seen (p1 : Int32).toNatClampNeg)) - 1) - 1) 120 (some (if 0 ≤ ((v_values (((v_starts (p1 : Int32).toNatClampNeg) + (v_seen (p1 : Int32).toNatClampNeg)) - 1 : Int32).toNatClampNeg) - (v_values ((((v_starts (p1 : Int32).toNatClampNeg) + (v_seen (p1 : Int32).toNatClampNeg)) - 1) - 1 : Int32).toNatClampNeg)) then ((v_values (((v_starts (p1 : Int32).toNatClampNeg) + (v_seen (p1 : Int32).toNatClampNeg)) - 1 : Int32).toNatClampNeg) - (v_values ((((v_starts (p1 : Int32).toNatClampNeg) + (v_seen (p1 : Int32).toNatClampNeg)) - 1) - 1 : Int32).toNatClampNeg)) else 0 - ((v_values (((v_starts (p1 : Int32).toNatClampNeg) + (v_seen (p1 : Int32).toNatClampNeg)) - 1 : Int32).toNatClampNeg) - (v_values ((((v_starts (p1 : Int32).toNatClampNeg) + (v_seen (p1 : Int32).toNatClampNeg)) - 1) - 1 : Int32).toNatClampNeg)))))))) else (some 0)))
theorem f_Rows_lastStep_u {v_values : Nat → Int32} {v_starts : Nat → Int32} {v_seen : Nat → Int32} {p1 : Int32} {t : Int32} (h : f_Rows_lastStep v_values v_starts v_seen p1 = some t) : (bd p1 16 (if 2 ≤ (v_seen (p1 : Int32).toNatClampNeg) then (bd p1 17 (bd p1 16 (bd (((v_starts (p1 : Int32).toNatClampNeg) + (v_seen (p1 : Int32).toNatClampNeg)) - 1) 120 (bd ((((v_starts (p1 : Int32).toNatClampNeg) + (v_seen (p1 : Int32).toNatClampNeg)) - 1) - 1) 120 (some (if 0 ≤ ((v_values (((v_starts (p1 : Int32).toNatClampNeg) + (v_seen (p1 : Int32).toNatClampNeg)) - 1 : Int32).toNatClampNeg) - (v_values ((((v_starts (p1 : Int32).toNatClampNeg) + (v_seen (p1 : Int32).toNatClampNeg)) - 1) - 1 : Int32).toNatClampNeg)) then ((v_values (((v_starts (p1 : Int32).toNatClampNeg) + (v_seen (p1 : Int32).toNatClampNeg)) - 1 : Int32).toNatClampNeg) - (v_values ((((v_starts (p1 : Int32).toNatClampNeg) + (v_seen (p1 : Int32).toNatClampNeg)) - 1) - 1 : Int32).toNatClampNeg)) else 0 - ((v_values (((v_starts (p1 : Int32).toNatClampNeg) + (v_seen (p1 : Int32).toNatClampNeg)) - 1 : Int32).toNatClampNeg) - (v_values ((((v_starts (p1 : Int32).toNatClampNeg) + (v_seen (p1 : Int32).toNatClampNeg)) - 1) - 1 : Int32).toNatClampNeg)))))))) else (some 0))) = some t := h
def rm_Rows_isFull : Room := { frames := 0, cells := 0, slots := 0, locals := 0 }
set_option maxHeartbeats 4000000 in
set_option maxRecDepth 100000 in
theorem c_Rows_isFull (l : Launch) (dC : Nat → ClassId) (dI : Nat → Nat → Nat) (cI cL cC : ClassId) (h_this h_minutes h_values h_starts h_seen : Nat) (sz : Nat) (v_starts : Nat → Int32) (t : Int32) (hf : f_Rows_isFull v_starts = some t) : Met l y_Rows_isFull (Cond.code y_Rows_isFull prog_4_method_2_code 1 (some .boolean) :: xT) rm_Rows_isFull (va_Pc [.ref h_this] (xP (dC, dI) (xTy cI cL cC) [(h_this, .inr (2, [.ref h_minutes, .ref h_values, .ref h_starts, .ref h_seen])), (h_starts, .inl (cI, 17, .inl v_starts))] sz)) (xQ (dC, dI) [(h_this, .inr (2, [.ref h_minutes, .ref h_values, .ref h_starts, .ref h_seen])), (h_starts, .inl (cI, 17, .inl v_starts))] (va_A [(h_this, .inr (2, [.ref h_minutes, .ref h_values, .ref h_starts, .ref h_seen])), (h_starts, .inl (cI, 17, .inl v_starts))] sz) (some (.int t))) 0 0 (va_A [(h_this, .inr (2, [.ref h_minutes, .ref h_values, .ref h_starts, .ref h_seen])), (h_starts, .inl (cI, 17, .inl v_starts))] sz) := by
  refine Met.ofW (cc := prog_4_method_2_code) (maxL := 1) (ret := (some .boolean)) (by decide) rfl ?_
  intro p e s m args below meth c s₁ B hml hv
  obtain ⟨hargs, hsz, hP, hK, hN, hD0⟩ := hv
  have hx := B.exec
  have hb := B.bytes
  have hr := B.returns
  have hT : ∀ w ∈ xT, w.before args s = true := fun w hw => atoms_spec (ws := Cond.code y_Rows_isFull prog_4_method_2_code 1 (some .boolean) :: xT) B.pre w (List.mem_cons_of_mem _ hw)
  have hown : s.vm.findClass R_Rows = some m.cls := findClass_of_methodNamed B.named
  have hlocks := B.notSynchronized
  subst hsz
  have hD := hD0.self (sz := s.heap.size)
  generalize hAe : va_A [(h_this, .inr (2, [.ref h_minutes, .ref h_values, .ref h_starts, .ref h_seen])), (h_starts, .inl (cI, 17, .inl v_starts))] s.heap.size = A at hD ⊢
  have hA : ∀ q : Nat, s.heap.size ≤ q → A q := fun q h => by rw [← hAe]; exact Or.inr h
  have hS : va_S A s.heap s.heap [] := va_S.rf
  have hP : va_P (dC, dI) vwCl [(h_this, .inr (2, [.ref h_minutes, .ref h_values, .ref h_starts, .ref h_seen])), (h_starts, .inl (cI, 17, .inl v_starts))] s.heap := hP
  have hl := lv_entry ([.ref h_this]) (n := 1) (Nat.le_of_ble_eq_true rfl)
  rw [show entryFrame m args 1 = entryFrame m ([.ref h_this] : List Value).toArray 1 from by rw [hargs], lg_entry_eq]
  generalize (lg_sl ([.ref h_this]) ++ List.replicate (1 - (lg_sl ([.ref h_this])).length) Slot.unset).toArray = ls at hl ⊢
  have hl : lv_has ls 1 [(0, .ref h_this)] := hl
  obtain ⟨Q, hQ⟩ : ∃ Q, Q = MQ below (xQ (dC, dI) [(h_this, .inr (2, [.ref h_minutes, .ref h_values, .ref h_starts, .ref h_seen])), (h_starts, .inl (cI, 17, .inl v_starts))] A (some (.int t))) args s 0 0 A := ⟨_, rfl⟩
  rw [← hQ]
  show W p l e rm_Rows_isFull s m args below meth c s.heap [] 0 0 Q _
  obtain ⟨H, hH⟩ : ∃ H, H = s.heap := ⟨_, rfl⟩
  obtain ⟨locs, hlocs⟩ : ∃ L : List Loc, L = [] := ⟨_, rfl⟩
  rw [← hlocs] at hS ⊢
  have hS : va_S A s.heap H locs := by rw [hH]; exact hS
  rw [← hH] at hP ⊢
  replace hf := f_Rows_isFull_u hf
  refine lv_aload_n hx hb d_Rows_isFull_0 rfl (lv_at hl 0 rfl) ?_
  refine va_get (D := (dC, dI)) (ci := 2) (v := .ref h_starts) (C := R_Rows) (T := T_Rows) (N := 4) hx hb hT i_Rows hown hK hP 0 rfl rfl 2 (by decide) (hT _ kF_Rows_18) (fun _ h9 => h9) rfl d_Rows_isFull_1 ?_
  refine lv_bipush (v := 16) hx hb d_Rows_isFull_4 (by decide) ?_
  obtain ⟨hi_1, hf⟩ := o_in hf
  refine va_iald hx hb hK hP 1 0 rfl rfl hi_1 d_Rows_isFull_6 ?_
  refine lv_bipush (v := 120) hx hb d_Rows_isFull_7 (by decide) ?_
  refine lv_icmp_lt (tgt := 16) hx hb d_Rows_isFull_9 (by decide) (fun c_2 => ?_) (fun c_2 => ?_)
  · replace hf := o_pos c_2 hf
    refine lv_iconst (v := 0) hx hb d_Rows_isFull_16 (by decide) ?_
    rw [hQ, ← Option.some.inj hf]
    exact W.zret (ty := .boolean) hx hb hr rfl (fun t9 ht9 hW9 => ⟨rfl, by rw [ht9]; exact hP, hS.F ht9⟩) hS.2.2 d_Rows_isFull_17
  · replace hf := o_neg c_2 hf
    refine lv_iconst (v := 1) hx hb d_Rows_isFull_12 (by decide) ?_
    refine lv_goto (tgt := 17) hx hb d_Rows_isFull_13 (by decide) ?_
    rw [hQ, ← Option.some.inj hf]
    exact W.zret (ty := .boolean) hx hb hr rfl (fun t9 ht9 hW9 => ⟨rfl, by rw [ht9]; exact hP, hS.F ht9⟩) hS.2.2 d_Rows_isFull_17
def rm_Rows_isBehindLast : Room := { frames := 0, cells := 0, slots := 0, locals := 0 }
set_option maxHeartbeats 4000000 in
set_option maxRecDepth 100000 in
theorem c_Rows_isBehindLast (l : Launch) (dC : Nat → ClassId) (dI : Nat → Nat → Nat) (cI cL cC : ClassId) (h_this h_minutes h_values h_starts h_seen : Nat) (sz : Nat) (v_minutes : Nat → Int32) (v_starts : Nat → Int32) (p1 : Int32) (p2 : Int32) (t : Int32) (hf : f_Rows_isBehindLast v_minutes v_starts p1 p2 = some t) : Met l y_Rows_isBehindLast (Cond.code y_Rows_isBehindLast prog_4_method_3_code 4 (some .boolean) :: xT) rm_Rows_isBehindLast (va_Pc [.ref h_this, .int p1, .int p2] (xP (dC, dI) (xTy cI cL cC) [(h_this, .inr (2, [.ref h_minutes, .ref h_values, .ref h_starts, .ref h_seen])), (h_minutes, .inl (cI, 120, .inl v_minutes)), (h_starts, .inl (cI, 17, .inl v_starts))] sz)) (xQ (dC, dI) [(h_this, .inr (2, [.ref h_minutes, .ref h_values, .ref h_starts, .ref h_seen])), (h_minutes, .inl (cI, 120, .inl v_minutes)), (h_starts, .inl (cI, 17, .inl v_starts))] (va_A [(h_this, .inr (2, [.ref h_minutes, .ref h_values, .ref h_starts, .ref h_seen])), (h_minutes, .inl (cI, 120, .inl v_minutes)), (h_starts, .inl (cI, 17, .inl v_starts))] sz) (some (.int t))) 0 0 (va_A [(h_this, .inr (2, [.ref h_minutes, .ref h_values, .ref h_starts, .ref h_seen])), (h_minutes, .inl (cI, 120, .inl v_minutes)), (h_starts, .inl (cI, 17, .inl v_starts))] sz) := by
  refine Met.ofW (cc := prog_4_method_3_code) (maxL := 4) (ret := (some .boolean)) (by decide) rfl ?_
  intro p e s m args below meth c s₁ B hml hv
  obtain ⟨hargs, hsz, hP, hK, hN, hD0⟩ := hv
  have hx := B.exec
  have hb := B.bytes
  have hr := B.returns
  have hT : ∀ w ∈ xT, w.before args s = true := fun w hw => atoms_spec (ws := Cond.code y_Rows_isBehindLast prog_4_method_3_code 4 (some .boolean) :: xT) B.pre w (List.mem_cons_of_mem _ hw)
  have hown : s.vm.findClass R_Rows = some m.cls := findClass_of_methodNamed B.named
  have hlocks := B.notSynchronized
  subst hsz
  have hD := hD0.self (sz := s.heap.size)
  generalize hAe : va_A [(h_this, .inr (2, [.ref h_minutes, .ref h_values, .ref h_starts, .ref h_seen])), (h_minutes, .inl (cI, 120, .inl v_minutes)), (h_starts, .inl (cI, 17, .inl v_starts))] s.heap.size = A at hD ⊢
  have hA : ∀ q : Nat, s.heap.size ≤ q → A q := fun q h => by rw [← hAe]; exact Or.inr h
  have hS : va_S A s.heap s.heap [] := va_S.rf
  have hP : va_P (dC, dI) vwCl [(h_this, .inr (2, [.ref h_minutes, .ref h_values, .ref h_starts, .ref h_seen])), (h_minutes, .inl (cI, 120, .inl v_minutes)), (h_starts, .inl (cI, 17, .inl v_starts))] s.heap := hP
  have hl := lv_entry ([.ref h_this, .int p1, .int p2]) (n := 4) (Nat.le_of_ble_eq_true rfl)
  rw [show entryFrame m args 4 = entryFrame m ([.ref h_this, .int p1, .int p2] : List Value).toArray 4 from by rw [hargs], lg_entry_eq]
  generalize (lg_sl ([.ref h_this, .int p1, .int p2]) ++ List.replicate (4 - (lg_sl ([.ref h_this, .int p1, .int p2])).length) Slot.unset).toArray = ls at hl ⊢
  have hl : lv_has ls 4 [(0, .ref h_this), (1, .int p1), (2, .int p2)] := hl
  obtain ⟨Q, hQ⟩ : ∃ Q, Q = MQ below (xQ (dC, dI) [(h_this, .inr (2, [.ref h_minutes, .ref h_values, .ref h_starts, .ref h_seen])), (h_minutes, .inl (cI, 120, .inl v_minutes)), (h_starts, .inl (cI, 17, .inl v_starts))] A (some (.int t))) args s 0 0 A := ⟨_, rfl⟩
  rw [← hQ]
  show W p l e rm_Rows_isBehindLast s m args below meth c s.heap [] 0 0 Q _
  obtain ⟨H, hH⟩ : ∃ H, H = s.heap := ⟨_, rfl⟩
  obtain ⟨locs, hlocs⟩ : ∃ L : List Loc, L = [] := ⟨_, rfl⟩
  rw [← hlocs] at hS ⊢
  have hS : va_S A s.heap H locs := by rw [hH]; exact hS
  rw [← hH] at hP ⊢
  replace hf := f_Rows_isBehindLast_u hf
  refine lv_aload_n hx hb d_Rows_isBehindLast_0 rfl (lv_at hl 0 rfl) ?_
  refine va_get (D := (dC, dI)) (ci := 2) (v := .ref h_starts) (C := R_Rows) (T := T_Rows) (N := 4) hx hb hT i_Rows hown hK hP 0 rfl rfl 2 (by decide) (hT _ kF_Rows_18) (fun _ h9 => h9) rfl d_Rows_isBehindLast_1 ?_
  refine lv_iload_n hx hb d_Rows_isBehindLast_4 rfl (lv_at hl 1 rfl) ?_
  refine lv_iconst (v := 1) hx hb d_Rows_isBehindLast_5 (by decide) ?_
  refine lv_iadd hx hb d_Rows_isBehindLast_6 ?_
  obtain ⟨hi_1, hf⟩ := o_in hf
  refine va_iald hx hb hK hP 2 0 rfl rfl hi_1 d_Rows_isBehindLast_7 ?_
  refine lv_istore_n (lv' := [(3, .int (v_starts (p1 + 1 : Int32).toNatClampNeg)), (0, .ref h_this), (1, .int p1), (2, .int p2)]) hx hb d_Rows_isBehindLast_8 rfl hl (by decide) rfl (fun ls hl => ?_)
  refine lv_iload_n hx hb d_Rows_isBehindLast_9 rfl (lv_at hl 0 rfl) ?_
  refine lv_aload_n hx hb d_Rows_isBehindLast_10 rfl (lv_at hl 1 rfl) ?_
  refine va_get (D := (dC, dI)) (ci := 2) (v := .ref h_starts) (C := R_Rows) (T := T_Rows) (N := 4) hx hb hT i_Rows hown hK hP 0 rfl rfl 2 (by decide) (hT _ kF_Rows_18) (fun _ h9 => h9) rfl d_Rows_isBehindLast_11 ?_
  refine lv_iload_n hx hb d_Rows_isBehindLast_14 rfl (lv_at hl 2 rfl) ?_
  obtain ⟨hi_2, hf⟩ := o_in hf
  refine va_iald hx hb hK hP 2 0 rfl rfl hi_2 d_Rows_isBehindLast_15 ?_
  refine lv_icmp_eq (tgt := 31) hx hb d_Rows_isBehindLast_16 (by decide) (fun c_3 => ?_) (fun c_3 => ?_)
  · replace hf := o_pos c_3 hf
    refine lv_iconst (v := 1) hx hb d_Rows_isBehindLast_31 (by decide) ?_
    refine lv_goto (tgt := 36) hx hb d_Rows_isBehindLast_32 (by decide) ?_
    rw [hQ, ← Option.some.inj hf]
    exact W.zret (ty := .boolean) hx hb hr rfl (fun t9 ht9 hW9 => ⟨rfl, by rw [ht9]; exact hP, hS.F ht9⟩) hS.2.2 d_Rows_isBehindLast_36
  · replace hf := o_neg c_3 hf
    refine lv_aload_n hx hb d_Rows_isBehindLast_19 rfl (lv_at hl 1 rfl) ?_
    refine va_get (D := (dC, dI)) (ci := 2) (v := .ref h_minutes) (C := R_Rows) (T := T_Rows) (N := 4) hx hb hT i_Rows hown hK hP 0 rfl rfl 0 (by decide) (hT _ kF_Rows_9) (fun _ h9 => h9) rfl d_Rows_isBehindLast_20 ?_
    refine lv_iload_n hx hb d_Rows_isBehindLast_23 rfl (lv_at hl 0 rfl) ?_
    refine lv_iconst (v := 1) hx hb d_Rows_isBehindLast_24 (by decide) ?_
    refine lv_isub hx hb d_Rows_isBehindLast_25 ?_
    obtain ⟨hi_4, hf⟩ := o_in hf
    refine va_iald hx hb hK hP 1 0 rfl rfl hi_4 d_Rows_isBehindLast_26 ?_
    refine lv_iload_n hx hb d_Rows_isBehindLast_27 rfl (lv_at hl 3 rfl) ?_
    refine lv_icmp_ge (tgt := 35) hx hb d_Rows_isBehindLast_28 (by decide) (fun c_5 => ?_) (fun c_5 => ?_)
    · replace hf := o_pos c_5 hf
      refine lv_iconst (v := 0) hx hb d_Rows_isBehindLast_35 (by decide) ?_
      rw [hQ, ← Option.some.inj hf]
      exact W.zret (ty := .boolean) hx hb hr rfl (fun t9 ht9 hW9 => ⟨rfl, by rw [ht9]; exact hP, hS.F ht9⟩) hS.2.2 d_Rows_isBehindLast_36
    · replace hf := o_neg c_5 hf
      refine lv_iconst (v := 1) hx hb d_Rows_isBehindLast_31 (by decide) ?_
      refine lv_goto (tgt := 36) hx hb d_Rows_isBehindLast_32 (by decide) ?_
      rw [hQ, ← Option.some.inj hf]
      exact W.zret (ty := .boolean) hx hb hr rfl (fun t9 ht9 hW9 => ⟨rfl, by rw [ht9]; exact hP, hS.F ht9⟩) hS.2.2 d_Rows_isBehindLast_36
def rm_Rows_add : Room := { frames := 1, cells := 0, slots := 0, locals := 60 }
set_option maxHeartbeats 4000000 in
set_option maxRecDepth 100000 in
theorem c_Rows_add (l : Launch) (dC : Nat → ClassId) (dI : Nat → Nat → Nat) (cI cL cC : ClassId) (h_this h_minutes h_values h_starts h_seen : Nat) (sz : Nat) (fu : Nat) (v_minutes : Nat → Int32) (v_values : Nat → Int32) (v_starts : Nat → Int32) (p1 : Int32) (p2 : Int32) (p3 : Int32) (t : Int32 × (Nat → Int32) × (Nat → Int32) × (Nat → Int32)) (hf : f_Rows_add fu v_minutes v_values v_starts p1 p2 p3 = some t) : Met l y_Rows_add (Cond.code y_Rows_add prog_4_method_4_code 7 (some .int) :: xT) rm_Rows_add (va_Pc [.ref h_this, .int p1, .int p2, .int p3] (xP (dC, dI) (xTy cI cL cC) [(h_this, .inr (2, [.ref h_minutes, .ref h_values, .ref h_starts, .ref h_seen])), (h_minutes, .inl (cI, 120, .inl v_minutes)), (h_values, .inl (cI, 120, .inl v_values)), (h_starts, .inl (cI, 17, .inl v_starts))] sz)) (xQ (dC, dI) [(h_this, .inr (2, [.ref h_minutes, .ref h_values, .ref h_starts, .ref h_seen])), (h_minutes, .inl (cI, 120, .inl t.2.1)), (h_values, .inl (cI, 120, .inl t.2.2.1)), (h_starts, .inl (cI, 17, .inl t.2.2.2))] (va_A [(h_this, .inr (2, [.ref h_minutes, .ref h_values, .ref h_starts, .ref h_seen])), (h_minutes, .inl (cI, 120, .inl v_minutes)), (h_values, .inl (cI, 120, .inl v_values)), (h_starts, .inl (cI, 17, .inl v_starts))] sz) (some (.int t.1))) 0 0 (va_A [(h_this, .inr (2, [.ref h_minutes, .ref h_values, .ref h_starts, .ref h_seen])), (h_minutes, .inl (cI, 120, .inl v_minutes)), (h_values, .inl (cI, 120, .inl v_values)), (h_starts, .inl (cI, 17, .inl v_starts))] sz) := by
  refine Met.ofW (cc := prog_4_method_4_code) (maxL := 7) (ret := (some .int)) (by decide) rfl ?_
  intro p e s m args below meth c s₁ B hml hv
  obtain ⟨hargs, hsz, hP, hK, hN, hD0⟩ := hv
  have hx := B.exec
  have hb := B.bytes
  have hr := B.returns
  have hT : ∀ w ∈ xT, w.before args s = true := fun w hw => atoms_spec (ws := Cond.code y_Rows_add prog_4_method_4_code 7 (some .int) :: xT) B.pre w (List.mem_cons_of_mem _ hw)
  have hown : s.vm.findClass R_Rows = some m.cls := findClass_of_methodNamed B.named
  have hlocks := B.notSynchronized
  subst hsz
  have hD := hD0.self (sz := s.heap.size)
  generalize hAe : va_A [(h_this, .inr (2, [.ref h_minutes, .ref h_values, .ref h_starts, .ref h_seen])), (h_minutes, .inl (cI, 120, .inl v_minutes)), (h_values, .inl (cI, 120, .inl v_values)), (h_starts, .inl (cI, 17, .inl v_starts))] s.heap.size = A at hD ⊢
  have hA : ∀ q : Nat, s.heap.size ≤ q → A q := fun q h => by rw [← hAe]; exact Or.inr h
  have hS : va_S A s.heap s.heap [] := va_S.rf
  have hP : va_P (dC, dI) vwCl [(h_this, .inr (2, [.ref h_minutes, .ref h_values, .ref h_starts, .ref h_seen])), (h_minutes, .inl (cI, 120, .inl v_minutes)), (h_values, .inl (cI, 120, .inl v_values)), (h_starts, .inl (cI, 17, .inl v_starts))] s.heap := hP
  have hl := lv_entry ([.ref h_this, .int p1, .int p2, .int p3]) (n := 7) (Nat.le_of_ble_eq_true rfl)
  rw [show entryFrame m args 7 = entryFrame m ([.ref h_this, .int p1, .int p2, .int p3] : List Value).toArray 7 from by rw [hargs], lg_entry_eq]
  generalize (lg_sl ([.ref h_this, .int p1, .int p2, .int p3]) ++ List.replicate (7 - (lg_sl ([.ref h_this, .int p1, .int p2, .int p3])).length) Slot.unset).toArray = ls at hl ⊢
  have hl : lv_has ls 7 [(0, .ref h_this), (1, .int p1), (2, .int p2), (3, .int p3)] := hl
  obtain ⟨Q, hQ⟩ : ∃ Q, Q = MQ below (xQ (dC, dI) [(h_this, .inr (2, [.ref h_minutes, .ref h_values, .ref h_starts, .ref h_seen])), (h_minutes, .inl (cI, 120, .inl t.2.1)), (h_values, .inl (cI, 120, .inl t.2.2.1)), (h_starts, .inl (cI, 17, .inl t.2.2.2))] A (some (.int t.1))) args s 0 0 A := ⟨_, rfl⟩
  rw [← hQ]
  show W p l e rm_Rows_add s m args below meth c s.heap [] 0 0 Q _
  obtain ⟨H, hH⟩ : ∃ H, H = s.heap := ⟨_, rfl⟩
  obtain ⟨locs, hlocs⟩ : ∃ L : List Loc, L = [] := ⟨_, rfl⟩
  rw [← hlocs] at hS ⊢
  have hS : va_S A s.heap H locs := by rw [hH]; exact hS
  rw [← hH] at hP ⊢
  replace hf := f_Rows_add_u hf
  refine lv_aload_n hx hb d_Rows_add_0 rfl (lv_at hl 0 rfl) ?_
  refine va_get (D := (dC, dI)) (ci := 2) (v := .ref h_starts) (C := R_Rows) (T := T_Rows) (N := 4) hx hb hT i_Rows hown hK hP 0 rfl rfl 2 (by decide) (hT _ kF_Rows_18) (fun _ h9 => h9) rfl d_Rows_add_1 ?_
  refine lv_iload_n hx hb d_Rows_add_4 rfl (lv_at hl 1 rfl) ?_
  refine lv_iconst (v := 1) hx hb d_Rows_add_5 (by decide) ?_
  refine lv_iadd hx hb d_Rows_add_6 ?_
  obtain ⟨hi_1, hf⟩ := o_in hf
  refine va_iald hx hb hK hP 3 0 rfl rfl hi_1 d_Rows_add_7 ?_
  refine lv_istore (lv' := [(4, .int (v_starts (p1 + 1 : Int32).toNatClampNeg)), (0, .ref h_this), (1, .int p1), (2, .int p2), (3, .int p3)]) hx hb d_Rows_add_8 hl (by decide) rfl (fun ls hl => ?_)
  refine lv_aload_n hx hb d_Rows_add_10 rfl (lv_at hl 1 rfl) ?_
  refine va_get (D := (dC, dI)) (ci := 2) (v := .ref h_starts) (C := R_Rows) (T := T_Rows) (N := 4) hx hb hT i_Rows hown hK hP 0 rfl rfl 2 (by decide) (hT _ kF_Rows_18) (fun _ h9 => h9) rfl d_Rows_add_11 ?_
  refine lv_bipush (v := 16) hx hb d_Rows_add_14 (by decide) ?_
  obtain ⟨hi_2, hf⟩ := o_in hf
  refine va_iald hx hb hK hP 3 0 rfl rfl hi_2 d_Rows_add_16 ?_
  refine lv_iload hx hb d_Rows_add_17 (lv_at hl 0 rfl) ?_
  refine lv_isub hx hb d_Rows_add_19 ?_
  refine lv_istore (lv' := [(5, .int ((v_starts (16 : Int32).toNatClampNeg) - (v_starts (p1 + 1 : Int32).toNatClampNeg))), (4, .int (v_starts (p1 + 1 : Int32).toNatClampNeg)), (0, .ref h_this), (1, .int p1), (2, .int p2), (3, .int p3)]) hx hb d_Rows_add_20 hl (by decide) rfl (fun ls hl => ?_)
  refine lv_aload_n hx hb d_Rows_add_22 rfl (lv_at hl 2 rfl) ?_
  refine va_get (D := (dC, dI)) (ci := 2) (v := .ref h_minutes) (C := R_Rows) (T := T_Rows) (N := 4) hx hb hT i_Rows hown hK hP 0 rfl rfl 0 (by decide) (hT _ kF_Rows_9) (fun _ h9 => h9) rfl d_Rows_add_23 ?_
  refine lv_iload hx hb d_Rows_add_26 (lv_at hl 1 rfl) ?_
  refine lv_aload_n hx hb d_Rows_add_28 rfl (lv_at hl 2 rfl) ?_
  refine va_get (D := (dC, dI)) (ci := 2) (v := .ref h_minutes) (C := R_Rows) (T := T_Rows) (N := 4) hx hb hT i_Rows hown hK hP 0 rfl rfl 0 (by decide) (hT _ kF_Rows_9) (fun _ h9 => h9) rfl d_Rows_add_29 ?_
  refine lv_iload hx hb d_Rows_add_32 (lv_at hl 1 rfl) ?_
  refine lv_iconst (v := 1) hx hb d_Rows_add_34 (by decide) ?_
  refine lv_iadd hx hb d_Rows_add_35 ?_
  refine lv_iload hx hb d_Rows_add_36 (lv_at hl 0 rfl) ?_
  obtain ⟨hc1_3, hc2_3, hc3_3, hc4_3, hc5_3, hf⟩ := o_cp hf
  refine va_copyi hx hb (hml.trans hl.1.symm) hown (hT _ kM_Rows_24) (hT _ kV_copy) (hT _ kT_copy) (hT _ kN_System) hK hP hD hS 1 1 0 0 rfl rfl rfl rfl rfl hc1_3 hc2_3 hc3_3 hc4_3 hc5_3 (fun _ _ => rfl) (Nat.le_of_ble_eq_true rfl) (Nat.le_of_ble_eq_true rfl) d_Rows_add_38 (fun H locs hP hD hS => ?_)
  have hP : va_P (dC, dI) vwCl [(h_this, .inr (2, [.ref h_minutes, .ref h_values, .ref h_starts, .ref h_seen])), (h_minutes, .inl (cI, 120, .inl (va_cpy v_minutes v_minutes (v_starts (p1 + 1 : Int32).toNatClampNeg : Int32).toNatClampNeg ((v_starts (p1 + 1 : Int32).toNatClampNeg) + 1 : Int32).toNatClampNeg ((v_starts (16 : Int32).toNatClampNeg) - (v_starts (p1 + 1 : Int32).toNatClampNeg) : Int32).toNatClampNeg))), (h_values, .inl (cI, 120, .inl v_values)), (h_starts, .inl (cI, 17, .inl v_starts))] H := hP
  have hD : va_D A [(h_this, .inr (2, [.ref h_minutes, .ref h_values, .ref h_starts, .ref h_seen])), (h_minutes, .inl (cI, 120, .inl (va_cpy v_minutes v_minutes (v_starts (p1 + 1 : Int32).toNatClampNeg : Int32).toNatClampNeg ((v_starts (p1 + 1 : Int32).toNatClampNeg) + 1 : Int32).toNatClampNeg ((v_starts (16 : Int32).toNatClampNeg) - (v_starts (p1 + 1 : Int32).toNatClampNeg) : Int32).toNatClampNeg))), (h_values, .inl (cI, 120, .inl v_values)), (h_starts, .inl (cI, 17, .inl v_starts))] := hD
  refine lv_aload_n hx hb d_Rows_add_41 rfl (lv_at hl 2 rfl) ?_
  refine va_get (D := (dC, dI)) (ci := 2) (v := .ref h_values) (C := R_Rows) (T := T_Rows) (N := 4) hx hb hT i_Rows hown hK hP 0 rfl rfl 1 (by decide) (hT _ kF_Rows_15) (fun _ h9 => h9) rfl d_Rows_add_42 ?_
  refine lv_iload hx hb d_Rows_add_45 (lv_at hl 1 rfl) ?_
  refine lv_aload_n hx hb d_Rows_add_47 rfl (lv_at hl 2 rfl) ?_
  refine va_get (D := (dC, dI)) (ci := 2) (v := .ref h_values) (C := R_Rows) (T := T_Rows) (N := 4) hx hb hT i_Rows hown hK hP 0 rfl rfl 1 (by decide) (hT _ kF_Rows_15) (fun _ h9 => h9) rfl d_Rows_add_48 ?_
  refine lv_iload hx hb d_Rows_add_51 (lv_at hl 1 rfl) ?_
  refine lv_iconst (v := 1) hx hb d_Rows_add_53 (by decide) ?_
  refine lv_iadd hx hb d_Rows_add_54 ?_
  refine lv_iload hx hb d_Rows_add_55 (lv_at hl 0 rfl) ?_
  obtain ⟨hc1_4, hc2_4, hc3_4, hc4_4, hc5_4, hf⟩ := o_cp hf
  refine va_copyi hx hb (hml.trans hl.1.symm) hown (hT _ kM_Rows_24) (hT _ kV_copy) (hT _ kT_copy) (hT _ kN_System) hK hP hD hS 2 2 0 0 rfl rfl rfl rfl rfl hc1_4 hc2_4 hc3_4 hc4_4 hc5_4 (fun _ _ => rfl) (Nat.le_of_ble_eq_true rfl) (Nat.le_of_ble_eq_true rfl) d_Rows_add_57 (fun H locs hP hD hS => ?_)
  have hP : va_P (dC, dI) vwCl [(h_this, .inr (2, [.ref h_minutes, .ref h_values, .ref h_starts, .ref h_seen])), (h_minutes, .inl (cI, 120, .inl (va_cpy v_minutes v_minutes (v_starts (p1 + 1 : Int32).toNatClampNeg : Int32).toNatClampNeg ((v_starts (p1 + 1 : Int32).toNatClampNeg) + 1 : Int32).toNatClampNeg ((v_starts (16 : Int32).toNatClampNeg) - (v_starts (p1 + 1 : Int32).toNatClampNeg) : Int32).toNatClampNeg))), (h_values, .inl (cI, 120, .inl (va_cpy v_values v_values (v_starts (p1 + 1 : Int32).toNatClampNeg : Int32).toNatClampNeg ((v_starts (p1 + 1 : Int32).toNatClampNeg) + 1 : Int32).toNatClampNeg ((v_starts (16 : Int32).toNatClampNeg) - (v_starts (p1 + 1 : Int32).toNatClampNeg) : Int32).toNatClampNeg))), (h_starts, .inl (cI, 17, .inl v_starts))] H := hP
  have hD : va_D A [(h_this, .inr (2, [.ref h_minutes, .ref h_values, .ref h_starts, .ref h_seen])), (h_minutes, .inl (cI, 120, .inl (va_cpy v_minutes v_minutes (v_starts (p1 + 1 : Int32).toNatClampNeg : Int32).toNatClampNeg ((v_starts (p1 + 1 : Int32).toNatClampNeg) + 1 : Int32).toNatClampNeg ((v_starts (16 : Int32).toNatClampNeg) - (v_starts (p1 + 1 : Int32).toNatClampNeg) : Int32).toNatClampNeg))), (h_values, .inl (cI, 120, .inl (va_cpy v_values v_values (v_starts (p1 + 1 : Int32).toNatClampNeg : Int32).toNatClampNeg ((v_starts (p1 + 1 : Int32).toNatClampNeg) + 1 : Int32).toNatClampNeg ((v_starts (16 : Int32).toNatClampNeg) - (v_starts (p1 + 1 : Int32).toNatClampNeg) : Int32).toNatClampNeg))), (h_starts, .inl (cI, 17, .inl v_starts))] := hD
  refine lv_aload_n hx hb d_Rows_add_60 rfl (lv_at hl 2 rfl) ?_
  refine va_get (D := (dC, dI)) (ci := 2) (v := .ref h_minutes) (C := R_Rows) (T := T_Rows) (N := 4) hx hb hT i_Rows hown hK hP 0 rfl rfl 0 (by decide) (hT _ kF_Rows_9) (fun _ h9 => h9) rfl d_Rows_add_61 ?_
  refine lv_iload hx hb d_Rows_add_64 (lv_at hl 1 rfl) ?_
  refine lv_iload_n hx hb d_Rows_add_66 rfl (lv_at hl 4 rfl) ?_
  obtain ⟨hi_5, hf⟩ := o_in hf
  refine va_iast hx hb hK hP hD hS 1 0 rfl rfl hi_5 d_Rows_add_67 (fun H locs hP hD hS => ?_)
  have hP : va_P (dC, dI) vwCl [(h_this, .inr (2, [.ref h_minutes, .ref h_values, .ref h_starts, .ref h_seen])), (h_minutes, .inl (cI, 120, .inl (upd (va_cpy v_minutes v_minutes (v_starts (p1 + 1 : Int32).toNatClampNeg : Int32).toNatClampNeg ((v_starts (p1 + 1 : Int32).toNatClampNeg) + 1 : Int32).toNatClampNeg ((v_starts (16 : Int32).toNatClampNeg) - (v_starts (p1 + 1 : Int32).toNatClampNeg) : Int32).toNatClampNeg) (v_starts (p1 + 1 : Int32).toNatClampNeg : Int32).toNatClampNeg p2))), (h_values, .inl (cI, 120, .inl (va_cpy v_values v_values (v_starts (p1 + 1 : Int32).toNatClampNeg : Int32).toNatClampNeg ((v_starts (p1 + 1 : Int32).toNatClampNeg) + 1 : Int32).toNatClampNeg ((v_starts (16 : Int32).toNatClampNeg) - (v_starts (p1 + 1 : Int32).toNatClampNeg) : Int32).toNatClampNeg))), (h_starts, .inl (cI, 17, .inl v_starts))] H := hP
  have hD : va_D A [(h_this, .inr (2, [.ref h_minutes, .ref h_values, .ref h_starts, .ref h_seen])), (h_minutes, .inl (cI, 120, .inl (upd (va_cpy v_minutes v_minutes (v_starts (p1 + 1 : Int32).toNatClampNeg : Int32).toNatClampNeg ((v_starts (p1 + 1 : Int32).toNatClampNeg) + 1 : Int32).toNatClampNeg ((v_starts (16 : Int32).toNatClampNeg) - (v_starts (p1 + 1 : Int32).toNatClampNeg) : Int32).toNatClampNeg) (v_starts (p1 + 1 : Int32).toNatClampNeg : Int32).toNatClampNeg p2))), (h_values, .inl (cI, 120, .inl (va_cpy v_values v_values (v_starts (p1 + 1 : Int32).toNatClampNeg : Int32).toNatClampNeg ((v_starts (p1 + 1 : Int32).toNatClampNeg) + 1 : Int32).toNatClampNeg ((v_starts (16 : Int32).toNatClampNeg) - (v_starts (p1 + 1 : Int32).toNatClampNeg) : Int32).toNatClampNeg))), (h_starts, .inl (cI, 17, .inl v_starts))] := hD
  refine lv_aload_n hx hb d_Rows_add_68 rfl (lv_at hl 2 rfl) ?_
  refine va_get (D := (dC, dI)) (ci := 2) (v := .ref h_values) (C := R_Rows) (T := T_Rows) (N := 4) hx hb hT i_Rows hown hK hP 0 rfl rfl 1 (by decide) (hT _ kF_Rows_15) (fun _ h9 => h9) rfl d_Rows_add_69 ?_
  refine lv_iload hx hb d_Rows_add_72 (lv_at hl 1 rfl) ?_
  refine lv_iload_n hx hb d_Rows_add_74 rfl (lv_at hl 5 rfl) ?_
  obtain ⟨hi_6, hf⟩ := o_in hf
  refine va_iast hx hb hK hP hD hS 2 0 rfl rfl hi_6 d_Rows_add_75 (fun H locs hP hD hS => ?_)
  have hP : va_P (dC, dI) vwCl [(h_this, .inr (2, [.ref h_minutes, .ref h_values, .ref h_starts, .ref h_seen])), (h_minutes, .inl (cI, 120, .inl (upd (va_cpy v_minutes v_minutes (v_starts (p1 + 1 : Int32).toNatClampNeg : Int32).toNatClampNeg ((v_starts (p1 + 1 : Int32).toNatClampNeg) + 1 : Int32).toNatClampNeg ((v_starts (16 : Int32).toNatClampNeg) - (v_starts (p1 + 1 : Int32).toNatClampNeg) : Int32).toNatClampNeg) (v_starts (p1 + 1 : Int32).toNatClampNeg : Int32).toNatClampNeg p2))), (h_values, .inl (cI, 120, .inl (upd (va_cpy v_values v_values (v_starts (p1 + 1 : Int32).toNatClampNeg : Int32).toNatClampNeg ((v_starts (p1 + 1 : Int32).toNatClampNeg) + 1 : Int32).toNatClampNeg ((v_starts (16 : Int32).toNatClampNeg) - (v_starts (p1 + 1 : Int32).toNatClampNeg) : Int32).toNatClampNeg) (v_starts (p1 + 1 : Int32).toNatClampNeg : Int32).toNatClampNeg p3))), (h_starts, .inl (cI, 17, .inl v_starts))] H := hP
  have hD : va_D A [(h_this, .inr (2, [.ref h_minutes, .ref h_values, .ref h_starts, .ref h_seen])), (h_minutes, .inl (cI, 120, .inl (upd (va_cpy v_minutes v_minutes (v_starts (p1 + 1 : Int32).toNatClampNeg : Int32).toNatClampNeg ((v_starts (p1 + 1 : Int32).toNatClampNeg) + 1 : Int32).toNatClampNeg ((v_starts (16 : Int32).toNatClampNeg) - (v_starts (p1 + 1 : Int32).toNatClampNeg) : Int32).toNatClampNeg) (v_starts (p1 + 1 : Int32).toNatClampNeg : Int32).toNatClampNeg p2))), (h_values, .inl (cI, 120, .inl (upd (va_cpy v_values v_values (v_starts (p1 + 1 : Int32).toNatClampNeg : Int32).toNatClampNeg ((v_starts (p1 + 1 : Int32).toNatClampNeg) + 1 : Int32).toNatClampNeg ((v_starts (16 : Int32).toNatClampNeg) - (v_starts (p1 + 1 : Int32).toNatClampNeg) : Int32).toNatClampNeg) (v_starts (p1 + 1 : Int32).toNatClampNeg : Int32).toNatClampNeg p3))), (h_starts, .inl (cI, 17, .inl v_starts))] := hD
  refine lv_iload_n hx hb d_Rows_add_76 rfl (lv_at hl 3 rfl) ?_
  refine lv_iconst (v := 1) hx hb d_Rows_add_77 (by decide) ?_
  refine lv_iadd hx hb d_Rows_add_78 ?_
  refine lv_istore (lv' := [(6, .int (p1 + 1)), (5, .int ((v_starts (16 : Int32).toNatClampNeg) - (v_starts (p1 + 1 : Int32).toNatClampNeg))), (4, .int (v_starts (p1 + 1 : Int32).toNatClampNeg)), (0, .ref h_this), (1, .int p1), (2, .int p2), (3, .int p3)]) hx hb d_Rows_add_79 hl (by decide) rfl (fun ls hl => ?_)
  have lp_81 : ∀ (k_105 : (Nat → Int32) → Option (Int32 × (Nat → Int32) × (Nat → Int32) × (Nat → Int32))) (hk_105 : ∀ (v_starts_81e : Nat → Int32) (H : Heap) (locs : List Loc) (ls : Array Slot), k_105 v_starts_81e = some t → va_P (dC, dI) vwCl [(h_this, .inr (2, [.ref h_minutes, .ref h_values, .ref h_starts, .ref h_seen])), (h_minutes, .inl (cI, 120, .inl (upd (va_cpy v_minutes v_minutes (v_starts (p1 + 1 : Int32).toNatClampNeg : Int32).toNatClampNeg ((v_starts (p1 + 1 : Int32).toNatClampNeg) + 1 : Int32).toNatClampNeg ((v_starts (16 : Int32).toNatClampNeg) - (v_starts (p1 + 1 : Int32).toNatClampNeg) : Int32).toNatClampNeg) (v_starts (p1 + 1 : Int32).toNatClampNeg : Int32).toNatClampNeg p2))), (h_values, .inl (cI, 120, .inl (upd (va_cpy v_values v_values (v_starts (p1 + 1 : Int32).toNatClampNeg : Int32).toNatClampNeg ((v_starts (p1 + 1 : Int32).toNatClampNeg) + 1 : Int32).toNatClampNeg ((v_starts (16 : Int32).toNatClampNeg) - (v_starts (p1 + 1 : Int32).toNatClampNeg) : Int32).toNatClampNeg) (v_starts (p1 + 1 : Int32).toNatClampNeg : Int32).toNatClampNeg p3))), (h_starts, .inl (cI, 17, .inl v_starts_81e))] H → va_D A [(h_this, .inr (2, [.ref h_minutes, .ref h_values, .ref h_starts, .ref h_seen])), (h_minutes, .inl (cI, 120, .inl (upd (va_cpy v_minutes v_minutes (v_starts (p1 + 1 : Int32).toNatClampNeg : Int32).toNatClampNeg ((v_starts (p1 + 1 : Int32).toNatClampNeg) + 1 : Int32).toNatClampNeg ((v_starts (16 : Int32).toNatClampNeg) - (v_starts (p1 + 1 : Int32).toNatClampNeg) : Int32).toNatClampNeg) (v_starts (p1 + 1 : Int32).toNatClampNeg : Int32).toNatClampNeg p2))), (h_values, .inl (cI, 120, .inl (upd (va_cpy v_values v_values (v_starts (p1 + 1 : Int32).toNatClampNeg : Int32).toNatClampNeg ((v_starts (p1 + 1 : Int32).toNatClampNeg) + 1 : Int32).toNatClampNeg ((v_starts (16 : Int32).toNatClampNeg) - (v_starts (p1 + 1 : Int32).toNatClampNeg) : Int32).toNatClampNeg) (v_starts (p1 + 1 : Int32).toNatClampNeg : Int32).toNatClampNeg p3))), (h_starts, .inl (cI, 17, .inl v_starts_81e))] → va_S A s.heap H locs → lv_has ls 7 [(0, .ref h_this), (1, .int p1)] → W p l e rm_Rows_add s m args below meth c H locs 0 0 Q (F0 m 105 ls [])), ∀ (n : Nat) (l6_81 : Int32) (v_starts_81 : Nat → Int32) (H : Heap) (locs : List Loc) (ls : Array Slot), L_Rows_add_81 fu p1 k_105 n l6_81 v_starts_81 = some t → va_P (dC, dI) vwCl [(h_this, .inr (2, [.ref h_minutes, .ref h_values, .ref h_starts, .ref h_seen])), (h_minutes, .inl (cI, 120, .inl (upd (va_cpy v_minutes v_minutes (v_starts (p1 + 1 : Int32).toNatClampNeg : Int32).toNatClampNeg ((v_starts (p1 + 1 : Int32).toNatClampNeg) + 1 : Int32).toNatClampNeg ((v_starts (16 : Int32).toNatClampNeg) - (v_starts (p1 + 1 : Int32).toNatClampNeg) : Int32).toNatClampNeg) (v_starts (p1 + 1 : Int32).toNatClampNeg : Int32).toNatClampNeg p2))), (h_values, .inl (cI, 120, .inl (upd (va_cpy v_values v_values (v_starts (p1 + 1 : Int32).toNatClampNeg : Int32).toNatClampNeg ((v_starts (p1 + 1 : Int32).toNatClampNeg) + 1 : Int32).toNatClampNeg ((v_starts (16 : Int32).toNatClampNeg) - (v_starts (p1 + 1 : Int32).toNatClampNeg) : Int32).toNatClampNeg) (v_starts (p1 + 1 : Int32).toNatClampNeg : Int32).toNatClampNeg p3))), (h_starts, .inl (cI, 17, .inl v_starts_81))] H → va_D A [(h_this, .inr (2, [.ref h_minutes, .ref h_values, .ref h_starts, .ref h_seen])), (h_minutes, .inl (cI, 120, .inl (upd (va_cpy v_minutes v_minutes (v_starts (p1 + 1 : Int32).toNatClampNeg : Int32).toNatClampNeg ((v_starts (p1 + 1 : Int32).toNatClampNeg) + 1 : Int32).toNatClampNeg ((v_starts (16 : Int32).toNatClampNeg) - (v_starts (p1 + 1 : Int32).toNatClampNeg) : Int32).toNatClampNeg) (v_starts (p1 + 1 : Int32).toNatClampNeg : Int32).toNatClampNeg p2))), (h_values, .inl (cI, 120, .inl (upd (va_cpy v_values v_values (v_starts (p1 + 1 : Int32).toNatClampNeg : Int32).toNatClampNeg ((v_starts (p1 + 1 : Int32).toNatClampNeg) + 1 : Int32).toNatClampNeg ((v_starts (16 : Int32).toNatClampNeg) - (v_starts (p1 + 1 : Int32).toNatClampNeg) : Int32).toNatClampNeg) (v_starts (p1 + 1 : Int32).toNatClampNeg : Int32).toNatClampNeg p3))), (h_starts, .inl (cI, 17, .inl v_starts_81))] → va_S A s.heap H locs → lv_has ls 7 [(0, .ref h_this), (1, .int p1), (6, .int l6_81)] → W p l e rm_Rows_add s m args below meth c H locs 0 0 Q (F0 m 81 ls []) := by
    intro k_105 hk_105 n
    induction n with
    | zero => intro l6_81 v_starts_81 H locs ls hf; exact (L_Rows_add_81_z hf).elim
    | succ n ih =>
      intro l6_81 v_starts_81 H locs ls hf hP hD hS hl
      replace hf := L_Rows_add_81_u hf
      refine lv_iload hx hb d_Rows_add_81 (lv_at hl 2 rfl) ?_
      refine lv_bipush (v := 16) hx hb d_Rows_add_83 (by decide) ?_
      refine lv_icmp_gt (tgt := 105) hx hb d_Rows_add_85 (by decide) (fun c_7 => ?_) (fun c_7 => ?_)
      · replace hf := o_pos c_7 hf
        exact hk_105 v_starts_81 H locs ls hf hP hD hS (lv_sub hl [0, 1] rfl)
      · replace hf := o_neg c_7 hf
        refine lv_aload_n hx hb d_Rows_add_88 rfl (lv_at hl 0 rfl) ?_
        refine va_get (D := (dC, dI)) (ci := 2) (v := .ref h_starts) (C := R_Rows) (T := T_Rows) (N := 4) hx hb hT i_Rows hown hK hP 0 rfl rfl 2 (by decide) (hT _ kF_Rows_18) (fun _ h9 => h9) rfl d_Rows_add_89 ?_
        refine lv_iload hx hb d_Rows_add_92 (lv_at hl 2 rfl) ?_
        refine lv_dup2_11 hx hb d_Rows_add_94 rfl rfl ?_
        obtain ⟨hi_8, hf⟩ := o_in hf
        refine va_iald hx hb hK hP 3 0 rfl rfl hi_8 d_Rows_add_95 ?_
        refine lv_iconst (v := 1) hx hb d_Rows_add_96 (by decide) ?_
        refine lv_iadd hx hb d_Rows_add_97 ?_
        obtain ⟨hi_9, hf⟩ := o_in hf
        refine va_iast hx hb hK hP hD hS 3 0 rfl rfl hi_9 d_Rows_add_98 (fun H locs hP hD hS => ?_)
        have hP : va_P (dC, dI) vwCl [(h_this, .inr (2, [.ref h_minutes, .ref h_values, .ref h_starts, .ref h_seen])), (h_minutes, .inl (cI, 120, .inl (upd (va_cpy v_minutes v_minutes (v_starts (p1 + 1 : Int32).toNatClampNeg : Int32).toNatClampNeg ((v_starts (p1 + 1 : Int32).toNatClampNeg) + 1 : Int32).toNatClampNeg ((v_starts (16 : Int32).toNatClampNeg) - (v_starts (p1 + 1 : Int32).toNatClampNeg) : Int32).toNatClampNeg) (v_starts (p1 + 1 : Int32).toNatClampNeg : Int32).toNatClampNeg p2))), (h_values, .inl (cI, 120, .inl (upd (va_cpy v_values v_values (v_starts (p1 + 1 : Int32).toNatClampNeg : Int32).toNatClampNeg ((v_starts (p1 + 1 : Int32).toNatClampNeg) + 1 : Int32).toNatClampNeg ((v_starts (16 : Int32).toNatClampNeg) - (v_starts (p1 + 1 : Int32).toNatClampNeg) : Int32).toNatClampNeg) (v_starts (p1 + 1 : Int32).toNatClampNeg : Int32).toNatClampNeg p3))), (h_starts, .inl (cI, 17, .inl (upd v_starts_81 (l6_81 : Int32).toNatClampNeg ((v_starts_81 (l6_81 : Int32).toNatClampNeg) + 1))))] H := hP
        have hD : va_D A [(h_this, .inr (2, [.ref h_minutes, .ref h_values, .ref h_starts, .ref h_seen])), (h_minutes, .inl (cI, 120, .inl (upd (va_cpy v_minutes v_minutes (v_starts (p1 + 1 : Int32).toNatClampNeg : Int32).toNatClampNeg ((v_starts (p1 + 1 : Int32).toNatClampNeg) + 1 : Int32).toNatClampNeg ((v_starts (16 : Int32).toNatClampNeg) - (v_starts (p1 + 1 : Int32).toNatClampNeg) : Int32).toNatClampNeg) (v_starts (p1 + 1 : Int32).toNatClampNeg : Int32).toNatClampNeg p2))), (h_values, .inl (cI, 120, .inl (upd (va_cpy v_values v_values (v_starts (p1 + 1 : Int32).toNatClampNeg : Int32).toNatClampNeg ((v_starts (p1 + 1 : Int32).toNatClampNeg) + 1 : Int32).toNatClampNeg ((v_starts (16 : Int32).toNatClampNeg) - (v_starts (p1 + 1 : Int32).toNatClampNeg) : Int32).toNatClampNeg) (v_starts (p1 + 1 : Int32).toNatClampNeg : Int32).toNatClampNeg p3))), (h_starts, .inl (cI, 17, .inl (upd v_starts_81 (l6_81 : Int32).toNatClampNeg ((v_starts_81 (l6_81 : Int32).toNatClampNeg) + 1))))] := hD
        refine lv_iinc (v := l6_81 + 1) (lv' := [(6, .int (l6_81 + 1)), (0, .ref h_this), (1, .int p1)]) hx hb d_Rows_add_99 hl (k := 2) rfl rfl (by decide) rfl (fun ls hl => ?_)
        refine lv_goto (tgt := 81) hx hb d_Rows_add_102 (by decide) ?_
        exact ih (l6_81 + 1) (upd v_starts_81 (l6_81 : Int32).toNatClampNeg ((v_starts_81 (l6_81 : Int32).toNatClampNeg) + 1)) H locs ls hf hP hD hS (lv_sub hl [1, 2, 0] rfl)
  refine lp_81 _ (fun v_starts_81e H locs ls hf hP hD hS hl => ?_) fu (p1 + 1) v_starts H locs ls hf hP hD hS (lv_sub hl [3, 4, 0] rfl)
  refine lv_aload_n hx hb d_Rows_add_105 rfl (lv_at hl 0 rfl) ?_
  refine va_get (D := (dC, dI)) (ci := 2) (v := .ref h_starts) (C := R_Rows) (T := T_Rows) (N := 4) hx hb hT i_Rows hown hK hP 0 rfl rfl 2 (by decide) (hT _ kF_Rows_18) (fun _ h9 => h9) rfl d_Rows_add_106 ?_
  refine lv_iload_n hx hb d_Rows_add_109 rfl (lv_at hl 1 rfl) ?_
  refine lv_iconst (v := 1) hx hb d_Rows_add_110 (by decide) ?_
  refine lv_iadd hx hb d_Rows_add_111 ?_
  obtain ⟨hi_10, hf⟩ := o_in hf
  refine va_iald hx hb hK hP 3 0 rfl rfl hi_10 d_Rows_add_112 ?_
  refine lv_aload_n hx hb d_Rows_add_113 rfl (lv_at hl 0 rfl) ?_
  refine va_get (D := (dC, dI)) (ci := 2) (v := .ref h_starts) (C := R_Rows) (T := T_Rows) (N := 4) hx hb hT i_Rows hown hK hP 0 rfl rfl 2 (by decide) (hT _ kF_Rows_18) (fun _ h9 => h9) rfl d_Rows_add_114 ?_
  refine lv_iload_n hx hb d_Rows_add_117 rfl (lv_at hl 1 rfl) ?_
  obtain ⟨hi_11, hf⟩ := o_in hf
  refine va_iald hx hb hK hP 3 0 rfl rfl hi_11 d_Rows_add_118 ?_
  refine lv_isub hx hb d_Rows_add_119 ?_
  rw [hQ, ← Option.some.inj hf]
  exact W.iret hx hb hr (fun t9 ht9 hW9 => ⟨rfl, by rw [ht9]; exact hP, hS.F ht9⟩) hS.2.2 d_Rows_add_120
def rm_Rows_rewind : Room := { frames := 1, cells := 0, slots := 0, locals := 23 }
set_option maxHeartbeats 4000000 in
set_option maxRecDepth 100000 in
theorem c_Rows_rewind (l : Launch) (dC : Nat → ClassId) (dI : Nat → Nat → Nat) (cI cL cC : ClassId) (h_this h_minutes h_values h_starts h_seen : Nat) (sz : Nat) (fu : Nat) (v_seen : Nat → Int32) (t : (Nat → Int32)) (hf : f_Rows_rewind fu v_seen = some t) : Met l y_Rows_rewind (Cond.code y_Rows_rewind prog_4_method_5_code 1 none :: xT) rm_Rows_rewind (va_Pc [.ref h_this] (xP (dC, dI) (xTy cI cL cC) [(h_this, .inr (2, [.ref h_minutes, .ref h_values, .ref h_starts, .ref h_seen])), (h_seen, .inl (cI, 16, .inl v_seen))] sz)) (xQ (dC, dI) [(h_this, .inr (2, [.ref h_minutes, .ref h_values, .ref h_starts, .ref h_seen])), (h_seen, .inl (cI, 16, .inl t))] (va_A [(h_this, .inr (2, [.ref h_minutes, .ref h_values, .ref h_starts, .ref h_seen])), (h_seen, .inl (cI, 16, .inl v_seen))] sz) (none)) 0 0 (va_A [(h_this, .inr (2, [.ref h_minutes, .ref h_values, .ref h_starts, .ref h_seen])), (h_seen, .inl (cI, 16, .inl v_seen))] sz) := by
  refine Met.ofW (cc := prog_4_method_5_code) (maxL := 1) (ret := none) (by decide) rfl ?_
  intro p e s m args below meth c s₁ B hml hv
  obtain ⟨hargs, hsz, hP, hK, hN, hD0⟩ := hv
  have hx := B.exec
  have hb := B.bytes
  have hr := B.returns
  have hT : ∀ w ∈ xT, w.before args s = true := fun w hw => atoms_spec (ws := Cond.code y_Rows_rewind prog_4_method_5_code 1 none :: xT) B.pre w (List.mem_cons_of_mem _ hw)
  have hown : s.vm.findClass R_Rows = some m.cls := findClass_of_methodNamed B.named
  have hlocks := B.notSynchronized
  subst hsz
  have hD := hD0.self (sz := s.heap.size)
  generalize hAe : va_A [(h_this, .inr (2, [.ref h_minutes, .ref h_values, .ref h_starts, .ref h_seen])), (h_seen, .inl (cI, 16, .inl v_seen))] s.heap.size = A at hD ⊢
  have hA : ∀ q : Nat, s.heap.size ≤ q → A q := fun q h => by rw [← hAe]; exact Or.inr h
  have hS : va_S A s.heap s.heap [] := va_S.rf
  have hP : va_P (dC, dI) vwCl [(h_this, .inr (2, [.ref h_minutes, .ref h_values, .ref h_starts, .ref h_seen])), (h_seen, .inl (cI, 16, .inl v_seen))] s.heap := hP
  have hl := lv_entry ([.ref h_this]) (n := 1) (Nat.le_of_ble_eq_true rfl)
  rw [show entryFrame m args 1 = entryFrame m ([.ref h_this] : List Value).toArray 1 from by rw [hargs], lg_entry_eq]
  generalize (lg_sl ([.ref h_this]) ++ List.replicate (1 - (lg_sl ([.ref h_this])).length) Slot.unset).toArray = ls at hl ⊢
  have hl : lv_has ls 1 [(0, .ref h_this)] := hl
  obtain ⟨Q, hQ⟩ : ∃ Q, Q = MQ below (xQ (dC, dI) [(h_this, .inr (2, [.ref h_minutes, .ref h_values, .ref h_starts, .ref h_seen])), (h_seen, .inl (cI, 16, .inl t))] A (none)) args s 0 0 A := ⟨_, rfl⟩
  rw [← hQ]
  show W p l e rm_Rows_rewind s m args below meth c s.heap [] 0 0 Q _
  obtain ⟨H, hH⟩ : ∃ H, H = s.heap := ⟨_, rfl⟩
  obtain ⟨locs, hlocs⟩ : ∃ L : List Loc, L = [] := ⟨_, rfl⟩
  rw [← hlocs] at hS ⊢
  have hS : va_S A s.heap H locs := by rw [hH]; exact hS
  rw [← hH] at hP ⊢
  replace hf := f_Rows_rewind_u hf
  refine lv_aload_n hx hb d_Rows_rewind_0 rfl (lv_at hl 0 rfl) ?_
  refine va_get (D := (dC, dI)) (ci := 2) (v := .ref h_seen) (C := R_Rows) (T := T_Rows) (N := 4) hx hb hT i_Rows hown hK hP 0 rfl rfl 3 (by decide) (hT _ kF_Rows_21) (fun _ h9 => h9) rfl d_Rows_rewind_1 ?_
  refine lv_iconst (v := 0) hx hb d_Rows_rewind_4 (by decide) ?_
  obtain ⟨t_1, hg_1, hf⟩ := o_bind hf
  refine x_stat (w' := [(h_this, .inr (2, [.ref h_minutes, .ref h_values, .ref h_starts, .ref h_seen])), (h_seen, .inl (cI, 16, .inl t_1))]) (As := [.ref h_seen, .int 0]) (rest := []) hx hb hml hl.1 hown hT hK hN hP hD hS hA (c_java_util_Arrays_fill l dC dI cI cL cC h_seen H.size fu 16 v_seen 0 t_1 hg_1) kM_Rows_30 kT_java_util_Arrays_fill kN_java_util_Arrays kC_java_util_Arrays_fill hd_java_util_Arrays_fill rfl ⟨Nat.le_of_ble_eq_true rfl, Nat.le_of_ble_eq_true rfl⟩ rfl rfl ⟨Nat.zero_le _, Nat.zero_le _⟩ rfl (Nat.le_of_ble_eq_true rfl) d_Rows_rewind_5 [1] rfl rfl [.inl 0, .inr 0] rfl rfl rfl (fun H locs hP hD hS => ?_)
  rw [hQ, ← Option.some.inj hf]
  exact W.vret hx hb hr (fun t9 ht9 hW9 => ⟨rfl, by rw [ht9]; exact hP, hS.F ht9⟩) hS.2.2 d_Rows_rewind_8
def rm_Rows_advance : Room := { frames := 0, cells := 0, slots := 0, locals := 0 }
set_option maxHeartbeats 4000000 in
set_option maxRecDepth 100000 in
theorem c_Rows_advance (l : Launch) (dC : Nat → ClassId) (dI : Nat → Nat → Nat) (cI cL cC : ClassId) (h_this h_minutes h_values h_starts h_seen : Nat) (sz : Nat) (fu : Nat) (v_minutes : Nat → Int32) (v_starts : Nat → Int32) (v_seen : Nat → Int32) (p1 : Int32) (t : (Nat → Int32)) (hf : f_Rows_advance fu v_minutes v_starts v_seen p1 = some t) : Met l y_Rows_advance (Cond.code y_Rows_advance prog_4_method_6_code 4 none :: xT) rm_Rows_advance (va_Pc [.ref h_this, .int p1] (xP (dC, dI) (xTy cI cL cC) [(h_this, .inr (2, [.ref h_minutes, .ref h_values, .ref h_starts, .ref h_seen])), (h_minutes, .inl (cI, 120, .inl v_minutes)), (h_starts, .inl (cI, 17, .inl v_starts)), (h_seen, .inl (cI, 16, .inl v_seen))] sz)) (xQ (dC, dI) [(h_this, .inr (2, [.ref h_minutes, .ref h_values, .ref h_starts, .ref h_seen])), (h_minutes, .inl (cI, 120, .inl v_minutes)), (h_starts, .inl (cI, 17, .inl v_starts)), (h_seen, .inl (cI, 16, .inl t))] (va_A [(h_this, .inr (2, [.ref h_minutes, .ref h_values, .ref h_starts, .ref h_seen])), (h_minutes, .inl (cI, 120, .inl v_minutes)), (h_starts, .inl (cI, 17, .inl v_starts)), (h_seen, .inl (cI, 16, .inl v_seen))] sz) (none)) 0 0 (va_A [(h_this, .inr (2, [.ref h_minutes, .ref h_values, .ref h_starts, .ref h_seen])), (h_minutes, .inl (cI, 120, .inl v_minutes)), (h_starts, .inl (cI, 17, .inl v_starts)), (h_seen, .inl (cI, 16, .inl v_seen))] sz) := by
  refine Met.ofW (cc := prog_4_method_6_code) (maxL := 4) (ret := none) (by decide) rfl ?_
  intro p e s m args below meth c s₁ B hml hv
  obtain ⟨hargs, hsz, hP, hK, hN, hD0⟩ := hv
  have hx := B.exec
  have hb := B.bytes
  have hr := B.returns
  have hT : ∀ w ∈ xT, w.before args s = true := fun w hw => atoms_spec (ws := Cond.code y_Rows_advance prog_4_method_6_code 4 none :: xT) B.pre w (List.mem_cons_of_mem _ hw)
  have hown : s.vm.findClass R_Rows = some m.cls := findClass_of_methodNamed B.named
  have hlocks := B.notSynchronized
  subst hsz
  have hD := hD0.self (sz := s.heap.size)
  generalize hAe : va_A [(h_this, .inr (2, [.ref h_minutes, .ref h_values, .ref h_starts, .ref h_seen])), (h_minutes, .inl (cI, 120, .inl v_minutes)), (h_starts, .inl (cI, 17, .inl v_starts)), (h_seen, .inl (cI, 16, .inl v_seen))] s.heap.size = A at hD ⊢
  have hA : ∀ q : Nat, s.heap.size ≤ q → A q := fun q h => by rw [← hAe]; exact Or.inr h
  have hS : va_S A s.heap s.heap [] := va_S.rf
  have hP : va_P (dC, dI) vwCl [(h_this, .inr (2, [.ref h_minutes, .ref h_values, .ref h_starts, .ref h_seen])), (h_minutes, .inl (cI, 120, .inl v_minutes)), (h_starts, .inl (cI, 17, .inl v_starts)), (h_seen, .inl (cI, 16, .inl v_seen))] s.heap := hP
  have hl := lv_entry ([.ref h_this, .int p1]) (n := 4) (Nat.le_of_ble_eq_true rfl)
  rw [show entryFrame m args 4 = entryFrame m ([.ref h_this, .int p1] : List Value).toArray 4 from by rw [hargs], lg_entry_eq]
  generalize (lg_sl ([.ref h_this, .int p1]) ++ List.replicate (4 - (lg_sl ([.ref h_this, .int p1])).length) Slot.unset).toArray = ls at hl ⊢
  have hl : lv_has ls 4 [(0, .ref h_this), (1, .int p1)] := hl
  obtain ⟨Q, hQ⟩ : ∃ Q, Q = MQ below (xQ (dC, dI) [(h_this, .inr (2, [.ref h_minutes, .ref h_values, .ref h_starts, .ref h_seen])), (h_minutes, .inl (cI, 120, .inl v_minutes)), (h_starts, .inl (cI, 17, .inl v_starts)), (h_seen, .inl (cI, 16, .inl t))] A (none)) args s 0 0 A := ⟨_, rfl⟩
  rw [← hQ]
  show W p l e rm_Rows_advance s m args below meth c s.heap [] 0 0 Q _
  obtain ⟨H, hH⟩ : ∃ H, H = s.heap := ⟨_, rfl⟩
  obtain ⟨locs, hlocs⟩ : ∃ L : List Loc, L = [] := ⟨_, rfl⟩
  rw [← hlocs] at hS ⊢
  have hS : va_S A s.heap H locs := by rw [hH]; exact hS
  rw [← hH] at hP ⊢
  replace hf := f_Rows_advance_u hf
  refine lv_iconst (v := 0) hx hb d_Rows_advance_0 (by decide) ?_
  refine lv_istore_n (lv' := [(2, .int 0), (0, .ref h_this), (1, .int p1)]) hx hb d_Rows_advance_1 rfl hl (by decide) rfl (fun ls hl => ?_)
  have lp_2 : ∀ (n : Nat) (l2_2 : Int32) (v_seen_2 : Nat → Int32) (H : Heap) (locs : List Loc) (ls : Array Slot), L_Rows_advance_2 fu v_minutes v_starts p1 n l2_2 v_seen_2 = some t → va_P (dC, dI) vwCl [(h_this, .inr (2, [.ref h_minutes, .ref h_values, .ref h_starts, .ref h_seen])), (h_minutes, .inl (cI, 120, .inl v_minutes)), (h_starts, .inl (cI, 17, .inl v_starts)), (h_seen, .inl (cI, 16, .inl v_seen_2))] H → va_D A [(h_this, .inr (2, [.ref h_minutes, .ref h_values, .ref h_starts, .ref h_seen])), (h_minutes, .inl (cI, 120, .inl v_minutes)), (h_starts, .inl (cI, 17, .inl v_starts)), (h_seen, .inl (cI, 16, .inl v_seen_2))] → va_S A s.heap H locs → lv_has ls 4 [(0, .ref h_this), (1, .int p1), (2, .int l2_2)] → W p l e rm_Rows_advance s m args below meth c H locs 0 0 Q (F0 m 2 ls []) := by
    intro  n
    induction n with
    | zero => intro l2_2 v_seen_2 H locs ls hf; exact (L_Rows_advance_2_z hf).elim
    | succ n ih =>
      intro l2_2 v_seen_2 H locs ls hf hP hD hS hl
      replace hf := L_Rows_advance_2_u hf
      refine lv_iload_n hx hb d_Rows_advance_2 rfl (lv_at hl 2 rfl) ?_
      refine lv_bipush (v := 16) hx hb d_Rows_advance_3 (by decide) ?_
      refine lv_icmp_ge (tgt := 70) hx hb d_Rows_advance_5 (by decide) (fun c_1 => ?_) (fun c_1 => ?_)
      · replace hf := o_pos c_1 hf
        rw [hQ, ← Option.some.inj hf]
        exact W.vret hx hb hr (fun t9 ht9 hW9 => ⟨rfl, by rw [ht9]; exact hP, hS.F ht9⟩) hS.2.2 d_Rows_advance_70
      · replace hf := o_neg c_1 hf
        refine lv_aload_n hx hb d_Rows_advance_8 rfl (lv_at hl 0 rfl) ?_
        refine va_get (D := (dC, dI)) (ci := 2) (v := .ref h_starts) (C := R_Rows) (T := T_Rows) (N := 4) hx hb hT i_Rows hown hK hP 0 rfl rfl 2 (by decide) (hT _ kF_Rows_18) (fun _ h9 => h9) rfl d_Rows_advance_9 ?_
        refine lv_iload_n hx hb d_Rows_advance_12 rfl (lv_at hl 2 rfl) ?_
        obtain ⟨hi_2, hf⟩ := o_in hf
        refine va_iald hx hb hK hP 2 0 rfl rfl hi_2 d_Rows_advance_13 ?_
        refine lv_aload_n hx hb d_Rows_advance_14 rfl (lv_at hl 0 rfl) ?_
        refine va_get (D := (dC, dI)) (ci := 2) (v := .ref h_seen) (C := R_Rows) (T := T_Rows) (N := 4) hx hb hT i_Rows hown hK hP 0 rfl rfl 3 (by decide) (hT _ kF_Rows_21) (fun _ h9 => h9) rfl d_Rows_advance_15 ?_
        refine lv_iload_n hx hb d_Rows_advance_18 rfl (lv_at hl 2 rfl) ?_
        obtain ⟨hi_3, hf⟩ := o_in hf
        refine va_iald hx hb hK hP 3 0 rfl rfl hi_3 d_Rows_advance_19 ?_
        refine lv_iadd hx hb d_Rows_advance_20 ?_
        refine lv_istore_n (lv' := [(3, .int ((v_starts (l2_2 : Int32).toNatClampNeg) + (v_seen_2 (l2_2 : Int32).toNatClampNeg))), (0, .ref h_this), (1, .int p1), (2, .int l2_2)]) hx hb d_Rows_advance_21 rfl hl (by decide) rfl (fun ls hl => ?_)
        have lp_22 : ∀ (k_50 : Int32 → Option ((Nat → Int32))) (hk_50 : ∀ (l3_22e : Int32) (H : Heap) (locs : List Loc) (ls : Array Slot), k_50 l3_22e = some t → va_P (dC, dI) vwCl [(h_this, .inr (2, [.ref h_minutes, .ref h_values, .ref h_starts, .ref h_seen])), (h_minutes, .inl (cI, 120, .inl v_minutes)), (h_starts, .inl (cI, 17, .inl v_starts)), (h_seen, .inl (cI, 16, .inl v_seen_2))] H → va_D A [(h_this, .inr (2, [.ref h_minutes, .ref h_values, .ref h_starts, .ref h_seen])), (h_minutes, .inl (cI, 120, .inl v_minutes)), (h_starts, .inl (cI, 17, .inl v_starts)), (h_seen, .inl (cI, 16, .inl v_seen_2))] → va_S A s.heap H locs → lv_has ls 4 [(0, .ref h_this), (1, .int p1), (2, .int l2_2), (3, .int l3_22e)] → W p l e rm_Rows_advance s m args below meth c H locs 0 0 Q (F0 m 50 ls [])), ∀ (n : Nat) (l3_22 : Int32) (H : Heap) (locs : List Loc) (ls : Array Slot), L_Rows_advance_22 fu v_minutes v_starts p1 l2_2 k_50 n l3_22 = some t → va_P (dC, dI) vwCl [(h_this, .inr (2, [.ref h_minutes, .ref h_values, .ref h_starts, .ref h_seen])), (h_minutes, .inl (cI, 120, .inl v_minutes)), (h_starts, .inl (cI, 17, .inl v_starts)), (h_seen, .inl (cI, 16, .inl v_seen_2))] H → va_D A [(h_this, .inr (2, [.ref h_minutes, .ref h_values, .ref h_starts, .ref h_seen])), (h_minutes, .inl (cI, 120, .inl v_minutes)), (h_starts, .inl (cI, 17, .inl v_starts)), (h_seen, .inl (cI, 16, .inl v_seen_2))] → va_S A s.heap H locs → lv_has ls 4 [(0, .ref h_this), (1, .int p1), (2, .int l2_2), (3, .int l3_22)] → W p l e rm_Rows_advance s m args below meth c H locs 0 0 Q (F0 m 22 ls []) := by
          intro k_50 hk_50 n
          induction n with
          | zero => intro l3_22 H locs ls hf; exact (L_Rows_advance_22_z hf).elim
          | succ n ih =>
            intro l3_22 H locs ls hf hP hD hS hl
            replace hf := L_Rows_advance_22_u hf
            refine lv_iload_n hx hb d_Rows_advance_22 rfl (lv_at hl 3 rfl) ?_
            refine lv_aload_n hx hb d_Rows_advance_23 rfl (lv_at hl 0 rfl) ?_
            refine va_get (D := (dC, dI)) (ci := 2) (v := .ref h_starts) (C := R_Rows) (T := T_Rows) (N := 4) hx hb hT i_Rows hown hK hP 0 rfl rfl 2 (by decide) (hT _ kF_Rows_18) (fun _ h9 => h9) rfl d_Rows_advance_24 ?_
            refine lv_iload_n hx hb d_Rows_advance_27 rfl (lv_at hl 2 rfl) ?_
            refine lv_iconst (v := 1) hx hb d_Rows_advance_28 (by decide) ?_
            refine lv_iadd hx hb d_Rows_advance_29 ?_
            obtain ⟨hi_4, hf⟩ := o_in hf
            refine va_iald hx hb hK hP 2 0 rfl rfl hi_4 d_Rows_advance_30 ?_
            refine lv_icmp_ge (tgt := 50) hx hb d_Rows_advance_31 (by decide) (fun c_5 => ?_) (fun c_5 => ?_)
            · replace hf := o_pos c_5 hf
              exact hk_50 l3_22 H locs ls hf hP hD hS (lv_sub hl [0, 1, 2, 3] rfl)
            · replace hf := o_neg c_5 hf
              refine lv_aload_n hx hb d_Rows_advance_34 rfl (lv_at hl 0 rfl) ?_
              refine va_get (D := (dC, dI)) (ci := 2) (v := .ref h_minutes) (C := R_Rows) (T := T_Rows) (N := 4) hx hb hT i_Rows hown hK hP 0 rfl rfl 0 (by decide) (hT _ kF_Rows_9) (fun _ h9 => h9) rfl d_Rows_advance_35 ?_
              refine lv_iload_n hx hb d_Rows_advance_38 rfl (lv_at hl 3 rfl) ?_
              obtain ⟨hi_6, hf⟩ := o_in hf
              refine va_iald hx hb hK hP 1 0 rfl rfl hi_6 d_Rows_advance_39 ?_
              refine lv_iload_n hx hb d_Rows_advance_40 rfl (lv_at hl 1 rfl) ?_
              refine lv_icmp_gt (tgt := 50) hx hb d_Rows_advance_41 (by decide) (fun c_7 => ?_) (fun c_7 => ?_)
              · replace hf := o_pos c_7 hf
                exact hk_50 l3_22 H locs ls hf hP hD hS (lv_sub hl [0, 1, 2, 3] rfl)
              · replace hf := o_neg c_7 hf
                refine lv_iinc (v := l3_22 + 1) (lv' := [(3, .int (l3_22 + 1)), (0, .ref h_this), (1, .int p1), (2, .int l2_2)]) hx hb d_Rows_advance_44 hl (k := 3) rfl rfl (by decide) rfl (fun ls hl => ?_)
                refine lv_goto (tgt := 22) hx hb d_Rows_advance_47 (by decide) ?_
                exact ih (l3_22 + 1) H locs ls hf hP hD hS (lv_sub hl [1, 2, 3, 0] rfl)
        refine lp_22 _ (fun l3_22e H locs ls hf hP hD hS hl => ?_) fu ((v_starts (l2_2 : Int32).toNatClampNeg) + (v_seen_2 (l2_2 : Int32).toNatClampNeg)) H locs ls hf hP hD hS (lv_sub hl [1, 2, 3, 0] rfl)
        refine lv_aload_n hx hb d_Rows_advance_50 rfl (lv_at hl 0 rfl) ?_
        refine va_get (D := (dC, dI)) (ci := 2) (v := .ref h_seen) (C := R_Rows) (T := T_Rows) (N := 4) hx hb hT i_Rows hown hK hP 0 rfl rfl 3 (by decide) (hT _ kF_Rows_21) (fun _ h9 => h9) rfl d_Rows_advance_51 ?_
        refine lv_iload_n hx hb d_Rows_advance_54 rfl (lv_at hl 2 rfl) ?_
        refine lv_iload_n hx hb d_Rows_advance_55 rfl (lv_at hl 3 rfl) ?_
        refine lv_aload_n hx hb d_Rows_advance_56 rfl (lv_at hl 0 rfl) ?_
        refine va_get (D := (dC, dI)) (ci := 2) (v := .ref h_starts) (C := R_Rows) (T := T_Rows) (N := 4) hx hb hT i_Rows hown hK hP 0 rfl rfl 2 (by decide) (hT _ kF_Rows_18) (fun _ h9 => h9) rfl d_Rows_advance_57 ?_
        refine lv_iload_n hx hb d_Rows_advance_60 rfl (lv_at hl 2 rfl) ?_
        obtain ⟨hi_8, hf⟩ := o_in hf
        refine va_iald hx hb hK hP 2 0 rfl rfl hi_8 d_Rows_advance_61 ?_
        refine lv_isub hx hb d_Rows_advance_62 ?_
        obtain ⟨hi_9, hf⟩ := o_in hf
        refine va_iast hx hb hK hP hD hS 3 0 rfl rfl hi_9 d_Rows_advance_63 (fun H locs hP hD hS => ?_)
        have hP : va_P (dC, dI) vwCl [(h_this, .inr (2, [.ref h_minutes, .ref h_values, .ref h_starts, .ref h_seen])), (h_minutes, .inl (cI, 120, .inl v_minutes)), (h_starts, .inl (cI, 17, .inl v_starts)), (h_seen, .inl (cI, 16, .inl (upd v_seen_2 (l2_2 : Int32).toNatClampNeg (l3_22e - (v_starts (l2_2 : Int32).toNatClampNeg)))))] H := hP
        have hD : va_D A [(h_this, .inr (2, [.ref h_minutes, .ref h_values, .ref h_starts, .ref h_seen])), (h_minutes, .inl (cI, 120, .inl v_minutes)), (h_starts, .inl (cI, 17, .inl v_starts)), (h_seen, .inl (cI, 16, .inl (upd v_seen_2 (l2_2 : Int32).toNatClampNeg (l3_22e - (v_starts (l2_2 : Int32).toNatClampNeg)))))] := hD
        refine lv_iinc (v := l2_2 + 1) (lv' := [(2, .int (l2_2 + 1)), (0, .ref h_this), (1, .int p1), (3, .int l3_22e)]) hx hb d_Rows_advance_64 hl (k := 2) rfl rfl (by decide) rfl (fun ls hl => ?_)
        refine lv_goto (tgt := 2) hx hb d_Rows_advance_67 (by decide) ?_
        exact ih (l2_2 + 1) (upd v_seen_2 (l2_2 : Int32).toNatClampNeg (l3_22e - (v_starts (l2_2 : Int32).toNatClampNeg))) H locs ls hf hP hD hS (lv_sub hl [1, 2, 0] rfl)
  refine lp_2  fu 0 v_seen H locs ls hf hP hD hS (lv_sub hl [1, 2, 0] rfl)
def rm_Rows_has : Room := { frames := 0, cells := 0, slots := 0, locals := 0 }
set_option maxHeartbeats 4000000 in
set_option maxRecDepth 100000 in
theorem c_Rows_has (l : Launch) (dC : Nat → ClassId) (dI : Nat → Nat → Nat) (cI cL cC : ClassId) (h_this h_minutes h_values h_starts h_seen : Nat) (sz : Nat) (v_seen : Nat → Int32) (p1 : Int32) (t : Int32) (hf : f_Rows_has v_seen p1 = some t) : Met l y_Rows_has (Cond.code y_Rows_has prog_4_method_7_code 2 (some .boolean) :: xT) rm_Rows_has (va_Pc [.ref h_this, .int p1] (xP (dC, dI) (xTy cI cL cC) [(h_this, .inr (2, [.ref h_minutes, .ref h_values, .ref h_starts, .ref h_seen])), (h_seen, .inl (cI, 16, .inl v_seen))] sz)) (xQ (dC, dI) [(h_this, .inr (2, [.ref h_minutes, .ref h_values, .ref h_starts, .ref h_seen])), (h_seen, .inl (cI, 16, .inl v_seen))] (va_A [(h_this, .inr (2, [.ref h_minutes, .ref h_values, .ref h_starts, .ref h_seen])), (h_seen, .inl (cI, 16, .inl v_seen))] sz) (some (.int t))) 0 0 (va_A [(h_this, .inr (2, [.ref h_minutes, .ref h_values, .ref h_starts, .ref h_seen])), (h_seen, .inl (cI, 16, .inl v_seen))] sz) := by
  refine Met.ofW (cc := prog_4_method_7_code) (maxL := 2) (ret := (some .boolean)) (by decide) rfl ?_
  intro p e s m args below meth c s₁ B hml hv
  obtain ⟨hargs, hsz, hP, hK, hN, hD0⟩ := hv
  have hx := B.exec
  have hb := B.bytes
  have hr := B.returns
  have hT : ∀ w ∈ xT, w.before args s = true := fun w hw => atoms_spec (ws := Cond.code y_Rows_has prog_4_method_7_code 2 (some .boolean) :: xT) B.pre w (List.mem_cons_of_mem _ hw)
  have hown : s.vm.findClass R_Rows = some m.cls := findClass_of_methodNamed B.named
  have hlocks := B.notSynchronized
  subst hsz
  have hD := hD0.self (sz := s.heap.size)
  generalize hAe : va_A [(h_this, .inr (2, [.ref h_minutes, .ref h_values, .ref h_starts, .ref h_seen])), (h_seen, .inl (cI, 16, .inl v_seen))] s.heap.size = A at hD ⊢
  have hA : ∀ q : Nat, s.heap.size ≤ q → A q := fun q h => by rw [← hAe]; exact Or.inr h
  have hS : va_S A s.heap s.heap [] := va_S.rf
  have hP : va_P (dC, dI) vwCl [(h_this, .inr (2, [.ref h_minutes, .ref h_values, .ref h_starts, .ref h_seen])), (h_seen, .inl (cI, 16, .inl v_seen))] s.heap := hP
  have hl := lv_entry ([.ref h_this, .int p1]) (n := 2) (Nat.le_of_ble_eq_true rfl)
  rw [show entryFrame m args 2 = entryFrame m ([.ref h_this, .int p1] : List Value).toArray 2 from by rw [hargs], lg_entry_eq]
  generalize (lg_sl ([.ref h_this, .int p1]) ++ List.replicate (2 - (lg_sl ([.ref h_this, .int p1])).length) Slot.unset).toArray = ls at hl ⊢
  have hl : lv_has ls 2 [(0, .ref h_this), (1, .int p1)] := hl
  obtain ⟨Q, hQ⟩ : ∃ Q, Q = MQ below (xQ (dC, dI) [(h_this, .inr (2, [.ref h_minutes, .ref h_values, .ref h_starts, .ref h_seen])), (h_seen, .inl (cI, 16, .inl v_seen))] A (some (.int t))) args s 0 0 A := ⟨_, rfl⟩
  rw [← hQ]
  show W p l e rm_Rows_has s m args below meth c s.heap [] 0 0 Q _
  obtain ⟨H, hH⟩ : ∃ H, H = s.heap := ⟨_, rfl⟩
  obtain ⟨locs, hlocs⟩ : ∃ L : List Loc, L = [] := ⟨_, rfl⟩
  rw [← hlocs] at hS ⊢
  have hS : va_S A s.heap H locs := by rw [hH]; exact hS
  rw [← hH] at hP ⊢
  replace hf := f_Rows_has_u hf
  refine lv_aload_n hx hb d_Rows_has_0 rfl (lv_at hl 0 rfl) ?_
  refine va_get (D := (dC, dI)) (ci := 2) (v := .ref h_seen) (C := R_Rows) (T := T_Rows) (N := 4) hx hb hT i_Rows hown hK hP 0 rfl rfl 3 (by decide) (hT _ kF_Rows_21) (fun _ h9 => h9) rfl d_Rows_has_1 ?_
  refine lv_iload_n hx hb d_Rows_has_4 rfl (lv_at hl 1 rfl) ?_
  obtain ⟨hi_1, hf⟩ := o_in hf
  refine va_iald hx hb hK hP 1 0 rfl rfl hi_1 d_Rows_has_5 ?_
  refine lv_if_le (tgt := 13) hx hb d_Rows_has_6 (by decide) (fun c_2 => ?_) (fun c_2 => ?_)
  · replace hf := o_pos c_2 hf
    refine lv_iconst (v := 0) hx hb d_Rows_has_13 (by decide) ?_
    rw [hQ, ← Option.some.inj hf]
    exact W.zret (ty := .boolean) hx hb hr rfl (fun t9 ht9 hW9 => ⟨rfl, by rw [ht9]; exact hP, hS.F ht9⟩) hS.2.2 d_Rows_has_14
  · replace hf := o_neg c_2 hf
    refine lv_iconst (v := 1) hx hb d_Rows_has_9 (by decide) ?_
    refine lv_goto (tgt := 14) hx hb d_Rows_has_10 (by decide) ?_
    rw [hQ, ← Option.some.inj hf]
    exact W.zret (ty := .boolean) hx hb hr rfl (fun t9 ht9 hW9 => ⟨rfl, by rw [ht9]; exact hP, hS.F ht9⟩) hS.2.2 d_Rows_has_14
def rm_Rows_latestValue : Room := { frames := 0, cells := 0, slots := 0, locals := 0 }
set_option maxHeartbeats 4000000 in
set_option maxRecDepth 100000 in
theorem c_Rows_latestValue (l : Launch) (dC : Nat → ClassId) (dI : Nat → Nat → Nat) (cI cL cC : ClassId) (h_this h_minutes h_values h_starts h_seen : Nat) (sz : Nat) (v_values : Nat → Int32) (v_starts : Nat → Int32) (v_seen : Nat → Int32) (p1 : Int32) (t : Int32) (hf : f_Rows_latestValue v_values v_starts v_seen p1 = some t) : Met l y_Rows_latestValue (Cond.code y_Rows_latestValue prog_4_method_8_code 2 (some .int) :: xT) rm_Rows_latestValue (va_Pc [.ref h_this, .int p1] (xP (dC, dI) (xTy cI cL cC) [(h_this, .inr (2, [.ref h_minutes, .ref h_values, .ref h_starts, .ref h_seen])), (h_values, .inl (cI, 120, .inl v_values)), (h_starts, .inl (cI, 17, .inl v_starts)), (h_seen, .inl (cI, 16, .inl v_seen))] sz)) (xQ (dC, dI) [(h_this, .inr (2, [.ref h_minutes, .ref h_values, .ref h_starts, .ref h_seen])), (h_values, .inl (cI, 120, .inl v_values)), (h_starts, .inl (cI, 17, .inl v_starts)), (h_seen, .inl (cI, 16, .inl v_seen))] (va_A [(h_this, .inr (2, [.ref h_minutes, .ref h_values, .ref h_starts, .ref h_seen])), (h_values, .inl (cI, 120, .inl v_values)), (h_starts, .inl (cI, 17, .inl v_starts)), (h_seen, .inl (cI, 16, .inl v_seen))] sz) (some (.int t))) 0 0 (va_A [(h_this, .inr (2, [.ref h_minutes, .ref h_values, .ref h_starts, .ref h_seen])), (h_values, .inl (cI, 120, .inl v_values)), (h_starts, .inl (cI, 17, .inl v_starts)), (h_seen, .inl (cI, 16, .inl v_seen))] sz) := by
  refine Met.ofW (cc := prog_4_method_8_code) (maxL := 2) (ret := (some .int)) (by decide) rfl ?_
  intro p e s m args below meth c s₁ B hml hv
  obtain ⟨hargs, hsz, hP, hK, hN, hD0⟩ := hv
  have hx := B.exec
  have hb := B.bytes
  have hr := B.returns
  have hT : ∀ w ∈ xT, w.before args s = true := fun w hw => atoms_spec (ws := Cond.code y_Rows_latestValue prog_4_method_8_code 2 (some .int) :: xT) B.pre w (List.mem_cons_of_mem _ hw)
  have hown : s.vm.findClass R_Rows = some m.cls := findClass_of_methodNamed B.named
  have hlocks := B.notSynchronized
  subst hsz
  have hD := hD0.self (sz := s.heap.size)
  generalize hAe : va_A [(h_this, .inr (2, [.ref h_minutes, .ref h_values, .ref h_starts, .ref h_seen])), (h_values, .inl (cI, 120, .inl v_values)), (h_starts, .inl (cI, 17, .inl v_starts)), (h_seen, .inl (cI, 16, .inl v_seen))] s.heap.size = A at hD ⊢
  have hA : ∀ q : Nat, s.heap.size ≤ q → A q := fun q h => by rw [← hAe]; exact Or.inr h
  have hS : va_S A s.heap s.heap [] := va_S.rf
  have hP : va_P (dC, dI) vwCl [(h_this, .inr (2, [.ref h_minutes, .ref h_values, .ref h_starts, .ref h_seen])), (h_values, .inl (cI, 120, .inl v_values)), (h_starts, .inl (cI, 17, .inl v_starts)), (h_seen, .inl (cI, 16, .inl v_seen))] s.heap := hP
  have hl := lv_entry ([.ref h_this, .int p1]) (n := 2) (Nat.le_of_ble_eq_true rfl)
  rw [show entryFrame m args 2 = entryFrame m ([.ref h_this, .int p1] : List Value).toArray 2 from by rw [hargs], lg_entry_eq]
  generalize (lg_sl ([.ref h_this, .int p1]) ++ List.replicate (2 - (lg_sl ([.ref h_this, .int p1])).length) Slot.unset).toArray = ls at hl ⊢
  have hl : lv_has ls 2 [(0, .ref h_this), (1, .int p1)] := hl
  obtain ⟨Q, hQ⟩ : ∃ Q, Q = MQ below (xQ (dC, dI) [(h_this, .inr (2, [.ref h_minutes, .ref h_values, .ref h_starts, .ref h_seen])), (h_values, .inl (cI, 120, .inl v_values)), (h_starts, .inl (cI, 17, .inl v_starts)), (h_seen, .inl (cI, 16, .inl v_seen))] A (some (.int t))) args s 0 0 A := ⟨_, rfl⟩
  rw [← hQ]
  show W p l e rm_Rows_latestValue s m args below meth c s.heap [] 0 0 Q _
  obtain ⟨H, hH⟩ : ∃ H, H = s.heap := ⟨_, rfl⟩
  obtain ⟨locs, hlocs⟩ : ∃ L : List Loc, L = [] := ⟨_, rfl⟩
  rw [← hlocs] at hS ⊢
  have hS : va_S A s.heap H locs := by rw [hH]; exact hS
  rw [← hH] at hP ⊢
  replace hf := f_Rows_latestValue_u hf
  refine lv_aload_n hx hb d_Rows_latestValue_0 rfl (lv_at hl 0 rfl) ?_
  refine va_get (D := (dC, dI)) (ci := 2) (v := .ref h_values) (C := R_Rows) (T := T_Rows) (N := 4) hx hb hT i_Rows hown hK hP 0 rfl rfl 1 (by decide) (hT _ kF_Rows_15) (fun _ h9 => h9) rfl d_Rows_latestValue_1 ?_
  refine lv_aload_n hx hb d_Rows_latestValue_4 rfl (lv_at hl 0 rfl) ?_
  refine va_get (D := (dC, dI)) (ci := 2) (v := .ref h_starts) (C := R_Rows) (T := T_Rows) (N := 4) hx hb hT i_Rows hown hK hP 0 rfl rfl 2 (by decide) (hT _ kF_Rows_18) (fun _ h9 => h9) rfl d_Rows_latestValue_5 ?_
  refine lv_iload_n hx hb d_Rows_latestValue_8 rfl (lv_at hl 1 rfl) ?_
  obtain ⟨hi_1, hf⟩ := o_in hf
  refine va_iald hx hb hK hP 2 0 rfl rfl hi_1 d_Rows_latestValue_9 ?_
  refine lv_aload_n hx hb d_Rows_latestValue_10 rfl (lv_at hl 0 rfl) ?_
  refine va_get (D := (dC, dI)) (ci := 2) (v := .ref h_seen) (C := R_Rows) (T := T_Rows) (N := 4) hx hb hT i_Rows hown hK hP 0 rfl rfl 3 (by decide) (hT _ kF_Rows_21) (fun _ h9 => h9) rfl d_Rows_latestValue_11 ?_
  refine lv_iload_n hx hb d_Rows_latestValue_14 rfl (lv_at hl 1 rfl) ?_
  obtain ⟨hi_2, hf⟩ := o_in hf
  refine va_iald hx hb hK hP 3 0 rfl rfl hi_2 d_Rows_latestValue_15 ?_
  refine lv_iadd hx hb d_Rows_latestValue_16 ?_
  refine lv_iconst (v := 1) hx hb d_Rows_latestValue_17 (by decide) ?_
  refine lv_isub hx hb d_Rows_latestValue_18 ?_
  obtain ⟨hi_3, hf⟩ := o_in hf
  refine va_iald hx hb hK hP 1 0 rfl rfl hi_3 d_Rows_latestValue_19 ?_
  rw [hQ, ← Option.some.inj hf]
  exact W.iret hx hb hr (fun t9 ht9 hW9 => ⟨rfl, by rw [ht9]; exact hP, hS.F ht9⟩) hS.2.2 d_Rows_latestValue_20
def rm_Rows_age : Room := { frames := 0, cells := 0, slots := 0, locals := 0 }
set_option maxHeartbeats 4000000 in
set_option maxRecDepth 100000 in
theorem c_Rows_age (l : Launch) (dC : Nat → ClassId) (dI : Nat → Nat → Nat) (cI cL cC : ClassId) (h_this h_minutes h_values h_starts h_seen : Nat) (sz : Nat) (v_minutes : Nat → Int32) (v_starts : Nat → Int32) (v_seen : Nat → Int32) (p1 : Int32) (p2 : Int32) (t : Int32) (hf : f_Rows_age v_minutes v_starts v_seen p1 p2 = some t) : Met l y_Rows_age (Cond.code y_Rows_age prog_4_method_9_code 3 (some .int) :: xT) rm_Rows_age (va_Pc [.ref h_this, .int p1, .int p2] (xP (dC, dI) (xTy cI cL cC) [(h_this, .inr (2, [.ref h_minutes, .ref h_values, .ref h_starts, .ref h_seen])), (h_minutes, .inl (cI, 120, .inl v_minutes)), (h_starts, .inl (cI, 17, .inl v_starts)), (h_seen, .inl (cI, 16, .inl v_seen))] sz)) (xQ (dC, dI) [(h_this, .inr (2, [.ref h_minutes, .ref h_values, .ref h_starts, .ref h_seen])), (h_minutes, .inl (cI, 120, .inl v_minutes)), (h_starts, .inl (cI, 17, .inl v_starts)), (h_seen, .inl (cI, 16, .inl v_seen))] (va_A [(h_this, .inr (2, [.ref h_minutes, .ref h_values, .ref h_starts, .ref h_seen])), (h_minutes, .inl (cI, 120, .inl v_minutes)), (h_starts, .inl (cI, 17, .inl v_starts)), (h_seen, .inl (cI, 16, .inl v_seen))] sz) (some (.int t))) 0 0 (va_A [(h_this, .inr (2, [.ref h_minutes, .ref h_values, .ref h_starts, .ref h_seen])), (h_minutes, .inl (cI, 120, .inl v_minutes)), (h_starts, .inl (cI, 17, .inl v_starts)), (h_seen, .inl (cI, 16, .inl v_seen))] sz) := by
  refine Met.ofW (cc := prog_4_method_9_code) (maxL := 3) (ret := (some .int)) (by decide) rfl ?_
  intro p e s m args below meth c s₁ B hml hv
  obtain ⟨hargs, hsz, hP, hK, hN, hD0⟩ := hv
  have hx := B.exec
  have hb := B.bytes
  have hr := B.returns
  have hT : ∀ w ∈ xT, w.before args s = true := fun w hw => atoms_spec (ws := Cond.code y_Rows_age prog_4_method_9_code 3 (some .int) :: xT) B.pre w (List.mem_cons_of_mem _ hw)
  have hown : s.vm.findClass R_Rows = some m.cls := findClass_of_methodNamed B.named
  have hlocks := B.notSynchronized
  subst hsz
  have hD := hD0.self (sz := s.heap.size)
  generalize hAe : va_A [(h_this, .inr (2, [.ref h_minutes, .ref h_values, .ref h_starts, .ref h_seen])), (h_minutes, .inl (cI, 120, .inl v_minutes)), (h_starts, .inl (cI, 17, .inl v_starts)), (h_seen, .inl (cI, 16, .inl v_seen))] s.heap.size = A at hD ⊢
  have hA : ∀ q : Nat, s.heap.size ≤ q → A q := fun q h => by rw [← hAe]; exact Or.inr h
  have hS : va_S A s.heap s.heap [] := va_S.rf
  have hP : va_P (dC, dI) vwCl [(h_this, .inr (2, [.ref h_minutes, .ref h_values, .ref h_starts, .ref h_seen])), (h_minutes, .inl (cI, 120, .inl v_minutes)), (h_starts, .inl (cI, 17, .inl v_starts)), (h_seen, .inl (cI, 16, .inl v_seen))] s.heap := hP
  have hl := lv_entry ([.ref h_this, .int p1, .int p2]) (n := 3) (Nat.le_of_ble_eq_true rfl)
  rw [show entryFrame m args 3 = entryFrame m ([.ref h_this, .int p1, .int p2] : List Value).toArray 3 from by rw [hargs], lg_entry_eq]
  generalize (lg_sl ([.ref h_this, .int p1, .int p2]) ++ List.replicate (3 - (lg_sl ([.ref h_this, .int p1, .int p2])).length) Slot.unset).toArray = ls at hl ⊢
  have hl : lv_has ls 3 [(0, .ref h_this), (1, .int p1), (2, .int p2)] := hl
  obtain ⟨Q, hQ⟩ : ∃ Q, Q = MQ below (xQ (dC, dI) [(h_this, .inr (2, [.ref h_minutes, .ref h_values, .ref h_starts, .ref h_seen])), (h_minutes, .inl (cI, 120, .inl v_minutes)), (h_starts, .inl (cI, 17, .inl v_starts)), (h_seen, .inl (cI, 16, .inl v_seen))] A (some (.int t))) args s 0 0 A := ⟨_, rfl⟩
  rw [← hQ]
  show W p l e rm_Rows_age s m args below meth c s.heap [] 0 0 Q _
  obtain ⟨H, hH⟩ : ∃ H, H = s.heap := ⟨_, rfl⟩
  obtain ⟨locs, hlocs⟩ : ∃ L : List Loc, L = [] := ⟨_, rfl⟩
  rw [← hlocs] at hS ⊢
  have hS : va_S A s.heap H locs := by rw [hH]; exact hS
  rw [← hH] at hP ⊢
  replace hf := f_Rows_age_u hf
  refine lv_iload_n hx hb d_Rows_age_0 rfl (lv_at hl 2 rfl) ?_
  refine lv_aload_n hx hb d_Rows_age_1 rfl (lv_at hl 0 rfl) ?_
  refine va_get (D := (dC, dI)) (ci := 2) (v := .ref h_minutes) (C := R_Rows) (T := T_Rows) (N := 4) hx hb hT i_Rows hown hK hP 0 rfl rfl 0 (by decide) (hT _ kF_Rows_9) (fun _ h9 => h9) rfl d_Rows_age_2 ?_
  refine lv_aload_n hx hb d_Rows_age_5 rfl (lv_at hl 0 rfl) ?_
  refine va_get (D := (dC, dI)) (ci := 2) (v := .ref h_starts) (C := R_Rows) (T := T_Rows) (N := 4) hx hb hT i_Rows hown hK hP 0 rfl rfl 2 (by decide) (hT _ kF_Rows_18) (fun _ h9 => h9) rfl d_Rows_age_6 ?_
  refine lv_iload_n hx hb d_Rows_age_9 rfl (lv_at hl 1 rfl) ?_
  obtain ⟨hi_1, hf⟩ := o_in hf
  refine va_iald hx hb hK hP 2 0 rfl rfl hi_1 d_Rows_age_10 ?_
  refine lv_aload_n hx hb d_Rows_age_11 rfl (lv_at hl 0 rfl) ?_
  refine va_get (D := (dC, dI)) (ci := 2) (v := .ref h_seen) (C := R_Rows) (T := T_Rows) (N := 4) hx hb hT i_Rows hown hK hP 0 rfl rfl 3 (by decide) (hT _ kF_Rows_21) (fun _ h9 => h9) rfl d_Rows_age_12 ?_
  refine lv_iload_n hx hb d_Rows_age_15 rfl (lv_at hl 1 rfl) ?_
  obtain ⟨hi_2, hf⟩ := o_in hf
  refine va_iald hx hb hK hP 3 0 rfl rfl hi_2 d_Rows_age_16 ?_
  refine lv_iadd hx hb d_Rows_age_17 ?_
  refine lv_iconst (v := 1) hx hb d_Rows_age_18 (by decide) ?_
  refine lv_isub hx hb d_Rows_age_19 ?_
  obtain ⟨hi_3, hf⟩ := o_in hf
  refine va_iald hx hb hK hP 1 0 rfl rfl hi_3 d_Rows_age_20 ?_
  refine lv_isub hx hb d_Rows_age_21 ?_
  rw [hQ, ← Option.some.inj hf]
  exact W.iret hx hb hr (fun t9 ht9 hW9 => ⟨rfl, by rw [ht9]; exact hP, hS.F ht9⟩) hS.2.2 d_Rows_age_22
def rm_Rows_lastStep : Room := { frames := 1, cells := 0, slots := 0, locals := 40 }
set_option maxHeartbeats 4000000 in
set_option maxRecDepth 100000 in
theorem c_Rows_lastStep (l : Launch) (dC : Nat → ClassId) (dI : Nat → Nat → Nat) (cI cL cC : ClassId) (h_this h_minutes h_values h_starts h_seen : Nat) (sz : Nat) (v_values : Nat → Int32) (v_starts : Nat → Int32) (v_seen : Nat → Int32) (p1 : Int32) (t : Int32) (hf : f_Rows_lastStep v_values v_starts v_seen p1 = some t) : Met l y_Rows_lastStep (Cond.code y_Rows_lastStep prog_4_method_10_code 3 (some .int) :: xT) rm_Rows_lastStep (va_Pc [.ref h_this, .int p1] (xP (dC, dI) (xTy cI cL cC) [(h_this, .inr (2, [.ref h_minutes, .ref h_values, .ref h_starts, .ref h_seen])), (h_values, .inl (cI, 120, .inl v_values)), (h_starts, .inl (cI, 17, .inl v_starts)), (h_seen, .inl (cI, 16, .inl v_seen))] sz)) (xQ (dC, dI) [(h_this, .inr (2, [.ref h_minutes, .ref h_values, .ref h_starts, .ref h_seen])), (h_values, .inl (cI, 120, .inl v_values)), (h_starts, .inl (cI, 17, .inl v_starts)), (h_seen, .inl (cI, 16, .inl v_seen))] (va_A [(h_this, .inr (2, [.ref h_minutes, .ref h_values, .ref h_starts, .ref h_seen])), (h_values, .inl (cI, 120, .inl v_values)), (h_starts, .inl (cI, 17, .inl v_starts)), (h_seen, .inl (cI, 16, .inl v_seen))] sz) (some (.int t))) 0 0 (va_A [(h_this, .inr (2, [.ref h_minutes, .ref h_values, .ref h_starts, .ref h_seen])), (h_values, .inl (cI, 120, .inl v_values)), (h_starts, .inl (cI, 17, .inl v_starts)), (h_seen, .inl (cI, 16, .inl v_seen))] sz) := by
  refine Met.ofW (cc := prog_4_method_10_code) (maxL := 3) (ret := (some .int)) (by decide) rfl ?_
  intro p e s m args below meth c s₁ B hml hv
  obtain ⟨hargs, hsz, hP, hK, hN, hD0⟩ := hv
  have hx := B.exec
  have hb := B.bytes
  have hr := B.returns
  have hT : ∀ w ∈ xT, w.before args s = true := fun w hw => atoms_spec (ws := Cond.code y_Rows_lastStep prog_4_method_10_code 3 (some .int) :: xT) B.pre w (List.mem_cons_of_mem _ hw)
  have hown : s.vm.findClass R_Rows = some m.cls := findClass_of_methodNamed B.named
  have hlocks := B.notSynchronized
  subst hsz
  have hD := hD0.self (sz := s.heap.size)
  generalize hAe : va_A [(h_this, .inr (2, [.ref h_minutes, .ref h_values, .ref h_starts, .ref h_seen])), (h_values, .inl (cI, 120, .inl v_values)), (h_starts, .inl (cI, 17, .inl v_starts)), (h_seen, .inl (cI, 16, .inl v_seen))] s.heap.size = A at hD ⊢
  have hA : ∀ q : Nat, s.heap.size ≤ q → A q := fun q h => by rw [← hAe]; exact Or.inr h
  have hS : va_S A s.heap s.heap [] := va_S.rf
  have hP : va_P (dC, dI) vwCl [(h_this, .inr (2, [.ref h_minutes, .ref h_values, .ref h_starts, .ref h_seen])), (h_values, .inl (cI, 120, .inl v_values)), (h_starts, .inl (cI, 17, .inl v_starts)), (h_seen, .inl (cI, 16, .inl v_seen))] s.heap := hP
  have hl := lv_entry ([.ref h_this, .int p1]) (n := 3) (Nat.le_of_ble_eq_true rfl)
  rw [show entryFrame m args 3 = entryFrame m ([.ref h_this, .int p1] : List Value).toArray 3 from by rw [hargs], lg_entry_eq]
  generalize (lg_sl ([.ref h_this, .int p1]) ++ List.replicate (3 - (lg_sl ([.ref h_this, .int p1])).length) Slot.unset).toArray = ls at hl ⊢
  have hl : lv_has ls 3 [(0, .ref h_this), (1, .int p1)] := hl
  obtain ⟨Q, hQ⟩ : ∃ Q, Q = MQ below (xQ (dC, dI) [(h_this, .inr (2, [.ref h_minutes, .ref h_values, .ref h_starts, .ref h_seen])), (h_values, .inl (cI, 120, .inl v_values)), (h_starts, .inl (cI, 17, .inl v_starts)), (h_seen, .inl (cI, 16, .inl v_seen))] A (some (.int t))) args s 0 0 A := ⟨_, rfl⟩
  rw [← hQ]
  show W p l e rm_Rows_lastStep s m args below meth c s.heap [] 0 0 Q _
  obtain ⟨H, hH⟩ : ∃ H, H = s.heap := ⟨_, rfl⟩
  obtain ⟨locs, hlocs⟩ : ∃ L : List Loc, L = [] := ⟨_, rfl⟩
  rw [← hlocs] at hS ⊢
  have hS : va_S A s.heap H locs := by rw [hH]; exact hS
  rw [← hH] at hP ⊢
  replace hf := f_Rows_lastStep_u hf
  refine lv_aload_n hx hb d_Rows_lastStep_0 rfl (lv_at hl 0 rfl) ?_
  refine va_get (D := (dC, dI)) (ci := 2) (v := .ref h_seen) (C := R_Rows) (T := T_Rows) (N := 4) hx hb hT i_Rows hown hK hP 0 rfl rfl 3 (by decide) (hT _ kF_Rows_21) (fun _ h9 => h9) rfl d_Rows_lastStep_1 ?_
  refine lv_iload_n hx hb d_Rows_lastStep_4 rfl (lv_at hl 1 rfl) ?_
  obtain ⟨hi_1, hf⟩ := o_in hf
  refine va_iald hx hb hK hP 3 0 rfl rfl hi_1 d_Rows_lastStep_5 ?_
  refine lv_iconst (v := 2) hx hb d_Rows_lastStep_6 (by decide) ?_
  refine lv_icmp_ge (tgt := 12) hx hb d_Rows_lastStep_7 (by decide) (fun c_2 => ?_) (fun c_2 => ?_)
  · replace hf := o_pos c_2 hf
    refine lv_aload_n hx hb d_Rows_lastStep_12 rfl (lv_at hl 0 rfl) ?_
    refine va_get (D := (dC, dI)) (ci := 2) (v := .ref h_starts) (C := R_Rows) (T := T_Rows) (N := 4) hx hb hT i_Rows hown hK hP 0 rfl rfl 2 (by decide) (hT _ kF_Rows_18) (fun _ h9 => h9) rfl d_Rows_lastStep_13 ?_
    refine lv_iload_n hx hb d_Rows_lastStep_16 rfl (lv_at hl 1 rfl) ?_
    obtain ⟨hi_3, hf⟩ := o_in hf
    refine va_iald hx hb hK hP 2 0 rfl rfl hi_3 d_Rows_lastStep_17 ?_
    refine lv_aload_n hx hb d_Rows_lastStep_18 rfl (lv_at hl 0 rfl) ?_
    refine va_get (D := (dC, dI)) (ci := 2) (v := .ref h_seen) (C := R_Rows) (T := T_Rows) (N := 4) hx hb hT i_Rows hown hK hP 0 rfl rfl 3 (by decide) (hT _ kF_Rows_21) (fun _ h9 => h9) rfl d_Rows_lastStep_19 ?_
    refine lv_iload_n hx hb d_Rows_lastStep_22 rfl (lv_at hl 1 rfl) ?_
    obtain ⟨hi_4, hf⟩ := o_in hf
    refine va_iald hx hb hK hP 3 0 rfl rfl hi_4 d_Rows_lastStep_23 ?_
    refine lv_iadd hx hb d_Rows_lastStep_24 ?_
    refine lv_iconst (v := 1) hx hb d_Rows_lastStep_25 (by decide) ?_
    refine lv_isub hx hb d_Rows_lastStep_26 ?_
    refine lv_istore_n (lv' := [(2, .int (((v_starts (p1 : Int32).toNatClampNeg) + (v_seen (p1 : Int32).toNatClampNeg)) - 1)), (0, .ref h_this), (1, .int p1)]) hx hb d_Rows_lastStep_27 rfl hl (by decide) rfl (fun ls hl => ?_)
    refine lv_aload_n hx hb d_Rows_lastStep_28 rfl (lv_at hl 1 rfl) ?_
    refine va_get (D := (dC, dI)) (ci := 2) (v := .ref h_values) (C := R_Rows) (T := T_Rows) (N := 4) hx hb hT i_Rows hown hK hP 0 rfl rfl 1 (by decide) (hT _ kF_Rows_15) (fun _ h9 => h9) rfl d_Rows_lastStep_29 ?_
    refine lv_iload_n hx hb d_Rows_lastStep_32 rfl (lv_at hl 0 rfl) ?_
    obtain ⟨hi_5, hf⟩ := o_in hf
    refine va_iald hx hb hK hP 1 0 rfl rfl hi_5 d_Rows_lastStep_33 ?_
    refine lv_aload_n hx hb d_Rows_lastStep_34 rfl (lv_at hl 1 rfl) ?_
    refine va_get (D := (dC, dI)) (ci := 2) (v := .ref h_values) (C := R_Rows) (T := T_Rows) (N := 4) hx hb hT i_Rows hown hK hP 0 rfl rfl 1 (by decide) (hT _ kF_Rows_15) (fun _ h9 => h9) rfl d_Rows_lastStep_35 ?_
    refine lv_iload_n hx hb d_Rows_lastStep_38 rfl (lv_at hl 0 rfl) ?_
    refine lv_iconst (v := 1) hx hb d_Rows_lastStep_39 (by decide) ?_
    refine lv_isub hx hb d_Rows_lastStep_40 ?_
    obtain ⟨hi_6, hf⟩ := o_in hf
    refine va_iald hx hb hK hP 1 0 rfl rfl hi_6 d_Rows_lastStep_41 ?_
    refine lv_isub hx hb d_Rows_lastStep_42 ?_
    refine va_mabs hx hb (hml.trans hl.1.symm) hown (hT _ kM_Rows_36) (hT _ kT_absI) (hT _ kN_Math) (hT _ kC_absI) (Nat.le_of_ble_eq_true rfl) (Nat.le_of_ble_eq_true rfl) (Nat.zero_le _) (Nat.zero_le _) d_Rows_lastStep_43 ?_
    rw [hQ, ← Option.some.inj hf]
    exact W.iret hx hb hr (fun t9 ht9 hW9 => ⟨rfl, by rw [ht9]; exact hP, hS.F ht9⟩) hS.2.2 d_Rows_lastStep_46
  · replace hf := o_neg c_2 hf
    refine lv_iconst (v := 0) hx hb d_Rows_lastStep_10 (by decide) ?_
    rw [hQ, ← Option.some.inj hf]
    exact W.iret hx hb hr (fun t9 ht9 hW9 => ⟨rfl, by rw [ht9]; exact hP, hS.F ht9⟩) hS.2.2 d_Rows_lastStep_11
