def L_RuleSet_hasName_2 (fu : Nat) (v_count : Int32) (v_names : Nat → Int64) (l1_2 : Int64) : Nat → Int32 → Option (Int32)
  | 0, _ => none
  | n + 1, l3_2 => (if v_count ≤ l3_2 then (some 0) else (bd l3_2 6 (if (lg_cmp (v_names (l3_2 : Int32).toNatClampNeg) l1_2) = 0 then (some 1) else ((L_RuleSet_hasName_2 fu v_count v_names l1_2 n) (l3_2 + 1)))))
theorem L_RuleSet_hasName_2_z {fu : Nat} {v_count : Int32} {v_names : Nat → Int64} {l1_2 : Int64} {l3_2 : Int32} {t : Int32} (h : L_RuleSet_hasName_2 fu v_count v_names l1_2 0 l3_2 = some t) : False := by cases (show (none : Option (Int32)) = some t from h)
theorem L_RuleSet_hasName_2_u {fu : Nat} {v_count : Int32} {v_names : Nat → Int64} {l1_2 : Int64} {n : Nat} {l3_2 : Int32} {t : Int32} (h : L_RuleSet_hasName_2 fu v_count v_names l1_2 (n + 1) l3_2 = some t) : (if v_count ≤ l3_2 then (some 0) else (bd l3_2 6 (if (lg_cmp (v_names (l3_2 : Int32).toNatClampNeg) l1_2) = 0 then (some 1) else ((L_RuleSet_hasName_2 fu v_count v_names l1_2 n) (l3_2 + 1))))) = some t := h
def f_RuleSet_hasName (fu : Nat) (v_count : Int32) (v_names : Nat → Int64) (p1 : Int64) : Option (Int32) :=
  (L_RuleSet_hasName_2 fu v_count v_names p1 fu 0)
theorem f_RuleSet_hasName_u {fu : Nat} {v_count : Int32} {v_names : Nat → Int64} {p1 : Int64} {t : Int32} (h : f_RuleSet_hasName fu v_count v_names p1 = some t) : (L_RuleSet_hasName_2 fu v_count v_names p1 fu 0) = some t := h
def f_RuleSet_openTest (v_count : Int32) (v_sizes : Nat → Int32) : Option (Int32) :=
  (bd v_count 6 (some ((v_count * 6) + (v_sizes (v_count : Int32).toNatClampNeg))))
theorem f_RuleSet_openTest_u {v_count : Int32} {v_sizes : Nat → Int32} {t : Int32} (h : f_RuleSet_openTest v_count v_sizes = some t) : (bd v_count 6 (some ((v_count * 6) + (v_sizes (v_count : Int32).toNatClampNeg)))) = some t := h
def f_RuleSet_relationHolds (v_kinds : Nat → Int32) (v_firsts : Nat → Int32) (v_seconds : Nat → Int32) (v_numbers : Nat → Int32) (v_p2_values : Nat → Int32) (v_p2_starts : Nat → Int32) (v_p2_seen : Nat → Int32) (p1 : Int32) : Option (Int32) :=
  (bd p1 36 ((f_Rows_latestValue v_p2_values v_p2_starts v_p2_seen (v_firsts (p1 : Int32).toNatClampNeg)).bind (fun t_2 => (bd p1 36 (if (v_seconds (p1 : Int32).toNatClampNeg) = ((-1)) then (bd p1 36 (bd p1 36 (if (v_kinds (p1 : Int32).toNatClampNeg) = 11 then (if (v_numbers (p1 : Int32).toNatClampNeg) ≤ t_2 then (some 0) else (some 1)) else (if (v_kinds (p1 : Int32).toNatClampNeg) = 12 then (if (v_numbers (p1 : Int32).toNatClampNeg) < t_2 then (some 0) else (some 1)) else (if (v_kinds (p1 : Int32).toNatClampNeg) = 13 then (if t_2 = (v_numbers (p1 : Int32).toNatClampNeg) then (some 1) else (some 0)) else (if (v_kinds (p1 : Int32).toNatClampNeg) = 14 then (if t_2 < (v_numbers (p1 : Int32).toNatClampNeg) then (some 0) else (some 1)) else (if (v_kinds (p1 : Int32).toNatClampNeg) = 15 then (if t_2 ≤ (v_numbers (p1 : Int32).toNatClampNeg) then (some 0) else (some 1)) else (some 0)))))))) else ((f_Rows_has v_p2_seen (v_seconds (p1 : Int32).toNatClampNeg)).bind (fun t_17 => (if t_17 = 0 then (some 0) else ((f_Rows_latestValue v_p2_values v_p2_starts v_p2_seen (v_seconds (p1 : Int32).toNatClampNeg)).bind (fun t_19 => (bd p1 36 (bd p1 36 (if (v_kinds (p1 : Int32).toNatClampNeg) = 11 then (if (v_numbers (p1 : Int32).toNatClampNeg) ≤ (t_2 - t_19) then (some 0) else (some 1)) else (if (v_kinds (p1 : Int32).toNatClampNeg) = 12 then (if (v_numbers (p1 : Int32).toNatClampNeg) < (t_2 - t_19) then (some 0) else (some 1)) else (if (v_kinds (p1 : Int32).toNatClampNeg) = 13 then (if (t_2 - t_19) = (v_numbers (p1 : Int32).toNatClampNeg) then (some 1) else (some 0)) else (if (v_kinds (p1 : Int32).toNatClampNeg) = 14 then (if (t_2 - t_19) < (v_numbers (p1 : Int32).toNatClampNeg) then (some 0) else (some 1)) else (if (v_kinds (p1 : Int32).toNatClampNeg) = 15 then (if (t_2 - t_19) ≤ (v_numbers (p1 : Int32).toNatClampNeg) then (some 0) else (some 1)) else (some 0))))))))))))))))))
theorem f_RuleSet_relationHolds_u {v_kinds : Nat → Int32} {v_firsts : Nat → Int32} {v_seconds : Nat → Int32} {v_numbers : Nat → Int32} {v_p2_values : Nat → Int32} {v_p2_starts : Nat → Int32} {v_p2_seen : Nat → Int32} {p1 : Int32} {t : Int32} (h : f_RuleSet_relationHolds v_kinds v_firsts v_seconds v_numbers v_p2_values v_p2_starts v_p2_seen p1 = some t) : (bd p1 36 ((f_Rows_latestValue v_p2_values v_p2_starts v_p2_seen (v_firsts (p1 : Int32).toNatClampNeg)).bind (fun t_2 => (bd p1 36 (if (v_seconds (p1 : Int32).toNatClampNeg) = ((-1)) then (bd p1 36 (bd p1 36 (if (v_kinds (p1 : Int32).toNatClampNeg) = 11 then (if (v_numbers (p1 : Int32).toNatClampNeg) ≤ t_2 then (some 0) else (some 1)) else (if (v_kinds (p1 : Int32).toNatClampNeg) = 12 then (if (v_numbers (p1 : Int32).toNatClampNeg) < t_2 then (some 0) else (some 1)) else (if (v_kinds (p1 : Int32).toNatClampNeg) = 13 then (if t_2 = (v_numbers (p1 : Int32).toNatClampNeg) then (some 1) else (some 0)) else (if (v_kinds (p1 : Int32).toNatClampNeg) = 14 then (if t_2 < (v_numbers (p1 : Int32).toNatClampNeg) then (some 0) else (some 1)) else (if (v_kinds (p1 : Int32).toNatClampNeg) = 15 then (if t_2 ≤ (v_numbers (p1 : Int32).toNatClampNeg) then (some 0) else (some 1)) else (some 0)))))))) else ((f_Rows_has v_p2_seen (v_seconds (p1 : Int32).toNatClampNeg)).bind (fun t_17 => (if t_17 = 0 then (some 0) else ((f_Rows_latestValue v_p2_values v_p2_starts v_p2_seen (v_seconds (p1 : Int32).toNatClampNeg)).bind (fun t_19 => (bd p1 36 (bd p1 36 (if (v_kinds (p1 : Int32).toNatClampNeg) = 11 then (if (v_numbers (p1 : Int32).toNatClampNeg) ≤ (t_2 - t_19) then (some 0) else (some 1)) else (if (v_kinds (p1 : Int32).toNatClampNeg) = 12 then (if (v_numbers (p1 : Int32).toNatClampNeg) < (t_2 - t_19) then (some 0) else (some 1)) else (if (v_kinds (p1 : Int32).toNatClampNeg) = 13 then (if (t_2 - t_19) = (v_numbers (p1 : Int32).toNatClampNeg) then (some 1) else (some 0)) else (if (v_kinds (p1 : Int32).toNatClampNeg) = 14 then (if (t_2 - t_19) < (v_numbers (p1 : Int32).toNatClampNeg) then (some 0) else (some 1)) else (if (v_kinds (p1 : Int32).toNatClampNeg) = 15 then (if (t_2 - t_19) ≤ (v_numbers (p1 : Int32).toNatClampNeg) then (some 0) else (some 1)) else (some 0)))))))))))))))))) = some t := h
def f_RuleSet_testHolds (v_kinds : Nat → Int32) (v_firsts : Nat → Int32) (v_seconds : Nat → Int32) (v_numbers : Nat → Int32) (v_p2_minutes : Nat → Int32) (v_p2_values : Nat → Int32) (v_p2_starts : Nat → Int32) (v_p2_seen : Nat → Int32) (p1 : Int32) (p3 : Int32) : Option (Int32) :=
  (bd p1 36 (bd p1 36 ((f_Rows_has v_p2_seen (v_firsts (p1 : Int32).toNatClampNeg)).bind (fun t_3 => (bd p1 36 (if (v_kinds (p1 : Int32).toNatClampNeg) = 16 then (if t_3 = 0 then (some 0) else ((f_Rows_age v_p2_minutes v_p2_starts v_p2_seen (v_firsts (p1 : Int32).toNatClampNeg) p3).bind (fun t_7 => (if t_7 < (v_numbers (p1 : Int32).toNatClampNeg) then (some 0) else (some 1))))) else (if (v_kinds (p1 : Int32).toNatClampNeg) = 17 then (if t_3 = 0 then (some 0) else ((f_Rows_age v_p2_minutes v_p2_starts v_p2_seen (v_firsts (p1 : Int32).toNatClampNeg) p3).bind (fun t_11 => (if t_11 = 0 then ((f_Rows_lastStep v_p2_values v_p2_starts v_p2_seen (v_firsts (p1 : Int32).toNatClampNeg)).bind (fun t_13 => (if t_13 ≤ (v_numbers (p1 : Int32).toNatClampNeg) then (some 0) else (some 1)))) else (some 0))))) else (if (v_kinds (p1 : Int32).toNatClampNeg) = 18 then (if t_3 = 0 then (some 1) else ((f_Rows_age v_p2_minutes v_p2_starts v_p2_seen (v_firsts (p1 : Int32).toNatClampNeg) p3).bind (fun t_17 => (if t_17 ≤ (v_numbers (p1 : Int32).toNatClampNeg) then (some 0) else (some 1))))) else (if t_3 = 0 then (some 0) else ((f_RuleSet_relationHolds v_kinds v_firsts v_seconds v_numbers v_p2_values v_p2_starts v_p2_seen p1).bind (fun t_20 => (if t_20 = 0 then (some 0) else (some 1)))))))))))))
theorem f_RuleSet_testHolds_u {v_kinds : Nat → Int32} {v_firsts : Nat → Int32} {v_seconds : Nat → Int32} {v_numbers : Nat → Int32} {v_p2_minutes : Nat → Int32} {v_p2_values : Nat → Int32} {v_p2_starts : Nat → Int32} {v_p2_seen : Nat → Int32} {p1 : Int32} {p3 : Int32} {t : Int32} (h : f_RuleSet_testHolds v_kinds v_firsts v_seconds v_numbers v_p2_minutes v_p2_values v_p2_starts v_p2_seen p1 p3 = some t) : (bd p1 36 (bd p1 36 ((f_Rows_has v_p2_seen (v_firsts (p1 : Int32).toNatClampNeg)).bind (fun t_3 => (bd p1 36 (if (v_kinds (p1 : Int32).toNatClampNeg) = 16 then (if t_3 = 0 then (some 0) else ((f_Rows_age v_p2_minutes v_p2_starts v_p2_seen (v_firsts (p1 : Int32).toNatClampNeg) p3).bind (fun t_7 => (if t_7 < (v_numbers (p1 : Int32).toNatClampNeg) then (some 0) else (some 1))))) else (if (v_kinds (p1 : Int32).toNatClampNeg) = 17 then (if t_3 = 0 then (some 0) else ((f_Rows_age v_p2_minutes v_p2_starts v_p2_seen (v_firsts (p1 : Int32).toNatClampNeg) p3).bind (fun t_11 => (if t_11 = 0 then ((f_Rows_lastStep v_p2_values v_p2_starts v_p2_seen (v_firsts (p1 : Int32).toNatClampNeg)).bind (fun t_13 => (if t_13 ≤ (v_numbers (p1 : Int32).toNatClampNeg) then (some 0) else (some 1)))) else (some 0))))) else (if (v_kinds (p1 : Int32).toNatClampNeg) = 18 then (if t_3 = 0 then (some 1) else ((f_Rows_age v_p2_minutes v_p2_starts v_p2_seen (v_firsts (p1 : Int32).toNatClampNeg) p3).bind (fun t_17 => (if t_17 ≤ (v_numbers (p1 : Int32).toNatClampNeg) then (some 0) else (some 1))))) else (if t_3 = 0 then (some 0) else ((f_RuleSet_relationHolds v_kinds v_firsts v_seconds v_numbers v_p2_values v_p2_starts v_p2_seen p1).bind (fun t_20 => (if t_20 = 0 then (some 0) else (some 1))))))))))))) = some t := h
def L_RuleSet_ruleHolds_3 (fu : Nat) (v_sizes : Nat → Int32) (v_kinds : Nat → Int32) (v_firsts : Nat → Int32) (v_seconds : Nat → Int32) (v_numbers : Nat → Int32) (v_p2_minutes : Nat → Int32) (v_p2_values : Nat → Int32) (v_p2_starts : Nat → Int32) (v_p2_seen : Nat → Int32) (l1_3 : Int32) (l3_3 : Int32) : Nat → Int32 → Option (Int32)
  | 0, _ => none
  | n + 1, l4_3 => (bd l1_3 6 (if (v_sizes (l1_3 : Int32).toNatClampNeg) ≤ l4_3 then (some 1) else ((f_RuleSet_testHolds v_kinds v_firsts v_seconds v_numbers v_p2_minutes v_p2_values v_p2_starts v_p2_seen ((l1_3 * 6) + l4_3) l3_3).bind (fun t_3 => (if t_3 = 0 then (some 0) else ((L_RuleSet_ruleHolds_3 fu v_sizes v_kinds v_firsts v_seconds v_numbers v_p2_minutes v_p2_values v_p2_starts v_p2_seen l1_3 l3_3 n) (l4_3 + 1)))))))
theorem L_RuleSet_ruleHolds_3_z {fu : Nat} {v_sizes : Nat → Int32} {v_kinds : Nat → Int32} {v_firsts : Nat → Int32} {v_seconds : Nat → Int32} {v_numbers : Nat → Int32} {v_p2_minutes : Nat → Int32} {v_p2_values : Nat → Int32} {v_p2_starts : Nat → Int32} {v_p2_seen : Nat → Int32} {l1_3 : Int32} {l3_3 : Int32} {l4_3 : Int32} {t : Int32} (h : L_RuleSet_ruleHolds_3 fu v_sizes v_kinds v_firsts v_seconds v_numbers v_p2_minutes v_p2_values v_p2_starts v_p2_seen l1_3 l3_3 0 l4_3 = some t) : False := by cases (show (none : Option (Int32)) = some t from h)
theorem L_RuleSet_ruleHolds_3_u {fu : Nat} {v_sizes : Nat → Int32} {v_kinds : Nat → Int32} {v_firsts : Nat → Int32} {v_seconds : Nat → Int32} {v_numbers : Nat → Int32} {v_p2_minutes : Nat → Int32} {v_p2_values : Nat → Int32} {v_p2_starts : Nat → Int32} {v_p2_seen : Nat → Int32} {l1_3 : Int32} {l3_3 : Int32} {n : Nat} {l4_3 : Int32} {t : Int32} (h : L_RuleSet_ruleHolds_3 fu v_sizes v_kinds v_firsts v_seconds v_numbers v_p2_minutes v_p2_values v_p2_starts v_p2_seen l1_3 l3_3 (n + 1) l4_3 = some t) : (bd l1_3 6 (if (v_sizes (l1_3 : Int32).toNatClampNeg) ≤ l4_3 then (some 1) else ((f_RuleSet_testHolds v_kinds v_firsts v_seconds v_numbers v_p2_minutes v_p2_values v_p2_starts v_p2_seen ((l1_3 * 6) + l4_3) l3_3).bind (fun t_3 => (if t_3 = 0 then (some 0) else ((L_RuleSet_ruleHolds_3 fu v_sizes v_kinds v_firsts v_seconds v_numbers v_p2_minutes v_p2_values v_p2_starts v_p2_seen l1_3 l3_3 n) (l4_3 + 1))))))) = some t := h
def f_RuleSet_ruleHolds (fu : Nat) (v_sizes : Nat → Int32) (v_kinds : Nat → Int32) (v_firsts : Nat → Int32) (v_seconds : Nat → Int32) (v_numbers : Nat → Int32) (v_p2_minutes : Nat → Int32) (v_p2_values : Nat → Int32) (v_p2_starts : Nat → Int32) (v_p2_seen : Nat → Int32) (p1 : Int32) (p3 : Int32) : Option (Int32) :=
  (L_RuleSet_ruleHolds_3 fu v_sizes v_kinds v_firsts v_seconds v_numbers v_p2_minutes v_p2_values v_p2_starts v_p2_seen p1 p3 fu 0)
theorem f_RuleSet_ruleHolds_u {fu : Nat} {v_sizes : Nat → Int32} {v_kinds : Nat → Int32} {v_firsts : Nat → Int32} {v_seconds : Nat → Int32} {v_numbers : Nat → Int32} {v_p2_minutes : Nat → Int32} {v_p2_values : Nat → Int32} {v_p2_starts : Nat → Int32} {v_p2_seen : Nat → Int32} {p1 : Int32} {p3 : Int32} {t : Int32} (h : f_RuleSet_ruleHolds fu v_sizes v_kinds v_firsts v_seconds v_numbers v_p2_minutes v_p2_values v_p2_starts v_p2_seen p1 p3 = some t) : (L_RuleSet_ruleHolds_3 fu v_sizes v_kinds v_firsts v_seconds v_numbers v_p2_minutes v_p2_values v_p2_starts v_p2_seen p1 p3 fu 0) = some t := h
def rm_RuleSet_hasName : Room := { frames := 0, cells := 0, slots := 0, locals := 0 }
set_option maxHeartbeats 4000000 in
set_option maxRecDepth 100000 in
theorem c_RuleSet_hasName (l : Launch) (dC : Nat → ClassId) (dI : Nat → Nat → Nat) (cI cL cC : ClassId) (h_this h_names h_spans h_costs h_sizes h_kinds h_firsts h_seconds h_numbers : Nat) (sz : Nat) (fu : Nat) (v_count : Int32) (v_names : Nat → Int64) (p1 : Int64) (t : Int32) (hf : f_RuleSet_hasName fu v_count v_names p1 = some t) : Met l y_RuleSet_hasName (Cond.code y_RuleSet_hasName prog_5_method_2_code 4 (some .boolean) :: xT) rm_RuleSet_hasName (va_Pc [.ref h_this, .long p1] (xP (dC, dI) (xTy cI cL cC) [(h_this, .inr (3, [.ref h_names, .ref h_spans, .ref h_costs, .ref h_sizes, .ref h_kinds, .ref h_firsts, .ref h_seconds, .ref h_numbers, .int v_count])), (h_names, .inl (cL, 6, .inr (.inl v_names)))] sz)) (xQ (dC, dI) [(h_this, .inr (3, [.ref h_names, .ref h_spans, .ref h_costs, .ref h_sizes, .ref h_kinds, .ref h_firsts, .ref h_seconds, .ref h_numbers, .int v_count])), (h_names, .inl (cL, 6, .inr (.inl v_names)))] (va_A [(h_this, .inr (3, [.ref h_names, .ref h_spans, .ref h_costs, .ref h_sizes, .ref h_kinds, .ref h_firsts, .ref h_seconds, .ref h_numbers, .int v_count])), (h_names, .inl (cL, 6, .inr (.inl v_names)))] sz) (some (.int t))) 0 0 (va_A [(h_this, .inr (3, [.ref h_names, .ref h_spans, .ref h_costs, .ref h_sizes, .ref h_kinds, .ref h_firsts, .ref h_seconds, .ref h_numbers, .int v_count])), (h_names, .inl (cL, 6, .inr (.inl v_names)))] sz) := by
  refine Met.ofW (cc := prog_5_method_2_code) (maxL := 4) (ret := (some .boolean)) (by decide) rfl ?_
  intro p e s m args below meth c s₁ B hml hv
  obtain ⟨hargs, hsz, hP, hK, hN, hD0⟩ := hv
  have hx := B.exec
  have hb := B.bytes
  have hr := B.returns
  have hT : ∀ w ∈ xT, w.before args s = true := fun w hw => atoms_spec (ws := Cond.code y_RuleSet_hasName prog_5_method_2_code 4 (some .boolean) :: xT) B.pre w (List.mem_cons_of_mem _ hw)
  have hown : s.vm.findClass R_RuleSet = some m.cls := findClass_of_methodNamed B.named
  have hlocks := B.notSynchronized
  subst hsz
  have hD := hD0.self (sz := s.heap.size)
  generalize hAe : va_A [(h_this, .inr (3, [.ref h_names, .ref h_spans, .ref h_costs, .ref h_sizes, .ref h_kinds, .ref h_firsts, .ref h_seconds, .ref h_numbers, .int v_count])), (h_names, .inl (cL, 6, .inr (.inl v_names)))] s.heap.size = A at hD ⊢
  have hA : ∀ q : Nat, s.heap.size ≤ q → A q := fun q h => by rw [← hAe]; exact Or.inr h
  have hS : va_S A s.heap s.heap [] := va_S.rf
  have hP : va_P (dC, dI) vwCl [(h_this, .inr (3, [.ref h_names, .ref h_spans, .ref h_costs, .ref h_sizes, .ref h_kinds, .ref h_firsts, .ref h_seconds, .ref h_numbers, .int v_count])), (h_names, .inl (cL, 6, .inr (.inl v_names)))] s.heap := hP
  have hl := lv_entry ([.ref h_this, .long p1]) (n := 4) (Nat.le_of_ble_eq_true rfl)
  rw [show entryFrame m args 4 = entryFrame m ([.ref h_this, .long p1] : List Value).toArray 4 from by rw [hargs], lg_entry_eq]
  generalize (lg_sl ([.ref h_this, .long p1]) ++ List.replicate (4 - (lg_sl ([.ref h_this, .long p1])).length) Slot.unset).toArray = ls at hl ⊢
  have hl : lv_has ls 4 [(0, .ref h_this), (1, .long p1)] := hl
  obtain ⟨Q, hQ⟩ : ∃ Q, Q = MQ below (xQ (dC, dI) [(h_this, .inr (3, [.ref h_names, .ref h_spans, .ref h_costs, .ref h_sizes, .ref h_kinds, .ref h_firsts, .ref h_seconds, .ref h_numbers, .int v_count])), (h_names, .inl (cL, 6, .inr (.inl v_names)))] A (some (.int t))) args s 0 0 A := ⟨_, rfl⟩
  rw [← hQ]
  show W p l e rm_RuleSet_hasName s m args below meth c s.heap [] 0 0 Q _
  obtain ⟨H, hH⟩ : ∃ H, H = s.heap := ⟨_, rfl⟩
  obtain ⟨locs, hlocs⟩ : ∃ L : List Loc, L = [] := ⟨_, rfl⟩
  rw [← hlocs] at hS ⊢
  have hS : va_S A s.heap H locs := by rw [hH]; exact hS
  rw [← hH] at hP ⊢
  replace hf := f_RuleSet_hasName_u hf
  refine lv_iconst (v := 0) hx hb d_RuleSet_hasName_0 (by decide) ?_
  refine lv_istore_n (lv' := [(3, .int 0), (0, .ref h_this), (1, .long p1)]) hx hb d_RuleSet_hasName_1 rfl hl (by decide) rfl (fun ls hl => ?_)
  have lp_2 : ∀ (n : Nat) (l3_2 : Int32) (H : Heap) (locs : List Loc) (ls : Array Slot), L_RuleSet_hasName_2 fu v_count v_names p1 n l3_2 = some t → va_P (dC, dI) vwCl [(h_this, .inr (3, [.ref h_names, .ref h_spans, .ref h_costs, .ref h_sizes, .ref h_kinds, .ref h_firsts, .ref h_seconds, .ref h_numbers, .int v_count])), (h_names, .inl (cL, 6, .inr (.inl v_names)))] H → va_D A [(h_this, .inr (3, [.ref h_names, .ref h_spans, .ref h_costs, .ref h_sizes, .ref h_kinds, .ref h_firsts, .ref h_seconds, .ref h_numbers, .int v_count])), (h_names, .inl (cL, 6, .inr (.inl v_names)))] → va_S A s.heap H locs → lv_has ls 4 [(0, .ref h_this), (1, .long p1), (3, .int l3_2)] → W p l e rm_RuleSet_hasName s m args below meth c H locs 0 0 Q (F0 m 2 ls []) := by
    intro  n
    induction n with
    | zero => intro l3_2 H locs ls hf; exact (L_RuleSet_hasName_2_z hf).elim
    | succ n ih =>
      intro l3_2 H locs ls hf hP hD hS hl
      replace hf := L_RuleSet_hasName_2_u hf
      refine lv_iload_n hx hb d_RuleSet_hasName_2 rfl (lv_at hl 2 rfl) ?_
      refine lv_aload_n hx hb d_RuleSet_hasName_3 rfl (lv_at hl 0 rfl) ?_
      refine va_get (D := (dC, dI)) (ci := 3) (v := .int v_count) (C := R_RuleSet) (T := T_RuleSet) (N := 9) hx hb hT i_RuleSet hown hK hP 0 rfl rfl 8 (by decide) (hT _ kF_RuleSet_37) (fun _ h9 => h9) rfl d_RuleSet_hasName_4 ?_
      refine lv_icmp_ge (tgt := 29) hx hb d_RuleSet_hasName_7 (by decide) (fun c_1 => ?_) (fun c_1 => ?_)
      · replace hf := o_pos c_1 hf
        refine lv_iconst (v := 0) hx hb d_RuleSet_hasName_29 (by decide) ?_
        rw [hQ, ← Option.some.inj hf]
        exact W.zret (ty := .boolean) hx hb hr rfl (fun t9 ht9 hW9 => ⟨rfl, by rw [ht9]; exact hP, hS.F ht9⟩) hS.2.2 d_RuleSet_hasName_30
      · replace hf := o_neg c_1 hf
        refine lv_aload_n hx hb d_RuleSet_hasName_10 rfl (lv_at hl 0 rfl) ?_
        refine va_get (D := (dC, dI)) (ci := 3) (v := .ref h_names) (C := R_RuleSet) (T := T_RuleSet) (N := 9) hx hb hT i_RuleSet hown hK hP 0 rfl rfl 0 (by decide) (hT _ kF_RuleSet_9) (fun _ h9 => h9) rfl d_RuleSet_hasName_11 ?_
        refine lv_iload_n hx hb d_RuleSet_hasName_14 rfl (lv_at hl 2 rfl) ?_
        obtain ⟨hi_2, hf⟩ := o_in hf
        refine va_lald hx hb hK hP 1 1 rfl rfl hi_2 d_RuleSet_hasName_15 ?_
        refine lv_lload_n hx hb d_RuleSet_hasName_16 rfl (lv_at hl 1 rfl) ?_
        refine W.lcmp hx hb d_RuleSet_hasName_17 ?_
        refine lv_if_ne (tgt := 23) hx hb d_RuleSet_hasName_18 (by decide) (fun c_3 => ?_) (fun c_3 => ?_)
        · replace hf := o_neg c_3 hf
          refine lv_iinc (v := l3_2 + 1) (lv' := [(3, .int (l3_2 + 1)), (0, .ref h_this), (1, .long p1)]) hx hb d_RuleSet_hasName_23 hl (k := 2) rfl rfl (by decide) rfl (fun ls hl => ?_)
          refine lv_goto (tgt := 2) hx hb d_RuleSet_hasName_26 (by decide) ?_
          exact ih (l3_2 + 1) H locs ls hf hP hD hS (lv_sub hl [1, 2, 0] rfl)
        · replace hf := o_pos c_3 hf
          refine lv_iconst (v := 1) hx hb d_RuleSet_hasName_21 (by decide) ?_
          rw [hQ, ← Option.some.inj hf]
          exact W.zret (ty := .boolean) hx hb hr rfl (fun t9 ht9 hW9 => ⟨rfl, by rw [ht9]; exact hP, hS.F ht9⟩) hS.2.2 d_RuleSet_hasName_22
  refine lp_2  fu 0 H locs ls hf hP hD hS (lv_sub hl [1, 2, 0] rfl)
def rm_RuleSet_openTest : Room := { frames := 0, cells := 0, slots := 0, locals := 0 }
set_option maxHeartbeats 4000000 in
set_option maxRecDepth 100000 in
theorem c_RuleSet_openTest (l : Launch) (dC : Nat → ClassId) (dI : Nat → Nat → Nat) (cI cL cC : ClassId) (h_this h_names h_spans h_costs h_sizes h_kinds h_firsts h_seconds h_numbers : Nat) (sz : Nat) (v_count : Int32) (v_sizes : Nat → Int32) (t : Int32) (hf : f_RuleSet_openTest v_count v_sizes = some t) : Met l y_RuleSet_openTest (Cond.code y_RuleSet_openTest prog_5_method_3_code 1 (some .int) :: xT) rm_RuleSet_openTest (va_Pc [.ref h_this] (xP (dC, dI) (xTy cI cL cC) [(h_this, .inr (3, [.ref h_names, .ref h_spans, .ref h_costs, .ref h_sizes, .ref h_kinds, .ref h_firsts, .ref h_seconds, .ref h_numbers, .int v_count])), (h_sizes, .inl (cI, 6, .inl v_sizes))] sz)) (xQ (dC, dI) [(h_this, .inr (3, [.ref h_names, .ref h_spans, .ref h_costs, .ref h_sizes, .ref h_kinds, .ref h_firsts, .ref h_seconds, .ref h_numbers, .int v_count])), (h_sizes, .inl (cI, 6, .inl v_sizes))] (va_A [(h_this, .inr (3, [.ref h_names, .ref h_spans, .ref h_costs, .ref h_sizes, .ref h_kinds, .ref h_firsts, .ref h_seconds, .ref h_numbers, .int v_count])), (h_sizes, .inl (cI, 6, .inl v_sizes))] sz) (some (.int t))) 0 0 (va_A [(h_this, .inr (3, [.ref h_names, .ref h_spans, .ref h_costs, .ref h_sizes, .ref h_kinds, .ref h_firsts, .ref h_seconds, .ref h_numbers, .int v_count])), (h_sizes, .inl (cI, 6, .inl v_sizes))] sz) := by
  refine Met.ofW (cc := prog_5_method_3_code) (maxL := 1) (ret := (some .int)) (by decide) rfl ?_
  intro p e s m args below meth c s₁ B hml hv
  obtain ⟨hargs, hsz, hP, hK, hN, hD0⟩ := hv
  have hx := B.exec
  have hb := B.bytes
  have hr := B.returns
  have hT : ∀ w ∈ xT, w.before args s = true := fun w hw => atoms_spec (ws := Cond.code y_RuleSet_openTest prog_5_method_3_code 1 (some .int) :: xT) B.pre w (List.mem_cons_of_mem _ hw)
  have hown : s.vm.findClass R_RuleSet = some m.cls := findClass_of_methodNamed B.named
  have hlocks := B.notSynchronized
  subst hsz
  have hD := hD0.self (sz := s.heap.size)
  generalize hAe : va_A [(h_this, .inr (3, [.ref h_names, .ref h_spans, .ref h_costs, .ref h_sizes, .ref h_kinds, .ref h_firsts, .ref h_seconds, .ref h_numbers, .int v_count])), (h_sizes, .inl (cI, 6, .inl v_sizes))] s.heap.size = A at hD ⊢
  have hA : ∀ q : Nat, s.heap.size ≤ q → A q := fun q h => by rw [← hAe]; exact Or.inr h
  have hS : va_S A s.heap s.heap [] := va_S.rf
  have hP : va_P (dC, dI) vwCl [(h_this, .inr (3, [.ref h_names, .ref h_spans, .ref h_costs, .ref h_sizes, .ref h_kinds, .ref h_firsts, .ref h_seconds, .ref h_numbers, .int v_count])), (h_sizes, .inl (cI, 6, .inl v_sizes))] s.heap := hP
  have hl := lv_entry ([.ref h_this]) (n := 1) (Nat.le_of_ble_eq_true rfl)
  rw [show entryFrame m args 1 = entryFrame m ([.ref h_this] : List Value).toArray 1 from by rw [hargs], lg_entry_eq]
  generalize (lg_sl ([.ref h_this]) ++ List.replicate (1 - (lg_sl ([.ref h_this])).length) Slot.unset).toArray = ls at hl ⊢
  have hl : lv_has ls 1 [(0, .ref h_this)] := hl
  obtain ⟨Q, hQ⟩ : ∃ Q, Q = MQ below (xQ (dC, dI) [(h_this, .inr (3, [.ref h_names, .ref h_spans, .ref h_costs, .ref h_sizes, .ref h_kinds, .ref h_firsts, .ref h_seconds, .ref h_numbers, .int v_count])), (h_sizes, .inl (cI, 6, .inl v_sizes))] A (some (.int t))) args s 0 0 A := ⟨_, rfl⟩
  rw [← hQ]
  show W p l e rm_RuleSet_openTest s m args below meth c s.heap [] 0 0 Q _
  obtain ⟨H, hH⟩ : ∃ H, H = s.heap := ⟨_, rfl⟩
  obtain ⟨locs, hlocs⟩ : ∃ L : List Loc, L = [] := ⟨_, rfl⟩
  rw [← hlocs] at hS ⊢
  have hS : va_S A s.heap H locs := by rw [hH]; exact hS
  rw [← hH] at hP ⊢
  replace hf := f_RuleSet_openTest_u hf
  refine lv_aload_n hx hb d_RuleSet_openTest_0 rfl (lv_at hl 0 rfl) ?_
  refine va_get (D := (dC, dI)) (ci := 3) (v := .int v_count) (C := R_RuleSet) (T := T_RuleSet) (N := 9) hx hb hT i_RuleSet hown hK hP 0 rfl rfl 8 (by decide) (hT _ kF_RuleSet_37) (fun _ h9 => h9) rfl d_RuleSet_openTest_1 ?_
  refine lv_bipush (v := 6) hx hb d_RuleSet_openTest_4 (by decide) ?_
  refine lv_imul hx hb d_RuleSet_openTest_6 ?_
  refine lv_aload_n hx hb d_RuleSet_openTest_7 rfl (lv_at hl 0 rfl) ?_
  refine va_get (D := (dC, dI)) (ci := 3) (v := .ref h_sizes) (C := R_RuleSet) (T := T_RuleSet) (N := 9) hx hb hT i_RuleSet hown hK hP 0 rfl rfl 3 (by decide) (hT _ kF_RuleSet_22) (fun _ h9 => h9) rfl d_RuleSet_openTest_8 ?_
  refine lv_aload_n hx hb d_RuleSet_openTest_11 rfl (lv_at hl 0 rfl) ?_
  refine va_get (D := (dC, dI)) (ci := 3) (v := .int v_count) (C := R_RuleSet) (T := T_RuleSet) (N := 9) hx hb hT i_RuleSet hown hK hP 0 rfl rfl 8 (by decide) (hT _ kF_RuleSet_37) (fun _ h9 => h9) rfl d_RuleSet_openTest_12 ?_
  obtain ⟨hi_1, hf⟩ := o_in hf
  refine va_iald hx hb hK hP 1 0 rfl rfl hi_1 d_RuleSet_openTest_15 ?_
  refine lv_iadd hx hb d_RuleSet_openTest_16 ?_
  rw [hQ, ← Option.some.inj hf]
  exact W.iret hx hb hr (fun t9 ht9 hW9 => ⟨rfl, by rw [ht9]; exact hP, hS.F ht9⟩) hS.2.2 d_RuleSet_openTest_17
def rm_RuleSet_relationHolds : Room := { frames := 1, cells := 0, slots := 0, locals := 21 }
set_option maxHeartbeats 4000000 in
set_option maxRecDepth 100000 in
theorem c_RuleSet_relationHolds (l : Launch) (dC : Nat → ClassId) (dI : Nat → Nat → Nat) (cI cL cC : ClassId) (h_this h_p2 h_names h_spans h_costs h_sizes h_kinds h_firsts h_seconds h_numbers h_p2_minutes h_p2_values h_p2_starts h_p2_seen : Nat) (sz : Nat) (v_count : Int32) (v_kinds : Nat → Int32) (v_firsts : Nat → Int32) (v_seconds : Nat → Int32) (v_numbers : Nat → Int32) (v_p2_values : Nat → Int32) (v_p2_starts : Nat → Int32) (v_p2_seen : Nat → Int32) (p1 : Int32) (t : Int32) (hf : f_RuleSet_relationHolds v_kinds v_firsts v_seconds v_numbers v_p2_values v_p2_starts v_p2_seen p1 = some t) : Met l y_RuleSet_relationHolds (Cond.code y_RuleSet_relationHolds prog_5_method_6_code 6 (some .boolean) :: xT) rm_RuleSet_relationHolds (va_Pc [.ref h_this, .int p1, .ref h_p2] (xP (dC, dI) (xTy cI cL cC) [(h_this, .inr (3, [.ref h_names, .ref h_spans, .ref h_costs, .ref h_sizes, .ref h_kinds, .ref h_firsts, .ref h_seconds, .ref h_numbers, .int v_count])), (h_kinds, .inl (cI, 36, .inl v_kinds)), (h_firsts, .inl (cI, 36, .inl v_firsts)), (h_seconds, .inl (cI, 36, .inl v_seconds)), (h_numbers, .inl (cI, 36, .inl v_numbers)), (h_p2, .inr (2, [.ref h_p2_minutes, .ref h_p2_values, .ref h_p2_starts, .ref h_p2_seen])), (h_p2_values, .inl (cI, 120, .inl v_p2_values)), (h_p2_starts, .inl (cI, 17, .inl v_p2_starts)), (h_p2_seen, .inl (cI, 16, .inl v_p2_seen))] sz)) (xQ (dC, dI) [(h_this, .inr (3, [.ref h_names, .ref h_spans, .ref h_costs, .ref h_sizes, .ref h_kinds, .ref h_firsts, .ref h_seconds, .ref h_numbers, .int v_count])), (h_kinds, .inl (cI, 36, .inl v_kinds)), (h_firsts, .inl (cI, 36, .inl v_firsts)), (h_seconds, .inl (cI, 36, .inl v_seconds)), (h_numbers, .inl (cI, 36, .inl v_numbers)), (h_p2, .inr (2, [.ref h_p2_minutes, .ref h_p2_values, .ref h_p2_starts, .ref h_p2_seen])), (h_p2_values, .inl (cI, 120, .inl v_p2_values)), (h_p2_starts, .inl (cI, 17, .inl v_p2_starts)), (h_p2_seen, .inl (cI, 16, .inl v_p2_seen))] (va_A [(h_this, .inr (3, [.ref h_names, .ref h_spans, .ref h_costs, .ref h_sizes, .ref h_kinds, .ref h_firsts, .ref h_seconds, .ref h_numbers, .int v_count])), (h_kinds, .inl (cI, 36, .inl v_kinds)), (h_firsts, .inl (cI, 36, .inl v_firsts)), (h_seconds, .inl (cI, 36, .inl v_seconds)), (h_numbers, .inl (cI, 36, .inl v_numbers)), (h_p2, .inr (2, [.ref h_p2_minutes, .ref h_p2_values, .ref h_p2_starts, .ref h_p2_seen])), (h_p2_values, .inl (cI, 120, .inl v_p2_values)), (h_p2_starts, .inl (cI, 17, .inl v_p2_starts)), (h_p2_seen, .inl (cI, 16, .inl v_p2_seen))] sz) (some (.int t))) 0 0 (va_A [(h_this, .inr (3, [.ref h_names, .ref h_spans, .ref h_costs, .ref h_sizes, .ref h_kinds, .ref h_firsts, .ref h_seconds, .ref h_numbers, .int v_count])), (h_kinds, .inl (cI, 36, .inl v_kinds)), (h_firsts, .inl (cI, 36, .inl v_firsts)), (h_seconds, .inl (cI, 36, .inl v_seconds)), (h_numbers, .inl (cI, 36, .inl v_numbers)), (h_p2, .inr (2, [.ref h_p2_minutes, .ref h_p2_values, .ref h_p2_starts, .ref h_p2_seen])), (h_p2_values, .inl (cI, 120, .inl v_p2_values)), (h_p2_starts, .inl (cI, 17, .inl v_p2_starts)), (h_p2_seen, .inl (cI, 16, .inl v_p2_seen))] sz) := by
  refine Met.ofW (cc := prog_5_method_6_code) (maxL := 6) (ret := (some .boolean)) (by decide) rfl ?_
  intro p e s m args below meth c s₁ B hml hv
  obtain ⟨hargs, hsz, hP, hK, hN, hD0⟩ := hv
  have hx := B.exec
  have hb := B.bytes
  have hr := B.returns
  have hT : ∀ w ∈ xT, w.before args s = true := fun w hw => atoms_spec (ws := Cond.code y_RuleSet_relationHolds prog_5_method_6_code 6 (some .boolean) :: xT) B.pre w (List.mem_cons_of_mem _ hw)
  have hown : s.vm.findClass R_RuleSet = some m.cls := findClass_of_methodNamed B.named
  have hlocks := B.notSynchronized
  subst hsz
  have hD := hD0.self (sz := s.heap.size)
  generalize hAe : va_A [(h_this, .inr (3, [.ref h_names, .ref h_spans, .ref h_costs, .ref h_sizes, .ref h_kinds, .ref h_firsts, .ref h_seconds, .ref h_numbers, .int v_count])), (h_kinds, .inl (cI, 36, .inl v_kinds)), (h_firsts, .inl (cI, 36, .inl v_firsts)), (h_seconds, .inl (cI, 36, .inl v_seconds)), (h_numbers, .inl (cI, 36, .inl v_numbers)), (h_p2, .inr (2, [.ref h_p2_minutes, .ref h_p2_values, .ref h_p2_starts, .ref h_p2_seen])), (h_p2_values, .inl (cI, 120, .inl v_p2_values)), (h_p2_starts, .inl (cI, 17, .inl v_p2_starts)), (h_p2_seen, .inl (cI, 16, .inl v_p2_seen))] s.heap.size = A at hD ⊢
  have hA : ∀ q : Nat, s.heap.size ≤ q → A q := fun q h => by rw [← hAe]; exact Or.inr h
  have hS : va_S A s.heap s.heap [] := va_S.rf
  have hP : va_P (dC, dI) vwCl [(h_this, .inr (3, [.ref h_names, .ref h_spans, .ref h_costs, .ref h_sizes, .ref h_kinds, .ref h_firsts, .ref h_seconds, .ref h_numbers, .int v_count])), (h_kinds, .inl (cI, 36, .inl v_kinds)), (h_firsts, .inl (cI, 36, .inl v_firsts)), (h_seconds, .inl (cI, 36, .inl v_seconds)), (h_numbers, .inl (cI, 36, .inl v_numbers)), (h_p2, .inr (2, [.ref h_p2_minutes, .ref h_p2_values, .ref h_p2_starts, .ref h_p2_seen])), (h_p2_values, .inl (cI, 120, .inl v_p2_values)), (h_p2_starts, .inl (cI, 17, .inl v_p2_starts)), (h_p2_seen, .inl (cI, 16, .inl v_p2_seen))] s.heap := hP
  have hl := lv_entry ([.ref h_this, .int p1, .ref h_p2]) (n := 6) (Nat.le_of_ble_eq_true rfl)
  rw [show entryFrame m args 6 = entryFrame m ([.ref h_this, .int p1, .ref h_p2] : List Value).toArray 6 from by rw [hargs], lg_entry_eq]
  generalize (lg_sl ([.ref h_this, .int p1, .ref h_p2]) ++ List.replicate (6 - (lg_sl ([.ref h_this, .int p1, .ref h_p2])).length) Slot.unset).toArray = ls at hl ⊢
  have hl : lv_has ls 6 [(0, .ref h_this), (1, .int p1), (2, .ref h_p2)] := hl
  obtain ⟨Q, hQ⟩ : ∃ Q, Q = MQ below (xQ (dC, dI) [(h_this, .inr (3, [.ref h_names, .ref h_spans, .ref h_costs, .ref h_sizes, .ref h_kinds, .ref h_firsts, .ref h_seconds, .ref h_numbers, .int v_count])), (h_kinds, .inl (cI, 36, .inl v_kinds)), (h_firsts, .inl (cI, 36, .inl v_firsts)), (h_seconds, .inl (cI, 36, .inl v_seconds)), (h_numbers, .inl (cI, 36, .inl v_numbers)), (h_p2, .inr (2, [.ref h_p2_minutes, .ref h_p2_values, .ref h_p2_starts, .ref h_p2_seen])), (h_p2_values, .inl (cI, 120, .inl v_p2_values)), (h_p2_starts, .inl (cI, 17, .inl v_p2_starts)), (h_p2_seen, .inl (cI, 16, .inl v_p2_seen))] A (some (.int t))) args s 0 0 A := ⟨_, rfl⟩
  rw [← hQ]
  show W p l e rm_RuleSet_relationHolds s m args below meth c s.heap [] 0 0 Q _
  obtain ⟨H, hH⟩ : ∃ H, H = s.heap := ⟨_, rfl⟩
  obtain ⟨locs, hlocs⟩ : ∃ L : List Loc, L = [] := ⟨_, rfl⟩
  rw [← hlocs] at hS ⊢
  have hS : va_S A s.heap H locs := by rw [hH]; exact hS
  rw [← hH] at hP ⊢
  replace hf := f_RuleSet_relationHolds_u hf
  refine lv_aload_n hx hb d_RuleSet_relationHolds_0 rfl (lv_at hl 2 rfl) ?_
  refine lv_aload_n hx hb d_RuleSet_relationHolds_1 rfl (lv_at hl 0 rfl) ?_
  refine va_get (D := (dC, dI)) (ci := 3) (v := .ref h_firsts) (C := R_RuleSet) (T := T_RuleSet) (N := 9) hx hb hT i_RuleSet hown hK hP 0 rfl rfl 5 (by decide) (hT _ kF_RuleSet_28) (fun _ h9 => h9) rfl d_RuleSet_relationHolds_2 ?_
  refine lv_iload_n hx hb d_RuleSet_relationHolds_5 rfl (lv_at hl 1 rfl) ?_
  obtain ⟨hi_1, hf⟩ := o_in hf
  refine va_iald hx hb hK hP 2 0 rfl rfl hi_1 d_RuleSet_relationHolds_6 ?_
  obtain ⟨t_2, hg_2, hf⟩ := o_bind hf
  refine x_virt (w' := [(h_this, .inr (3, [.ref h_names, .ref h_spans, .ref h_costs, .ref h_sizes, .ref h_kinds, .ref h_firsts, .ref h_seconds, .ref h_numbers, .int v_count])), (h_kinds, .inl (cI, 36, .inl v_kinds)), (h_firsts, .inl (cI, 36, .inl v_firsts)), (h_seconds, .inl (cI, 36, .inl v_seconds)), (h_numbers, .inl (cI, 36, .inl v_numbers)), (h_p2, .inr (2, [.ref h_p2_minutes, .ref h_p2_values, .ref h_p2_starts, .ref h_p2_seen])), (h_p2_values, .inl (cI, 120, .inl v_p2_values)), (h_p2_starts, .inl (cI, 17, .inl v_p2_starts)), (h_p2_seen, .inl (cI, 16, .inl v_p2_seen))]) (As := [.int (v_firsts (p1 : Int32).toNatClampNeg)]) (rest := []) hx hb hml hl.1 hown hT hK hN hP hD hS hA (c_Rows_latestValue l dC dI cI cL cC h_p2 h_p2_minutes h_p2_values h_p2_starts h_p2_seen H.size v_p2_values v_p2_starts v_p2_seen (v_firsts (p1 : Int32).toNatClampNeg) t_2 hg_2) kM_RuleSet_63 kI_Rows_latestValue kS_107 kN_Rows kC_Rows_latestValue hd_Rows_latestValue rfl 5 rfl rfl rfl ⟨Nat.le_of_ble_eq_true rfl, Nat.le_of_ble_eq_true rfl⟩ rfl rfl ⟨Nat.zero_le _, Nat.zero_le _⟩ rfl (Nat.le_of_ble_eq_true rfl) d_RuleSet_relationHolds_7 [5, 6, 7, 8] rfl rfl [.inl 0, .inl 1, .inl 2, .inl 3, .inl 4, .inr 0, .inr 1, .inr 2, .inr 3] rfl rfl rfl (fun H locs hP hD hS => ?_)
  refine lv_istore_n (lv' := [(3, .int t_2), (0, .ref h_this), (1, .int p1), (2, .ref h_p2)]) hx hb d_RuleSet_relationHolds_10 rfl hl (by decide) rfl (fun ls hl => ?_)
  refine lv_aload_n hx hb d_RuleSet_relationHolds_11 rfl (lv_at hl 1 rfl) ?_
  refine va_get (D := (dC, dI)) (ci := 3) (v := .ref h_seconds) (C := R_RuleSet) (T := T_RuleSet) (N := 9) hx hb hT i_RuleSet hown hK hP 0 rfl rfl 6 (by decide) (hT _ kF_RuleSet_31) (fun _ h9 => h9) rfl d_RuleSet_relationHolds_12 ?_
  refine lv_iload_n hx hb d_RuleSet_relationHolds_15 rfl (lv_at hl 2 rfl) ?_
  obtain ⟨hi_3, hf⟩ := o_in hf
  refine va_iald hx hb hK hP 3 0 rfl rfl hi_3 d_RuleSet_relationHolds_16 ?_
  refine lv_istore (lv' := [(4, .int (v_seconds (p1 : Int32).toNatClampNeg)), (3, .int t_2), (0, .ref h_this), (1, .int p1), (2, .ref h_p2)]) hx hb d_RuleSet_relationHolds_17 hl (by decide) rfl (fun ls hl => ?_)
  refine lv_iload hx hb d_RuleSet_relationHolds_19 (lv_at hl 0 rfl) ?_
  refine lv_iconst (v := (-1)) hx hb d_RuleSet_relationHolds_21 (by decide) ?_
  refine lv_icmp_eq (tgt := 45) hx hb d_RuleSet_relationHolds_22 (by decide) (fun c_4 => ?_) (fun c_4 => ?_)
  · replace hf := o_pos c_4 hf
    refine lv_aload_n hx hb d_RuleSet_relationHolds_45 rfl (lv_at hl 2 rfl) ?_
    refine va_get (D := (dC, dI)) (ci := 3) (v := .ref h_numbers) (C := R_RuleSet) (T := T_RuleSet) (N := 9) hx hb hT i_RuleSet hown hK hP 0 rfl rfl 7 (by decide) (hT _ kF_RuleSet_34) (fun _ h9 => h9) rfl d_RuleSet_relationHolds_46 ?_
    refine lv_iload_n hx hb d_RuleSet_relationHolds_49 rfl (lv_at hl 3 rfl) ?_
    obtain ⟨hi_5, hf⟩ := o_in hf
    refine va_iald hx hb hK hP 4 0 rfl rfl hi_5 d_RuleSet_relationHolds_50 ?_
    refine lv_istore (lv' := [(5, .int (v_numbers (p1 : Int32).toNatClampNeg)), (4, .int (v_seconds (p1 : Int32).toNatClampNeg)), (3, .int t_2), (0, .ref h_this), (1, .int p1), (2, .ref h_p2)]) hx hb d_RuleSet_relationHolds_51 hl (by decide) rfl (fun ls hl => ?_)
    refine lv_aload_n hx hb d_RuleSet_relationHolds_53 rfl (lv_at hl 3 rfl) ?_
    refine va_get (D := (dC, dI)) (ci := 3) (v := .ref h_kinds) (C := R_RuleSet) (T := T_RuleSet) (N := 9) hx hb hT i_RuleSet hown hK hP 0 rfl rfl 4 (by decide) (hT _ kF_RuleSet_25) (fun _ h9 => h9) rfl d_RuleSet_relationHolds_54 ?_
    refine lv_iload_n hx hb d_RuleSet_relationHolds_57 rfl (lv_at hl 4 rfl) ?_
    obtain ⟨hi_6, hf⟩ := o_in hf
    refine va_iald hx hb hK hP 1 0 rfl rfl hi_6 d_RuleSet_relationHolds_58 ?_
    rcases Decidable.em ((v_kinds (p1 : Int32).toNatClampNeg) = (11 : Int32)) with c_7 | c_7
    · replace hf := o_pos c_7 hf
      refine x_tabIn (tgt := 92) hx hb d_RuleSet_relationHolds_59 c_7 (by decide) (by decide) rfl (by decide) ?_
      refine lv_iload_n hx hb d_RuleSet_relationHolds_92 rfl (lv_at hl 2 rfl) ?_
      refine lv_iload hx hb d_RuleSet_relationHolds_93 (lv_at hl 0 rfl) ?_
      refine lv_icmp_ge (tgt := 102) hx hb d_RuleSet_relationHolds_95 (by decide) (fun c_8 => ?_) (fun c_8 => ?_)
      · replace hf := o_pos c_8 hf
        refine lv_iconst (v := 0) hx hb d_RuleSet_relationHolds_102 (by decide) ?_
        rw [hQ, ← Option.some.inj hf]
        exact W.zret (ty := .boolean) hx hb hr rfl (fun t9 ht9 hW9 => ⟨rfl, by rw [ht9]; exact hP, hS.F ht9⟩) hS.2.2 d_RuleSet_relationHolds_103
      · replace hf := o_neg c_8 hf
        refine lv_iconst (v := 1) hx hb d_RuleSet_relationHolds_98 (by decide) ?_
        refine lv_goto (tgt := 103) hx hb d_RuleSet_relationHolds_99 (by decide) ?_
        rw [hQ, ← Option.some.inj hf]
        exact W.zret (ty := .boolean) hx hb hr rfl (fun t9 ht9 hW9 => ⟨rfl, by rw [ht9]; exact hP, hS.F ht9⟩) hS.2.2 d_RuleSet_relationHolds_103
    replace hf := o_neg c_7 hf
    rcases Decidable.em ((v_kinds (p1 : Int32).toNatClampNeg) = (12 : Int32)) with c_9 | c_9
    · replace hf := o_pos c_9 hf
      refine x_tabIn (tgt := 104) hx hb d_RuleSet_relationHolds_59 c_9 (by decide) (by decide) rfl (by decide) ?_
      refine lv_iload_n hx hb d_RuleSet_relationHolds_104 rfl (lv_at hl 2 rfl) ?_
      refine lv_iload hx hb d_RuleSet_relationHolds_105 (lv_at hl 0 rfl) ?_
      refine lv_icmp_gt (tgt := 114) hx hb d_RuleSet_relationHolds_107 (by decide) (fun c_10 => ?_) (fun c_10 => ?_)
      · replace hf := o_pos c_10 hf
        refine lv_iconst (v := 0) hx hb d_RuleSet_relationHolds_114 (by decide) ?_
        rw [hQ, ← Option.some.inj hf]
        exact W.zret (ty := .boolean) hx hb hr rfl (fun t9 ht9 hW9 => ⟨rfl, by rw [ht9]; exact hP, hS.F ht9⟩) hS.2.2 d_RuleSet_relationHolds_115
      · replace hf := o_neg c_10 hf
        refine lv_iconst (v := 1) hx hb d_RuleSet_relationHolds_110 (by decide) ?_
        refine lv_goto (tgt := 115) hx hb d_RuleSet_relationHolds_111 (by decide) ?_
        rw [hQ, ← Option.some.inj hf]
        exact W.zret (ty := .boolean) hx hb hr rfl (fun t9 ht9 hW9 => ⟨rfl, by rw [ht9]; exact hP, hS.F ht9⟩) hS.2.2 d_RuleSet_relationHolds_115
    replace hf := o_neg c_9 hf
    rcases Decidable.em ((v_kinds (p1 : Int32).toNatClampNeg) = (13 : Int32)) with c_11 | c_11
    · replace hf := o_pos c_11 hf
      refine x_tabIn (tgt := 116) hx hb d_RuleSet_relationHolds_59 c_11 (by decide) (by decide) rfl (by decide) ?_
      refine lv_iload_n hx hb d_RuleSet_relationHolds_116 rfl (lv_at hl 2 rfl) ?_
      refine lv_iload hx hb d_RuleSet_relationHolds_117 (lv_at hl 0 rfl) ?_
      refine lv_icmp_ne (tgt := 126) hx hb d_RuleSet_relationHolds_119 (by decide) (fun c_12 => ?_) (fun c_12 => ?_)
      · replace hf := o_neg c_12 hf
        refine lv_iconst (v := 0) hx hb d_RuleSet_relationHolds_126 (by decide) ?_
        rw [hQ, ← Option.some.inj hf]
        exact W.zret (ty := .boolean) hx hb hr rfl (fun t9 ht9 hW9 => ⟨rfl, by rw [ht9]; exact hP, hS.F ht9⟩) hS.2.2 d_RuleSet_relationHolds_127
      · replace hf := o_pos c_12 hf
        refine lv_iconst (v := 1) hx hb d_RuleSet_relationHolds_122 (by decide) ?_
        refine lv_goto (tgt := 127) hx hb d_RuleSet_relationHolds_123 (by decide) ?_
        rw [hQ, ← Option.some.inj hf]
        exact W.zret (ty := .boolean) hx hb hr rfl (fun t9 ht9 hW9 => ⟨rfl, by rw [ht9]; exact hP, hS.F ht9⟩) hS.2.2 d_RuleSet_relationHolds_127
    replace hf := o_neg c_11 hf
    rcases Decidable.em ((v_kinds (p1 : Int32).toNatClampNeg) = (14 : Int32)) with c_13 | c_13
    · replace hf := o_pos c_13 hf
      refine x_tabIn (tgt := 128) hx hb d_RuleSet_relationHolds_59 c_13 (by decide) (by decide) rfl (by decide) ?_
      refine lv_iload_n hx hb d_RuleSet_relationHolds_128 rfl (lv_at hl 2 rfl) ?_
      refine lv_iload hx hb d_RuleSet_relationHolds_129 (lv_at hl 0 rfl) ?_
      refine lv_icmp_lt (tgt := 138) hx hb d_RuleSet_relationHolds_131 (by decide) (fun c_14 => ?_) (fun c_14 => ?_)
      · replace hf := o_pos c_14 hf
        refine lv_iconst (v := 0) hx hb d_RuleSet_relationHolds_138 (by decide) ?_
        rw [hQ, ← Option.some.inj hf]
        exact W.zret (ty := .boolean) hx hb hr rfl (fun t9 ht9 hW9 => ⟨rfl, by rw [ht9]; exact hP, hS.F ht9⟩) hS.2.2 d_RuleSet_relationHolds_139
      · replace hf := o_neg c_14 hf
        refine lv_iconst (v := 1) hx hb d_RuleSet_relationHolds_134 (by decide) ?_
        refine lv_goto (tgt := 139) hx hb d_RuleSet_relationHolds_135 (by decide) ?_
        rw [hQ, ← Option.some.inj hf]
        exact W.zret (ty := .boolean) hx hb hr rfl (fun t9 ht9 hW9 => ⟨rfl, by rw [ht9]; exact hP, hS.F ht9⟩) hS.2.2 d_RuleSet_relationHolds_139
    replace hf := o_neg c_13 hf
    rcases Decidable.em ((v_kinds (p1 : Int32).toNatClampNeg) = (15 : Int32)) with c_15 | c_15
    · replace hf := o_pos c_15 hf
      refine x_tabIn (tgt := 140) hx hb d_RuleSet_relationHolds_59 c_15 (by decide) (by decide) rfl (by decide) ?_
      refine lv_iload_n hx hb d_RuleSet_relationHolds_140 rfl (lv_at hl 2 rfl) ?_
      refine lv_iload hx hb d_RuleSet_relationHolds_141 (lv_at hl 0 rfl) ?_
      refine lv_icmp_le (tgt := 150) hx hb d_RuleSet_relationHolds_143 (by decide) (fun c_16 => ?_) (fun c_16 => ?_)
      · replace hf := o_pos c_16 hf
        refine lv_iconst (v := 0) hx hb d_RuleSet_relationHolds_150 (by decide) ?_
        rw [hQ, ← Option.some.inj hf]
        exact W.zret (ty := .boolean) hx hb hr rfl (fun t9 ht9 hW9 => ⟨rfl, by rw [ht9]; exact hP, hS.F ht9⟩) hS.2.2 d_RuleSet_relationHolds_151
      · replace hf := o_neg c_16 hf
        refine lv_iconst (v := 1) hx hb d_RuleSet_relationHolds_146 (by decide) ?_
        refine lv_goto (tgt := 151) hx hb d_RuleSet_relationHolds_147 (by decide) ?_
        rw [hQ, ← Option.some.inj hf]
        exact W.zret (ty := .boolean) hx hb hr rfl (fun t9 ht9 hW9 => ⟨rfl, by rw [ht9]; exact hP, hS.F ht9⟩) hS.2.2 d_RuleSet_relationHolds_151
    replace hf := o_neg c_15 hf
    refine lv_tableOut (tgt := 152) hx hb d_RuleSet_relationHolds_59 (by have q_7 : ¬ (11 : Int) = (v_kinds (p1 : Int32).toNatClampNeg : Int32).toInt := x_ne c_7; have q_9 : ¬ (12 : Int) = (v_kinds (p1 : Int32).toNatClampNeg : Int32).toInt := x_ne c_9; have q_11 : ¬ (13 : Int) = (v_kinds (p1 : Int32).toNatClampNeg : Int32).toInt := x_ne c_11; have q_13 : ¬ (14 : Int) = (v_kinds (p1 : Int32).toNatClampNeg : Int32).toInt := x_ne c_13; have q_15 : ¬ (15 : Int) = (v_kinds (p1 : Int32).toNatClampNeg : Int32).toInt := x_ne c_15; omega) (by decide) ?_
    refine lv_iconst (v := 0) hx hb d_RuleSet_relationHolds_152 (by decide) ?_
    rw [hQ, ← Option.some.inj hf]
    exact W.zret (ty := .boolean) hx hb hr rfl (fun t9 ht9 hW9 => ⟨rfl, by rw [ht9]; exact hP, hS.F ht9⟩) hS.2.2 d_RuleSet_relationHolds_153
  · replace hf := o_neg c_4 hf
    refine lv_aload_n hx hb d_RuleSet_relationHolds_25 rfl (lv_at hl 4 rfl) ?_
    refine lv_iload hx hb d_RuleSet_relationHolds_26 (lv_at hl 0 rfl) ?_
    obtain ⟨t_17, hg_17, hf⟩ := o_bind hf
    refine x_virt (w' := [(h_this, .inr (3, [.ref h_names, .ref h_spans, .ref h_costs, .ref h_sizes, .ref h_kinds, .ref h_firsts, .ref h_seconds, .ref h_numbers, .int v_count])), (h_kinds, .inl (cI, 36, .inl v_kinds)), (h_firsts, .inl (cI, 36, .inl v_firsts)), (h_seconds, .inl (cI, 36, .inl v_seconds)), (h_numbers, .inl (cI, 36, .inl v_numbers)), (h_p2, .inr (2, [.ref h_p2_minutes, .ref h_p2_values, .ref h_p2_starts, .ref h_p2_seen])), (h_p2_values, .inl (cI, 120, .inl v_p2_values)), (h_p2_starts, .inl (cI, 17, .inl v_p2_starts)), (h_p2_seen, .inl (cI, 16, .inl v_p2_seen))]) (As := [.int (v_seconds (p1 : Int32).toNatClampNeg)]) (rest := []) hx hb hml hl.1 hown hT hK hN hP hD hS hA (c_Rows_has l dC dI cI cL cC h_p2 h_p2_minutes h_p2_values h_p2_starts h_p2_seen H.size v_p2_seen (v_seconds (p1 : Int32).toNatClampNeg) t_17 hg_17) kM_RuleSet_45 kI_Rows_has kS_110 kN_Rows kC_Rows_has hd_Rows_has rfl 5 rfl rfl rfl ⟨Nat.le_of_ble_eq_true rfl, Nat.le_of_ble_eq_true rfl⟩ rfl rfl ⟨Nat.zero_le _, Nat.zero_le _⟩ rfl (Nat.le_of_ble_eq_true rfl) d_RuleSet_relationHolds_28 [5, 8] rfl rfl [.inl 0, .inl 1, .inl 2, .inl 3, .inl 4, .inr 0, .inl 6, .inl 7, .inr 1] rfl rfl rfl (fun H locs hP hD hS => ?_)
    refine lv_if_ne (tgt := 36) hx hb d_RuleSet_relationHolds_31 (by decide) (fun c_18 => ?_) (fun c_18 => ?_)
    · replace hf := o_neg c_18 hf
      refine lv_iload_n hx hb d_RuleSet_relationHolds_36 rfl (lv_at hl 1 rfl) ?_
      refine lv_aload_n hx hb d_RuleSet_relationHolds_37 rfl (lv_at hl 4 rfl) ?_
      refine lv_iload hx hb d_RuleSet_relationHolds_38 (lv_at hl 0 rfl) ?_
      obtain ⟨t_19, hg_19, hf⟩ := o_bind hf
      refine x_virt (w' := [(h_this, .inr (3, [.ref h_names, .ref h_spans, .ref h_costs, .ref h_sizes, .ref h_kinds, .ref h_firsts, .ref h_seconds, .ref h_numbers, .int v_count])), (h_kinds, .inl (cI, 36, .inl v_kinds)), (h_firsts, .inl (cI, 36, .inl v_firsts)), (h_seconds, .inl (cI, 36, .inl v_seconds)), (h_numbers, .inl (cI, 36, .inl v_numbers)), (h_p2, .inr (2, [.ref h_p2_minutes, .ref h_p2_values, .ref h_p2_starts, .ref h_p2_seen])), (h_p2_values, .inl (cI, 120, .inl v_p2_values)), (h_p2_starts, .inl (cI, 17, .inl v_p2_starts)), (h_p2_seen, .inl (cI, 16, .inl v_p2_seen))]) (As := [.int (v_seconds (p1 : Int32).toNatClampNeg)]) (rest := [.int t_2]) hx hb hml hl.1 hown hT hK hN hP hD hS hA (c_Rows_latestValue l dC dI cI cL cC h_p2 h_p2_minutes h_p2_values h_p2_starts h_p2_seen H.size v_p2_values v_p2_starts v_p2_seen (v_seconds (p1 : Int32).toNatClampNeg) t_19 hg_19) kM_RuleSet_63 kI_Rows_latestValue kS_107 kN_Rows kC_Rows_latestValue hd_Rows_latestValue rfl 5 rfl rfl rfl ⟨Nat.le_of_ble_eq_true rfl, Nat.le_of_ble_eq_true rfl⟩ rfl rfl ⟨Nat.zero_le _, Nat.zero_le _⟩ rfl (Nat.le_of_ble_eq_true rfl) d_RuleSet_relationHolds_40 [5, 6, 7, 8] rfl rfl [.inl 0, .inl 1, .inl 2, .inl 3, .inl 4, .inr 0, .inr 1, .inr 2, .inr 3] rfl rfl rfl (fun H locs hP hD hS => ?_)
      refine lv_isub hx hb d_RuleSet_relationHolds_43 ?_
      refine lv_istore_n (lv' := [(3, .int (t_2 - t_19)), (4, .int (v_seconds (p1 : Int32).toNatClampNeg)), (0, .ref h_this), (1, .int p1), (2, .ref h_p2)]) hx hb d_RuleSet_relationHolds_44 rfl hl (by decide) rfl (fun ls hl => ?_)
      refine lv_aload_n hx hb d_RuleSet_relationHolds_45 rfl (lv_at hl 2 rfl) ?_
      refine va_get (D := (dC, dI)) (ci := 3) (v := .ref h_numbers) (C := R_RuleSet) (T := T_RuleSet) (N := 9) hx hb hT i_RuleSet hown hK hP 0 rfl rfl 7 (by decide) (hT _ kF_RuleSet_34) (fun _ h9 => h9) rfl d_RuleSet_relationHolds_46 ?_
      refine lv_iload_n hx hb d_RuleSet_relationHolds_49 rfl (lv_at hl 3 rfl) ?_
      obtain ⟨hi_20, hf⟩ := o_in hf
      refine va_iald hx hb hK hP 4 0 rfl rfl hi_20 d_RuleSet_relationHolds_50 ?_
      refine lv_istore (lv' := [(5, .int (v_numbers (p1 : Int32).toNatClampNeg)), (3, .int (t_2 - t_19)), (4, .int (v_seconds (p1 : Int32).toNatClampNeg)), (0, .ref h_this), (1, .int p1), (2, .ref h_p2)]) hx hb d_RuleSet_relationHolds_51 hl (by decide) rfl (fun ls hl => ?_)
      refine lv_aload_n hx hb d_RuleSet_relationHolds_53 rfl (lv_at hl 3 rfl) ?_
      refine va_get (D := (dC, dI)) (ci := 3) (v := .ref h_kinds) (C := R_RuleSet) (T := T_RuleSet) (N := 9) hx hb hT i_RuleSet hown hK hP 0 rfl rfl 4 (by decide) (hT _ kF_RuleSet_25) (fun _ h9 => h9) rfl d_RuleSet_relationHolds_54 ?_
      refine lv_iload_n hx hb d_RuleSet_relationHolds_57 rfl (lv_at hl 4 rfl) ?_
      obtain ⟨hi_21, hf⟩ := o_in hf
      refine va_iald hx hb hK hP 1 0 rfl rfl hi_21 d_RuleSet_relationHolds_58 ?_
      rcases Decidable.em ((v_kinds (p1 : Int32).toNatClampNeg) = (11 : Int32)) with c_22 | c_22
      · replace hf := o_pos c_22 hf
        refine x_tabIn (tgt := 92) hx hb d_RuleSet_relationHolds_59 c_22 (by decide) (by decide) rfl (by decide) ?_
        refine lv_iload_n hx hb d_RuleSet_relationHolds_92 rfl (lv_at hl 1 rfl) ?_
        refine lv_iload hx hb d_RuleSet_relationHolds_93 (lv_at hl 0 rfl) ?_
        refine lv_icmp_ge (tgt := 102) hx hb d_RuleSet_relationHolds_95 (by decide) (fun c_23 => ?_) (fun c_23 => ?_)
        · replace hf := o_pos c_23 hf
          refine lv_iconst (v := 0) hx hb d_RuleSet_relationHolds_102 (by decide) ?_
          rw [hQ, ← Option.some.inj hf]
          exact W.zret (ty := .boolean) hx hb hr rfl (fun t9 ht9 hW9 => ⟨rfl, by rw [ht9]; exact hP, hS.F ht9⟩) hS.2.2 d_RuleSet_relationHolds_103
        · replace hf := o_neg c_23 hf
          refine lv_iconst (v := 1) hx hb d_RuleSet_relationHolds_98 (by decide) ?_
          refine lv_goto (tgt := 103) hx hb d_RuleSet_relationHolds_99 (by decide) ?_
          rw [hQ, ← Option.some.inj hf]
          exact W.zret (ty := .boolean) hx hb hr rfl (fun t9 ht9 hW9 => ⟨rfl, by rw [ht9]; exact hP, hS.F ht9⟩) hS.2.2 d_RuleSet_relationHolds_103
      replace hf := o_neg c_22 hf
      rcases Decidable.em ((v_kinds (p1 : Int32).toNatClampNeg) = (12 : Int32)) with c_24 | c_24
      · replace hf := o_pos c_24 hf
        refine x_tabIn (tgt := 104) hx hb d_RuleSet_relationHolds_59 c_24 (by decide) (by decide) rfl (by decide) ?_
        refine lv_iload_n hx hb d_RuleSet_relationHolds_104 rfl (lv_at hl 1 rfl) ?_
        refine lv_iload hx hb d_RuleSet_relationHolds_105 (lv_at hl 0 rfl) ?_
        refine lv_icmp_gt (tgt := 114) hx hb d_RuleSet_relationHolds_107 (by decide) (fun c_25 => ?_) (fun c_25 => ?_)
        · replace hf := o_pos c_25 hf
          refine lv_iconst (v := 0) hx hb d_RuleSet_relationHolds_114 (by decide) ?_
          rw [hQ, ← Option.some.inj hf]
          exact W.zret (ty := .boolean) hx hb hr rfl (fun t9 ht9 hW9 => ⟨rfl, by rw [ht9]; exact hP, hS.F ht9⟩) hS.2.2 d_RuleSet_relationHolds_115
        · replace hf := o_neg c_25 hf
          refine lv_iconst (v := 1) hx hb d_RuleSet_relationHolds_110 (by decide) ?_
          refine lv_goto (tgt := 115) hx hb d_RuleSet_relationHolds_111 (by decide) ?_
          rw [hQ, ← Option.some.inj hf]
          exact W.zret (ty := .boolean) hx hb hr rfl (fun t9 ht9 hW9 => ⟨rfl, by rw [ht9]; exact hP, hS.F ht9⟩) hS.2.2 d_RuleSet_relationHolds_115
      replace hf := o_neg c_24 hf
      rcases Decidable.em ((v_kinds (p1 : Int32).toNatClampNeg) = (13 : Int32)) with c_26 | c_26
      · replace hf := o_pos c_26 hf
        refine x_tabIn (tgt := 116) hx hb d_RuleSet_relationHolds_59 c_26 (by decide) (by decide) rfl (by decide) ?_
        refine lv_iload_n hx hb d_RuleSet_relationHolds_116 rfl (lv_at hl 1 rfl) ?_
        refine lv_iload hx hb d_RuleSet_relationHolds_117 (lv_at hl 0 rfl) ?_
        refine lv_icmp_ne (tgt := 126) hx hb d_RuleSet_relationHolds_119 (by decide) (fun c_27 => ?_) (fun c_27 => ?_)
        · replace hf := o_neg c_27 hf
          refine lv_iconst (v := 0) hx hb d_RuleSet_relationHolds_126 (by decide) ?_
          rw [hQ, ← Option.some.inj hf]
          exact W.zret (ty := .boolean) hx hb hr rfl (fun t9 ht9 hW9 => ⟨rfl, by rw [ht9]; exact hP, hS.F ht9⟩) hS.2.2 d_RuleSet_relationHolds_127
        · replace hf := o_pos c_27 hf
          refine lv_iconst (v := 1) hx hb d_RuleSet_relationHolds_122 (by decide) ?_
          refine lv_goto (tgt := 127) hx hb d_RuleSet_relationHolds_123 (by decide) ?_
          rw [hQ, ← Option.some.inj hf]
          exact W.zret (ty := .boolean) hx hb hr rfl (fun t9 ht9 hW9 => ⟨rfl, by rw [ht9]; exact hP, hS.F ht9⟩) hS.2.2 d_RuleSet_relationHolds_127
      replace hf := o_neg c_26 hf
      rcases Decidable.em ((v_kinds (p1 : Int32).toNatClampNeg) = (14 : Int32)) with c_28 | c_28
      · replace hf := o_pos c_28 hf
        refine x_tabIn (tgt := 128) hx hb d_RuleSet_relationHolds_59 c_28 (by decide) (by decide) rfl (by decide) ?_
        refine lv_iload_n hx hb d_RuleSet_relationHolds_128 rfl (lv_at hl 1 rfl) ?_
        refine lv_iload hx hb d_RuleSet_relationHolds_129 (lv_at hl 0 rfl) ?_
        refine lv_icmp_lt (tgt := 138) hx hb d_RuleSet_relationHolds_131 (by decide) (fun c_29 => ?_) (fun c_29 => ?_)
        · replace hf := o_pos c_29 hf
          refine lv_iconst (v := 0) hx hb d_RuleSet_relationHolds_138 (by decide) ?_
          rw [hQ, ← Option.some.inj hf]
          exact W.zret (ty := .boolean) hx hb hr rfl (fun t9 ht9 hW9 => ⟨rfl, by rw [ht9]; exact hP, hS.F ht9⟩) hS.2.2 d_RuleSet_relationHolds_139
        · replace hf := o_neg c_29 hf
          refine lv_iconst (v := 1) hx hb d_RuleSet_relationHolds_134 (by decide) ?_
          refine lv_goto (tgt := 139) hx hb d_RuleSet_relationHolds_135 (by decide) ?_
          rw [hQ, ← Option.some.inj hf]
          exact W.zret (ty := .boolean) hx hb hr rfl (fun t9 ht9 hW9 => ⟨rfl, by rw [ht9]; exact hP, hS.F ht9⟩) hS.2.2 d_RuleSet_relationHolds_139
      replace hf := o_neg c_28 hf
      rcases Decidable.em ((v_kinds (p1 : Int32).toNatClampNeg) = (15 : Int32)) with c_30 | c_30
      · replace hf := o_pos c_30 hf
        refine x_tabIn (tgt := 140) hx hb d_RuleSet_relationHolds_59 c_30 (by decide) (by decide) rfl (by decide) ?_
        refine lv_iload_n hx hb d_RuleSet_relationHolds_140 rfl (lv_at hl 1 rfl) ?_
        refine lv_iload hx hb d_RuleSet_relationHolds_141 (lv_at hl 0 rfl) ?_
        refine lv_icmp_le (tgt := 150) hx hb d_RuleSet_relationHolds_143 (by decide) (fun c_31 => ?_) (fun c_31 => ?_)
        · replace hf := o_pos c_31 hf
          refine lv_iconst (v := 0) hx hb d_RuleSet_relationHolds_150 (by decide) ?_
          rw [hQ, ← Option.some.inj hf]
          exact W.zret (ty := .boolean) hx hb hr rfl (fun t9 ht9 hW9 => ⟨rfl, by rw [ht9]; exact hP, hS.F ht9⟩) hS.2.2 d_RuleSet_relationHolds_151
        · replace hf := o_neg c_31 hf
          refine lv_iconst (v := 1) hx hb d_RuleSet_relationHolds_146 (by decide) ?_
          refine lv_goto (tgt := 151) hx hb d_RuleSet_relationHolds_147 (by decide) ?_
          rw [hQ, ← Option.some.inj hf]
          exact W.zret (ty := .boolean) hx hb hr rfl (fun t9 ht9 hW9 => ⟨rfl, by rw [ht9]; exact hP, hS.F ht9⟩) hS.2.2 d_RuleSet_relationHolds_151
      replace hf := o_neg c_30 hf
      refine lv_tableOut (tgt := 152) hx hb d_RuleSet_relationHolds_59 (by have q_22 : ¬ (11 : Int) = (v_kinds (p1 : Int32).toNatClampNeg : Int32).toInt := x_ne c_22; have q_24 : ¬ (12 : Int) = (v_kinds (p1 : Int32).toNatClampNeg : Int32).toInt := x_ne c_24; have q_26 : ¬ (13 : Int) = (v_kinds (p1 : Int32).toNatClampNeg : Int32).toInt := x_ne c_26; have q_28 : ¬ (14 : Int) = (v_kinds (p1 : Int32).toNatClampNeg : Int32).toInt := x_ne c_28; have q_30 : ¬ (15 : Int) = (v_kinds (p1 : Int32).toNatClampNeg : Int32).toInt := x_ne c_30; omega) (by decide) ?_
      refine lv_iconst (v := 0) hx hb d_RuleSet_relationHolds_152 (by decide) ?_
      rw [hQ, ← Option.some.inj hf]
      exact W.zret (ty := .boolean) hx hb hr rfl (fun t9 ht9 hW9 => ⟨rfl, by rw [ht9]; exact hP, hS.F ht9⟩) hS.2.2 d_RuleSet_relationHolds_153
    · replace hf := o_pos c_18 hf
      refine lv_iconst (v := 0) hx hb d_RuleSet_relationHolds_34 (by decide) ?_
      rw [hQ, ← Option.some.inj hf]
      exact W.zret (ty := .boolean) hx hb hr rfl (fun t9 ht9 hW9 => ⟨rfl, by rw [ht9]; exact hP, hS.F ht9⟩) hS.2.2 d_RuleSet_relationHolds_35
def rm_RuleSet_testHolds : Room := { frames := 2, cells := 0, slots := 0, locals := 62 }
set_option maxHeartbeats 4000000 in
set_option maxRecDepth 100000 in
theorem c_RuleSet_testHolds (l : Launch) (dC : Nat → ClassId) (dI : Nat → Nat → Nat) (cI cL cC : ClassId) (h_this h_p2 h_names h_spans h_costs h_sizes h_kinds h_firsts h_seconds h_numbers h_p2_minutes h_p2_values h_p2_starts h_p2_seen : Nat) (sz : Nat) (v_count : Int32) (v_kinds : Nat → Int32) (v_firsts : Nat → Int32) (v_seconds : Nat → Int32) (v_numbers : Nat → Int32) (v_p2_minutes : Nat → Int32) (v_p2_values : Nat → Int32) (v_p2_starts : Nat → Int32) (v_p2_seen : Nat → Int32) (p1 : Int32) (p3 : Int32) (t : Int32) (hf : f_RuleSet_testHolds v_kinds v_firsts v_seconds v_numbers v_p2_minutes v_p2_values v_p2_starts v_p2_seen p1 p3 = some t) : Met l y_RuleSet_testHolds (Cond.code y_RuleSet_testHolds prog_5_method_5_code 7 (some .boolean) :: xT) rm_RuleSet_testHolds (va_Pc [.ref h_this, .int p1, .ref h_p2, .int p3] (xP (dC, dI) (xTy cI cL cC) [(h_this, .inr (3, [.ref h_names, .ref h_spans, .ref h_costs, .ref h_sizes, .ref h_kinds, .ref h_firsts, .ref h_seconds, .ref h_numbers, .int v_count])), (h_kinds, .inl (cI, 36, .inl v_kinds)), (h_firsts, .inl (cI, 36, .inl v_firsts)), (h_seconds, .inl (cI, 36, .inl v_seconds)), (h_numbers, .inl (cI, 36, .inl v_numbers)), (h_p2, .inr (2, [.ref h_p2_minutes, .ref h_p2_values, .ref h_p2_starts, .ref h_p2_seen])), (h_p2_minutes, .inl (cI, 120, .inl v_p2_minutes)), (h_p2_values, .inl (cI, 120, .inl v_p2_values)), (h_p2_starts, .inl (cI, 17, .inl v_p2_starts)), (h_p2_seen, .inl (cI, 16, .inl v_p2_seen))] sz)) (xQ (dC, dI) [(h_this, .inr (3, [.ref h_names, .ref h_spans, .ref h_costs, .ref h_sizes, .ref h_kinds, .ref h_firsts, .ref h_seconds, .ref h_numbers, .int v_count])), (h_kinds, .inl (cI, 36, .inl v_kinds)), (h_firsts, .inl (cI, 36, .inl v_firsts)), (h_seconds, .inl (cI, 36, .inl v_seconds)), (h_numbers, .inl (cI, 36, .inl v_numbers)), (h_p2, .inr (2, [.ref h_p2_minutes, .ref h_p2_values, .ref h_p2_starts, .ref h_p2_seen])), (h_p2_minutes, .inl (cI, 120, .inl v_p2_minutes)), (h_p2_values, .inl (cI, 120, .inl v_p2_values)), (h_p2_starts, .inl (cI, 17, .inl v_p2_starts)), (h_p2_seen, .inl (cI, 16, .inl v_p2_seen))] (va_A [(h_this, .inr (3, [.ref h_names, .ref h_spans, .ref h_costs, .ref h_sizes, .ref h_kinds, .ref h_firsts, .ref h_seconds, .ref h_numbers, .int v_count])), (h_kinds, .inl (cI, 36, .inl v_kinds)), (h_firsts, .inl (cI, 36, .inl v_firsts)), (h_seconds, .inl (cI, 36, .inl v_seconds)), (h_numbers, .inl (cI, 36, .inl v_numbers)), (h_p2, .inr (2, [.ref h_p2_minutes, .ref h_p2_values, .ref h_p2_starts, .ref h_p2_seen])), (h_p2_minutes, .inl (cI, 120, .inl v_p2_minutes)), (h_p2_values, .inl (cI, 120, .inl v_p2_values)), (h_p2_starts, .inl (cI, 17, .inl v_p2_starts)), (h_p2_seen, .inl (cI, 16, .inl v_p2_seen))] sz) (some (.int t))) 0 0 (va_A [(h_this, .inr (3, [.ref h_names, .ref h_spans, .ref h_costs, .ref h_sizes, .ref h_kinds, .ref h_firsts, .ref h_seconds, .ref h_numbers, .int v_count])), (h_kinds, .inl (cI, 36, .inl v_kinds)), (h_firsts, .inl (cI, 36, .inl v_firsts)), (h_seconds, .inl (cI, 36, .inl v_seconds)), (h_numbers, .inl (cI, 36, .inl v_numbers)), (h_p2, .inr (2, [.ref h_p2_minutes, .ref h_p2_values, .ref h_p2_starts, .ref h_p2_seen])), (h_p2_minutes, .inl (cI, 120, .inl v_p2_minutes)), (h_p2_values, .inl (cI, 120, .inl v_p2_values)), (h_p2_starts, .inl (cI, 17, .inl v_p2_starts)), (h_p2_seen, .inl (cI, 16, .inl v_p2_seen))] sz) := by
  refine Met.ofW (cc := prog_5_method_5_code) (maxL := 7) (ret := (some .boolean)) (by decide) rfl ?_
  intro p e s m args below meth c s₁ B hml hv
  obtain ⟨hargs, hsz, hP, hK, hN, hD0⟩ := hv
  have hx := B.exec
  have hb := B.bytes
  have hr := B.returns
  have hT : ∀ w ∈ xT, w.before args s = true := fun w hw => atoms_spec (ws := Cond.code y_RuleSet_testHolds prog_5_method_5_code 7 (some .boolean) :: xT) B.pre w (List.mem_cons_of_mem _ hw)
  have hown : s.vm.findClass R_RuleSet = some m.cls := findClass_of_methodNamed B.named
  have hlocks := B.notSynchronized
  subst hsz
  have hD := hD0.self (sz := s.heap.size)
  generalize hAe : va_A [(h_this, .inr (3, [.ref h_names, .ref h_spans, .ref h_costs, .ref h_sizes, .ref h_kinds, .ref h_firsts, .ref h_seconds, .ref h_numbers, .int v_count])), (h_kinds, .inl (cI, 36, .inl v_kinds)), (h_firsts, .inl (cI, 36, .inl v_firsts)), (h_seconds, .inl (cI, 36, .inl v_seconds)), (h_numbers, .inl (cI, 36, .inl v_numbers)), (h_p2, .inr (2, [.ref h_p2_minutes, .ref h_p2_values, .ref h_p2_starts, .ref h_p2_seen])), (h_p2_minutes, .inl (cI, 120, .inl v_p2_minutes)), (h_p2_values, .inl (cI, 120, .inl v_p2_values)), (h_p2_starts, .inl (cI, 17, .inl v_p2_starts)), (h_p2_seen, .inl (cI, 16, .inl v_p2_seen))] s.heap.size = A at hD ⊢
  have hA : ∀ q : Nat, s.heap.size ≤ q → A q := fun q h => by rw [← hAe]; exact Or.inr h
  have hS : va_S A s.heap s.heap [] := va_S.rf
  have hP : va_P (dC, dI) vwCl [(h_this, .inr (3, [.ref h_names, .ref h_spans, .ref h_costs, .ref h_sizes, .ref h_kinds, .ref h_firsts, .ref h_seconds, .ref h_numbers, .int v_count])), (h_kinds, .inl (cI, 36, .inl v_kinds)), (h_firsts, .inl (cI, 36, .inl v_firsts)), (h_seconds, .inl (cI, 36, .inl v_seconds)), (h_numbers, .inl (cI, 36, .inl v_numbers)), (h_p2, .inr (2, [.ref h_p2_minutes, .ref h_p2_values, .ref h_p2_starts, .ref h_p2_seen])), (h_p2_minutes, .inl (cI, 120, .inl v_p2_minutes)), (h_p2_values, .inl (cI, 120, .inl v_p2_values)), (h_p2_starts, .inl (cI, 17, .inl v_p2_starts)), (h_p2_seen, .inl (cI, 16, .inl v_p2_seen))] s.heap := hP
  have hl := lv_entry ([.ref h_this, .int p1, .ref h_p2, .int p3]) (n := 7) (Nat.le_of_ble_eq_true rfl)
  rw [show entryFrame m args 7 = entryFrame m ([.ref h_this, .int p1, .ref h_p2, .int p3] : List Value).toArray 7 from by rw [hargs], lg_entry_eq]
  generalize (lg_sl ([.ref h_this, .int p1, .ref h_p2, .int p3]) ++ List.replicate (7 - (lg_sl ([.ref h_this, .int p1, .ref h_p2, .int p3])).length) Slot.unset).toArray = ls at hl ⊢
  have hl : lv_has ls 7 [(0, .ref h_this), (1, .int p1), (2, .ref h_p2), (3, .int p3)] := hl
  obtain ⟨Q, hQ⟩ : ∃ Q, Q = MQ below (xQ (dC, dI) [(h_this, .inr (3, [.ref h_names, .ref h_spans, .ref h_costs, .ref h_sizes, .ref h_kinds, .ref h_firsts, .ref h_seconds, .ref h_numbers, .int v_count])), (h_kinds, .inl (cI, 36, .inl v_kinds)), (h_firsts, .inl (cI, 36, .inl v_firsts)), (h_seconds, .inl (cI, 36, .inl v_seconds)), (h_numbers, .inl (cI, 36, .inl v_numbers)), (h_p2, .inr (2, [.ref h_p2_minutes, .ref h_p2_values, .ref h_p2_starts, .ref h_p2_seen])), (h_p2_minutes, .inl (cI, 120, .inl v_p2_minutes)), (h_p2_values, .inl (cI, 120, .inl v_p2_values)), (h_p2_starts, .inl (cI, 17, .inl v_p2_starts)), (h_p2_seen, .inl (cI, 16, .inl v_p2_seen))] A (some (.int t))) args s 0 0 A := ⟨_, rfl⟩
  rw [← hQ]
  show W p l e rm_RuleSet_testHolds s m args below meth c s.heap [] 0 0 Q _
  obtain ⟨H, hH⟩ : ∃ H, H = s.heap := ⟨_, rfl⟩
  obtain ⟨locs, hlocs⟩ : ∃ L : List Loc, L = [] := ⟨_, rfl⟩
  rw [← hlocs] at hS ⊢
  have hS : va_S A s.heap H locs := by rw [hH]; exact hS
  rw [← hH] at hP ⊢
  replace hf := f_RuleSet_testHolds_u hf
  refine lv_aload_n hx hb d_RuleSet_testHolds_0 rfl (lv_at hl 0 rfl) ?_
  refine va_get (D := (dC, dI)) (ci := 3) (v := .ref h_firsts) (C := R_RuleSet) (T := T_RuleSet) (N := 9) hx hb hT i_RuleSet hown hK hP 0 rfl rfl 5 (by decide) (hT _ kF_RuleSet_28) (fun _ h9 => h9) rfl d_RuleSet_testHolds_1 ?_
  refine lv_iload_n hx hb d_RuleSet_testHolds_4 rfl (lv_at hl 1 rfl) ?_
  obtain ⟨hi_1, hf⟩ := o_in hf
  refine va_iald hx hb hK hP 2 0 rfl rfl hi_1 d_RuleSet_testHolds_5 ?_
  refine lv_istore (lv' := [(4, .int (v_firsts (p1 : Int32).toNatClampNeg)), (0, .ref h_this), (1, .int p1), (2, .ref h_p2), (3, .int p3)]) hx hb d_RuleSet_testHolds_6 hl (by decide) rfl (fun ls hl => ?_)
  refine lv_aload_n hx hb d_RuleSet_testHolds_8 rfl (lv_at hl 1 rfl) ?_
  refine va_get (D := (dC, dI)) (ci := 3) (v := .ref h_numbers) (C := R_RuleSet) (T := T_RuleSet) (N := 9) hx hb hT i_RuleSet hown hK hP 0 rfl rfl 7 (by decide) (hT _ kF_RuleSet_34) (fun _ h9 => h9) rfl d_RuleSet_testHolds_9 ?_
  refine lv_iload_n hx hb d_RuleSet_testHolds_12 rfl (lv_at hl 2 rfl) ?_
  obtain ⟨hi_2, hf⟩ := o_in hf
  refine va_iald hx hb hK hP 4 0 rfl rfl hi_2 d_RuleSet_testHolds_13 ?_
  refine lv_istore (lv' := [(5, .int (v_numbers (p1 : Int32).toNatClampNeg)), (4, .int (v_firsts (p1 : Int32).toNatClampNeg)), (0, .ref h_this), (1, .int p1), (2, .ref h_p2), (3, .int p3)]) hx hb d_RuleSet_testHolds_14 hl (by decide) rfl (fun ls hl => ?_)
  refine lv_aload_n hx hb d_RuleSet_testHolds_16 rfl (lv_at hl 4 rfl) ?_
  refine lv_iload hx hb d_RuleSet_testHolds_17 (lv_at hl 1 rfl) ?_
  obtain ⟨t_3, hg_3, hf⟩ := o_bind hf
  refine x_virt (w' := [(h_this, .inr (3, [.ref h_names, .ref h_spans, .ref h_costs, .ref h_sizes, .ref h_kinds, .ref h_firsts, .ref h_seconds, .ref h_numbers, .int v_count])), (h_kinds, .inl (cI, 36, .inl v_kinds)), (h_firsts, .inl (cI, 36, .inl v_firsts)), (h_seconds, .inl (cI, 36, .inl v_seconds)), (h_numbers, .inl (cI, 36, .inl v_numbers)), (h_p2, .inr (2, [.ref h_p2_minutes, .ref h_p2_values, .ref h_p2_starts, .ref h_p2_seen])), (h_p2_minutes, .inl (cI, 120, .inl v_p2_minutes)), (h_p2_values, .inl (cI, 120, .inl v_p2_values)), (h_p2_starts, .inl (cI, 17, .inl v_p2_starts)), (h_p2_seen, .inl (cI, 16, .inl v_p2_seen))]) (As := [.int (v_firsts (p1 : Int32).toNatClampNeg)]) (rest := []) hx hb hml hl.1 hown hT hK hN hP hD hS hA (c_Rows_has l dC dI cI cL cC h_p2 h_p2_minutes h_p2_values h_p2_starts h_p2_seen H.size v_p2_seen (v_firsts (p1 : Int32).toNatClampNeg) t_3 hg_3) kM_RuleSet_45 kI_Rows_has kS_110 kN_Rows kC_Rows_has hd_Rows_has rfl 5 rfl rfl rfl ⟨Nat.le_of_ble_eq_true rfl, Nat.le_of_ble_eq_true rfl⟩ rfl rfl ⟨Nat.zero_le _, Nat.zero_le _⟩ rfl (Nat.le_of_ble_eq_true rfl) d_RuleSet_testHolds_19 [5, 9] rfl rfl [.inl 0, .inl 1, .inl 2, .inl 3, .inl 4, .inr 0, .inl 6, .inl 7, .inl 8, .inr 1] rfl rfl rfl (fun H locs hP hD hS => ?_)
  refine lv_istore (lv' := [(6, .int t_3), (5, .int (v_numbers (p1 : Int32).toNatClampNeg)), (4, .int (v_firsts (p1 : Int32).toNatClampNeg)), (0, .ref h_this), (1, .int p1), (2, .ref h_p2), (3, .int p3)]) hx hb d_RuleSet_testHolds_22 hl (by decide) rfl (fun ls hl => ?_)
  refine lv_aload_n hx hb d_RuleSet_testHolds_24 rfl (lv_at hl 3 rfl) ?_
  refine va_get (D := (dC, dI)) (ci := 3) (v := .ref h_kinds) (C := R_RuleSet) (T := T_RuleSet) (N := 9) hx hb hT i_RuleSet hown hK hP 0 rfl rfl 4 (by decide) (hT _ kF_RuleSet_25) (fun _ h9 => h9) rfl d_RuleSet_testHolds_25 ?_
  refine lv_iload_n hx hb d_RuleSet_testHolds_28 rfl (lv_at hl 4 rfl) ?_
  obtain ⟨hi_4, hf⟩ := o_in hf
  refine va_iald hx hb hK hP 1 0 rfl rfl hi_4 d_RuleSet_testHolds_29 ?_
  rcases Decidable.em ((v_kinds (p1 : Int32).toNatClampNeg) = (16 : Int32)) with c_5 | c_5
  · replace hf := o_pos c_5 hf
    refine x_tabIn (tgt := 56) hx hb d_RuleSet_testHolds_30 c_5 (by decide) (by decide) rfl (by decide) ?_
    refine lv_iload hx hb d_RuleSet_testHolds_56 (lv_at hl 0 rfl) ?_
    refine lv_if_eq (tgt := 77) hx hb d_RuleSet_testHolds_58 (by decide) (fun c_6 => ?_) (fun c_6 => ?_)
    · replace hf := o_pos c_6 hf
      refine lv_iconst (v := 0) hx hb d_RuleSet_testHolds_77 (by decide) ?_
      rw [hQ, ← Option.some.inj hf]
      exact W.zret (ty := .boolean) hx hb hr rfl (fun t9 ht9 hW9 => ⟨rfl, by rw [ht9]; exact hP, hS.F ht9⟩) hS.2.2 d_RuleSet_testHolds_78
    · replace hf := o_neg c_6 hf
      refine lv_aload_n hx hb d_RuleSet_testHolds_61 rfl (lv_at hl 5 rfl) ?_
      refine lv_iload hx hb d_RuleSet_testHolds_62 (lv_at hl 2 rfl) ?_
      refine lv_iload_n hx hb d_RuleSet_testHolds_64 rfl (lv_at hl 6 rfl) ?_
      obtain ⟨t_7, hg_7, hf⟩ := o_bind hf
      refine x_virt (w' := [(h_this, .inr (3, [.ref h_names, .ref h_spans, .ref h_costs, .ref h_sizes, .ref h_kinds, .ref h_firsts, .ref h_seconds, .ref h_numbers, .int v_count])), (h_kinds, .inl (cI, 36, .inl v_kinds)), (h_firsts, .inl (cI, 36, .inl v_firsts)), (h_seconds, .inl (cI, 36, .inl v_seconds)), (h_numbers, .inl (cI, 36, .inl v_numbers)), (h_p2, .inr (2, [.ref h_p2_minutes, .ref h_p2_values, .ref h_p2_starts, .ref h_p2_seen])), (h_p2_minutes, .inl (cI, 120, .inl v_p2_minutes)), (h_p2_values, .inl (cI, 120, .inl v_p2_values)), (h_p2_starts, .inl (cI, 17, .inl v_p2_starts)), (h_p2_seen, .inl (cI, 16, .inl v_p2_seen))]) (As := [.int (v_firsts (p1 : Int32).toNatClampNeg), .int p3]) (rest := []) hx hb hml hl.1 hown hT hK hN hP hD hS hA (c_Rows_age l dC dI cI cL cC h_p2 h_p2_minutes h_p2_values h_p2_starts h_p2_seen H.size v_p2_minutes v_p2_starts v_p2_seen (v_firsts (p1 : Int32).toNatClampNeg) p3 t_7 hg_7) kM_RuleSet_51 kI_Rows_age kS_114 kN_Rows kC_Rows_age hd_Rows_age rfl 5 rfl rfl rfl ⟨Nat.le_of_ble_eq_true rfl, Nat.le_of_ble_eq_true rfl⟩ rfl rfl ⟨Nat.zero_le _, Nat.zero_le _⟩ rfl (Nat.le_of_ble_eq_true rfl) d_RuleSet_testHolds_65 [5, 6, 8, 9] rfl rfl [.inl 0, .inl 1, .inl 2, .inl 3, .inl 4, .inr 0, .inr 1, .inl 7, .inr 2, .inr 3] rfl rfl rfl (fun H locs hP hD hS => ?_)
      refine lv_iload hx hb d_RuleSet_testHolds_68 (lv_at hl 1 rfl) ?_
      refine lv_icmp_lt (tgt := 77) hx hb d_RuleSet_testHolds_70 (by decide) (fun c_8 => ?_) (fun c_8 => ?_)
      · replace hf := o_pos c_8 hf
        refine lv_iconst (v := 0) hx hb d_RuleSet_testHolds_77 (by decide) ?_
        rw [hQ, ← Option.some.inj hf]
        exact W.zret (ty := .boolean) hx hb hr rfl (fun t9 ht9 hW9 => ⟨rfl, by rw [ht9]; exact hP, hS.F ht9⟩) hS.2.2 d_RuleSet_testHolds_78
      · replace hf := o_neg c_8 hf
        refine lv_iconst (v := 1) hx hb d_RuleSet_testHolds_73 (by decide) ?_
        refine lv_goto (tgt := 78) hx hb d_RuleSet_testHolds_74 (by decide) ?_
        rw [hQ, ← Option.some.inj hf]
        exact W.zret (ty := .boolean) hx hb hr rfl (fun t9 ht9 hW9 => ⟨rfl, by rw [ht9]; exact hP, hS.F ht9⟩) hS.2.2 d_RuleSet_testHolds_78
  replace hf := o_neg c_5 hf
  rcases Decidable.em ((v_kinds (p1 : Int32).toNatClampNeg) = (17 : Int32)) with c_9 | c_9
  · replace hf := o_pos c_9 hf
    refine x_tabIn (tgt := 79) hx hb d_RuleSet_testHolds_30 c_9 (by decide) (by decide) rfl (by decide) ?_
    refine lv_iload hx hb d_RuleSet_testHolds_79 (lv_at hl 0 rfl) ?_
    refine lv_if_eq (tgt := 109) hx hb d_RuleSet_testHolds_81 (by decide) (fun c_10 => ?_) (fun c_10 => ?_)
    · replace hf := o_pos c_10 hf
      refine lv_iconst (v := 0) hx hb d_RuleSet_testHolds_109 (by decide) ?_
      rw [hQ, ← Option.some.inj hf]
      exact W.zret (ty := .boolean) hx hb hr rfl (fun t9 ht9 hW9 => ⟨rfl, by rw [ht9]; exact hP, hS.F ht9⟩) hS.2.2 d_RuleSet_testHolds_110
    · replace hf := o_neg c_10 hf
      refine lv_aload_n hx hb d_RuleSet_testHolds_84 rfl (lv_at hl 5 rfl) ?_
      refine lv_iload hx hb d_RuleSet_testHolds_85 (lv_at hl 2 rfl) ?_
      refine lv_iload_n hx hb d_RuleSet_testHolds_87 rfl (lv_at hl 6 rfl) ?_
      obtain ⟨t_11, hg_11, hf⟩ := o_bind hf
      refine x_virt (w' := [(h_this, .inr (3, [.ref h_names, .ref h_spans, .ref h_costs, .ref h_sizes, .ref h_kinds, .ref h_firsts, .ref h_seconds, .ref h_numbers, .int v_count])), (h_kinds, .inl (cI, 36, .inl v_kinds)), (h_firsts, .inl (cI, 36, .inl v_firsts)), (h_seconds, .inl (cI, 36, .inl v_seconds)), (h_numbers, .inl (cI, 36, .inl v_numbers)), (h_p2, .inr (2, [.ref h_p2_minutes, .ref h_p2_values, .ref h_p2_starts, .ref h_p2_seen])), (h_p2_minutes, .inl (cI, 120, .inl v_p2_minutes)), (h_p2_values, .inl (cI, 120, .inl v_p2_values)), (h_p2_starts, .inl (cI, 17, .inl v_p2_starts)), (h_p2_seen, .inl (cI, 16, .inl v_p2_seen))]) (As := [.int (v_firsts (p1 : Int32).toNatClampNeg), .int p3]) (rest := []) hx hb hml hl.1 hown hT hK hN hP hD hS hA (c_Rows_age l dC dI cI cL cC h_p2 h_p2_minutes h_p2_values h_p2_starts h_p2_seen H.size v_p2_minutes v_p2_starts v_p2_seen (v_firsts (p1 : Int32).toNatClampNeg) p3 t_11 hg_11) kM_RuleSet_51 kI_Rows_age kS_114 kN_Rows kC_Rows_age hd_Rows_age rfl 5 rfl rfl rfl ⟨Nat.le_of_ble_eq_true rfl, Nat.le_of_ble_eq_true rfl⟩ rfl rfl ⟨Nat.zero_le _, Nat.zero_le _⟩ rfl (Nat.le_of_ble_eq_true rfl) d_RuleSet_testHolds_88 [5, 6, 8, 9] rfl rfl [.inl 0, .inl 1, .inl 2, .inl 3, .inl 4, .inr 0, .inr 1, .inl 7, .inr 2, .inr 3] rfl rfl rfl (fun H locs hP hD hS => ?_)
      refine lv_if_ne (tgt := 109) hx hb d_RuleSet_testHolds_91 (by decide) (fun c_12 => ?_) (fun c_12 => ?_)
      · replace hf := o_neg c_12 hf
        refine lv_iconst (v := 0) hx hb d_RuleSet_testHolds_109 (by decide) ?_
        rw [hQ, ← Option.some.inj hf]
        exact W.zret (ty := .boolean) hx hb hr rfl (fun t9 ht9 hW9 => ⟨rfl, by rw [ht9]; exact hP, hS.F ht9⟩) hS.2.2 d_RuleSet_testHolds_110
      · replace hf := o_pos c_12 hf
        refine lv_aload_n hx hb d_RuleSet_testHolds_94 rfl (lv_at hl 5 rfl) ?_
        refine lv_iload hx hb d_RuleSet_testHolds_95 (lv_at hl 2 rfl) ?_
        obtain ⟨t_13, hg_13, hf⟩ := o_bind hf
        refine x_virt (w' := [(h_this, .inr (3, [.ref h_names, .ref h_spans, .ref h_costs, .ref h_sizes, .ref h_kinds, .ref h_firsts, .ref h_seconds, .ref h_numbers, .int v_count])), (h_kinds, .inl (cI, 36, .inl v_kinds)), (h_firsts, .inl (cI, 36, .inl v_firsts)), (h_seconds, .inl (cI, 36, .inl v_seconds)), (h_numbers, .inl (cI, 36, .inl v_numbers)), (h_p2, .inr (2, [.ref h_p2_minutes, .ref h_p2_values, .ref h_p2_starts, .ref h_p2_seen])), (h_p2_minutes, .inl (cI, 120, .inl v_p2_minutes)), (h_p2_values, .inl (cI, 120, .inl v_p2_values)), (h_p2_starts, .inl (cI, 17, .inl v_p2_starts)), (h_p2_seen, .inl (cI, 16, .inl v_p2_seen))]) (As := [.int (v_firsts (p1 : Int32).toNatClampNeg)]) (rest := []) hx hb hml hl.1 hown hT hK hN hP hD hS hA (c_Rows_lastStep l dC dI cI cL cC h_p2 h_p2_minutes h_p2_values h_p2_starts h_p2_seen H.size v_p2_values v_p2_starts v_p2_seen (v_firsts (p1 : Int32).toNatClampNeg) t_13 hg_13) kM_RuleSet_55 kI_Rows_lastStep kS_117 kN_Rows kC_Rows_lastStep hd_Rows_lastStep rfl 5 rfl rfl rfl ⟨Nat.le_of_ble_eq_true rfl, Nat.le_of_ble_eq_true rfl⟩ rfl rfl ⟨Nat.zero_le _, Nat.zero_le _⟩ rfl (Nat.le_of_ble_eq_true rfl) d_RuleSet_testHolds_97 [5, 7, 8, 9] rfl rfl [.inl 0, .inl 1, .inl 2, .inl 3, .inl 4, .inr 0, .inl 6, .inr 1, .inr 2, .inr 3] rfl rfl rfl (fun H locs hP hD hS => ?_)
        refine lv_iload hx hb d_RuleSet_testHolds_100 (lv_at hl 1 rfl) ?_
        refine lv_icmp_le (tgt := 109) hx hb d_RuleSet_testHolds_102 (by decide) (fun c_14 => ?_) (fun c_14 => ?_)
        · replace hf := o_pos c_14 hf
          refine lv_iconst (v := 0) hx hb d_RuleSet_testHolds_109 (by decide) ?_
          rw [hQ, ← Option.some.inj hf]
          exact W.zret (ty := .boolean) hx hb hr rfl (fun t9 ht9 hW9 => ⟨rfl, by rw [ht9]; exact hP, hS.F ht9⟩) hS.2.2 d_RuleSet_testHolds_110
        · replace hf := o_neg c_14 hf
          refine lv_iconst (v := 1) hx hb d_RuleSet_testHolds_105 (by decide) ?_
          refine lv_goto (tgt := 110) hx hb d_RuleSet_testHolds_106 (by decide) ?_
          rw [hQ, ← Option.some.inj hf]
          exact W.zret (ty := .boolean) hx hb hr rfl (fun t9 ht9 hW9 => ⟨rfl, by rw [ht9]; exact hP, hS.F ht9⟩) hS.2.2 d_RuleSet_testHolds_110
  replace hf := o_neg c_9 hf
  rcases Decidable.em ((v_kinds (p1 : Int32).toNatClampNeg) = (18 : Int32)) with c_15 | c_15
  · replace hf := o_pos c_15 hf
    refine x_tabIn (tgt := 111) hx hb d_RuleSet_testHolds_30 c_15 (by decide) (by decide) rfl (by decide) ?_
    refine lv_iload hx hb d_RuleSet_testHolds_111 (lv_at hl 0 rfl) ?_
    refine lv_if_eq (tgt := 128) hx hb d_RuleSet_testHolds_113 (by decide) (fun c_16 => ?_) (fun c_16 => ?_)
    · replace hf := o_pos c_16 hf
      refine lv_iconst (v := 1) hx hb d_RuleSet_testHolds_128 (by decide) ?_
      refine lv_goto (tgt := 133) hx hb d_RuleSet_testHolds_129 (by decide) ?_
      rw [hQ, ← Option.some.inj hf]
      exact W.zret (ty := .boolean) hx hb hr rfl (fun t9 ht9 hW9 => ⟨rfl, by rw [ht9]; exact hP, hS.F ht9⟩) hS.2.2 d_RuleSet_testHolds_133
    · replace hf := o_neg c_16 hf
      refine lv_aload_n hx hb d_RuleSet_testHolds_116 rfl (lv_at hl 5 rfl) ?_
      refine lv_iload hx hb d_RuleSet_testHolds_117 (lv_at hl 2 rfl) ?_
      refine lv_iload_n hx hb d_RuleSet_testHolds_119 rfl (lv_at hl 6 rfl) ?_
      obtain ⟨t_17, hg_17, hf⟩ := o_bind hf
      refine x_virt (w' := [(h_this, .inr (3, [.ref h_names, .ref h_spans, .ref h_costs, .ref h_sizes, .ref h_kinds, .ref h_firsts, .ref h_seconds, .ref h_numbers, .int v_count])), (h_kinds, .inl (cI, 36, .inl v_kinds)), (h_firsts, .inl (cI, 36, .inl v_firsts)), (h_seconds, .inl (cI, 36, .inl v_seconds)), (h_numbers, .inl (cI, 36, .inl v_numbers)), (h_p2, .inr (2, [.ref h_p2_minutes, .ref h_p2_values, .ref h_p2_starts, .ref h_p2_seen])), (h_p2_minutes, .inl (cI, 120, .inl v_p2_minutes)), (h_p2_values, .inl (cI, 120, .inl v_p2_values)), (h_p2_starts, .inl (cI, 17, .inl v_p2_starts)), (h_p2_seen, .inl (cI, 16, .inl v_p2_seen))]) (As := [.int (v_firsts (p1 : Int32).toNatClampNeg), .int p3]) (rest := []) hx hb hml hl.1 hown hT hK hN hP hD hS hA (c_Rows_age l dC dI cI cL cC h_p2 h_p2_minutes h_p2_values h_p2_starts h_p2_seen H.size v_p2_minutes v_p2_starts v_p2_seen (v_firsts (p1 : Int32).toNatClampNeg) p3 t_17 hg_17) kM_RuleSet_51 kI_Rows_age kS_114 kN_Rows kC_Rows_age hd_Rows_age rfl 5 rfl rfl rfl ⟨Nat.le_of_ble_eq_true rfl, Nat.le_of_ble_eq_true rfl⟩ rfl rfl ⟨Nat.zero_le _, Nat.zero_le _⟩ rfl (Nat.le_of_ble_eq_true rfl) d_RuleSet_testHolds_120 [5, 6, 8, 9] rfl rfl [.inl 0, .inl 1, .inl 2, .inl 3, .inl 4, .inr 0, .inr 1, .inl 7, .inr 2, .inr 3] rfl rfl rfl (fun H locs hP hD hS => ?_)
      refine lv_iload hx hb d_RuleSet_testHolds_123 (lv_at hl 1 rfl) ?_
      refine lv_icmp_le (tgt := 132) hx hb d_RuleSet_testHolds_125 (by decide) (fun c_18 => ?_) (fun c_18 => ?_)
      · replace hf := o_pos c_18 hf
        refine lv_iconst (v := 0) hx hb d_RuleSet_testHolds_132 (by decide) ?_
        rw [hQ, ← Option.some.inj hf]
        exact W.zret (ty := .boolean) hx hb hr rfl (fun t9 ht9 hW9 => ⟨rfl, by rw [ht9]; exact hP, hS.F ht9⟩) hS.2.2 d_RuleSet_testHolds_133
      · replace hf := o_neg c_18 hf
        refine lv_iconst (v := 1) hx hb d_RuleSet_testHolds_128 (by decide) ?_
        refine lv_goto (tgt := 133) hx hb d_RuleSet_testHolds_129 (by decide) ?_
        rw [hQ, ← Option.some.inj hf]
        exact W.zret (ty := .boolean) hx hb hr rfl (fun t9 ht9 hW9 => ⟨rfl, by rw [ht9]; exact hP, hS.F ht9⟩) hS.2.2 d_RuleSet_testHolds_133
  replace hf := o_neg c_15 hf
  refine lv_tableOut (tgt := 134) hx hb d_RuleSet_testHolds_30 (by have q_5 : ¬ (16 : Int) = (v_kinds (p1 : Int32).toNatClampNeg : Int32).toInt := x_ne c_5; have q_9 : ¬ (17 : Int) = (v_kinds (p1 : Int32).toNatClampNeg : Int32).toInt := x_ne c_9; have q_15 : ¬ (18 : Int) = (v_kinds (p1 : Int32).toNatClampNeg : Int32).toInt := x_ne c_15; omega) (by decide) ?_
  refine lv_iload hx hb d_RuleSet_testHolds_134 (lv_at hl 0 rfl) ?_
  refine lv_if_eq (tgt := 152) hx hb d_RuleSet_testHolds_136 (by decide) (fun c_19 => ?_) (fun c_19 => ?_)
  · replace hf := o_pos c_19 hf
    refine lv_iconst (v := 0) hx hb d_RuleSet_testHolds_152 (by decide) ?_
    rw [hQ, ← Option.some.inj hf]
    exact W.zret (ty := .boolean) hx hb hr rfl (fun t9 ht9 hW9 => ⟨rfl, by rw [ht9]; exact hP, hS.F ht9⟩) hS.2.2 d_RuleSet_testHolds_153
  · replace hf := o_neg c_19 hf
    refine lv_aload_n hx hb d_RuleSet_testHolds_139 rfl (lv_at hl 3 rfl) ?_
    refine lv_iload_n hx hb d_RuleSet_testHolds_140 rfl (lv_at hl 4 rfl) ?_
    refine lv_aload_n hx hb d_RuleSet_testHolds_141 rfl (lv_at hl 5 rfl) ?_
    obtain ⟨t_20, hg_20, hf⟩ := o_bind hf
    refine x_virt (w' := [(h_this, .inr (3, [.ref h_names, .ref h_spans, .ref h_costs, .ref h_sizes, .ref h_kinds, .ref h_firsts, .ref h_seconds, .ref h_numbers, .int v_count])), (h_kinds, .inl (cI, 36, .inl v_kinds)), (h_firsts, .inl (cI, 36, .inl v_firsts)), (h_seconds, .inl (cI, 36, .inl v_seconds)), (h_numbers, .inl (cI, 36, .inl v_numbers)), (h_p2, .inr (2, [.ref h_p2_minutes, .ref h_p2_values, .ref h_p2_starts, .ref h_p2_seen])), (h_p2_minutes, .inl (cI, 120, .inl v_p2_minutes)), (h_p2_values, .inl (cI, 120, .inl v_p2_values)), (h_p2_starts, .inl (cI, 17, .inl v_p2_starts)), (h_p2_seen, .inl (cI, 16, .inl v_p2_seen))]) (As := [.int p1, .ref h_p2]) (rest := []) hx hb hml hl.1 hown hT hK hN hP hD hS hA (c_RuleSet_relationHolds l dC dI cI cL cC h_this h_p2 h_names h_spans h_costs h_sizes h_kinds h_firsts h_seconds h_numbers h_p2_minutes h_p2_values h_p2_starts h_p2_seen H.size v_count v_kinds v_firsts v_seconds v_numbers v_p2_values v_p2_starts v_p2_seen p1 t_20 hg_20) kM_RuleSet_59 kI_RuleSet_relationHolds kS_121 kN_RuleSet kC_RuleSet_relationHolds hd_RuleSet_relationHolds rfl 0 rfl rfl rfl ⟨Nat.le_of_ble_eq_true rfl, Nat.le_of_ble_eq_true rfl⟩ rfl rfl ⟨Nat.zero_le _, Nat.zero_le _⟩ rfl (Nat.le_of_ble_eq_true rfl) d_RuleSet_testHolds_142 [0, 1, 2, 3, 4, 5, 7, 8, 9] rfl rfl [.inr 0, .inr 1, .inr 2, .inr 3, .inr 4, .inr 5, .inl 6, .inr 6, .inr 7, .inr 8] rfl rfl rfl (fun H locs hP hD hS => ?_)
    refine lv_if_eq (tgt := 152) hx hb d_RuleSet_testHolds_145 (by decide) (fun c_21 => ?_) (fun c_21 => ?_)
    · replace hf := o_pos c_21 hf
      refine lv_iconst (v := 0) hx hb d_RuleSet_testHolds_152 (by decide) ?_
      rw [hQ, ← Option.some.inj hf]
      exact W.zret (ty := .boolean) hx hb hr rfl (fun t9 ht9 hW9 => ⟨rfl, by rw [ht9]; exact hP, hS.F ht9⟩) hS.2.2 d_RuleSet_testHolds_153
    · replace hf := o_neg c_21 hf
      refine lv_iconst (v := 1) hx hb d_RuleSet_testHolds_148 (by decide) ?_
      refine lv_goto (tgt := 153) hx hb d_RuleSet_testHolds_149 (by decide) ?_
      rw [hQ, ← Option.some.inj hf]
      exact W.zret (ty := .boolean) hx hb hr rfl (fun t9 ht9 hW9 => ⟨rfl, by rw [ht9]; exact hP, hS.F ht9⟩) hS.2.2 d_RuleSet_testHolds_153
def rm_RuleSet_ruleHolds : Room := { frames := 3, cells := 0, slots := 0, locals := 88 }
set_option maxHeartbeats 4000000 in
set_option maxRecDepth 100000 in
theorem c_RuleSet_ruleHolds (l : Launch) (dC : Nat → ClassId) (dI : Nat → Nat → Nat) (cI cL cC : ClassId) (h_this h_p2 h_names h_spans h_costs h_sizes h_kinds h_firsts h_seconds h_numbers h_p2_minutes h_p2_values h_p2_starts h_p2_seen : Nat) (sz : Nat) (fu : Nat) (v_count : Int32) (v_sizes : Nat → Int32) (v_kinds : Nat → Int32) (v_firsts : Nat → Int32) (v_seconds : Nat → Int32) (v_numbers : Nat → Int32) (v_p2_minutes : Nat → Int32) (v_p2_values : Nat → Int32) (v_p2_starts : Nat → Int32) (v_p2_seen : Nat → Int32) (p1 : Int32) (p3 : Int32) (t : Int32) (hf : f_RuleSet_ruleHolds fu v_sizes v_kinds v_firsts v_seconds v_numbers v_p2_minutes v_p2_values v_p2_starts v_p2_seen p1 p3 = some t) : Met l y_RuleSet_ruleHolds (Cond.code y_RuleSet_ruleHolds prog_5_method_4_code 5 (some .boolean) :: xT) rm_RuleSet_ruleHolds (va_Pc [.ref h_this, .int p1, .ref h_p2, .int p3] (xP (dC, dI) (xTy cI cL cC) [(h_this, .inr (3, [.ref h_names, .ref h_spans, .ref h_costs, .ref h_sizes, .ref h_kinds, .ref h_firsts, .ref h_seconds, .ref h_numbers, .int v_count])), (h_sizes, .inl (cI, 6, .inl v_sizes)), (h_kinds, .inl (cI, 36, .inl v_kinds)), (h_firsts, .inl (cI, 36, .inl v_firsts)), (h_seconds, .inl (cI, 36, .inl v_seconds)), (h_numbers, .inl (cI, 36, .inl v_numbers)), (h_p2, .inr (2, [.ref h_p2_minutes, .ref h_p2_values, .ref h_p2_starts, .ref h_p2_seen])), (h_p2_minutes, .inl (cI, 120, .inl v_p2_minutes)), (h_p2_values, .inl (cI, 120, .inl v_p2_values)), (h_p2_starts, .inl (cI, 17, .inl v_p2_starts)), (h_p2_seen, .inl (cI, 16, .inl v_p2_seen))] sz)) (xQ (dC, dI) [(h_this, .inr (3, [.ref h_names, .ref h_spans, .ref h_costs, .ref h_sizes, .ref h_kinds, .ref h_firsts, .ref h_seconds, .ref h_numbers, .int v_count])), (h_sizes, .inl (cI, 6, .inl v_sizes)), (h_kinds, .inl (cI, 36, .inl v_kinds)), (h_firsts, .inl (cI, 36, .inl v_firsts)), (h_seconds, .inl (cI, 36, .inl v_seconds)), (h_numbers, .inl (cI, 36, .inl v_numbers)), (h_p2, .inr (2, [.ref h_p2_minutes, .ref h_p2_values, .ref h_p2_starts, .ref h_p2_seen])), (h_p2_minutes, .inl (cI, 120, .inl v_p2_minutes)), (h_p2_values, .inl (cI, 120, .inl v_p2_values)), (h_p2_starts, .inl (cI, 17, .inl v_p2_starts)), (h_p2_seen, .inl (cI, 16, .inl v_p2_seen))] (va_A [(h_this, .inr (3, [.ref h_names, .ref h_spans, .ref h_costs, .ref h_sizes, .ref h_kinds, .ref h_firsts, .ref h_seconds, .ref h_numbers, .int v_count])), (h_sizes, .inl (cI, 6, .inl v_sizes)), (h_kinds, .inl (cI, 36, .inl v_kinds)), (h_firsts, .inl (cI, 36, .inl v_firsts)), (h_seconds, .inl (cI, 36, .inl v_seconds)), (h_numbers, .inl (cI, 36, .inl v_numbers)), (h_p2, .inr (2, [.ref h_p2_minutes, .ref h_p2_values, .ref h_p2_starts, .ref h_p2_seen])), (h_p2_minutes, .inl (cI, 120, .inl v_p2_minutes)), (h_p2_values, .inl (cI, 120, .inl v_p2_values)), (h_p2_starts, .inl (cI, 17, .inl v_p2_starts)), (h_p2_seen, .inl (cI, 16, .inl v_p2_seen))] sz) (some (.int t))) 0 0 (va_A [(h_this, .inr (3, [.ref h_names, .ref h_spans, .ref h_costs, .ref h_sizes, .ref h_kinds, .ref h_firsts, .ref h_seconds, .ref h_numbers, .int v_count])), (h_sizes, .inl (cI, 6, .inl v_sizes)), (h_kinds, .inl (cI, 36, .inl v_kinds)), (h_firsts, .inl (cI, 36, .inl v_firsts)), (h_seconds, .inl (cI, 36, .inl v_seconds)), (h_numbers, .inl (cI, 36, .inl v_numbers)), (h_p2, .inr (2, [.ref h_p2_minutes, .ref h_p2_values, .ref h_p2_starts, .ref h_p2_seen])), (h_p2_minutes, .inl (cI, 120, .inl v_p2_minutes)), (h_p2_values, .inl (cI, 120, .inl v_p2_values)), (h_p2_starts, .inl (cI, 17, .inl v_p2_starts)), (h_p2_seen, .inl (cI, 16, .inl v_p2_seen))] sz) := by
  refine Met.ofW (cc := prog_5_method_4_code) (maxL := 5) (ret := (some .boolean)) (by decide) rfl ?_
  intro p e s m args below meth c s₁ B hml hv
  obtain ⟨hargs, hsz, hP, hK, hN, hD0⟩ := hv
  have hx := B.exec
  have hb := B.bytes
  have hr := B.returns
  have hT : ∀ w ∈ xT, w.before args s = true := fun w hw => atoms_spec (ws := Cond.code y_RuleSet_ruleHolds prog_5_method_4_code 5 (some .boolean) :: xT) B.pre w (List.mem_cons_of_mem _ hw)
  have hown : s.vm.findClass R_RuleSet = some m.cls := findClass_of_methodNamed B.named
  have hlocks := B.notSynchronized
  subst hsz
  have hD := hD0.self (sz := s.heap.size)
  generalize hAe : va_A [(h_this, .inr (3, [.ref h_names, .ref h_spans, .ref h_costs, .ref h_sizes, .ref h_kinds, .ref h_firsts, .ref h_seconds, .ref h_numbers, .int v_count])), (h_sizes, .inl (cI, 6, .inl v_sizes)), (h_kinds, .inl (cI, 36, .inl v_kinds)), (h_firsts, .inl (cI, 36, .inl v_firsts)), (h_seconds, .inl (cI, 36, .inl v_seconds)), (h_numbers, .inl (cI, 36, .inl v_numbers)), (h_p2, .inr (2, [.ref h_p2_minutes, .ref h_p2_values, .ref h_p2_starts, .ref h_p2_seen])), (h_p2_minutes, .inl (cI, 120, .inl v_p2_minutes)), (h_p2_values, .inl (cI, 120, .inl v_p2_values)), (h_p2_starts, .inl (cI, 17, .inl v_p2_starts)), (h_p2_seen, .inl (cI, 16, .inl v_p2_seen))] s.heap.size = A at hD ⊢
  have hA : ∀ q : Nat, s.heap.size ≤ q → A q := fun q h => by rw [← hAe]; exact Or.inr h
  have hS : va_S A s.heap s.heap [] := va_S.rf
  have hP : va_P (dC, dI) vwCl [(h_this, .inr (3, [.ref h_names, .ref h_spans, .ref h_costs, .ref h_sizes, .ref h_kinds, .ref h_firsts, .ref h_seconds, .ref h_numbers, .int v_count])), (h_sizes, .inl (cI, 6, .inl v_sizes)), (h_kinds, .inl (cI, 36, .inl v_kinds)), (h_firsts, .inl (cI, 36, .inl v_firsts)), (h_seconds, .inl (cI, 36, .inl v_seconds)), (h_numbers, .inl (cI, 36, .inl v_numbers)), (h_p2, .inr (2, [.ref h_p2_minutes, .ref h_p2_values, .ref h_p2_starts, .ref h_p2_seen])), (h_p2_minutes, .inl (cI, 120, .inl v_p2_minutes)), (h_p2_values, .inl (cI, 120, .inl v_p2_values)), (h_p2_starts, .inl (cI, 17, .inl v_p2_starts)), (h_p2_seen, .inl (cI, 16, .inl v_p2_seen))] s.heap := hP
  have hl := lv_entry ([.ref h_this, .int p1, .ref h_p2, .int p3]) (n := 5) (Nat.le_of_ble_eq_true rfl)
  rw [show entryFrame m args 5 = entryFrame m ([.ref h_this, .int p1, .ref h_p2, .int p3] : List Value).toArray 5 from by rw [hargs], lg_entry_eq]
  generalize (lg_sl ([.ref h_this, .int p1, .ref h_p2, .int p3]) ++ List.replicate (5 - (lg_sl ([.ref h_this, .int p1, .ref h_p2, .int p3])).length) Slot.unset).toArray = ls at hl ⊢
  have hl : lv_has ls 5 [(0, .ref h_this), (1, .int p1), (2, .ref h_p2), (3, .int p3)] := hl
  obtain ⟨Q, hQ⟩ : ∃ Q, Q = MQ below (xQ (dC, dI) [(h_this, .inr (3, [.ref h_names, .ref h_spans, .ref h_costs, .ref h_sizes, .ref h_kinds, .ref h_firsts, .ref h_seconds, .ref h_numbers, .int v_count])), (h_sizes, .inl (cI, 6, .inl v_sizes)), (h_kinds, .inl (cI, 36, .inl v_kinds)), (h_firsts, .inl (cI, 36, .inl v_firsts)), (h_seconds, .inl (cI, 36, .inl v_seconds)), (h_numbers, .inl (cI, 36, .inl v_numbers)), (h_p2, .inr (2, [.ref h_p2_minutes, .ref h_p2_values, .ref h_p2_starts, .ref h_p2_seen])), (h_p2_minutes, .inl (cI, 120, .inl v_p2_minutes)), (h_p2_values, .inl (cI, 120, .inl v_p2_values)), (h_p2_starts, .inl (cI, 17, .inl v_p2_starts)), (h_p2_seen, .inl (cI, 16, .inl v_p2_seen))] A (some (.int t))) args s 0 0 A := ⟨_, rfl⟩
  rw [← hQ]
  show W p l e rm_RuleSet_ruleHolds s m args below meth c s.heap [] 0 0 Q _
  obtain ⟨H, hH⟩ : ∃ H, H = s.heap := ⟨_, rfl⟩
  obtain ⟨locs, hlocs⟩ : ∃ L : List Loc, L = [] := ⟨_, rfl⟩
  rw [← hlocs] at hS ⊢
  have hS : va_S A s.heap H locs := by rw [hH]; exact hS
  rw [← hH] at hP ⊢
  replace hf := f_RuleSet_ruleHolds_u hf
  refine lv_iconst (v := 0) hx hb d_RuleSet_ruleHolds_0 (by decide) ?_
  refine lv_istore (lv' := [(4, .int 0), (0, .ref h_this), (1, .int p1), (2, .ref h_p2), (3, .int p3)]) hx hb d_RuleSet_ruleHolds_1 hl (by decide) rfl (fun ls hl => ?_)
  have lp_3 : ∀ (n : Nat) (l4_3 : Int32) (H : Heap) (locs : List Loc) (ls : Array Slot), L_RuleSet_ruleHolds_3 fu v_sizes v_kinds v_firsts v_seconds v_numbers v_p2_minutes v_p2_values v_p2_starts v_p2_seen p1 p3 n l4_3 = some t → va_P (dC, dI) vwCl [(h_this, .inr (3, [.ref h_names, .ref h_spans, .ref h_costs, .ref h_sizes, .ref h_kinds, .ref h_firsts, .ref h_seconds, .ref h_numbers, .int v_count])), (h_sizes, .inl (cI, 6, .inl v_sizes)), (h_kinds, .inl (cI, 36, .inl v_kinds)), (h_firsts, .inl (cI, 36, .inl v_firsts)), (h_seconds, .inl (cI, 36, .inl v_seconds)), (h_numbers, .inl (cI, 36, .inl v_numbers)), (h_p2, .inr (2, [.ref h_p2_minutes, .ref h_p2_values, .ref h_p2_starts, .ref h_p2_seen])), (h_p2_minutes, .inl (cI, 120, .inl v_p2_minutes)), (h_p2_values, .inl (cI, 120, .inl v_p2_values)), (h_p2_starts, .inl (cI, 17, .inl v_p2_starts)), (h_p2_seen, .inl (cI, 16, .inl v_p2_seen))] H → va_D A [(h_this, .inr (3, [.ref h_names, .ref h_spans, .ref h_costs, .ref h_sizes, .ref h_kinds, .ref h_firsts, .ref h_seconds, .ref h_numbers, .int v_count])), (h_sizes, .inl (cI, 6, .inl v_sizes)), (h_kinds, .inl (cI, 36, .inl v_kinds)), (h_firsts, .inl (cI, 36, .inl v_firsts)), (h_seconds, .inl (cI, 36, .inl v_seconds)), (h_numbers, .inl (cI, 36, .inl v_numbers)), (h_p2, .inr (2, [.ref h_p2_minutes, .ref h_p2_values, .ref h_p2_starts, .ref h_p2_seen])), (h_p2_minutes, .inl (cI, 120, .inl v_p2_minutes)), (h_p2_values, .inl (cI, 120, .inl v_p2_values)), (h_p2_starts, .inl (cI, 17, .inl v_p2_starts)), (h_p2_seen, .inl (cI, 16, .inl v_p2_seen))] → va_S A s.heap H locs → lv_has ls 5 [(0, .ref h_this), (1, .int p1), (2, .ref h_p2), (3, .int p3), (4, .int l4_3)] → W p l e rm_RuleSet_ruleHolds s m args below meth c H locs 0 0 Q (F0 m 3 ls []) := by
    intro  n
    induction n with
    | zero => intro l4_3 H locs ls hf; exact (L_RuleSet_ruleHolds_3_z hf).elim
    | succ n ih =>
      intro l4_3 H locs ls hf hP hD hS hl
      replace hf := L_RuleSet_ruleHolds_3_u hf
      refine lv_iload hx hb d_RuleSet_ruleHolds_3 (lv_at hl 4 rfl) ?_
      refine lv_aload_n hx hb d_RuleSet_ruleHolds_5 rfl (lv_at hl 0 rfl) ?_
      refine va_get (D := (dC, dI)) (ci := 3) (v := .ref h_sizes) (C := R_RuleSet) (T := T_RuleSet) (N := 9) hx hb hT i_RuleSet hown hK hP 0 rfl rfl 3 (by decide) (hT _ kF_RuleSet_22) (fun _ h9 => h9) rfl d_RuleSet_ruleHolds_6 ?_
      refine lv_iload_n hx hb d_RuleSet_ruleHolds_9 rfl (lv_at hl 1 rfl) ?_
      obtain ⟨hi_1, hf⟩ := o_in hf
      refine va_iald hx hb hK hP 1 0 rfl rfl hi_1 d_RuleSet_ruleHolds_10 ?_
      refine lv_icmp_ge (tgt := 38) hx hb d_RuleSet_ruleHolds_11 (by decide) (fun c_2 => ?_) (fun c_2 => ?_)
      · replace hf := o_pos c_2 hf
        refine lv_iconst (v := 1) hx hb d_RuleSet_ruleHolds_38 (by decide) ?_
        rw [hQ, ← Option.some.inj hf]
        exact W.zret (ty := .boolean) hx hb hr rfl (fun t9 ht9 hW9 => ⟨rfl, by rw [ht9]; exact hP, hS.F ht9⟩) hS.2.2 d_RuleSet_ruleHolds_39
      · replace hf := o_neg c_2 hf
        refine lv_aload_n hx hb d_RuleSet_ruleHolds_14 rfl (lv_at hl 0 rfl) ?_
        refine lv_iload_n hx hb d_RuleSet_ruleHolds_15 rfl (lv_at hl 1 rfl) ?_
        refine lv_bipush (v := 6) hx hb d_RuleSet_ruleHolds_16 (by decide) ?_
        refine lv_imul hx hb d_RuleSet_ruleHolds_18 ?_
        refine lv_iload hx hb d_RuleSet_ruleHolds_19 (lv_at hl 4 rfl) ?_
        refine lv_iadd hx hb d_RuleSet_ruleHolds_21 ?_
        refine lv_aload_n hx hb d_RuleSet_ruleHolds_22 rfl (lv_at hl 2 rfl) ?_
        refine lv_iload_n hx hb d_RuleSet_ruleHolds_23 rfl (lv_at hl 3 rfl) ?_
        obtain ⟨t_3, hg_3, hf⟩ := o_bind hf
        refine x_virt (w' := [(h_this, .inr (3, [.ref h_names, .ref h_spans, .ref h_costs, .ref h_sizes, .ref h_kinds, .ref h_firsts, .ref h_seconds, .ref h_numbers, .int v_count])), (h_sizes, .inl (cI, 6, .inl v_sizes)), (h_kinds, .inl (cI, 36, .inl v_kinds)), (h_firsts, .inl (cI, 36, .inl v_firsts)), (h_seconds, .inl (cI, 36, .inl v_seconds)), (h_numbers, .inl (cI, 36, .inl v_numbers)), (h_p2, .inr (2, [.ref h_p2_minutes, .ref h_p2_values, .ref h_p2_starts, .ref h_p2_seen])), (h_p2_minutes, .inl (cI, 120, .inl v_p2_minutes)), (h_p2_values, .inl (cI, 120, .inl v_p2_values)), (h_p2_starts, .inl (cI, 17, .inl v_p2_starts)), (h_p2_seen, .inl (cI, 16, .inl v_p2_seen))]) (As := [.int ((p1 * 6) + l4_3), .ref h_p2, .int p3]) (rest := []) hx hb hml hl.1 hown hT hK hN hP hD hS hA (c_RuleSet_testHolds l dC dI cI cL cC h_this h_p2 h_names h_spans h_costs h_sizes h_kinds h_firsts h_seconds h_numbers h_p2_minutes h_p2_values h_p2_starts h_p2_seen H.size v_count v_kinds v_firsts v_seconds v_numbers v_p2_minutes v_p2_values v_p2_starts v_p2_seen ((p1 * 6) + l4_3) p3 t_3 hg_3) kM_RuleSet_41 kI_RuleSet_testHolds kS_125 kN_RuleSet kC_RuleSet_testHolds hd_RuleSet_testHolds rfl 0 rfl rfl rfl ⟨Nat.le_of_ble_eq_true rfl, Nat.le_of_ble_eq_true rfl⟩ rfl rfl ⟨Nat.zero_le _, Nat.zero_le _⟩ rfl (Nat.le_of_ble_eq_true rfl) d_RuleSet_ruleHolds_24 [0, 2, 3, 4, 5, 6, 7, 8, 9, 10] rfl rfl [.inr 0, .inl 1, .inr 1, .inr 2, .inr 3, .inr 4, .inr 5, .inr 6, .inr 7, .inr 8, .inr 9] rfl rfl rfl (fun H locs hP hD hS => ?_)
        refine lv_if_ne (tgt := 32) hx hb d_RuleSet_ruleHolds_27 (by decide) (fun c_4 => ?_) (fun c_4 => ?_)
        · replace hf := o_neg c_4 hf
          refine lv_iinc (v := l4_3 + 1) (lv' := [(4, .int (l4_3 + 1)), (0, .ref h_this), (1, .int p1), (2, .ref h_p2), (3, .int p3)]) hx hb d_RuleSet_ruleHolds_32 hl (k := 4) rfl rfl (by decide) rfl (fun ls hl => ?_)
          refine lv_goto (tgt := 3) hx hb d_RuleSet_ruleHolds_35 (by decide) ?_
          exact ih (l4_3 + 1) H locs ls hf hP hD hS (lv_sub hl [1, 2, 3, 4, 0] rfl)
        · replace hf := o_pos c_4 hf
          refine lv_iconst (v := 0) hx hb d_RuleSet_ruleHolds_30 (by decide) ?_
          rw [hQ, ← Option.some.inj hf]
          exact W.zret (ty := .boolean) hx hb hr rfl (fun t9 ht9 hW9 => ⟨rfl, by rw [ht9]; exact hP, hS.F ht9⟩) hS.2.2 d_RuleSet_ruleHolds_31
  refine lp_3  fu 0 H locs ls hf hP hD hS (lv_sub hl [1, 2, 3, 4, 0] rfl)
