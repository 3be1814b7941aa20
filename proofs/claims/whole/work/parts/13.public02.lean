def f_FaultRules_cause (v_brought : Nat → Int32) (p1 : Int32) (p2 : Int32) : Option (Nat × Int32 × (Nat → Int32)) :=
  (if p1 < 0 then (some (1, 0, v_brought)) else (if 10 ≤ p1 then (some (1, 0, v_brought)) else (if p2 < 0 then (some (1, 0, v_brought)) else (if p2 ≤ 63 then (bd p1 10 (bd p1 10 (some (0, v_brought (p1 : Int32).toNatClampNeg, upd v_brought (p1 : Int32).toNatClampNeg p2)))) else (some (1, 0, v_brought))))))
theorem f_FaultRules_cause_u {v_brought : Nat → Int32} {p1 : Int32} {p2 : Int32} {t : Nat × Int32 × (Nat → Int32)} (h : f_FaultRules_cause v_brought p1 p2 = some t) : (if p1 < 0 then (some (1, 0, v_brought)) else (if 10 ≤ p1 then (some (1, 0, v_brought)) else (if p2 < 0 then (some (1, 0, v_brought)) else (if p2 ≤ 63 then (bd p1 10 (bd p1 10 (some (0, v_brought (p1 : Int32).toNatClampNeg, upd v_brought (p1 : Int32).toNatClampNeg p2)))) else (some (1, 0, v_brought)))))) = some t := h
def L_FaultRules_causes_27 (fu : Nat) (v_found_faultyRules : Int32) (v_brought : Nat → Int32) : Nat → Int32 → Int32 → Int32 → Option (Nat × Int32)
  | 0, _, _, _ => none
  | n + 1, l1_27, l2_27, l3_27 => (if 1024 ≤ l3_27 then (some (0, l1_27)) else ((f_java_lang_Integer_bitCount l3_27).bind (fun t_3 => (if l2_27 ≤ t_3 then ((L_FaultRules_causes_27 fu v_found_faultyRules v_brought n) l1_27 l2_27 (l3_27 + 1)) else ((f_FaultRules_broughtBy fu v_brought l3_27).bind (fun t_5 => (if (v_found_faultyRules &&& (t_5 ^^^ ((-1)))) = 0 then ((L_FaultRules_causes_27 fu v_found_faultyRules v_brought n) l3_27 t_3 (l3_27 + 1)) else ((L_FaultRules_causes_27 fu v_found_faultyRules v_brought n) l1_27 l2_27 (l3_27 + 1)))))))))
theorem L_FaultRules_causes_27_z {fu : Nat} {v_found_faultyRules : Int32} {v_brought : Nat → Int32} {l1_27 : Int32} {l2_27 : Int32} {l3_27 : Int32} {t : Nat × Int32} (h : L_FaultRules_causes_27 fu v_found_faultyRules v_brought 0 l1_27 l2_27 l3_27 = some t) : False := by cases (show (none : Option (Nat × Int32)) = some t from h)
theorem L_FaultRules_causes_27_u {fu : Nat} {v_found_faultyRules : Int32} {v_brought : Nat → Int32} {n : Nat} {l1_27 : Int32} {l2_27 : Int32} {l3_27 : Int32} {t : Nat × Int32} (h : L_FaultRules_causes_27 fu v_found_faultyRules v_brought (n + 1) l1_27 l2_27 l3_27 = some t) : (if 1024 ≤ l3_27 then (some (0, l1_27)) else ((f_java_lang_Integer_bitCount l3_27).bind (fun t_3 => (if l2_27 ≤ t_3 then ((L_FaultRules_causes_27 fu v_found_faultyRules v_brought n) l1_27 l2_27 (l3_27 + 1)) else ((f_FaultRules_broughtBy fu v_brought l3_27).bind (fun t_5 => (if (v_found_faultyRules &&& (t_5 ^^^ ((-1)))) = 0 then ((L_FaultRules_causes_27 fu v_found_faultyRules v_brought n) l3_27 t_3 (l3_27 + 1)) else ((L_FaultRules_causes_27 fu v_found_faultyRules v_brought n) l1_27 l2_27 (l3_27 + 1))))))))) = some t := h
def f_FaultRules_causes (fu : Nat) (v_found_isThere : Int32) (v_found_faultyRules : Int32) (v_brought : Nat → Int32) : Option (Nat × Int32) :=
  (if v_found_isThere = 0 then (some (2, 0)) else (L_FaultRules_causes_27 fu v_found_faultyRules v_brought fu ((-1)) 11 0))
theorem f_FaultRules_causes_u {fu : Nat} {v_found_isThere : Int32} {v_found_faultyRules : Int32} {v_brought : Nat → Int32} {t : Nat × Int32} (h : f_FaultRules_causes fu v_found_isThere v_found_faultyRules v_brought = some t) : (if v_found_isThere = 0 then (some (2, 0)) else (L_FaultRules_causes_27 fu v_found_faultyRules v_brought fu ((-1)) 11 0)) = some t := h
def rm_FaultRules_cause : Room := { frames := 6, cells := 1, slots := 6, locals := 90 }
set_option maxHeartbeats 4000000 in
set_option maxRecDepth 100000 in
theorem c_FaultRules_cause (l : Launch) (dC : Nat → ClassId) (dI : Nat → Nat → Nat) (cI cL cC : ClassId) (h_this h_rows h_text h_reader h_found h_leftOut h_brought h_ruleSet h_draft : Nat) (sz : Nat) (v_brought : Nat → Int32) (p1 : Int32) (p2 : Int32) (t : Nat × Int32 × (Nat → Int32)) (hf : f_FaultRules_cause v_brought p1 p2 = some t) (hltr : l.stackTraces = false) : xMet l y_FaultRules_cause (Cond.code y_FaultRules_cause prog_1_method_14_code 4 (some .int) :: xT) rm_FaultRules_cause (va_Pc [.ref h_this, .int p1, .int p2] (xPT (dC, dI) (xTy cI cL cC) [(h_this, .inr (6, [.ref h_rows, .ref h_text, .ref h_reader, .ref h_found, .ref h_leftOut, .ref h_brought, .ref h_ruleSet, .ref h_draft])), (h_brought, .inl (cI, 10, .inl v_brought))] sz)) (xQT (dC, dI) [(h_this, .inr (6, [.ref h_rows, .ref h_text, .ref h_reader, .ref h_found, .ref h_leftOut, .ref h_brought, .ref h_ruleSet, .ref h_draft])), (h_brought, .inl (cI, 10, .inl t.2.2))] (va_A [(h_this, .inr (6, [.ref h_rows, .ref h_text, .ref h_reader, .ref h_found, .ref h_leftOut, .ref h_brought, .ref h_ruleSet, .ref h_draft])), (h_brought, .inl (cI, 10, .inl v_brought))] sz) t.1 (some (.int t.2.1))) 1 6 (va_A [(h_this, .inr (6, [.ref h_rows, .ref h_text, .ref h_reader, .ref h_found, .ref h_leftOut, .ref h_brought, .ref h_ruleSet, .ref h_draft])), (h_brought, .inl (cI, 10, .inl v_brought))] sz) := by
  refine xMet_ofW (cc := prog_1_method_14_code) (maxL := 4) (ret := (some .int)) (by decide) rfl ?_
  intro p e s m args below meth c s₁ B hml hv
  obtain ⟨hargs, ⟨hsz, hP, hK, hN, hD0⟩, hxW⟩ := hv
  have hx := B.exec
  have hb := B.bytes
  have hr := B.returns
  have hT : ∀ w ∈ xT, w.before args s = true := fun w hw => atoms_spec (ws := Cond.code y_FaultRules_cause prog_1_method_14_code 4 (some .int) :: xT) B.pre w (List.mem_cons_of_mem _ hw)
  have hown : s.vm.findClass R_FaultRules = some m.cls := findClass_of_methodNamed B.named
  have hlocks := B.notSynchronized
  subst hsz
  have hD := hD0.self (sz := s.heap.size)
  have hNS : ∀ (q : Nat) (cell : Cell), va_A [(h_this, .inr (6, [.ref h_rows, .ref h_text, .ref h_reader, .ref h_found, .ref h_leftOut, .ref h_brought, .ref h_ruleSet, .ref h_draft])), (h_brought, .inl (cI, 10, .inl v_brought))] s.heap.size q → s.heap[q]? = some cell → cell.vm.isStatics = false := x_noSt hP
  have hnh : c.exceptionTable.toList = [] := x_nh B (atoms_spec (ws := Cond.code y_FaultRules_cause prog_1_method_14_code 4 (some .int) :: xT) B.pre _ List.mem_cons_self)
  generalize hAe : va_A [(h_this, .inr (6, [.ref h_rows, .ref h_text, .ref h_reader, .ref h_found, .ref h_leftOut, .ref h_brought, .ref h_ruleSet, .ref h_draft])), (h_brought, .inl (cI, 10, .inl v_brought))] s.heap.size = A at hD hNS ⊢
  have hA : ∀ q : Nat, s.heap.size ≤ q → A q := fun q h => by rw [← hAe]; exact Or.inr h
  have hS : va_S A s.heap s.heap [] := va_S.rf
  have hP : va_P (dC, dI) vwCl [(h_this, .inr (6, [.ref h_rows, .ref h_text, .ref h_reader, .ref h_found, .ref h_leftOut, .ref h_brought, .ref h_ruleSet, .ref h_draft])), (h_brought, .inl (cI, 10, .inl v_brought))] s.heap := hP
  have hl := lv_entry ([.ref h_this, .int p1, .int p2]) (n := 4) (Nat.le_of_ble_eq_true rfl)
  rw [show entryFrame m args 4 = entryFrame m ([.ref h_this, .int p1, .int p2] : List Value).toArray 4 from by rw [hargs], lg_entry_eq]
  generalize (lg_sl ([.ref h_this, .int p1, .int p2]) ++ List.replicate (4 - (lg_sl ([.ref h_this, .int p1, .int p2])).length) Slot.unset).toArray = ls at hl ⊢
  have hl : lv_has ls 4 [(0, .ref h_this), (1, .int p1), (2, .int p2)] := hl
  obtain ⟨Q, hQ⟩ : ∃ Q, Q = xMQ below (xQT (dC, dI) [(h_this, .inr (6, [.ref h_rows, .ref h_text, .ref h_reader, .ref h_found, .ref h_leftOut, .ref h_brought, .ref h_ruleSet, .ref h_draft])), (h_brought, .inl (cI, 10, .inl t.2.2))] A t.1 (some (.int t.2.1))) args s 1 6 A := ⟨_, rfl⟩
  rw [← hQ]
  show W p l e rm_FaultRules_cause s m args below meth c s.heap [] 0 0 Q _
  obtain ⟨H, hH⟩ : ∃ H, H = s.heap := ⟨_, rfl⟩
  obtain ⟨locs, hlocs⟩ : ∃ L : List Loc, L = [] := ⟨_, rfl⟩
  rw [← hlocs] at hS ⊢
  have hS : va_S A s.heap H locs := by rw [hH]; exact hS
  rw [← hH] at hP ⊢
  replace hf := f_FaultRules_cause_u hf
  refine lv_iload_n hx hb d_FaultRules_cause_0 rfl (lv_at hl 1 rfl) ?_
  refine lv_if_lt (tgt := 20) hx hb d_FaultRules_cause_1 (by decide) (fun c_1 => ?_) (fun c_1 => ?_)
  · replace hf := o_pos c_1 hf
    rw [hQ, ← Option.some.inj hf]
    exact x_throw hx hb hltr hml hl.1 hown hT hxW hNS hP hS hA hlocks hnh 1 (by decide) kA_IAE kE_IAE kN_IAE kO_IAE (List.mem_of_getElem? (i := 16) rfl) (by decide +kernel) d_FaultRules_cause_20 d_FaultRules_cause_23 d_FaultRules_cause_24 d_FaultRules_cause_26 d_FaultRules_cause_29 (Nat.le_of_ble_eq_true rfl) (Nat.le_of_ble_eq_true rfl) (Nat.le_of_ble_eq_true rfl) (Nat.le_of_ble_eq_true rfl)
  · replace hf := o_neg c_1 hf
    refine lv_iload_n hx hb d_FaultRules_cause_4 rfl (lv_at hl 1 rfl) ?_
    refine lv_bipush (v := 10) hx hb d_FaultRules_cause_5 (by decide) ?_
    refine lv_icmp_ge (tgt := 20) hx hb d_FaultRules_cause_7 (by decide) (fun c_2 => ?_) (fun c_2 => ?_)
    · replace hf := o_pos c_2 hf
      rw [hQ, ← Option.some.inj hf]
      exact x_throw hx hb hltr hml hl.1 hown hT hxW hNS hP hS hA hlocks hnh 1 (by decide) kA_IAE kE_IAE kN_IAE kO_IAE (List.mem_of_getElem? (i := 16) rfl) (by decide +kernel) d_FaultRules_cause_20 d_FaultRules_cause_23 d_FaultRules_cause_24 d_FaultRules_cause_26 d_FaultRules_cause_29 (Nat.le_of_ble_eq_true rfl) (Nat.le_of_ble_eq_true rfl) (Nat.le_of_ble_eq_true rfl) (Nat.le_of_ble_eq_true rfl)
    · replace hf := o_neg c_2 hf
      refine lv_iload_n hx hb d_FaultRules_cause_10 rfl (lv_at hl 2 rfl) ?_
      refine lv_if_lt (tgt := 20) hx hb d_FaultRules_cause_11 (by decide) (fun c_3 => ?_) (fun c_3 => ?_)
      · replace hf := o_pos c_3 hf
        rw [hQ, ← Option.some.inj hf]
        exact x_throw hx hb hltr hml hl.1 hown hT hxW hNS hP hS hA hlocks hnh 1 (by decide) kA_IAE kE_IAE kN_IAE kO_IAE (List.mem_of_getElem? (i := 16) rfl) (by decide +kernel) d_FaultRules_cause_20 d_FaultRules_cause_23 d_FaultRules_cause_24 d_FaultRules_cause_26 d_FaultRules_cause_29 (Nat.le_of_ble_eq_true rfl) (Nat.le_of_ble_eq_true rfl) (Nat.le_of_ble_eq_true rfl) (Nat.le_of_ble_eq_true rfl)
      · replace hf := o_neg c_3 hf
        refine lv_iload_n hx hb d_FaultRules_cause_14 rfl (lv_at hl 2 rfl) ?_
        refine lv_bipush (v := 63) hx hb d_FaultRules_cause_15 (by decide) ?_
        refine lv_icmp_le (tgt := 30) hx hb d_FaultRules_cause_17 (by decide) (fun c_4 => ?_) (fun c_4 => ?_)
        · replace hf := o_pos c_4 hf
          refine lv_aload_n hx hb d_FaultRules_cause_30 rfl (lv_at hl 0 rfl) ?_
          refine va_get (D := (dC, dI)) (ci := 6) (v := .ref h_brought) (C := R_FaultRules) (T := T_FaultRules) (N := 8) hx hb hT i_FaultRules hown hK hP 0 rfl rfl 5 (by decide) (hT _ kF_FaultRules_44) (fun _ h9 => h9) rfl d_FaultRules_cause_31 ?_
          refine lv_iload_n hx hb d_FaultRules_cause_34 rfl (lv_at hl 1 rfl) ?_
          obtain ⟨hi_5, hf⟩ := o_in hf
          refine va_iald hx hb hK hP 1 0 rfl rfl hi_5 d_FaultRules_cause_35 ?_
          refine lv_istore_n (lv' := [(3, .int (v_brought (p1 : Int32).toNatClampNeg)), (0, .ref h_this), (1, .int p1), (2, .int p2)]) hx hb d_FaultRules_cause_36 rfl hl (by decide) rfl (fun ls hl => ?_)
          refine lv_aload_n hx hb d_FaultRules_cause_37 rfl (lv_at hl 1 rfl) ?_
          refine va_get (D := (dC, dI)) (ci := 6) (v := .ref h_brought) (C := R_FaultRules) (T := T_FaultRules) (N := 8) hx hb hT i_FaultRules hown hK hP 0 rfl rfl 5 (by decide) (hT _ kF_FaultRules_44) (fun _ h9 => h9) rfl d_FaultRules_cause_38 ?_
          refine lv_iload_n hx hb d_FaultRules_cause_41 rfl (lv_at hl 2 rfl) ?_
          refine lv_iload_n hx hb d_FaultRules_cause_42 rfl (lv_at hl 3 rfl) ?_
          obtain ⟨hi_6, hf⟩ := o_in hf
          refine va_iast hx hb hK hP hD hS 1 0 rfl rfl hi_6 d_FaultRules_cause_43 (fun H locs hP hD hS => ?_)
          have hP : va_P (dC, dI) vwCl [(h_this, .inr (6, [.ref h_rows, .ref h_text, .ref h_reader, .ref h_found, .ref h_leftOut, .ref h_brought, .ref h_ruleSet, .ref h_draft])), (h_brought, .inl (cI, 10, .inl (upd v_brought (p1 : Int32).toNatClampNeg p2)))] H := hP
          have hD : va_D A [(h_this, .inr (6, [.ref h_rows, .ref h_text, .ref h_reader, .ref h_found, .ref h_leftOut, .ref h_brought, .ref h_ruleSet, .ref h_draft])), (h_brought, .inl (cI, 10, .inl (upd v_brought (p1 : Int32).toNatClampNeg p2)))] := hD
          refine lv_iload_n hx hb d_FaultRules_cause_44 rfl (lv_at hl 0 rfl) ?_
          rw [hQ, ← Option.some.inj hf]
          refine x_ret ?_
          refine W.widen (k := 1) (n := 6) (Nat.zero_le _) (Nat.zero_le _) ?_
          exact W.iret hx hb hr (fun t9 ht9 hW9 => ⟨by rw [ht9]; exact hP, hS.F ht9, Or.inl ⟨rfl, rfl⟩⟩) hS.2.2 d_FaultRules_cause_45
        · replace hf := o_neg c_4 hf
          rw [hQ, ← Option.some.inj hf]
          exact x_throw hx hb hltr hml hl.1 hown hT hxW hNS hP hS hA hlocks hnh 1 (by decide) kA_IAE kE_IAE kN_IAE kO_IAE (List.mem_of_getElem? (i := 16) rfl) (by decide +kernel) d_FaultRules_cause_20 d_FaultRules_cause_23 d_FaultRules_cause_24 d_FaultRules_cause_26 d_FaultRules_cause_29 (Nat.le_of_ble_eq_true rfl) (Nat.le_of_ble_eq_true rfl) (Nat.le_of_ble_eq_true rfl) (Nat.le_of_ble_eq_true rfl)
def rm_FaultRules_causes : Room := { frames := 6, cells := 1, slots := 6, locals := 90 }
set_option maxHeartbeats 4000000 in
set_option maxRecDepth 100000 in
theorem c_FaultRules_causes (l : Launch) (dC : Nat → ClassId) (dI : Nat → Nat → Nat) (cI cL cC : ClassId) (h_this h_rows h_text h_reader h_found h_leftOut h_brought h_ruleSet h_draft h_found_minutesHeld h_found_since h_found_faultRules h_found_begins h_found_ends h_found_faultCosts : Nat) (sz : Nat) (fu : Nat) (v_found_isThere : Int32) (v_found_count : Int32) (v_found_total : Int32) (v_found_faultyRules : Int32) (v_brought : Nat → Int32) (t : Nat × Int32) (hf : f_FaultRules_causes fu v_found_isThere v_found_faultyRules v_brought = some t) (hltr : l.stackTraces = false) : xMet l y_FaultRules_causes (Cond.code y_FaultRules_causes prog_1_method_15_code 5 (some .int) :: xT) rm_FaultRules_causes (va_Pc [.ref h_this] (xPT (dC, dI) (xTy cI cL cC) [(h_this, .inr (6, [.ref h_rows, .ref h_text, .ref h_reader, .ref h_found, .ref h_leftOut, .ref h_brought, .ref h_ruleSet, .ref h_draft])), (h_found, .inr (4, [.int v_found_isThere, .int v_found_count, .int v_found_total, .int v_found_faultyRules, .ref h_found_minutesHeld, .ref h_found_since, .ref h_found_faultRules, .ref h_found_begins, .ref h_found_ends, .ref h_found_faultCosts])), (h_brought, .inl (cI, 10, .inl v_brought))] sz)) (xQT (dC, dI) [(h_this, .inr (6, [.ref h_rows, .ref h_text, .ref h_reader, .ref h_found, .ref h_leftOut, .ref h_brought, .ref h_ruleSet, .ref h_draft])), (h_found, .inr (4, [.int v_found_isThere, .int v_found_count, .int v_found_total, .int v_found_faultyRules, .ref h_found_minutesHeld, .ref h_found_since, .ref h_found_faultRules, .ref h_found_begins, .ref h_found_ends, .ref h_found_faultCosts])), (h_brought, .inl (cI, 10, .inl v_brought))] (va_A [(h_this, .inr (6, [.ref h_rows, .ref h_text, .ref h_reader, .ref h_found, .ref h_leftOut, .ref h_brought, .ref h_ruleSet, .ref h_draft])), (h_found, .inr (4, [.int v_found_isThere, .int v_found_count, .int v_found_total, .int v_found_faultyRules, .ref h_found_minutesHeld, .ref h_found_since, .ref h_found_faultRules, .ref h_found_begins, .ref h_found_ends, .ref h_found_faultCosts])), (h_brought, .inl (cI, 10, .inl v_brought))] sz) t.1 (some (.int t.2))) 1 6 (va_A [(h_this, .inr (6, [.ref h_rows, .ref h_text, .ref h_reader, .ref h_found, .ref h_leftOut, .ref h_brought, .ref h_ruleSet, .ref h_draft])), (h_found, .inr (4, [.int v_found_isThere, .int v_found_count, .int v_found_total, .int v_found_faultyRules, .ref h_found_minutesHeld, .ref h_found_since, .ref h_found_faultRules, .ref h_found_begins, .ref h_found_ends, .ref h_found_faultCosts])), (h_brought, .inl (cI, 10, .inl v_brought))] sz) := by
  refine xMet_ofW (cc := prog_1_method_15_code) (maxL := 5) (ret := (some .int)) (by decide) rfl ?_
  intro p e s m args below meth c s₁ B hml hv
  obtain ⟨hargs, ⟨hsz, hP, hK, hN, hD0⟩, hxW⟩ := hv
  have hx := B.exec
  have hb := B.bytes
  have hr := B.returns
  have hT : ∀ w ∈ xT, w.before args s = true := fun w hw => atoms_spec (ws := Cond.code y_FaultRules_causes prog_1_method_15_code 5 (some .int) :: xT) B.pre w (List.mem_cons_of_mem _ hw)
  have hown : s.vm.findClass R_FaultRules = some m.cls := findClass_of_methodNamed B.named
  have hlocks := B.notSynchronized
  subst hsz
  have hD := hD0.self (sz := s.heap.size)
  have hNS : ∀ (q : Nat) (cell : Cell), va_A [(h_this, .inr (6, [.ref h_rows, .ref h_text, .ref h_reader, .ref h_found, .ref h_leftOut, .ref h_brought, .ref h_ruleSet, .ref h_draft])), (h_found, .inr (4, [.int v_found_isThere, .int v_found_count, .int v_found_total, .int v_found_faultyRules, .ref h_found_minutesHeld, .ref h_found_since, .ref h_found_faultRules, .ref h_found_begins, .ref h_found_ends, .ref h_found_faultCosts])), (h_brought, .inl (cI, 10, .inl v_brought))] s.heap.size q → s.heap[q]? = some cell → cell.vm.isStatics = false := x_noSt hP
  have hnh : c.exceptionTable.toList = [] := x_nh B (atoms_spec (ws := Cond.code y_FaultRules_causes prog_1_method_15_code 5 (some .int) :: xT) B.pre _ List.mem_cons_self)
  generalize hAe : va_A [(h_this, .inr (6, [.ref h_rows, .ref h_text, .ref h_reader, .ref h_found, .ref h_leftOut, .ref h_brought, .ref h_ruleSet, .ref h_draft])), (h_found, .inr (4, [.int v_found_isThere, .int v_found_count, .int v_found_total, .int v_found_faultyRules, .ref h_found_minutesHeld, .ref h_found_since, .ref h_found_faultRules, .ref h_found_begins, .ref h_found_ends, .ref h_found_faultCosts])), (h_brought, .inl (cI, 10, .inl v_brought))] s.heap.size = A at hD hNS ⊢
  have hA : ∀ q : Nat, s.heap.size ≤ q → A q := fun q h => by rw [← hAe]; exact Or.inr h
  have hS : va_S A s.heap s.heap [] := va_S.rf
  have hP : va_P (dC, dI) vwCl [(h_this, .inr (6, [.ref h_rows, .ref h_text, .ref h_reader, .ref h_found, .ref h_leftOut, .ref h_brought, .ref h_ruleSet, .ref h_draft])), (h_found, .inr (4, [.int v_found_isThere, .int v_found_count, .int v_found_total, .int v_found_faultyRules, .ref h_found_minutesHeld, .ref h_found_since, .ref h_found_faultRules, .ref h_found_begins, .ref h_found_ends, .ref h_found_faultCosts])), (h_brought, .inl (cI, 10, .inl v_brought))] s.heap := hP
  have hl := lv_entry ([.ref h_this]) (n := 5) (Nat.le_of_ble_eq_true rfl)
  rw [show entryFrame m args 5 = entryFrame m ([.ref h_this] : List Value).toArray 5 from by rw [hargs], lg_entry_eq]
  generalize (lg_sl ([.ref h_this]) ++ List.replicate (5 - (lg_sl ([.ref h_this])).length) Slot.unset).toArray = ls at hl ⊢
  have hl : lv_has ls 5 [(0, .ref h_this)] := hl
  obtain ⟨Q, hQ⟩ : ∃ Q, Q = xMQ below (xQT (dC, dI) [(h_this, .inr (6, [.ref h_rows, .ref h_text, .ref h_reader, .ref h_found, .ref h_leftOut, .ref h_brought, .ref h_ruleSet, .ref h_draft])), (h_found, .inr (4, [.int v_found_isThere, .int v_found_count, .int v_found_total, .int v_found_faultyRules, .ref h_found_minutesHeld, .ref h_found_since, .ref h_found_faultRules, .ref h_found_begins, .ref h_found_ends, .ref h_found_faultCosts])), (h_brought, .inl (cI, 10, .inl v_brought))] A t.1 (some (.int t.2))) args s 1 6 A := ⟨_, rfl⟩
  rw [← hQ]
  show W p l e rm_FaultRules_causes s m args below meth c s.heap [] 0 0 Q _
  obtain ⟨H, hH⟩ : ∃ H, H = s.heap := ⟨_, rfl⟩
  obtain ⟨locs, hlocs⟩ : ∃ L : List Loc, L = [] := ⟨_, rfl⟩
  rw [← hlocs] at hS ⊢
  have hS : va_S A s.heap H locs := by rw [hH]; exact hS
  rw [← hH] at hP ⊢
  replace hf := f_FaultRules_causes_u hf
  refine lv_aload_n hx hb d_FaultRules_causes_0 rfl (lv_at hl 0 rfl) ?_
  refine va_get (D := (dC, dI)) (ci := 6) (v := .ref h_found) (C := R_FaultRules) (T := T_FaultRules) (N := 8) hx hb hT i_FaultRules hown hK hP 0 rfl rfl 3 (by decide) (hT _ kF_FaultRules_33) (fun _ h9 => h9) rfl d_FaultRules_causes_1 ?_
  refine va_get (D := (dC, dI)) (ci := 4) (v := .int v_found_isThere) (C := R_Run) (T := T_Run) (N := 10) hx hb hT i_Run hown hK hP 1 rfl rfl 0 (by decide) (hT _ kF_FaultRules_127) (fun _ h9 => h9) rfl d_FaultRules_causes_4 ?_
  refine lv_if_ne (tgt := 20) hx hb d_FaultRules_causes_7 (by decide) (fun c_1 => ?_) (fun c_1 => ?_)
  · replace hf := o_neg c_1 hf
    refine lv_iconst (v := (-1)) hx hb d_FaultRules_causes_20 (by decide) ?_
    refine lv_istore_n (lv' := [(1, .int ((-1))), (0, .ref h_this)]) hx hb d_FaultRules_causes_21 rfl hl (by decide) rfl (fun ls hl => ?_)
    refine lv_bipush (v := 11) hx hb d_FaultRules_causes_22 (by decide) ?_
    refine lv_istore_n (lv' := [(2, .int 11), (1, .int ((-1))), (0, .ref h_this)]) hx hb d_FaultRules_causes_24 rfl hl (by decide) rfl (fun ls hl => ?_)
    refine lv_iconst (v := 0) hx hb d_FaultRules_causes_25 (by decide) ?_
    refine lv_istore_n (lv' := [(3, .int 0), (2, .int 11), (1, .int ((-1))), (0, .ref h_this)]) hx hb d_FaultRules_causes_26 rfl hl (by decide) rfl (fun ls hl => ?_)
    have lp_27 : ∀ (n : Nat) (l1_27 : Int32) (l2_27 : Int32) (l3_27 : Int32) (H : Heap) (locs : List Loc) (ls : Array Slot), L_FaultRules_causes_27 fu v_found_faultyRules v_brought n l1_27 l2_27 l3_27 = some t → va_P (dC, dI) vwCl [(h_this, .inr (6, [.ref h_rows, .ref h_text, .ref h_reader, .ref h_found, .ref h_leftOut, .ref h_brought, .ref h_ruleSet, .ref h_draft])), (h_found, .inr (4, [.int v_found_isThere, .int v_found_count, .int v_found_total, .int v_found_faultyRules, .ref h_found_minutesHeld, .ref h_found_since, .ref h_found_faultRules, .ref h_found_begins, .ref h_found_ends, .ref h_found_faultCosts])), (h_brought, .inl (cI, 10, .inl v_brought))] H → va_D A [(h_this, .inr (6, [.ref h_rows, .ref h_text, .ref h_reader, .ref h_found, .ref h_leftOut, .ref h_brought, .ref h_ruleSet, .ref h_draft])), (h_found, .inr (4, [.int v_found_isThere, .int v_found_count, .int v_found_total, .int v_found_faultyRules, .ref h_found_minutesHeld, .ref h_found_since, .ref h_found_faultRules, .ref h_found_begins, .ref h_found_ends, .ref h_found_faultCosts])), (h_brought, .inl (cI, 10, .inl v_brought))] → va_S A s.heap H locs → lv_has ls 5 [(0, .ref h_this), (1, .int l1_27), (2, .int l2_27), (3, .int l3_27)] → W p l e rm_FaultRules_causes s m args below meth c H locs 0 0 Q (F0 m 27 ls []) := by
      intro  n
      induction n with
      | zero => intro l1_27 l2_27 l3_27 H locs ls hf; exact (L_FaultRules_causes_27_z hf).elim
      | succ n ih =>
        intro l1_27 l2_27 l3_27 H locs ls hf hP hD hS hl
        replace hf := L_FaultRules_causes_27_u hf
        refine lv_iload_n hx hb d_FaultRules_causes_27 rfl (lv_at hl 3 rfl) ?_
        refine lv_sipush (v := 1024) hx hb d_FaultRules_causes_28 (by decide) ?_
        refine lv_icmp_ge (tgt := 75) hx hb d_FaultRules_causes_31 (by decide) (fun c_2 => ?_) (fun c_2 => ?_)
        · replace hf := o_pos c_2 hf
          refine lv_iload_n hx hb d_FaultRules_causes_75 rfl (lv_at hl 1 rfl) ?_
          rw [hQ, ← Option.some.inj hf]
          refine x_ret ?_
          refine W.widen (k := 1) (n := 6) (Nat.zero_le _) (Nat.zero_le _) ?_
          exact W.iret hx hb hr (fun t9 ht9 hW9 => ⟨by rw [ht9]; exact hP, hS.F ht9, Or.inl ⟨rfl, rfl⟩⟩) hS.2.2 d_FaultRules_causes_76
        · replace hf := o_neg c_2 hf
          refine lv_iload_n hx hb d_FaultRules_causes_34 rfl (lv_at hl 3 rfl) ?_
          obtain ⟨t_3, hg_3, hf⟩ := o_bind hf
          refine x_stat (w' := [(h_this, .inr (6, [.ref h_rows, .ref h_text, .ref h_reader, .ref h_found, .ref h_leftOut, .ref h_brought, .ref h_ruleSet, .ref h_draft])), (h_found, .inr (4, [.int v_found_isThere, .int v_found_count, .int v_found_total, .int v_found_faultyRules, .ref h_found_minutesHeld, .ref h_found_since, .ref h_found_faultRules, .ref h_found_begins, .ref h_found_ends, .ref h_found_faultCosts])), (h_brought, .inl (cI, 10, .inl v_brought))]) (As := [.int l3_27]) (rest := []) hx hb hml hl.1 hown hT hK hN hP hD hS hA (c_java_lang_Integer_bitCount l dC dI cI cL cC H.size l3_27 t_3 hg_3) kM_FaultRules_191 kT_java_lang_Integer_bitCount kN_java_lang_Integer kC_java_lang_Integer_bitCount hd_java_lang_Integer_bitCount rfl ⟨Nat.le_of_ble_eq_true rfl, Nat.le_of_ble_eq_true rfl⟩ rfl rfl ⟨Nat.zero_le _, Nat.zero_le _⟩ rfl (Nat.le_of_ble_eq_true rfl) d_FaultRules_causes_35 [] rfl rfl [.inl 0, .inl 1, .inl 2] rfl rfl rfl (fun H locs hP hD hS => ?_)
          refine lv_istore (lv' := [(4, .int t_3), (0, .ref h_this), (1, .int l1_27), (2, .int l2_27), (3, .int l3_27)]) hx hb d_FaultRules_causes_38 hl (by decide) rfl (fun ls hl => ?_)
          refine lv_iload hx hb d_FaultRules_causes_40 (lv_at hl 0 rfl) ?_
          refine lv_iload_n hx hb d_FaultRules_causes_42 rfl (lv_at hl 3 rfl) ?_
          refine lv_icmp_ge (tgt := 69) hx hb d_FaultRules_causes_43 (by decide) (fun c_4 => ?_) (fun c_4 => ?_)
          · replace hf := o_pos c_4 hf
            refine lv_iinc (v := l3_27 + 1) (lv' := [(3, .int (l3_27 + 1)), (4, .int t_3), (0, .ref h_this), (1, .int l1_27), (2, .int l2_27)]) hx hb d_FaultRules_causes_69 hl (k := 4) rfl rfl (by decide) rfl (fun ls hl => ?_)
            refine lv_goto (tgt := 27) hx hb d_FaultRules_causes_72 (by decide) ?_
            exact ih l1_27 l2_27 (l3_27 + 1) H locs ls hf hP hD hS (lv_sub hl [2, 3, 4, 0] rfl)
          · replace hf := o_neg c_4 hf
            refine lv_aload_n hx hb d_FaultRules_causes_46 rfl (lv_at hl 1 rfl) ?_
            refine va_get (D := (dC, dI)) (ci := 6) (v := .ref h_found) (C := R_FaultRules) (T := T_FaultRules) (N := 8) hx hb hT i_FaultRules hown hK hP 0 rfl rfl 3 (by decide) (hT _ kF_FaultRules_33) (fun _ h9 => h9) rfl d_FaultRules_causes_47 ?_
            refine va_get (D := (dC, dI)) (ci := 4) (v := .int v_found_faultyRules) (C := R_Run) (T := T_Run) (N := 10) hx hb hT i_Run hown hK hP 1 rfl rfl 3 (by decide) (hT _ kF_FaultRules_196) (fun _ h9 => h9) rfl d_FaultRules_causes_50 ?_
            refine lv_aload_n hx hb d_FaultRules_causes_53 rfl (lv_at hl 1 rfl) ?_
            refine lv_iload_n hx hb d_FaultRules_causes_54 rfl (lv_at hl 4 rfl) ?_
            obtain ⟨t_5, hg_5, hf⟩ := o_bind hf
            refine x_virt (w' := [(h_this, .inr (6, [.ref h_rows, .ref h_text, .ref h_reader, .ref h_found, .ref h_leftOut, .ref h_brought, .ref h_ruleSet, .ref h_draft])), (h_found, .inr (4, [.int v_found_isThere, .int v_found_count, .int v_found_total, .int v_found_faultyRules, .ref h_found_minutesHeld, .ref h_found_since, .ref h_found_faultRules, .ref h_found_begins, .ref h_found_ends, .ref h_found_faultCosts])), (h_brought, .inl (cI, 10, .inl v_brought))]) (As := [.int l3_27]) (rest := [.int v_found_faultyRules]) hx hb hml hl.1 hown hT hK hN hP hD hS hA (c_FaultRules_broughtBy l dC dI cI cL cC h_this h_rows h_text h_reader h_found h_leftOut h_brought h_ruleSet h_draft H.size fu v_brought l3_27 t_5 hg_5) kM_FaultRules_199 kI_FaultRules_broughtBy kS_366 kN_FaultRules kC_FaultRules_broughtBy hd_FaultRules_broughtBy rfl 0 rfl rfl rfl ⟨Nat.le_of_ble_eq_true rfl, Nat.le_of_ble_eq_true rfl⟩ rfl rfl ⟨Nat.zero_le _, Nat.zero_le _⟩ rfl (Nat.le_of_ble_eq_true rfl) d_FaultRules_causes_55 [0, 2] rfl rfl [.inr 0, .inl 1, .inr 1] rfl rfl rfl (fun H locs hP hD hS => ?_)
            refine lv_iconst (v := (-1)) hx hb d_FaultRules_causes_58 (by decide) ?_
            refine lv_ixor hx hb d_FaultRules_causes_59 ?_
            refine lv_iand hx hb d_FaultRules_causes_60 ?_
            refine lv_if_ne (tgt := 69) hx hb d_FaultRules_causes_61 (by decide) (fun c_6 => ?_) (fun c_6 => ?_)
            · replace hf := o_neg c_6 hf
              refine lv_iinc (v := l3_27 + 1) (lv' := [(3, .int (l3_27 + 1)), (4, .int t_3), (0, .ref h_this), (1, .int l1_27), (2, .int l2_27)]) hx hb d_FaultRules_causes_69 hl (k := 4) rfl rfl (by decide) rfl (fun ls hl => ?_)
              refine lv_goto (tgt := 27) hx hb d_FaultRules_causes_72 (by decide) ?_
              exact ih l1_27 l2_27 (l3_27 + 1) H locs ls hf hP hD hS (lv_sub hl [2, 3, 4, 0] rfl)
            · replace hf := o_pos c_6 hf
              refine lv_iload_n hx hb d_FaultRules_causes_64 rfl (lv_at hl 4 rfl) ?_
              refine lv_istore_n (lv' := [(1, .int l3_27), (4, .int t_3), (0, .ref h_this), (2, .int l2_27), (3, .int l3_27)]) hx hb d_FaultRules_causes_65 rfl hl (by decide) rfl (fun ls hl => ?_)
              refine lv_iload hx hb d_FaultRules_causes_66 (lv_at hl 1 rfl) ?_
              refine lv_istore_n (lv' := [(2, .int t_3), (1, .int l3_27), (4, .int t_3), (0, .ref h_this), (3, .int l3_27)]) hx hb d_FaultRules_causes_68 rfl hl (by decide) rfl (fun ls hl => ?_)
              refine lv_iinc (v := l3_27 + 1) (lv' := [(3, .int (l3_27 + 1)), (2, .int t_3), (1, .int l3_27), (4, .int t_3), (0, .ref h_this)]) hx hb d_FaultRules_causes_69 hl (k := 4) rfl rfl (by decide) rfl (fun ls hl => ?_)
              refine lv_goto (tgt := 27) hx hb d_FaultRules_causes_72 (by decide) ?_
              exact ih l3_27 t_3 (l3_27 + 1) H locs ls hf hP hD hS (lv_sub hl [4, 2, 1, 0] rfl)
    refine lp_27  fu ((-1)) 11 0 H locs ls hf hP hD hS (lv_sub hl [3, 2, 1, 0] rfl)
  · replace hf := o_pos c_1 hf
    rw [hQ, ← Option.some.inj hf]
    exact x_throw hx hb hltr hml hl.1 hown hT hxW hNS hP hS hA hlocks hnh 2 (by decide) kA_ISE kE_ISE kN_ISE kO_ISE (List.mem_of_getElem? (i := 10) rfl) (by decide +kernel) d_FaultRules_causes_10 d_FaultRules_causes_13 d_FaultRules_causes_14 d_FaultRules_causes_16 d_FaultRules_causes_19 (Nat.le_of_ble_eq_true rfl) (Nat.le_of_ble_eq_true rfl) (Nat.le_of_ble_eq_true rfl) (Nat.le_of_ble_eq_true rfl)
