def f_FaultRules_isPoint (p1 : Int32) : Option (Int32) :=
  (if p1 < 0 then (some 0) else (if 16 ≤ p1 then (some 0) else (some 1)))
theorem f_FaultRules_isPoint_u {p1 : Int32} {t : Int32} (h : f_FaultRules_isPoint p1 = some t) : (if p1 < 0 then (some 0) else (if 16 ≤ p1 then (some 0) else (some 1))) = some t := h
def f_FaultRules_isMinute (p1 : Int32) : Option (Int32) :=
  (if p1 < 0 then (some 0) else (if 100000 < p1 then (some 0) else (some 1)))
theorem f_FaultRules_isMinute_u {p1 : Int32} {t : Int32} (h : f_FaultRules_isMinute p1 = some t) : (if p1 < 0 then (some 0) else (if 100000 < p1 then (some 0) else (some 1))) = some t := h
def f_FaultRules_isStretch (p1 : Int32) (p2 : Int32) (p3 : Int32) : Option (Int32) :=
  ((f_FaultRules_isMinute p1).bind (fun t_1 => (if t_1 = 0 then (some 0) else ((f_FaultRules_isMinute p2).bind (fun t_3 => (if t_3 = 0 then (some 0) else (if p2 < p1 then (some 0) else (if p3 ≤ (p2 - p1) then (some 0) else (some 1)))))))))
theorem f_FaultRules_isStretch_u {p1 : Int32} {p2 : Int32} {p3 : Int32} {t : Int32} (h : f_FaultRules_isStretch p1 p2 p3 = some t) : ((f_FaultRules_isMinute p1).bind (fun t_1 => (if t_1 = 0 then (some 0) else ((f_FaultRules_isMinute p2).bind (fun t_3 => (if t_3 = 0 then (some 0) else (if p2 < p1 then (some 0) else (if p3 ≤ (p2 - p1) then (some 0) else (some 1))))))))) = some t := h
def L_FaultRules_commonDivisor_9 (fu : Nat) (k_45 : Int64 → Option (Int64)) : Nat → Int64 → Int64 → Int32 → Option (Int64)
  | 0, _, _, _ => none
  | n + 1, l4_9, l6_9, l8_9 => (if 128 ≤ l8_9 then (k_45 l4_9) else (if (lg_cmp l6_9 0) = 0 then (k_45 l4_9) else (nzL l6_9 ((L_FaultRules_commonDivisor_9 fu k_45 n) l6_9 (l4_9 - l4_9 / l6_9 * l6_9) (l8_9 + 1)))))
theorem L_FaultRules_commonDivisor_9_z {fu : Nat} {k_45 : Int64 → Option (Int64)} {l4_9 : Int64} {l6_9 : Int64} {l8_9 : Int32} {t : Int64} (h : L_FaultRules_commonDivisor_9 fu k_45 0 l4_9 l6_9 l8_9 = some t) : False := by cases (show (none : Option (Int64)) = some t from h)
theorem L_FaultRules_commonDivisor_9_u {fu : Nat} {k_45 : Int64 → Option (Int64)} {n : Nat} {l4_9 : Int64} {l6_9 : Int64} {l8_9 : Int32} {t : Int64} (h : L_FaultRules_commonDivisor_9 fu k_45 (n + 1) l4_9 l6_9 l8_9 = some t) : (if 128 ≤ l8_9 then (k_45 l4_9) else (if (lg_cmp l6_9 0) = 0 then (k_45 l4_9) else (nzL l6_9 ((L_FaultRules_commonDivisor_9 fu k_45 n) l6_9 (l4_9 - l4_9 / l6_9 * l6_9) (l8_9 + 1))))) = some t := h
def f_FaultRules_commonDivisor (fu : Nat) (p1 : Int64) (p2 : Int64) : Option (Int64) :=
  (L_FaultRules_commonDivisor_9 fu (fun (l4_9x4 : Int64) => (if (lg_cmp l4_9x4 0) = 0 then (some 1) else (some l4_9x4))) fu p1 p2 0)
theorem f_FaultRules_commonDivisor_u {fu : Nat} {p1 : Int64} {p2 : Int64} {t : Int64} (h : f_FaultRules_commonDivisor fu p1 p2 = some t) : (L_FaultRules_commonDivisor_9 fu (fun (l4_9x4 : Int64) => (if (lg_cmp l4_9x4 0) = 0 then (some 1) else (some l4_9x4))) fu p1 p2 0) = some t := h
def f_FaultRules_lowest (fu : Nat) (p1 : Int64) (p2 : Int64) (p3 : Int32) : Option (Int64) :=
  (if 0 < (lg_cmp p2 0) then ((f_FaultRules_commonDivisor fu p2 (if 0 < p1 then p1 else -p1)).bind (fun t_2 => (if p3 = 0 then (nzL t_2 (some (p1 / t_2))) else (nzL t_2 (some (p2 / t_2)))))) else (some 0))
theorem f_FaultRules_lowest_u {fu : Nat} {p1 : Int64} {p2 : Int64} {p3 : Int32} {t : Int64} (h : f_FaultRules_lowest fu p1 p2 p3 = some t) : (if 0 < (lg_cmp p2 0) then ((f_FaultRules_commonDivisor fu p2 (if 0 < p1 then p1 else -p1)).bind (fun t_2 => (if p3 = 0 then (nzL t_2 (some (p1 / t_2))) else (nzL t_2 (some (p2 / t_2)))))) else (some 0)) = some t := h
def L_FaultRules_broughtBy_4 (fu : Nat) (v_brought : Nat → Int32) (l1_4 : Int32) : Nat → Int32 → Int32 → Option (Int32)
  | 0, _, _ => none
  | n + 1, l2_4, l3_4 => (if 10 ≤ l3_4 then (some l2_4) else (if ((l1_4 >>> (l3_4 &&& 31)) &&& 1) = 1 then (bd l3_4 10 ((L_FaultRules_broughtBy_4 fu v_brought l1_4 n) (l2_4 ||| (v_brought (l3_4 : Int32).toNatClampNeg)) (l3_4 + 1))) else ((L_FaultRules_broughtBy_4 fu v_brought l1_4 n) l2_4 (l3_4 + 1))))
theorem L_FaultRules_broughtBy_4_z {fu : Nat} {v_brought : Nat → Int32} {l1_4 : Int32} {l2_4 : Int32} {l3_4 : Int32} {t : Int32} (h : L_FaultRules_broughtBy_4 fu v_brought l1_4 0 l2_4 l3_4 = some t) : False := by cases (show (none : Option (Int32)) = some t from h)
theorem L_FaultRules_broughtBy_4_u {fu : Nat} {v_brought : Nat → Int32} {l1_4 : Int32} {n : Nat} {l2_4 : Int32} {l3_4 : Int32} {t : Int32} (h : L_FaultRules_broughtBy_4 fu v_brought l1_4 (n + 1) l2_4 l3_4 = some t) : (if 10 ≤ l3_4 then (some l2_4) else (if ((l1_4 >>> (l3_4 &&& 31)) &&& 1) = 1 then (bd l3_4 10 ((L_FaultRules_broughtBy_4 fu v_brought l1_4 n) (l2_4 ||| (v_brought (l3_4 : Int32).toNatClampNeg)) (l3_4 + 1))) else ((L_FaultRules_broughtBy_4 fu v_brought l1_4 n) l2_4 (l3_4 + 1)))) = some t := h
def f_FaultRules_broughtBy (fu : Nat) (v_brought : Nat → Int32) (p1 : Int32) : Option (Int32) :=
  (L_FaultRules_broughtBy_4 fu v_brought p1 fu 0 0)
theorem f_FaultRules_broughtBy_u {fu : Nat} {v_brought : Nat → Int32} {p1 : Int32} {t : Int32} (h : f_FaultRules_broughtBy fu v_brought p1 = some t) : (L_FaultRules_broughtBy_4 fu v_brought p1 fu 0 0) = some t := h
def rm_FaultRules_isPoint : Room := { frames := 0, cells := 0, slots := 0, locals := 0 }
set_option maxHeartbeats 4000000 in
set_option maxRecDepth 100000 in
theorem c_FaultRules_isPoint (l : Launch) (dC : Nat → ClassId) (dI : Nat → Nat → Nat) (cI cL cC : ClassId) (sz : Nat) (p1 : Int32) (t : Int32) (hf : f_FaultRules_isPoint p1 = some t) : Met l y_FaultRules_isPoint (Cond.code y_FaultRules_isPoint prog_1_method_17_code 1 (some .boolean) :: xT) rm_FaultRules_isPoint (va_Pc [.int p1] (xP (dC, dI) (xTy cI cL cC) [] sz)) (xQ (dC, dI) [] (va_A [] sz) (some (.int t))) 0 0 (va_A [] sz) := by
  refine Met.ofW (cc := prog_1_method_17_code) (maxL := 1) (ret := (some .boolean)) (by decide) rfl ?_
  intro p e s m args below meth c s₁ B hml hv
  obtain ⟨hargs, hsz, hP, hK, hN, hD0⟩ := hv
  have hx := B.exec
  have hb := B.bytes
  have hr := B.returns
  have hT : ∀ w ∈ xT, w.before args s = true := fun w hw => atoms_spec (ws := Cond.code y_FaultRules_isPoint prog_1_method_17_code 1 (some .boolean) :: xT) B.pre w (List.mem_cons_of_mem _ hw)
  have hown : s.vm.findClass R_FaultRules = some m.cls := findClass_of_methodNamed B.named
  have hlocks := B.notSynchronized
  subst hsz
  have hD := hD0.self (sz := s.heap.size)
  generalize hAe : va_A [] s.heap.size = A at hD ⊢
  have hA : ∀ q : Nat, s.heap.size ≤ q → A q := fun q h => by rw [← hAe]; exact Or.inr h
  have hS : va_S A s.heap s.heap [] := va_S.rf
  have hP : va_P (dC, dI) vwCl [] s.heap := hP
  have hl := lv_entry ([.int p1]) (n := 1) (Nat.le_of_ble_eq_true rfl)
  rw [show entryFrame m args 1 = entryFrame m ([.int p1] : List Value).toArray 1 from by rw [hargs], lg_entry_eq]
  generalize (lg_sl ([.int p1]) ++ List.replicate (1 - (lg_sl ([.int p1])).length) Slot.unset).toArray = ls at hl ⊢
  have hl : lv_has ls 1 [(0, .int p1)] := hl
  obtain ⟨Q, hQ⟩ : ∃ Q, Q = MQ below (xQ (dC, dI) [] A (some (.int t))) args s 0 0 A := ⟨_, rfl⟩
  rw [← hQ]
  show W p l e rm_FaultRules_isPoint s m args below meth c s.heap [] 0 0 Q _
  obtain ⟨H, hH⟩ : ∃ H, H = s.heap := ⟨_, rfl⟩
  obtain ⟨locs, hlocs⟩ : ∃ L : List Loc, L = [] := ⟨_, rfl⟩
  rw [← hlocs] at hS ⊢
  have hS : va_S A s.heap H locs := by rw [hH]; exact hS
  rw [← hH] at hP ⊢
  replace hf := f_FaultRules_isPoint_u hf
  refine lv_iload_n hx hb d_FaultRules_isPoint_0 rfl (lv_at hl 0 rfl) ?_
  refine lv_if_lt (tgt := 14) hx hb d_FaultRules_isPoint_1 (by decide) (fun c_1 => ?_) (fun c_1 => ?_)
  · replace hf := o_pos c_1 hf
    refine lv_iconst (v := 0) hx hb d_FaultRules_isPoint_14 (by decide) ?_
    rw [hQ, ← Option.some.inj hf]
    exact W.zret (ty := .boolean) hx hb hr rfl (fun t9 ht9 hW9 => ⟨rfl, by rw [ht9]; exact hP, hS.F ht9⟩) hS.2.2 d_FaultRules_isPoint_15
  · replace hf := o_neg c_1 hf
    refine lv_iload_n hx hb d_FaultRules_isPoint_4 rfl (lv_at hl 0 rfl) ?_
    refine lv_bipush (v := 16) hx hb d_FaultRules_isPoint_5 (by decide) ?_
    refine lv_icmp_ge (tgt := 14) hx hb d_FaultRules_isPoint_7 (by decide) (fun c_2 => ?_) (fun c_2 => ?_)
    · replace hf := o_pos c_2 hf
      refine lv_iconst (v := 0) hx hb d_FaultRules_isPoint_14 (by decide) ?_
      rw [hQ, ← Option.some.inj hf]
      exact W.zret (ty := .boolean) hx hb hr rfl (fun t9 ht9 hW9 => ⟨rfl, by rw [ht9]; exact hP, hS.F ht9⟩) hS.2.2 d_FaultRules_isPoint_15
    · replace hf := o_neg c_2 hf
      refine lv_iconst (v := 1) hx hb d_FaultRules_isPoint_10 (by decide) ?_
      refine lv_goto (tgt := 15) hx hb d_FaultRules_isPoint_11 (by decide) ?_
      rw [hQ, ← Option.some.inj hf]
      exact W.zret (ty := .boolean) hx hb hr rfl (fun t9 ht9 hW9 => ⟨rfl, by rw [ht9]; exact hP, hS.F ht9⟩) hS.2.2 d_FaultRules_isPoint_15
def rm_FaultRules_isMinute : Room := { frames := 0, cells := 0, slots := 0, locals := 0 }
set_option maxHeartbeats 4000000 in
set_option maxRecDepth 100000 in
theorem c_FaultRules_isMinute (l : Launch) (dC : Nat → ClassId) (dI : Nat → Nat → Nat) (cI cL cC : ClassId) (sz : Nat) (p1 : Int32) (t : Int32) (hf : f_FaultRules_isMinute p1 = some t) : Met l y_FaultRules_isMinute (Cond.code y_FaultRules_isMinute prog_1_method_18_code 1 (some .boolean) :: xT) rm_FaultRules_isMinute (va_Pc [.int p1] (xP (dC, dI) (xTy cI cL cC) [] sz)) (xQ (dC, dI) [] (va_A [] sz) (some (.int t))) 0 0 (va_A [] sz) := by
  refine Met.ofW (cc := prog_1_method_18_code) (maxL := 1) (ret := (some .boolean)) (by decide) rfl ?_
  intro p e s m args below meth c s₁ B hml hv
  obtain ⟨hargs, hsz, hP, hK, hN, hD0⟩ := hv
  have hx := B.exec
  have hb := B.bytes
  have hr := B.returns
  have hT : ∀ w ∈ xT, w.before args s = true := fun w hw => atoms_spec (ws := Cond.code y_FaultRules_isMinute prog_1_method_18_code 1 (some .boolean) :: xT) B.pre w (List.mem_cons_of_mem _ hw)
  have hown : s.vm.findClass R_FaultRules = some m.cls := findClass_of_methodNamed B.named
  have hlocks := B.notSynchronized
  subst hsz
  have hD := hD0.self (sz := s.heap.size)
  generalize hAe : va_A [] s.heap.size = A at hD ⊢
  have hA : ∀ q : Nat, s.heap.size ≤ q → A q := fun q h => by rw [← hAe]; exact Or.inr h
  have hS : va_S A s.heap s.heap [] := va_S.rf
  have hP : va_P (dC, dI) vwCl [] s.heap := hP
  have hl := lv_entry ([.int p1]) (n := 1) (Nat.le_of_ble_eq_true rfl)
  rw [show entryFrame m args 1 = entryFrame m ([.int p1] : List Value).toArray 1 from by rw [hargs], lg_entry_eq]
  generalize (lg_sl ([.int p1]) ++ List.replicate (1 - (lg_sl ([.int p1])).length) Slot.unset).toArray = ls at hl ⊢
  have hl : lv_has ls 1 [(0, .int p1)] := hl
  obtain ⟨Q, hQ⟩ : ∃ Q, Q = MQ below (xQ (dC, dI) [] A (some (.int t))) args s 0 0 A := ⟨_, rfl⟩
  rw [← hQ]
  show W p l e rm_FaultRules_isMinute s m args below meth c s.heap [] 0 0 Q _
  obtain ⟨H, hH⟩ : ∃ H, H = s.heap := ⟨_, rfl⟩
  obtain ⟨locs, hlocs⟩ : ∃ L : List Loc, L = [] := ⟨_, rfl⟩
  rw [← hlocs] at hS ⊢
  have hS : va_S A s.heap H locs := by rw [hH]; exact hS
  rw [← hH] at hP ⊢
  replace hf := f_FaultRules_isMinute_u hf
  refine lv_iload_n hx hb d_FaultRules_isMinute_0 rfl (lv_at hl 0 rfl) ?_
  refine lv_if_lt (tgt := 14) hx hb d_FaultRules_isMinute_1 (by decide) (fun c_1 => ?_) (fun c_1 => ?_)
  · replace hf := o_pos c_1 hf
    refine lv_iconst (v := 0) hx hb d_FaultRules_isMinute_14 (by decide) ?_
    rw [hQ, ← Option.some.inj hf]
    exact W.zret (ty := .boolean) hx hb hr rfl (fun t9 ht9 hW9 => ⟨rfl, by rw [ht9]; exact hP, hS.F ht9⟩) hS.2.2 d_FaultRules_isMinute_15
  · replace hf := o_neg c_1 hf
    refine lv_iload_n hx hb d_FaultRules_isMinute_4 rfl (lv_at hl 0 rfl) ?_
    refine lv_ldc (v := 100000) hx hb hown (hT _ kK_FaultRules_202) d_FaultRules_isMinute_5 ?_
    refine lv_icmp_gt (tgt := 14) hx hb d_FaultRules_isMinute_7 (by decide) (fun c_2 => ?_) (fun c_2 => ?_)
    · replace hf := o_pos c_2 hf
      refine lv_iconst (v := 0) hx hb d_FaultRules_isMinute_14 (by decide) ?_
      rw [hQ, ← Option.some.inj hf]
      exact W.zret (ty := .boolean) hx hb hr rfl (fun t9 ht9 hW9 => ⟨rfl, by rw [ht9]; exact hP, hS.F ht9⟩) hS.2.2 d_FaultRules_isMinute_15
    · replace hf := o_neg c_2 hf
      refine lv_iconst (v := 1) hx hb d_FaultRules_isMinute_10 (by decide) ?_
      refine lv_goto (tgt := 15) hx hb d_FaultRules_isMinute_11 (by decide) ?_
      rw [hQ, ← Option.some.inj hf]
      exact W.zret (ty := .boolean) hx hb hr rfl (fun t9 ht9 hW9 => ⟨rfl, by rw [ht9]; exact hP, hS.F ht9⟩) hS.2.2 d_FaultRules_isMinute_15
def rm_FaultRules_isStretch : Room := { frames := 1, cells := 0, slots := 0, locals := 20 }
set_option maxHeartbeats 4000000 in
set_option maxRecDepth 100000 in
theorem c_FaultRules_isStretch (l : Launch) (dC : Nat → ClassId) (dI : Nat → Nat → Nat) (cI cL cC : ClassId) (sz : Nat) (p1 : Int32) (p2 : Int32) (p3 : Int32) (t : Int32) (hf : f_FaultRules_isStretch p1 p2 p3 = some t) : Met l y_FaultRules_isStretch (Cond.code y_FaultRules_isStretch prog_1_method_19_code 3 (some .boolean) :: xT) rm_FaultRules_isStretch (va_Pc [.int p1, .int p2, .int p3] (xP (dC, dI) (xTy cI cL cC) [] sz)) (xQ (dC, dI) [] (va_A [] sz) (some (.int t))) 0 0 (va_A [] sz) := by
  refine Met.ofW (cc := prog_1_method_19_code) (maxL := 3) (ret := (some .boolean)) (by decide) rfl ?_
  intro p e s m args below meth c s₁ B hml hv
  obtain ⟨hargs, hsz, hP, hK, hN, hD0⟩ := hv
  have hx := B.exec
  have hb := B.bytes
  have hr := B.returns
  have hT : ∀ w ∈ xT, w.before args s = true := fun w hw => atoms_spec (ws := Cond.code y_FaultRules_isStretch prog_1_method_19_code 3 (some .boolean) :: xT) B.pre w (List.mem_cons_of_mem _ hw)
  have hown : s.vm.findClass R_FaultRules = some m.cls := findClass_of_methodNamed B.named
  have hlocks := B.notSynchronized
  subst hsz
  have hD := hD0.self (sz := s.heap.size)
  generalize hAe : va_A [] s.heap.size = A at hD ⊢
  have hA : ∀ q : Nat, s.heap.size ≤ q → A q := fun q h => by rw [← hAe]; exact Or.inr h
  have hS : va_S A s.heap s.heap [] := va_S.rf
  have hP : va_P (dC, dI) vwCl [] s.heap := hP
  have hl := lv_entry ([.int p1, .int p2, .int p3]) (n := 3) (Nat.le_of_ble_eq_true rfl)
  rw [show entryFrame m args 3 = entryFrame m ([.int p1, .int p2, .int p3] : List Value).toArray 3 from by rw [hargs], lg_entry_eq]
  generalize (lg_sl ([.int p1, .int p2, .int p3]) ++ List.replicate (3 - (lg_sl ([.int p1, .int p2, .int p3])).length) Slot.unset).toArray = ls at hl ⊢
  have hl : lv_has ls 3 [(0, .int p1), (1, .int p2), (2, .int p3)] := hl
  obtain ⟨Q, hQ⟩ : ∃ Q, Q = MQ below (xQ (dC, dI) [] A (some (.int t))) args s 0 0 A := ⟨_, rfl⟩
  rw [← hQ]
  show W p l e rm_FaultRules_isStretch s m args below meth c s.heap [] 0 0 Q _
  obtain ⟨H, hH⟩ : ∃ H, H = s.heap := ⟨_, rfl⟩
  obtain ⟨locs, hlocs⟩ : ∃ L : List Loc, L = [] := ⟨_, rfl⟩
  rw [← hlocs] at hS ⊢
  have hS : va_S A s.heap H locs := by rw [hH]; exact hS
  rw [← hH] at hP ⊢
  replace hf := f_FaultRules_isStretch_u hf
  refine lv_iload_n hx hb d_FaultRules_isStretch_0 rfl (lv_at hl 0 rfl) ?_
  obtain ⟨t_1, hg_1, hf⟩ := o_bind hf
  refine x_stat (w' := []) (As := [.int p1]) (rest := []) hx hb hml hl.1 hown hT hK hN hP hD hS hA (c_FaultRules_isMinute l dC dI cI cL cC H.size p1 t_1 hg_1) kM_FaultRules_62 kT_FaultRules_isMinute kN_FaultRules kC_FaultRules_isMinute hd_FaultRules_isMinute rfl ⟨Nat.le_of_ble_eq_true rfl, Nat.le_of_ble_eq_true rfl⟩ rfl rfl ⟨Nat.zero_le _, Nat.zero_le _⟩ rfl (Nat.le_of_ble_eq_true rfl) d_FaultRules_isStretch_1 [] rfl rfl [] rfl rfl rfl (fun H locs hP hD hS => ?_)
  refine lv_if_eq (tgt := 30) hx hb d_FaultRules_isStretch_4 (by decide) (fun c_2 => ?_) (fun c_2 => ?_)
  · replace hf := o_pos c_2 hf
    refine lv_iconst (v := 0) hx hb d_FaultRules_isStretch_30 (by decide) ?_
    rw [hQ, ← Option.some.inj hf]
    exact W.zret (ty := .boolean) hx hb hr rfl (fun t9 ht9 hW9 => ⟨rfl, by rw [ht9]; exact hP, hS.F ht9⟩) hS.2.2 d_FaultRules_isStretch_31
  · replace hf := o_neg c_2 hf
    refine lv_iload_n hx hb d_FaultRules_isStretch_7 rfl (lv_at hl 1 rfl) ?_
    obtain ⟨t_3, hg_3, hf⟩ := o_bind hf
    refine x_stat (w' := []) (As := [.int p2]) (rest := []) hx hb hml hl.1 hown hT hK hN hP hD hS hA (c_FaultRules_isMinute l dC dI cI cL cC H.size p2 t_3 hg_3) kM_FaultRules_62 kT_FaultRules_isMinute kN_FaultRules kC_FaultRules_isMinute hd_FaultRules_isMinute rfl ⟨Nat.le_of_ble_eq_true rfl, Nat.le_of_ble_eq_true rfl⟩ rfl rfl ⟨Nat.zero_le _, Nat.zero_le _⟩ rfl (Nat.le_of_ble_eq_true rfl) d_FaultRules_isStretch_8 [] rfl rfl [] rfl rfl rfl (fun H locs hP hD hS => ?_)
    refine lv_if_eq (tgt := 30) hx hb d_FaultRules_isStretch_11 (by decide) (fun c_4 => ?_) (fun c_4 => ?_)
    · replace hf := o_pos c_4 hf
      refine lv_iconst (v := 0) hx hb d_FaultRules_isStretch_30 (by decide) ?_
      rw [hQ, ← Option.some.inj hf]
      exact W.zret (ty := .boolean) hx hb hr rfl (fun t9 ht9 hW9 => ⟨rfl, by rw [ht9]; exact hP, hS.F ht9⟩) hS.2.2 d_FaultRules_isStretch_31
    · replace hf := o_neg c_4 hf
      refine lv_iload_n hx hb d_FaultRules_isStretch_14 rfl (lv_at hl 1 rfl) ?_
      refine lv_iload_n hx hb d_FaultRules_isStretch_15 rfl (lv_at hl 0 rfl) ?_
      refine lv_icmp_lt (tgt := 30) hx hb d_FaultRules_isStretch_16 (by decide) (fun c_5 => ?_) (fun c_5 => ?_)
      · replace hf := o_pos c_5 hf
        refine lv_iconst (v := 0) hx hb d_FaultRules_isStretch_30 (by decide) ?_
        rw [hQ, ← Option.some.inj hf]
        exact W.zret (ty := .boolean) hx hb hr rfl (fun t9 ht9 hW9 => ⟨rfl, by rw [ht9]; exact hP, hS.F ht9⟩) hS.2.2 d_FaultRules_isStretch_31
      · replace hf := o_neg c_5 hf
        refine lv_iload_n hx hb d_FaultRules_isStretch_19 rfl (lv_at hl 1 rfl) ?_
        refine lv_iload_n hx hb d_FaultRules_isStretch_20 rfl (lv_at hl 0 rfl) ?_
        refine lv_isub hx hb d_FaultRules_isStretch_21 ?_
        refine lv_iload_n hx hb d_FaultRules_isStretch_22 rfl (lv_at hl 2 rfl) ?_
        refine lv_icmp_ge (tgt := 30) hx hb d_FaultRules_isStretch_23 (by decide) (fun c_6 => ?_) (fun c_6 => ?_)
        · replace hf := o_pos c_6 hf
          refine lv_iconst (v := 0) hx hb d_FaultRules_isStretch_30 (by decide) ?_
          rw [hQ, ← Option.some.inj hf]
          exact W.zret (ty := .boolean) hx hb hr rfl (fun t9 ht9 hW9 => ⟨rfl, by rw [ht9]; exact hP, hS.F ht9⟩) hS.2.2 d_FaultRules_isStretch_31
        · replace hf := o_neg c_6 hf
          refine lv_iconst (v := 1) hx hb d_FaultRules_isStretch_26 (by decide) ?_
          refine lv_goto (tgt := 31) hx hb d_FaultRules_isStretch_27 (by decide) ?_
          rw [hQ, ← Option.some.inj hf]
          exact W.zret (ty := .boolean) hx hb hr rfl (fun t9 ht9 hW9 => ⟨rfl, by rw [ht9]; exact hP, hS.F ht9⟩) hS.2.2 d_FaultRules_isStretch_31
def rm_FaultRules_commonDivisor : Room := { frames := 0, cells := 0, slots := 0, locals := 0 }
set_option maxHeartbeats 4000000 in
set_option maxRecDepth 100000 in
theorem c_FaultRules_commonDivisor (l : Launch) (dC : Nat → ClassId) (dI : Nat → Nat → Nat) (cI cL cC : ClassId) (sz : Nat) (fu : Nat) (p1 : Int64) (p2 : Int64) (t : Int64) (hf : f_FaultRules_commonDivisor fu p1 p2 = some t) : Met l y_FaultRules_commonDivisor (Cond.code y_FaultRules_commonDivisor prog_1_method_21_code 11 (some .long) :: xT) rm_FaultRules_commonDivisor (va_Pc [.long p1, .long p2] (xP (dC, dI) (xTy cI cL cC) [] sz)) (xQ (dC, dI) [] (va_A [] sz) (some (.long t))) 0 0 (va_A [] sz) := by
  refine Met.ofW (cc := prog_1_method_21_code) (maxL := 11) (ret := (some .long)) (by decide) rfl ?_
  intro p e s m args below meth c s₁ B hml hv
  obtain ⟨hargs, hsz, hP, hK, hN, hD0⟩ := hv
  have hx := B.exec
  have hb := B.bytes
  have hr := B.returns
  have hT : ∀ w ∈ xT, w.before args s = true := fun w hw => atoms_spec (ws := Cond.code y_FaultRules_commonDivisor prog_1_method_21_code 11 (some .long) :: xT) B.pre w (List.mem_cons_of_mem _ hw)
  have hown : s.vm.findClass R_FaultRules = some m.cls := findClass_of_methodNamed B.named
  have hlocks := B.notSynchronized
  subst hsz
  have hD := hD0.self (sz := s.heap.size)
  generalize hAe : va_A [] s.heap.size = A at hD ⊢
  have hA : ∀ q : Nat, s.heap.size ≤ q → A q := fun q h => by rw [← hAe]; exact Or.inr h
  have hS : va_S A s.heap s.heap [] := va_S.rf
  have hP : va_P (dC, dI) vwCl [] s.heap := hP
  have hl := lv_entry ([.long p1, .long p2]) (n := 11) (Nat.le_of_ble_eq_true rfl)
  rw [show entryFrame m args 11 = entryFrame m ([.long p1, .long p2] : List Value).toArray 11 from by rw [hargs], lg_entry_eq]
  generalize (lg_sl ([.long p1, .long p2]) ++ List.replicate (11 - (lg_sl ([.long p1, .long p2])).length) Slot.unset).toArray = ls at hl ⊢
  have hl : lv_has ls 11 [(0, .long p1), (2, .long p2)] := hl
  obtain ⟨Q, hQ⟩ : ∃ Q, Q = MQ below (xQ (dC, dI) [] A (some (.long t))) args s 0 0 A := ⟨_, rfl⟩
  rw [← hQ]
  show W p l e rm_FaultRules_commonDivisor s m args below meth c s.heap [] 0 0 Q _
  obtain ⟨H, hH⟩ : ∃ H, H = s.heap := ⟨_, rfl⟩
  obtain ⟨locs, hlocs⟩ : ∃ L : List Loc, L = [] := ⟨_, rfl⟩
  rw [← hlocs] at hS ⊢
  have hS : va_S A s.heap H locs := by rw [hH]; exact hS
  rw [← hH] at hP ⊢
  replace hf := f_FaultRules_commonDivisor_u hf
  refine lv_lload_n hx hb d_FaultRules_commonDivisor_0 rfl (lv_at hl 0 rfl) ?_
  refine lv_lstore (lv' := [(4, .long p1), (0, .long p1), (2, .long p2)]) hx hb d_FaultRules_commonDivisor_1 hl (by decide) rfl (fun ls hl => ?_)
  refine lv_lload_n hx hb d_FaultRules_commonDivisor_3 rfl (lv_at hl 2 rfl) ?_
  refine lv_lstore (lv' := [(6, .long p2), (4, .long p1), (0, .long p1), (2, .long p2)]) hx hb d_FaultRules_commonDivisor_4 hl (by decide) rfl (fun ls hl => ?_)
  refine lv_iconst (v := 0) hx hb d_FaultRules_commonDivisor_6 (by decide) ?_
  refine lv_istore (lv' := [(8, .int 0), (6, .long p2), (4, .long p1), (0, .long p1), (2, .long p2)]) hx hb d_FaultRules_commonDivisor_7 hl (by decide) rfl (fun ls hl => ?_)
  have lp_9 : ∀ (k_45 : Int64 → Option (Int64)) (hk_45 : ∀ (l4_9e : Int64) (H : Heap) (locs : List Loc) (ls : Array Slot), k_45 l4_9e = some t → va_P (dC, dI) vwCl [] H → va_D A [] → va_S A s.heap H locs → lv_has ls 11 [(4, .long l4_9e)] → W p l e rm_FaultRules_commonDivisor s m args below meth c H locs 0 0 Q (F0 m 45 ls [])), ∀ (n : Nat) (l4_9 : Int64) (l6_9 : Int64) (l8_9 : Int32) (H : Heap) (locs : List Loc) (ls : Array Slot), L_FaultRules_commonDivisor_9 fu k_45 n l4_9 l6_9 l8_9 = some t → va_P (dC, dI) vwCl [] H → va_D A [] → va_S A s.heap H locs → lv_has ls 11 [(4, .long l4_9), (6, .long l6_9), (8, .int l8_9)] → W p l e rm_FaultRules_commonDivisor s m args below meth c H locs 0 0 Q (F0 m 9 ls []) := by
    intro k_45 hk_45 n
    induction n with
    | zero => intro l4_9 l6_9 l8_9 H locs ls hf; exact (L_FaultRules_commonDivisor_9_z hf).elim
    | succ n ih =>
      intro l4_9 l6_9 l8_9 H locs ls hf hP hD hS hl
      replace hf := L_FaultRules_commonDivisor_9_u hf
      refine lv_iload hx hb d_FaultRules_commonDivisor_9 (lv_at hl 2 rfl) ?_
      refine lv_sipush (v := 128) hx hb d_FaultRules_commonDivisor_11 (by decide) ?_
      refine lv_icmp_ge (tgt := 45) hx hb d_FaultRules_commonDivisor_14 (by decide) (fun c_1 => ?_) (fun c_1 => ?_)
      · replace hf := o_pos c_1 hf
        exact hk_45 l4_9 H locs ls hf hP hD hS (lv_sub hl [0] rfl)
      · replace hf := o_neg c_1 hf
        refine lv_lload hx hb d_FaultRules_commonDivisor_17 (lv_at hl 1 rfl) ?_
        refine lv_lconst (v := 0) hx hb d_FaultRules_commonDivisor_19 (by decide) ?_
        refine W.lcmp hx hb d_FaultRules_commonDivisor_20 ?_
        refine lv_if_eq (tgt := 45) hx hb d_FaultRules_commonDivisor_21 (by decide) (fun c_2 => ?_) (fun c_2 => ?_)
        · replace hf := o_pos c_2 hf
          exact hk_45 l4_9 H locs ls hf hP hD hS (lv_sub hl [0] rfl)
        · replace hf := o_neg c_2 hf
          refine lv_lload hx hb d_FaultRules_commonDivisor_24 (lv_at hl 0 rfl) ?_
          refine lv_lload hx hb d_FaultRules_commonDivisor_26 (lv_at hl 1 rfl) ?_
          obtain ⟨hz_3, hf⟩ := o_nzL hf
          refine lv_lrem hx hb d_FaultRules_commonDivisor_28 hz_3 ?_
          refine lv_lstore (lv' := [(9, .long (l4_9 - l4_9 / l6_9 * l6_9)), (4, .long l4_9), (6, .long l6_9), (8, .int l8_9)]) hx hb d_FaultRules_commonDivisor_29 hl (by decide) rfl (fun ls hl => ?_)
          refine lv_lload hx hb d_FaultRules_commonDivisor_31 (lv_at hl 2 rfl) ?_
          refine lv_lstore (lv' := [(4, .long l6_9), (9, .long (l4_9 - l4_9 / l6_9 * l6_9)), (6, .long l6_9), (8, .int l8_9)]) hx hb d_FaultRules_commonDivisor_33 hl (by decide) rfl (fun ls hl => ?_)
          refine lv_lload hx hb d_FaultRules_commonDivisor_35 (lv_at hl 1 rfl) ?_
          refine lv_lstore (lv' := [(6, .long (l4_9 - l4_9 / l6_9 * l6_9)), (4, .long l6_9), (9, .long (l4_9 - l4_9 / l6_9 * l6_9)), (8, .int l8_9)]) hx hb d_FaultRules_commonDivisor_37 hl (by decide) rfl (fun ls hl => ?_)
          refine lv_iinc (v := l8_9 + 1) (lv' := [(8, .int (l8_9 + 1)), (6, .long (l4_9 - l4_9 / l6_9 * l6_9)), (4, .long l6_9), (9, .long (l4_9 - l4_9 / l6_9 * l6_9))]) hx hb d_FaultRules_commonDivisor_39 hl (k := 3) rfl rfl (by decide) rfl (fun ls hl => ?_)
          refine lv_goto (tgt := 9) hx hb d_FaultRules_commonDivisor_42 (by decide) ?_
          exact ih l6_9 (l4_9 - l4_9 / l6_9 * l6_9) (l8_9 + 1) H locs ls hf hP hD hS (lv_sub hl [2, 1, 0] rfl)
  refine lp_9 _ (fun l4_9e H locs ls hf hP hD hS hl => ?_) fu p1 p2 0 H locs ls hf hP hD hS (lv_sub hl [2, 1, 0] rfl)
  refine lv_lload hx hb d_FaultRules_commonDivisor_45 (lv_at hl 0 rfl) ?_
  refine lv_lconst (v := 0) hx hb d_FaultRules_commonDivisor_47 (by decide) ?_
  refine W.lcmp hx hb d_FaultRules_commonDivisor_48 ?_
  refine lv_if_ne (tgt := 56) hx hb d_FaultRules_commonDivisor_49 (by decide) (fun c_4 => ?_) (fun c_4 => ?_)
  · replace hf := o_neg c_4 hf
    refine lv_lload hx hb d_FaultRules_commonDivisor_56 (lv_at hl 0 rfl) ?_
    rw [hQ, ← Option.some.inj hf]
    exact W.lret hx hb hr (fun t9 ht9 hW9 => ⟨rfl, by rw [ht9]; exact hP, hS.F ht9⟩) hS.2.2 d_FaultRules_commonDivisor_58
  · replace hf := o_pos c_4 hf
    refine lv_lconst (v := 1) hx hb d_FaultRules_commonDivisor_52 (by decide) ?_
    refine lv_goto (tgt := 58) hx hb d_FaultRules_commonDivisor_53 (by decide) ?_
    rw [hQ, ← Option.some.inj hf]
    exact W.lret hx hb hr (fun t9 ht9 hW9 => ⟨rfl, by rw [ht9]; exact hP, hS.F ht9⟩) hS.2.2 d_FaultRules_commonDivisor_58
def rm_FaultRules_lowest : Room := { frames := 1, cells := 0, slots := 0, locals := 40 }
set_option maxHeartbeats 4000000 in
set_option maxRecDepth 100000 in
theorem c_FaultRules_lowest (l : Launch) (dC : Nat → ClassId) (dI : Nat → Nat → Nat) (cI cL cC : ClassId) (sz : Nat) (fu : Nat) (p1 : Int64) (p2 : Int64) (p3 : Int32) (t : Int64) (hf : f_FaultRules_lowest fu p1 p2 p3 = some t) : Met l y_FaultRules_lowest (Cond.code y_FaultRules_lowest prog_1_method_20_code 7 (some .long) :: xT) rm_FaultRules_lowest (va_Pc [.long p1, .long p2, .int p3] (xP (dC, dI) (xTy cI cL cC) [] sz)) (xQ (dC, dI) [] (va_A [] sz) (some (.long t))) 0 0 (va_A [] sz) := by
  refine Met.ofW (cc := prog_1_method_20_code) (maxL := 7) (ret := (some .long)) (by decide) rfl ?_
  intro p e s m args below meth c s₁ B hml hv
  obtain ⟨hargs, hsz, hP, hK, hN, hD0⟩ := hv
  have hx := B.exec
  have hb := B.bytes
  have hr := B.returns
  have hT : ∀ w ∈ xT, w.before args s = true := fun w hw => atoms_spec (ws := Cond.code y_FaultRules_lowest prog_1_method_20_code 7 (some .long) :: xT) B.pre w (List.mem_cons_of_mem _ hw)
  have hown : s.vm.findClass R_FaultRules = some m.cls := findClass_of_methodNamed B.named
  have hlocks := B.notSynchronized
  subst hsz
  have hD := hD0.self (sz := s.heap.size)
  generalize hAe : va_A [] s.heap.size = A at hD ⊢
  have hA : ∀ q : Nat, s.heap.size ≤ q → A q := fun q h => by rw [← hAe]; exact Or.inr h
  have hS : va_S A s.heap s.heap [] := va_S.rf
  have hP : va_P (dC, dI) vwCl [] s.heap := hP
  have hl := lv_entry ([.long p1, .long p2, .int p3]) (n := 7) (Nat.le_of_ble_eq_true rfl)
  rw [show entryFrame m args 7 = entryFrame m ([.long p1, .long p2, .int p3] : List Value).toArray 7 from by rw [hargs], lg_entry_eq]
  generalize (lg_sl ([.long p1, .long p2, .int p3]) ++ List.replicate (7 - (lg_sl ([.long p1, .long p2, .int p3])).length) Slot.unset).toArray = ls at hl ⊢
  have hl : lv_has ls 7 [(0, .long p1), (2, .long p2), (4, .int p3)] := hl
  obtain ⟨Q, hQ⟩ : ∃ Q, Q = MQ below (xQ (dC, dI) [] A (some (.long t))) args s 0 0 A := ⟨_, rfl⟩
  rw [← hQ]
  show W p l e rm_FaultRules_lowest s m args below meth c s.heap [] 0 0 Q _
  obtain ⟨H, hH⟩ : ∃ H, H = s.heap := ⟨_, rfl⟩
  obtain ⟨locs, hlocs⟩ : ∃ L : List Loc, L = [] := ⟨_, rfl⟩
  rw [← hlocs] at hS ⊢
  have hS : va_S A s.heap H locs := by rw [hH]; exact hS
  rw [← hH] at hP ⊢
  replace hf := f_FaultRules_lowest_u hf
  refine lv_lload_n hx hb d_FaultRules_lowest_0 rfl (lv_at hl 1 rfl) ?_
  refine lv_lconst (v := 0) hx hb d_FaultRules_lowest_1 (by decide) ?_
  refine W.lcmp hx hb d_FaultRules_lowest_2 ?_
  refine lv_if_gt (tgt := 8) hx hb d_FaultRules_lowest_3 (by decide) (fun c_1 => ?_) (fun c_1 => ?_)
  · replace hf := o_pos c_1 hf
    refine lv_lload_n hx hb d_FaultRules_lowest_8 rfl (lv_at hl 1 rfl) ?_
    refine lv_lload_n hx hb d_FaultRules_lowest_9 rfl (lv_at hl 0 rfl) ?_
    refine va_mabs_long hx hb (hml.trans hl.1.symm) hown (hT _ kM_FaultRules_203) (hT _ kT_absJ) (hT _ kN_Math) (hT _ kC_absJ) (Nat.le_of_ble_eq_true rfl) (Nat.le_of_ble_eq_true rfl) (Nat.zero_le _) (Nat.zero_le _) d_FaultRules_lowest_10 ?_
    obtain ⟨t_2, hg_2, hf⟩ := o_bind hf
    refine x_stat (w' := []) (As := [.long p2, .long (if 0 < p1 then p1 else -p1)]) (rest := []) hx hb hml hl.1 hown hT hK hN hP hD hS hA (c_FaultRules_commonDivisor l dC dI cI cL cC H.size fu p2 (if 0 < p1 then p1 else -p1) t_2 hg_2) kM_FaultRules_209 kT_FaultRules_commonDivisor kN_FaultRules kC_FaultRules_commonDivisor hd_FaultRules_commonDivisor rfl ⟨Nat.le_of_ble_eq_true rfl, Nat.le_of_ble_eq_true rfl⟩ rfl rfl ⟨Nat.zero_le _, Nat.zero_le _⟩ rfl (Nat.le_of_ble_eq_true rfl) d_FaultRules_lowest_13 [] rfl rfl [] rfl rfl rfl (fun H locs hP hD hS => ?_)
    refine lv_lstore (lv' := [(5, .long t_2), (0, .long p1), (2, .long p2), (4, .int p3)]) hx hb d_FaultRules_lowest_16 hl (by decide) rfl (fun ls hl => ?_)
    refine lv_iload hx hb d_FaultRules_lowest_18 (lv_at hl 3 rfl) ?_
    refine lv_if_ne (tgt := 27) hx hb d_FaultRules_lowest_20 (by decide) (fun c_3 => ?_) (fun c_3 => ?_)
    · replace hf := o_neg c_3 hf
      refine lv_lload_n hx hb d_FaultRules_lowest_27 rfl (lv_at hl 2 rfl) ?_
      refine lv_lload hx hb d_FaultRules_lowest_28 (lv_at hl 0 rfl) ?_
      obtain ⟨hz_4, hf⟩ := o_nzL hf
      refine lv_ldiv hx hb d_FaultRules_lowest_30 hz_4 ?_
      rw [hQ, ← Option.some.inj hf]
      exact W.lret hx hb hr (fun t9 ht9 hW9 => ⟨rfl, by rw [ht9]; exact hP, hS.F ht9⟩) hS.2.2 d_FaultRules_lowest_31
    · replace hf := o_pos c_3 hf
      refine lv_lload_n hx hb d_FaultRules_lowest_23 rfl (lv_at hl 1 rfl) ?_
      refine lv_goto (tgt := 28) hx hb d_FaultRules_lowest_24 (by decide) ?_
      refine lv_lload hx hb d_FaultRules_lowest_28 (lv_at hl 0 rfl) ?_
      obtain ⟨hz_5, hf⟩ := o_nzL hf
      refine lv_ldiv hx hb d_FaultRules_lowest_30 hz_5 ?_
      rw [hQ, ← Option.some.inj hf]
      exact W.lret hx hb hr (fun t9 ht9 hW9 => ⟨rfl, by rw [ht9]; exact hP, hS.F ht9⟩) hS.2.2 d_FaultRules_lowest_31
  · replace hf := o_neg c_1 hf
    refine lv_lconst (v := 0) hx hb d_FaultRules_lowest_6 (by decide) ?_
    rw [hQ, ← Option.some.inj hf]
    exact W.lret hx hb hr (fun t9 ht9 hW9 => ⟨rfl, by rw [ht9]; exact hP, hS.F ht9⟩) hS.2.2 d_FaultRules_lowest_7
def rm_FaultRules_broughtBy : Room := { frames := 0, cells := 0, slots := 0, locals := 0 }
set_option maxHeartbeats 4000000 in
set_option maxRecDepth 100000 in
theorem c_FaultRules_broughtBy (l : Launch) (dC : Nat → ClassId) (dI : Nat → Nat → Nat) (cI cL cC : ClassId) (h_this h_rows h_text h_reader h_found h_leftOut h_brought h_ruleSet h_draft : Nat) (sz : Nat) (fu : Nat) (v_brought : Nat → Int32) (p1 : Int32) (t : Int32) (hf : f_FaultRules_broughtBy fu v_brought p1 = some t) : Met l y_FaultRules_broughtBy (Cond.code y_FaultRules_broughtBy prog_1_method_16_code 4 (some .int) :: xT) rm_FaultRules_broughtBy (va_Pc [.ref h_this, .int p1] (xP (dC, dI) (xTy cI cL cC) [(h_this, .inr (6, [.ref h_rows, .ref h_text, .ref h_reader, .ref h_found, .ref h_leftOut, .ref h_brought, .ref h_ruleSet, .ref h_draft])), (h_brought, .inl (cI, 10, .inl v_brought))] sz)) (xQ (dC, dI) [(h_this, .inr (6, [.ref h_rows, .ref h_text, .ref h_reader, .ref h_found, .ref h_leftOut, .ref h_brought, .ref h_ruleSet, .ref h_draft])), (h_brought, .inl (cI, 10, .inl v_brought))] (va_A [(h_this, .inr (6, [.ref h_rows, .ref h_text, .ref h_reader, .ref h_found, .ref h_leftOut, .ref h_brought, .ref h_ruleSet, .ref h_draft])), (h_brought, .inl (cI, 10, .inl v_brought))] sz) (some (.int t))) 0 0 (va_A [(h_this, .inr (6, [.ref h_rows, .ref h_text, .ref h_reader, .ref h_found, .ref h_leftOut, .ref h_brought, .ref h_ruleSet, .ref h_draft])), (h_brought, .inl (cI, 10, .inl v_brought))] sz) := by
  refine Met.ofW (cc := prog_1_method_16_code) (maxL := 4) (ret := (some .int)) (by decide) rfl ?_
  intro p e s m args below meth c s₁ B hml hv
  obtain ⟨hargs, hsz, hP, hK, hN, hD0⟩ := hv
  have hx := B.exec
  have hb := B.bytes
  have hr := B.returns
  have hT : ∀ w ∈ xT, w.before args s = true := fun w hw => atoms_spec (ws := Cond.code y_FaultRules_broughtBy prog_1_method_16_code 4 (some .int) :: xT) B.pre w (List.mem_cons_of_mem _ hw)
  have hown : s.vm.findClass R_FaultRules = some m.cls := findClass_of_methodNamed B.named
  have hlocks := B.notSynchronized
  subst hsz
  have hD := hD0.self (sz := s.heap.size)
  generalize hAe : va_A [(h_this, .inr (6, [.ref h_rows, .ref h_text, .ref h_reader, .ref h_found, .ref h_leftOut, .ref h_brought, .ref h_ruleSet, .ref h_draft])), (h_brought, .inl (cI, 10, .inl v_brought))] s.heap.size = A at hD ⊢
  have hA : ∀ q : Nat, s.heap.size ≤ q → A q := fun q h => by rw [← hAe]; exact Or.inr h
  have hS : va_S A s.heap s.heap [] := va_S.rf
  have hP : va_P (dC, dI) vwCl [(h_this, .inr (6, [.ref h_rows, .ref h_text, .ref h_reader, .ref h_found, .ref h_leftOut, .ref h_brought, .ref h_ruleSet, .ref h_draft])), (h_brought, .inl (cI, 10, .inl v_brought))] s.heap := hP
  have hl := lv_entry ([.ref h_this, .int p1]) (n := 4) (Nat.le_of_ble_eq_true rfl)
  rw [show entryFrame m args 4 = entryFrame m ([.ref h_this, .int p1] : List Value).toArray 4 from by rw [hargs], lg_entry_eq]
  generalize (lg_sl ([.ref h_this, .int p1]) ++ List.replicate (4 - (lg_sl ([.ref h_this, .int p1])).length) Slot.unset).toArray = ls at hl ⊢
  have hl : lv_has ls 4 [(0, .ref h_this), (1, .int p1)] := hl
  obtain ⟨Q, hQ⟩ : ∃ Q, Q = MQ below (xQ (dC, dI) [(h_this, .inr (6, [.ref h_rows, .ref h_text, .ref h_reader, .ref h_found, .ref h_leftOut, .ref h_brought, .ref h_ruleSet, .ref h_draft])), (h_brought, .inl (cI, 10, .inl v_brought))] A (some (.int t))) args s 0 0 A := ⟨_, rfl⟩
  rw [← hQ]
  show W p l e rm_FaultRules_broughtBy s m args below meth c s.heap [] 0 0 Q _
  obtain ⟨H, hH⟩ : ∃ H, H = s.heap := ⟨_, rfl⟩
  obtain ⟨locs, hlocs⟩ : ∃ L : List Loc, L = [] := ⟨_, rfl⟩
  rw [← hlocs] at hS ⊢
  have hS : va_S A s.heap H locs := by rw [hH]; exact hS
  rw [← hH] at hP ⊢
  replace hf := f_FaultRules_broughtBy_u hf
  refine lv_iconst (v := 0) hx hb d_FaultRules_broughtBy_0 (by decide) ?_
  refine lv_istore_n (lv' := [(2, .int 0), (0, .ref h_this), (1, .int p1)]) hx hb d_FaultRules_broughtBy_1 rfl hl (by decide) rfl (fun ls hl => ?_)
  refine lv_iconst (v := 0) hx hb d_FaultRules_broughtBy_2 (by decide) ?_
  refine lv_istore_n (lv' := [(3, .int 0), (2, .int 0), (0, .ref h_this), (1, .int p1)]) hx hb d_FaultRules_broughtBy_3 rfl hl (by decide) rfl (fun ls hl => ?_)
  have lp_4 : ∀ (n : Nat) (l2_4 : Int32) (l3_4 : Int32) (H : Heap) (locs : List Loc) (ls : Array Slot), L_FaultRules_broughtBy_4 fu v_brought p1 n l2_4 l3_4 = some t → va_P (dC, dI) vwCl [(h_this, .inr (6, [.ref h_rows, .ref h_text, .ref h_reader, .ref h_found, .ref h_leftOut, .ref h_brought, .ref h_ruleSet, .ref h_draft])), (h_brought, .inl (cI, 10, .inl v_brought))] H → va_D A [(h_this, .inr (6, [.ref h_rows, .ref h_text, .ref h_reader, .ref h_found, .ref h_leftOut, .ref h_brought, .ref h_ruleSet, .ref h_draft])), (h_brought, .inl (cI, 10, .inl v_brought))] → va_S A s.heap H locs → lv_has ls 4 [(0, .ref h_this), (1, .int p1), (2, .int l2_4), (3, .int l3_4)] → W p l e rm_FaultRules_broughtBy s m args below meth c H locs 0 0 Q (F0 m 4 ls []) := by
    intro  n
    induction n with
    | zero => intro l2_4 l3_4 H locs ls hf; exact (L_FaultRules_broughtBy_4_z hf).elim
    | succ n ih =>
      intro l2_4 l3_4 H locs ls hf hP hD hS hl
      replace hf := L_FaultRules_broughtBy_4_u hf
      refine lv_iload_n hx hb d_FaultRules_broughtBy_4 rfl (lv_at hl 3 rfl) ?_
      refine lv_bipush (v := 10) hx hb d_FaultRules_broughtBy_5 (by decide) ?_
      refine lv_icmp_ge (tgt := 34) hx hb d_FaultRules_broughtBy_7 (by decide) (fun c_1 => ?_) (fun c_1 => ?_)
      · replace hf := o_pos c_1 hf
        refine lv_iload_n hx hb d_FaultRules_broughtBy_34 rfl (lv_at hl 2 rfl) ?_
        rw [hQ, ← Option.some.inj hf]
        exact W.iret hx hb hr (fun t9 ht9 hW9 => ⟨rfl, by rw [ht9]; exact hP, hS.F ht9⟩) hS.2.2 d_FaultRules_broughtBy_35
      · replace hf := o_neg c_1 hf
        refine lv_iload_n hx hb d_FaultRules_broughtBy_10 rfl (lv_at hl 1 rfl) ?_
        refine lv_iload_n hx hb d_FaultRules_broughtBy_11 rfl (lv_at hl 3 rfl) ?_
        refine lv_ishr hx hb d_FaultRules_broughtBy_12 ?_
        refine lv_iconst (v := 1) hx hb d_FaultRules_broughtBy_13 (by decide) ?_
        refine lv_iand hx hb d_FaultRules_broughtBy_14 ?_
        refine lv_iconst (v := 1) hx hb d_FaultRules_broughtBy_15 (by decide) ?_
        refine lv_icmp_ne (tgt := 28) hx hb d_FaultRules_broughtBy_16 (by decide) (fun c_2 => ?_) (fun c_2 => ?_)
        · replace hf := o_neg c_2 hf
          refine lv_iinc (v := l3_4 + 1) (lv' := [(3, .int (l3_4 + 1)), (0, .ref h_this), (1, .int p1), (2, .int l2_4)]) hx hb d_FaultRules_broughtBy_28 hl (k := 3) rfl rfl (by decide) rfl (fun ls hl => ?_)
          refine lv_goto (tgt := 4) hx hb d_FaultRules_broughtBy_31 (by decide) ?_
          exact ih l2_4 (l3_4 + 1) H locs ls hf hP hD hS (lv_sub hl [1, 2, 3, 0] rfl)
        · replace hf := o_pos c_2 hf
          refine lv_iload_n hx hb d_FaultRules_broughtBy_19 rfl (lv_at hl 2 rfl) ?_
          refine lv_aload_n hx hb d_FaultRules_broughtBy_20 rfl (lv_at hl 0 rfl) ?_
          refine va_get (D := (dC, dI)) (ci := 6) (v := .ref h_brought) (C := R_FaultRules) (T := T_FaultRules) (N := 8) hx hb hT i_FaultRules hown hK hP 0 rfl rfl 5 (by decide) (hT _ kF_FaultRules_44) (fun _ h9 => h9) rfl d_FaultRules_broughtBy_21 ?_
          refine lv_iload_n hx hb d_FaultRules_broughtBy_24 rfl (lv_at hl 3 rfl) ?_
          obtain ⟨hi_3, hf⟩ := o_in hf
          refine va_iald hx hb hK hP 1 0 rfl rfl hi_3 d_FaultRules_broughtBy_25 ?_
          refine lv_ior hx hb d_FaultRules_broughtBy_26 ?_
          refine lv_istore_n (lv' := [(2, .int (l2_4 ||| (v_brought (l3_4 : Int32).toNatClampNeg))), (0, .ref h_this), (1, .int p1), (3, .int l3_4)]) hx hb d_FaultRules_broughtBy_27 rfl hl (by decide) rfl (fun ls hl => ?_)
          refine lv_iinc (v := l3_4 + 1) (lv' := [(3, .int (l3_4 + 1)), (2, .int (l2_4 ||| (v_brought (l3_4 : Int32).toNatClampNeg))), (0, .ref h_this), (1, .int p1)]) hx hb d_FaultRules_broughtBy_28 hl (k := 3) rfl rfl (by decide) rfl (fun ls hl => ?_)
          refine lv_goto (tgt := 4) hx hb d_FaultRules_broughtBy_31 (by decide) ?_
          exact ih (l2_4 ||| (v_brought (l3_4 : Int32).toNatClampNeg)) (l3_4 + 1) H locs ls hf hP hD hS (lv_sub hl [2, 3, 1, 0] rfl)
  refine lp_4  fu 0 0 H locs ls hf hP hD hS (lv_sub hl [2, 3, 1, 0] rfl)
