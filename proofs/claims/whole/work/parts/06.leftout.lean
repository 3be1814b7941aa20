def f_LeftOut_isFull (v_count : Int32) : Option (Int32) :=
  (if v_count < 100 then (some 0) else (some 1))
theorem f_LeftOut_isFull_u {v_count : Int32} {t : Int32} (h : f_LeftOut_isFull v_count = some t) : (if v_count < 100 then (some 0) else (some 1)) = some t := h
def L_LeftOut_placeOf_2 (fu : Nat) (v_count : Int32) (v_minutes : Nat → Int32) (l1_2 : Int32) : Nat → Int32 → Option (Int32)
  | 0, _ => none
  | n + 1, l2_2 => (if v_count ≤ l2_2 then (some ((-1))) else (bd l2_2 100 (if (v_minutes (l2_2 : Int32).toNatClampNeg) = l1_2 then (some l2_2) else ((L_LeftOut_placeOf_2 fu v_count v_minutes l1_2 n) (l2_2 + 1)))))
theorem L_LeftOut_placeOf_2_z {fu : Nat} {v_count : Int32} {v_minutes : Nat → Int32} {l1_2 : Int32} {l2_2 : Int32} {t : Int32} (h : L_LeftOut_placeOf_2 fu v_count v_minutes l1_2 0 l2_2 = some t) : False := by cases (show (none : Option (Int32)) = some t from h)
theorem L_LeftOut_placeOf_2_u {fu : Nat} {v_count : Int32} {v_minutes : Nat → Int32} {l1_2 : Int32} {n : Nat} {l2_2 : Int32} {t : Int32} (h : L_LeftOut_placeOf_2 fu v_count v_minutes l1_2 (n + 1) l2_2 = some t) : (if v_count ≤ l2_2 then (some ((-1))) else (bd l2_2 100 (if (v_minutes (l2_2 : Int32).toNatClampNeg) = l1_2 then (some l2_2) else ((L_LeftOut_placeOf_2 fu v_count v_minutes l1_2 n) (l2_2 + 1))))) = some t := h
def f_LeftOut_placeOf (fu : Nat) (v_count : Int32) (v_minutes : Nat → Int32) (p1 : Int32) : Option (Int32) :=
  (L_LeftOut_placeOf_2 fu v_count v_minutes p1 fu 0)
theorem f_LeftOut_placeOf_u {fu : Nat} {v_count : Int32} {v_minutes : Nat → Int32} {p1 : Int32} {t : Int32} (h : f_LeftOut_placeOf fu v_count v_minutes p1 = some t) : (L_LeftOut_placeOf_2 fu v_count v_minutes p1 fu 0) = some t := h
def f_LeftOut_has (fu : Nat) (v_count : Int32) (v_minutes : Nat → Int32) (p1 : Int32) : Option (Int32) :=
  ((f_LeftOut_placeOf fu v_count v_minutes p1).bind (fun t_1 => (if t_1 = ((-1)) then (some 0) else (some 1))))
theorem f_LeftOut_has_u {fu : Nat} {v_count : Int32} {v_minutes : Nat → Int32} {p1 : Int32} {t : Int32} (h : f_LeftOut_has fu v_count v_minutes p1 = some t) : ((f_LeftOut_placeOf fu v_count v_minutes p1).bind (fun t_1 => (if t_1 = ((-1)) then (some 0) else (some 1)))) = some t := h
def f_LeftOut_add (v_count : Int32) (v_minutes : Nat → Int32) (p1 : Int32) : Option (Int32 × (Nat → Int32)) :=
  (bd v_count 100 (some (v_count + 1, upd v_minutes (v_count : Int32).toNatClampNeg p1)))
theorem f_LeftOut_add_u {v_count : Int32} {v_minutes : Nat → Int32} {p1 : Int32} {t : Int32 × (Nat → Int32)} (h : f_LeftOut_add v_count v_minutes p1 = some t) : (bd v_count 100 (some (v_count + 1, upd v_minutes (v_count : Int32).toNatClampNeg p1))) = some t := h
def f_LeftOut_remove (fu : Nat) (v_count : Int32) (v_minutes : Nat → Int32) (p1 : Int32) : Option (Int32 × (Nat → Int32)) :=
  ((f_LeftOut_placeOf fu v_count v_minutes p1).bind (fun t_1 => (if t_1 = ((-1)) then (some (v_count, v_minutes)) else (bd (v_count - 1) 100 (bd t_1 100 (some (v_count - 1, upd v_minutes (t_1 : Int32).toNatClampNeg (v_minutes (v_count - 1 : Int32).toNatClampNeg))))))))
theorem f_LeftOut_remove_u {fu : Nat} {v_count : Int32} {v_minutes : Nat → Int32} {p1 : Int32} {t : Int32 × (Nat → Int32)} (h : f_LeftOut_remove fu v_count v_minutes p1 = some t) : ((f_LeftOut_placeOf fu v_count v_minutes p1).bind (fun t_1 => (if t_1 = ((-1)) then (some (v_count, v_minutes)) else (bd (v_count - 1) 100 (bd t_1 100 (some (v_count - 1, upd v_minutes (t_1 : Int32).toNatClampNeg (v_minutes (v_count - 1 : Int32).toNatClampNeg)))))))) = some t := h
def rm_LeftOut_isFull : Room := { frames := 0, cells := 0, slots := 0, locals := 0 }
set_option maxHeartbeats 4000000 in
set_option maxRecDepth 100000 in
theorem c_LeftOut_isFull (l : Launch) (dC : Nat → ClassId) (dI : Nat → Nat → Nat) (cI cL cC : ClassId) (h_this h_minutes : Nat) (sz : Nat) (v_count : Int32) (t : Int32) (hf : f_LeftOut_isFull v_count = some t) : Met l y_LeftOut_isFull (Cond.code y_LeftOut_isFull prog_2_method_2_code 1 (some .boolean) :: xT) rm_LeftOut_isFull (va_Pc [.ref h_this] (xP (dC, dI) (xTy cI cL cC) [(h_this, .inr (0, [.ref h_minutes, .int v_count]))] sz)) (xQ (dC, dI) [(h_this, .inr (0, [.ref h_minutes, .int v_count]))] (va_A [(h_this, .inr (0, [.ref h_minutes, .int v_count]))] sz) (some (.int t))) 0 0 (va_A [(h_this, .inr (0, [.ref h_minutes, .int v_count]))] sz) := by
  refine Met.ofW (cc := prog_2_method_2_code) (maxL := 1) (ret := (some .boolean)) (by decide) rfl ?_
  intro p e s m args below meth c s₁ B hml hv
  obtain ⟨hargs, hsz, hP, hK, hN, hD0⟩ := hv
  have hx := B.exec
  have hb := B.bytes
  have hr := B.returns
  have hT : ∀ w ∈ xT, w.before args s = true := fun w hw => atoms_spec (ws := Cond.code y_LeftOut_isFull prog_2_method_2_code 1 (some .boolean) :: xT) B.pre w (List.mem_cons_of_mem _ hw)
  have hown : s.vm.findClass R_LeftOut = some m.cls := findClass_of_methodNamed B.named
  have hlocks := B.notSynchronized
  subst hsz
  have hD := hD0.self (sz := s.heap.size)
  generalize hAe : va_A [(h_this, .inr (0, [.ref h_minutes, .int v_count]))] s.heap.size = A at hD ⊢
  have hA : ∀ q : Nat, s.heap.size ≤ q → A q := fun q h => by rw [← hAe]; exact Or.inr h
  have hS : va_S A s.heap s.heap [] := va_S.rf
  have hP : va_P (dC, dI) vwCl [(h_this, .inr (0, [.ref h_minutes, .int v_count]))] s.heap := hP
  have hl := lv_entry ([.ref h_this]) (n := 1) (Nat.le_of_ble_eq_true rfl)
  rw [show entryFrame m args 1 = entryFrame m ([.ref h_this] : List Value).toArray 1 from by rw [hargs], lg_entry_eq]
  generalize (lg_sl ([.ref h_this]) ++ List.replicate (1 - (lg_sl ([.ref h_this])).length) Slot.unset).toArray = ls at hl ⊢
  have hl : lv_has ls 1 [(0, .ref h_this)] := hl
  obtain ⟨Q, hQ⟩ : ∃ Q, Q = MQ below (xQ (dC, dI) [(h_this, .inr (0, [.ref h_minutes, .int v_count]))] A (some (.int t))) args s 0 0 A := ⟨_, rfl⟩
  rw [← hQ]
  show W p l e rm_LeftOut_isFull s m args below meth c s.heap [] 0 0 Q _
  obtain ⟨H, hH⟩ : ∃ H, H = s.heap := ⟨_, rfl⟩
  obtain ⟨locs, hlocs⟩ : ∃ L : List Loc, L = [] := ⟨_, rfl⟩
  rw [← hlocs] at hS ⊢
  have hS : va_S A s.heap H locs := by rw [hH]; exact hS
  rw [← hH] at hP ⊢
  replace hf := f_LeftOut_isFull_u hf
  refine lv_aload_n hx hb d_LeftOut_isFull_0 rfl (lv_at hl 0 rfl) ?_
  refine va_get (D := (dC, dI)) (ci := 0) (v := .int v_count) (C := R_LeftOut) (T := T_LeftOut) (N := 2) hx hb hT i_LeftOut hown hK hP 0 rfl rfl 1 (by decide) (hT _ kF_LeftOut_15) (fun _ h9 => h9) rfl d_LeftOut_isFull_1 ?_
  refine lv_bipush (v := 100) hx hb d_LeftOut_isFull_4 (by decide) ?_
  refine lv_icmp_lt (tgt := 13) hx hb d_LeftOut_isFull_6 (by decide) (fun c_1 => ?_) (fun c_1 => ?_)
  · replace hf := o_pos c_1 hf
    refine lv_iconst (v := 0) hx hb d_LeftOut_isFull_13 (by decide) ?_
    rw [hQ, ← Option.some.inj hf]
    exact W.zret (ty := .boolean) hx hb hr rfl (fun t9 ht9 hW9 => ⟨rfl, by rw [ht9]; exact hP, hS.F ht9⟩) hS.2.2 d_LeftOut_isFull_14
  · replace hf := o_neg c_1 hf
    refine lv_iconst (v := 1) hx hb d_LeftOut_isFull_9 (by decide) ?_
    refine lv_goto (tgt := 14) hx hb d_LeftOut_isFull_10 (by decide) ?_
    rw [hQ, ← Option.some.inj hf]
    exact W.zret (ty := .boolean) hx hb hr rfl (fun t9 ht9 hW9 => ⟨rfl, by rw [ht9]; exact hP, hS.F ht9⟩) hS.2.2 d_LeftOut_isFull_14
def rm_LeftOut_placeOf : Room := { frames := 0, cells := 0, slots := 0, locals := 0 }
set_option maxHeartbeats 4000000 in
set_option maxRecDepth 100000 in
theorem c_LeftOut_placeOf (l : Launch) (dC : Nat → ClassId) (dI : Nat → Nat → Nat) (cI cL cC : ClassId) (h_this h_minutes : Nat) (sz : Nat) (fu : Nat) (v_count : Int32) (v_minutes : Nat → Int32) (p1 : Int32) (t : Int32) (hf : f_LeftOut_placeOf fu v_count v_minutes p1 = some t) : Met l y_LeftOut_placeOf (Cond.code y_LeftOut_placeOf prog_2_method_6_code 3 (some .int) :: xT) rm_LeftOut_placeOf (va_Pc [.ref h_this, .int p1] (xP (dC, dI) (xTy cI cL cC) [(h_this, .inr (0, [.ref h_minutes, .int v_count])), (h_minutes, .inl (cI, 100, .inl v_minutes))] sz)) (xQ (dC, dI) [(h_this, .inr (0, [.ref h_minutes, .int v_count])), (h_minutes, .inl (cI, 100, .inl v_minutes))] (va_A [(h_this, .inr (0, [.ref h_minutes, .int v_count])), (h_minutes, .inl (cI, 100, .inl v_minutes))] sz) (some (.int t))) 0 0 (va_A [(h_this, .inr (0, [.ref h_minutes, .int v_count])), (h_minutes, .inl (cI, 100, .inl v_minutes))] sz) := by
  refine Met.ofW (cc := prog_2_method_6_code) (maxL := 3) (ret := (some .int)) (by decide) rfl ?_
  intro p e s m args below meth c s₁ B hml hv
  obtain ⟨hargs, hsz, hP, hK, hN, hD0⟩ := hv
  have hx := B.exec
  have hb := B.bytes
  have hr := B.returns
  have hT : ∀ w ∈ xT, w.before args s = true := fun w hw => atoms_spec (ws := Cond.code y_LeftOut_placeOf prog_2_method_6_code 3 (some .int) :: xT) B.pre w (List.mem_cons_of_mem _ hw)
  have hown : s.vm.findClass R_LeftOut = some m.cls := findClass_of_methodNamed B.named
  have hlocks := B.notSynchronized
  subst hsz
  have hD := hD0.self (sz := s.heap.size)
  generalize hAe : va_A [(h_this, .inr (0, [.ref h_minutes, .int v_count])), (h_minutes, .inl (cI, 100, .inl v_minutes))] s.heap.size = A at hD ⊢
  have hA : ∀ q : Nat, s.heap.size ≤ q → A q := fun q h => by rw [← hAe]; exact Or.inr h
  have hS : va_S A s.heap s.heap [] := va_S.rf
  have hP : va_P (dC, dI) vwCl [(h_this, .inr (0, [.ref h_minutes, .int v_count])), (h_minutes, .inl (cI, 100, .inl v_minutes))] s.heap := hP
  have hl := lv_entry ([.ref h_this, .int p1]) (n := 3) (Nat.le_of_ble_eq_true rfl)
  rw [show entryFrame m args 3 = entryFrame m ([.ref h_this, .int p1] : List Value).toArray 3 from by rw [hargs], lg_entry_eq]
  generalize (lg_sl ([.ref h_this, .int p1]) ++ List.replicate (3 - (lg_sl ([.ref h_this, .int p1])).length) Slot.unset).toArray = ls at hl ⊢
  have hl : lv_has ls 3 [(0, .ref h_this), (1, .int p1)] := hl
  obtain ⟨Q, hQ⟩ : ∃ Q, Q = MQ below (xQ (dC, dI) [(h_this, .inr (0, [.ref h_minutes, .int v_count])), (h_minutes, .inl (cI, 100, .inl v_minutes))] A (some (.int t))) args s 0 0 A := ⟨_, rfl⟩
  rw [← hQ]
  show W p l e rm_LeftOut_placeOf s m args below meth c s.heap [] 0 0 Q _
  obtain ⟨H, hH⟩ : ∃ H, H = s.heap := ⟨_, rfl⟩
  obtain ⟨locs, hlocs⟩ : ∃ L : List Loc, L = [] := ⟨_, rfl⟩
  rw [← hlocs] at hS ⊢
  have hS : va_S A s.heap H locs := by rw [hH]; exact hS
  rw [← hH] at hP ⊢
  replace hf := f_LeftOut_placeOf_u hf
  refine lv_iconst (v := 0) hx hb d_LeftOut_placeOf_0 (by decide) ?_
  refine lv_istore_n (lv' := [(2, .int 0), (0, .ref h_this), (1, .int p1)]) hx hb d_LeftOut_placeOf_1 rfl hl (by decide) rfl (fun ls hl => ?_)
  have lp_2 : ∀ (n : Nat) (l2_2 : Int32) (H : Heap) (locs : List Loc) (ls : Array Slot), L_LeftOut_placeOf_2 fu v_count v_minutes p1 n l2_2 = some t → va_P (dC, dI) vwCl [(h_this, .inr (0, [.ref h_minutes, .int v_count])), (h_minutes, .inl (cI, 100, .inl v_minutes))] H → va_D A [(h_this, .inr (0, [.ref h_minutes, .int v_count])), (h_minutes, .inl (cI, 100, .inl v_minutes))] → va_S A s.heap H locs → lv_has ls 3 [(0, .ref h_this), (1, .int p1), (2, .int l2_2)] → W p l e rm_LeftOut_placeOf s m args below meth c H locs 0 0 Q (F0 m 2 ls []) := by
    intro  n
    induction n with
    | zero => intro l2_2 H locs ls hf; exact (L_LeftOut_placeOf_2_z hf).elim
    | succ n ih =>
      intro l2_2 H locs ls hf hP hD hS hl
      replace hf := L_LeftOut_placeOf_2_u hf
      refine lv_iload_n hx hb d_LeftOut_placeOf_2 rfl (lv_at hl 2 rfl) ?_
      refine lv_aload_n hx hb d_LeftOut_placeOf_3 rfl (lv_at hl 0 rfl) ?_
      refine va_get (D := (dC, dI)) (ci := 0) (v := .int v_count) (C := R_LeftOut) (T := T_LeftOut) (N := 2) hx hb hT i_LeftOut hown hK hP 0 rfl rfl 1 (by decide) (hT _ kF_LeftOut_15) (fun _ h9 => h9) rfl d_LeftOut_placeOf_4 ?_
      refine lv_icmp_ge (tgt := 28) hx hb d_LeftOut_placeOf_7 (by decide) (fun c_1 => ?_) (fun c_1 => ?_)
      · replace hf := o_pos c_1 hf
        refine lv_iconst (v := (-1)) hx hb d_LeftOut_placeOf_28 (by decide) ?_
        rw [hQ, ← Option.some.inj hf]
        exact W.iret hx hb hr (fun t9 ht9 hW9 => ⟨rfl, by rw [ht9]; exact hP, hS.F ht9⟩) hS.2.2 d_LeftOut_placeOf_29
      · replace hf := o_neg c_1 hf
        refine lv_aload_n hx hb d_LeftOut_placeOf_10 rfl (lv_at hl 0 rfl) ?_
        refine va_get (D := (dC, dI)) (ci := 0) (v := .ref h_minutes) (C := R_LeftOut) (T := T_LeftOut) (N := 2) hx hb hT i_LeftOut hown hK hP 0 rfl rfl 0 (by decide) (hT _ kF_LeftOut_9) (fun _ h9 => h9) rfl d_LeftOut_placeOf_11 ?_
        refine lv_iload_n hx hb d_LeftOut_placeOf_14 rfl (lv_at hl 2 rfl) ?_
        obtain ⟨hi_2, hf⟩ := o_in hf
        refine va_iald hx hb hK hP 1 0 rfl rfl hi_2 d_LeftOut_placeOf_15 ?_
        refine lv_iload_n hx hb d_LeftOut_placeOf_16 rfl (lv_at hl 1 rfl) ?_
        refine lv_icmp_ne (tgt := 22) hx hb d_LeftOut_placeOf_17 (by decide) (fun c_3 => ?_) (fun c_3 => ?_)
        · replace hf := o_neg c_3 hf
          refine lv_iinc (v := l2_2 + 1) (lv' := [(2, .int (l2_2 + 1)), (0, .ref h_this), (1, .int p1)]) hx hb d_LeftOut_placeOf_22 hl (k := 2) rfl rfl (by decide) rfl (fun ls hl => ?_)
          refine lv_goto (tgt := 2) hx hb d_LeftOut_placeOf_25 (by decide) ?_
          exact ih (l2_2 + 1) H locs ls hf hP hD hS (lv_sub hl [1, 2, 0] rfl)
        · replace hf := o_pos c_3 hf
          refine lv_iload_n hx hb d_LeftOut_placeOf_20 rfl (lv_at hl 2 rfl) ?_
          rw [hQ, ← Option.some.inj hf]
          exact W.iret hx hb hr (fun t9 ht9 hW9 => ⟨rfl, by rw [ht9]; exact hP, hS.F ht9⟩) hS.2.2 d_LeftOut_placeOf_21
  refine lp_2  fu 0 H locs ls hf hP hD hS (lv_sub hl [1, 2, 0] rfl)
def rm_LeftOut_has : Room := { frames := 1, cells := 0, slots := 0, locals := 22 }
set_option maxHeartbeats 4000000 in
set_option maxRecDepth 100000 in
theorem c_LeftOut_has (l : Launch) (dC : Nat → ClassId) (dI : Nat → Nat → Nat) (cI cL cC : ClassId) (h_this h_minutes : Nat) (sz : Nat) (fu : Nat) (v_count : Int32) (v_minutes : Nat → Int32) (p1 : Int32) (t : Int32) (hf : f_LeftOut_has fu v_count v_minutes p1 = some t) : Met l y_LeftOut_has (Cond.code y_LeftOut_has prog_2_method_3_code 2 (some .boolean) :: xT) rm_LeftOut_has (va_Pc [.ref h_this, .int p1] (xP (dC, dI) (xTy cI cL cC) [(h_this, .inr (0, [.ref h_minutes, .int v_count])), (h_minutes, .inl (cI, 100, .inl v_minutes))] sz)) (xQ (dC, dI) [(h_this, .inr (0, [.ref h_minutes, .int v_count])), (h_minutes, .inl (cI, 100, .inl v_minutes))] (va_A [(h_this, .inr (0, [.ref h_minutes, .int v_count])), (h_minutes, .inl (cI, 100, .inl v_minutes))] sz) (some (.int t))) 0 0 (va_A [(h_this, .inr (0, [.ref h_minutes, .int v_count])), (h_minutes, .inl (cI, 100, .inl v_minutes))] sz) := by
  refine Met.ofW (cc := prog_2_method_3_code) (maxL := 2) (ret := (some .boolean)) (by decide) rfl ?_
  intro p e s m args below meth c s₁ B hml hv
  obtain ⟨hargs, hsz, hP, hK, hN, hD0⟩ := hv
  have hx := B.exec
  have hb := B.bytes
  have hr := B.returns
  have hT : ∀ w ∈ xT, w.before args s = true := fun w hw => atoms_spec (ws := Cond.code y_LeftOut_has prog_2_method_3_code 2 (some .boolean) :: xT) B.pre w (List.mem_cons_of_mem _ hw)
  have hown : s.vm.findClass R_LeftOut = some m.cls := findClass_of_methodNamed B.named
  have hlocks := B.notSynchronized
  subst hsz
  have hD := hD0.self (sz := s.heap.size)
  generalize hAe : va_A [(h_this, .inr (0, [.ref h_minutes, .int v_count])), (h_minutes, .inl (cI, 100, .inl v_minutes))] s.heap.size = A at hD ⊢
  have hA : ∀ q : Nat, s.heap.size ≤ q → A q := fun q h => by rw [← hAe]; exact Or.inr h
  have hS : va_S A s.heap s.heap [] := va_S.rf
  have hP : va_P (dC, dI) vwCl [(h_this, .inr (0, [.ref h_minutes, .int v_count])), (h_minutes, .inl (cI, 100, .inl v_minutes))] s.heap := hP
  have hl := lv_entry ([.ref h_this, .int p1]) (n := 2) (Nat.le_of_ble_eq_true rfl)
  rw [show entryFrame m args 2 = entryFrame m ([.ref h_this, .int p1] : List Value).toArray 2 from by rw [hargs], lg_entry_eq]
  generalize (lg_sl ([.ref h_this, .int p1]) ++ List.replicate (2 - (lg_sl ([.ref h_this, .int p1])).length) Slot.unset).toArray = ls at hl ⊢
  have hl : lv_has ls 2 [(0, .ref h_this), (1, .int p1)] := hl
  obtain ⟨Q, hQ⟩ : ∃ Q, Q = MQ below (xQ (dC, dI) [(h_this, .inr (0, [.ref h_minutes, .int v_count])), (h_minutes, .inl (cI, 100, .inl v_minutes))] A (some (.int t))) args s 0 0 A := ⟨_, rfl⟩
  rw [← hQ]
  show W p l e rm_LeftOut_has s m args below meth c s.heap [] 0 0 Q _
  obtain ⟨H, hH⟩ : ∃ H, H = s.heap := ⟨_, rfl⟩
  obtain ⟨locs, hlocs⟩ : ∃ L : List Loc, L = [] := ⟨_, rfl⟩
  rw [← hlocs] at hS ⊢
  have hS : va_S A s.heap H locs := by rw [hH]; exact hS
  rw [← hH] at hP ⊢
  replace hf := f_LeftOut_has_u hf
  refine lv_aload_n hx hb d_LeftOut_has_0 rfl (lv_at hl 0 rfl) ?_
  refine lv_iload_n hx hb d_LeftOut_has_1 rfl (lv_at hl 1 rfl) ?_
  obtain ⟨t_1, hg_1, hf⟩ := o_bind hf
  refine x_virt (w' := [(h_this, .inr (0, [.ref h_minutes, .int v_count])), (h_minutes, .inl (cI, 100, .inl v_minutes))]) (As := [.int p1]) (rest := []) hx hb hml hl.1 hown hT hK hN hP hD hS hA (c_LeftOut_placeOf l dC dI cI cL cC h_this h_minutes H.size fu v_count v_minutes p1 t_1 hg_1) kM_LeftOut_19 kI_LeftOut_placeOf kS_33 kN_LeftOut kC_LeftOut_placeOf hd_LeftOut_placeOf rfl 0 rfl rfl rfl ⟨Nat.le_of_ble_eq_true rfl, Nat.le_of_ble_eq_true rfl⟩ rfl rfl ⟨Nat.zero_le _, Nat.zero_le _⟩ rfl (Nat.le_of_ble_eq_true rfl) d_LeftOut_has_2 [0, 1] rfl rfl [.inr 0, .inr 1] rfl rfl rfl (fun H locs hP hD hS => ?_)
  refine lv_iconst (v := (-1)) hx hb d_LeftOut_has_5 (by decide) ?_
  refine lv_icmp_eq (tgt := 13) hx hb d_LeftOut_has_6 (by decide) (fun c_2 => ?_) (fun c_2 => ?_)
  · replace hf := o_pos c_2 hf
    refine lv_iconst (v := 0) hx hb d_LeftOut_has_13 (by decide) ?_
    rw [hQ, ← Option.some.inj hf]
    exact W.zret (ty := .boolean) hx hb hr rfl (fun t9 ht9 hW9 => ⟨rfl, by rw [ht9]; exact hP, hS.F ht9⟩) hS.2.2 d_LeftOut_has_14
  · replace hf := o_neg c_2 hf
    refine lv_iconst (v := 1) hx hb d_LeftOut_has_9 (by decide) ?_
    refine lv_goto (tgt := 14) hx hb d_LeftOut_has_10 (by decide) ?_
    rw [hQ, ← Option.some.inj hf]
    exact W.zret (ty := .boolean) hx hb hr rfl (fun t9 ht9 hW9 => ⟨rfl, by rw [ht9]; exact hP, hS.F ht9⟩) hS.2.2 d_LeftOut_has_14
def rm_LeftOut_add : Room := { frames := 0, cells := 0, slots := 0, locals := 0 }
set_option maxHeartbeats 4000000 in
set_option maxRecDepth 100000 in
theorem c_LeftOut_add (l : Launch) (dC : Nat → ClassId) (dI : Nat → Nat → Nat) (cI cL cC : ClassId) (h_this h_minutes : Nat) (sz : Nat) (v_count : Int32) (v_minutes : Nat → Int32) (p1 : Int32) (t : Int32 × (Nat → Int32)) (hf : f_LeftOut_add v_count v_minutes p1 = some t) : Met l y_LeftOut_add (Cond.code y_LeftOut_add prog_2_method_4_code 2 none :: xT) rm_LeftOut_add (va_Pc [.ref h_this, .int p1] (xP (dC, dI) (xTy cI cL cC) [(h_this, .inr (0, [.ref h_minutes, .int v_count])), (h_minutes, .inl (cI, 100, .inl v_minutes))] sz)) (xQ (dC, dI) [(h_this, .inr (0, [.ref h_minutes, .int t.1])), (h_minutes, .inl (cI, 100, .inl t.2))] (va_A [(h_this, .inr (0, [.ref h_minutes, .int v_count])), (h_minutes, .inl (cI, 100, .inl v_minutes))] sz) (none)) 0 0 (va_A [(h_this, .inr (0, [.ref h_minutes, .int v_count])), (h_minutes, .inl (cI, 100, .inl v_minutes))] sz) := by
  refine Met.ofW (cc := prog_2_method_4_code) (maxL := 2) (ret := none) (by decide) rfl ?_
  intro p e s m args below meth c s₁ B hml hv
  obtain ⟨hargs, hsz, hP, hK, hN, hD0⟩ := hv
  have hx := B.exec
  have hb := B.bytes
  have hr := B.returns
  have hT : ∀ w ∈ xT, w.before args s = true := fun w hw => atoms_spec (ws := Cond.code y_LeftOut_add prog_2_method_4_code 2 none :: xT) B.pre w (List.mem_cons_of_mem _ hw)
  have hown : s.vm.findClass R_LeftOut = some m.cls := findClass_of_methodNamed B.named
  have hlocks := B.notSynchronized
  subst hsz
  have hD := hD0.self (sz := s.heap.size)
  generalize hAe : va_A [(h_this, .inr (0, [.ref h_minutes, .int v_count])), (h_minutes, .inl (cI, 100, .inl v_minutes))] s.heap.size = A at hD ⊢
  have hA : ∀ q : Nat, s.heap.size ≤ q → A q := fun q h => by rw [← hAe]; exact Or.inr h
  have hS : va_S A s.heap s.heap [] := va_S.rf
  have hP : va_P (dC, dI) vwCl [(h_this, .inr (0, [.ref h_minutes, .int v_count])), (h_minutes, .inl (cI, 100, .inl v_minutes))] s.heap := hP
  have hl := lv_entry ([.ref h_this, .int p1]) (n := 2) (Nat.le_of_ble_eq_true rfl)
  rw [show entryFrame m args 2 = entryFrame m ([.ref h_this, .int p1] : List Value).toArray 2 from by rw [hargs], lg_entry_eq]
  generalize (lg_sl ([.ref h_this, .int p1]) ++ List.replicate (2 - (lg_sl ([.ref h_this, .int p1])).length) Slot.unset).toArray = ls at hl ⊢
  have hl : lv_has ls 2 [(0, .ref h_this), (1, .int p1)] := hl
  obtain ⟨Q, hQ⟩ : ∃ Q, Q = MQ below (xQ (dC, dI) [(h_this, .inr (0, [.ref h_minutes, .int t.1])), (h_minutes, .inl (cI, 100, .inl t.2))] A (none)) args s 0 0 A := ⟨_, rfl⟩
  rw [← hQ]
  show W p l e rm_LeftOut_add s m args below meth c s.heap [] 0 0 Q _
  obtain ⟨H, hH⟩ : ∃ H, H = s.heap := ⟨_, rfl⟩
  obtain ⟨locs, hlocs⟩ : ∃ L : List Loc, L = [] := ⟨_, rfl⟩
  rw [← hlocs] at hS ⊢
  have hS : va_S A s.heap H locs := by rw [hH]; exact hS
  rw [← hH] at hP ⊢
  replace hf := f_LeftOut_add_u hf
  refine lv_aload_n hx hb d_LeftOut_add_0 rfl (lv_at hl 0 rfl) ?_
  refine va_get (D := (dC, dI)) (ci := 0) (v := .ref h_minutes) (C := R_LeftOut) (T := T_LeftOut) (N := 2) hx hb hT i_LeftOut hown hK hP 0 rfl rfl 0 (by decide) (hT _ kF_LeftOut_9) (fun _ h9 => h9) rfl d_LeftOut_add_1 ?_
  refine lv_aload_n hx hb d_LeftOut_add_4 rfl (lv_at hl 0 rfl) ?_
  refine va_get (D := (dC, dI)) (ci := 0) (v := .int v_count) (C := R_LeftOut) (T := T_LeftOut) (N := 2) hx hb hT i_LeftOut hown hK hP 0 rfl rfl 1 (by decide) (hT _ kF_LeftOut_15) (fun _ h9 => h9) rfl d_LeftOut_add_5 ?_
  refine lv_iload_n hx hb d_LeftOut_add_8 rfl (lv_at hl 1 rfl) ?_
  obtain ⟨hi_1, hf⟩ := o_in hf
  refine va_iast hx hb hK hP hD hS 1 0 rfl rfl hi_1 d_LeftOut_add_9 (fun H locs hP hD hS => ?_)
  have hP : va_P (dC, dI) vwCl [(h_this, .inr (0, [.ref h_minutes, .int v_count])), (h_minutes, .inl (cI, 100, .inl (upd v_minutes (v_count : Int32).toNatClampNeg p1)))] H := hP
  have hD : va_D A [(h_this, .inr (0, [.ref h_minutes, .int v_count])), (h_minutes, .inl (cI, 100, .inl (upd v_minutes (v_count : Int32).toNatClampNeg p1)))] := hD
  refine lv_aload_n hx hb d_LeftOut_add_10 rfl (lv_at hl 0 rfl) ?_
  refine lv_dup hx hb d_LeftOut_add_11 rfl ?_
  refine va_get (D := (dC, dI)) (ci := 0) (v := .int v_count) (C := R_LeftOut) (T := T_LeftOut) (N := 2) hx hb hT i_LeftOut hown hK hP 0 rfl rfl 1 (by decide) (hT _ kF_LeftOut_15) (fun _ h9 => h9) rfl d_LeftOut_add_12 ?_
  refine lv_iconst (v := 1) hx hb d_LeftOut_add_15 (by decide) ?_
  refine lv_iadd hx hb d_LeftOut_add_16 ?_
  refine va_put (D := (dC, dI)) (ci := 0) (v := .int (v_count + 1)) (ty := .int) (C := R_LeftOut) (T := T_LeftOut) (N := 2) hx hb hT i_LeftOut ty_LeftOut ty_LeftOut_ok n_LeftOut hown hK hP hD hS 0 rfl rfl 1 (by decide) (hT _ kF_LeftOut_15) (fun _ h9 => h9) rfl (by decide +kernel) rfl rfl (Nat.le_of_ble_eq_true rfl) d_LeftOut_add_17 (fun H locs hP hD hS => ?_)
  have hP : va_P (dC, dI) vwCl [(h_this, .inr (0, [.ref h_minutes, .int (v_count + 1)])), (h_minutes, .inl (cI, 100, .inl (upd v_minutes (v_count : Int32).toNatClampNeg p1)))] H := hP
  have hD : va_D A [(h_this, .inr (0, [.ref h_minutes, .int (v_count + 1)])), (h_minutes, .inl (cI, 100, .inl (upd v_minutes (v_count : Int32).toNatClampNeg p1)))] := hD
  rw [hQ, ← Option.some.inj hf]
  exact W.vret hx hb hr (fun t9 ht9 hW9 => ⟨rfl, by rw [ht9]; exact hP, hS.F ht9⟩) hS.2.2 d_LeftOut_add_20
def rm_LeftOut_remove : Room := { frames := 1, cells := 0, slots := 0, locals := 22 }
set_option maxHeartbeats 4000000 in
set_option maxRecDepth 100000 in
theorem c_LeftOut_remove (l : Launch) (dC : Nat → ClassId) (dI : Nat → Nat → Nat) (cI cL cC : ClassId) (h_this h_minutes : Nat) (sz : Nat) (fu : Nat) (v_count : Int32) (v_minutes : Nat → Int32) (p1 : Int32) (t : Int32 × (Nat → Int32)) (hf : f_LeftOut_remove fu v_count v_minutes p1 = some t) : Met l y_LeftOut_remove (Cond.code y_LeftOut_remove prog_2_method_5_code 3 none :: xT) rm_LeftOut_remove (va_Pc [.ref h_this, .int p1] (xP (dC, dI) (xTy cI cL cC) [(h_this, .inr (0, [.ref h_minutes, .int v_count])), (h_minutes, .inl (cI, 100, .inl v_minutes))] sz)) (xQ (dC, dI) [(h_this, .inr (0, [.ref h_minutes, .int t.1])), (h_minutes, .inl (cI, 100, .inl t.2))] (va_A [(h_this, .inr (0, [.ref h_minutes, .int v_count])), (h_minutes, .inl (cI, 100, .inl v_minutes))] sz) (none)) 0 0 (va_A [(h_this, .inr (0, [.ref h_minutes, .int v_count])), (h_minutes, .inl (cI, 100, .inl v_minutes))] sz) := by
  refine Met.ofW (cc := prog_2_method_5_code) (maxL := 3) (ret := none) (by decide) rfl ?_
  intro p e s m args below meth c s₁ B hml hv
  obtain ⟨hargs, hsz, hP, hK, hN, hD0⟩ := hv
  have hx := B.exec
  have hb := B.bytes
  have hr := B.returns
  have hT : ∀ w ∈ xT, w.before args s = true := fun w hw => atoms_spec (ws := Cond.code y_LeftOut_remove prog_2_method_5_code 3 none :: xT) B.pre w (List.mem_cons_of_mem _ hw)
  have hown : s.vm.findClass R_LeftOut = some m.cls := findClass_of_methodNamed B.named
  have hlocks := B.notSynchronized
  subst hsz
  have hD := hD0.self (sz := s.heap.size)
  generalize hAe : va_A [(h_this, .inr (0, [.ref h_minutes, .int v_count])), (h_minutes, .inl (cI, 100, .inl v_minutes))] s.heap.size = A at hD ⊢
  have hA : ∀ q : Nat, s.heap.size ≤ q → A q := fun q h => by rw [← hAe]; exact Or.inr h
  have hS : va_S A s.heap s.heap [] := va_S.rf
  have hP : va_P (dC, dI) vwCl [(h_this, .inr (0, [.ref h_minutes, .int v_count])), (h_minutes, .inl (cI, 100, .inl v_minutes))] s.heap := hP
  have hl := lv_entry ([.ref h_this, .int p1]) (n := 3) (Nat.le_of_ble_eq_true rfl)
  rw [show entryFrame m args 3 = entryFrame m ([.ref h_this, .int p1] : List Value).toArray 3 from by rw [hargs], lg_entry_eq]
  generalize (lg_sl ([.ref h_this, .int p1]) ++ List.replicate (3 - (lg_sl ([.ref h_this, .int p1])).length) Slot.unset).toArray = ls at hl ⊢
  have hl : lv_has ls 3 [(0, .ref h_this), (1, .int p1)] := hl
  obtain ⟨Q, hQ⟩ : ∃ Q, Q = MQ below (xQ (dC, dI) [(h_this, .inr (0, [.ref h_minutes, .int t.1])), (h_minutes, .inl (cI, 100, .inl t.2))] A (none)) args s 0 0 A := ⟨_, rfl⟩
  rw [← hQ]
  show W p l e rm_LeftOut_remove s m args below meth c s.heap [] 0 0 Q _
  obtain ⟨H, hH⟩ : ∃ H, H = s.heap := ⟨_, rfl⟩
  obtain ⟨locs, hlocs⟩ : ∃ L : List Loc, L = [] := ⟨_, rfl⟩
  rw [← hlocs] at hS ⊢
  have hS : va_S A s.heap H locs := by rw [hH]; exact hS
  rw [← hH] at hP ⊢
  replace hf := f_LeftOut_remove_u hf
  refine lv_aload_n hx hb d_LeftOut_remove_0 rfl (lv_at hl 0 rfl) ?_
  refine lv_iload_n hx hb d_LeftOut_remove_1 rfl (lv_at hl 1 rfl) ?_
  obtain ⟨t_1, hg_1, hf⟩ := o_bind hf
  refine x_virt (w' := [(h_this, .inr (0, [.ref h_minutes, .int v_count])), (h_minutes, .inl (cI, 100, .inl v_minutes))]) (As := [.int p1]) (rest := []) hx hb hml hl.1 hown hT hK hN hP hD hS hA (c_LeftOut_placeOf l dC dI cI cL cC h_this h_minutes H.size fu v_count v_minutes p1 t_1 hg_1) kM_LeftOut_19 kI_LeftOut_placeOf kS_33 kN_LeftOut kC_LeftOut_placeOf hd_LeftOut_placeOf rfl 0 rfl rfl rfl ⟨Nat.le_of_ble_eq_true rfl, Nat.le_of_ble_eq_true rfl⟩ rfl rfl ⟨Nat.zero_le _, Nat.zero_le _⟩ rfl (Nat.le_of_ble_eq_true rfl) d_LeftOut_remove_2 [0, 1] rfl rfl [.inr 0, .inr 1] rfl rfl rfl (fun H locs hP hD hS => ?_)
  refine lv_istore_n (lv' := [(2, .int t_1), (0, .ref h_this), (1, .int p1)]) hx hb d_LeftOut_remove_5 rfl hl (by decide) rfl (fun ls hl => ?_)
  refine lv_iload_n hx hb d_LeftOut_remove_6 rfl (lv_at hl 0 rfl) ?_
  refine lv_iconst (v := (-1)) hx hb d_LeftOut_remove_7 (by decide) ?_
  refine lv_icmp_eq (tgt := 36) hx hb d_LeftOut_remove_8 (by decide) (fun c_2 => ?_) (fun c_2 => ?_)
  · replace hf := o_pos c_2 hf
    rw [hQ, ← Option.some.inj hf]
    exact W.vret hx hb hr (fun t9 ht9 hW9 => ⟨rfl, by rw [ht9]; exact hP, hS.F ht9⟩) hS.2.2 d_LeftOut_remove_36
  · replace hf := o_neg c_2 hf
    refine lv_aload_n hx hb d_LeftOut_remove_11 rfl (lv_at hl 1 rfl) ?_
    refine lv_dup hx hb d_LeftOut_remove_12 rfl ?_
    refine va_get (D := (dC, dI)) (ci := 0) (v := .int v_count) (C := R_LeftOut) (T := T_LeftOut) (N := 2) hx hb hT i_LeftOut hown hK hP 0 rfl rfl 1 (by decide) (hT _ kF_LeftOut_15) (fun _ h9 => h9) rfl d_LeftOut_remove_13 ?_
    refine lv_iconst (v := 1) hx hb d_LeftOut_remove_16 (by decide) ?_
    refine lv_isub hx hb d_LeftOut_remove_17 ?_
    refine va_put (D := (dC, dI)) (ci := 0) (v := .int (v_count - 1)) (ty := .int) (C := R_LeftOut) (T := T_LeftOut) (N := 2) hx hb hT i_LeftOut ty_LeftOut ty_LeftOut_ok n_LeftOut hown hK hP hD hS 0 rfl rfl 1 (by decide) (hT _ kF_LeftOut_15) (fun _ h9 => h9) rfl (by decide +kernel) rfl rfl (Nat.le_of_ble_eq_true rfl) d_LeftOut_remove_18 (fun H locs hP hD hS => ?_)
    have hP : va_P (dC, dI) vwCl [(h_this, .inr (0, [.ref h_minutes, .int (v_count - 1)])), (h_minutes, .inl (cI, 100, .inl v_minutes))] H := hP
    have hD : va_D A [(h_this, .inr (0, [.ref h_minutes, .int (v_count - 1)])), (h_minutes, .inl (cI, 100, .inl v_minutes))] := hD
    refine lv_aload_n hx hb d_LeftOut_remove_21 rfl (lv_at hl 1 rfl) ?_
    refine va_get (D := (dC, dI)) (ci := 0) (v := .ref h_minutes) (C := R_LeftOut) (T := T_LeftOut) (N := 2) hx hb hT i_LeftOut hown hK hP 0 rfl rfl 0 (by decide) (hT _ kF_LeftOut_9) (fun _ h9 => h9) rfl d_LeftOut_remove_22 ?_
    refine lv_iload_n hx hb d_LeftOut_remove_25 rfl (lv_at hl 0 rfl) ?_
    refine lv_aload_n hx hb d_LeftOut_remove_26 rfl (lv_at hl 1 rfl) ?_
    refine va_get (D := (dC, dI)) (ci := 0) (v := .ref h_minutes) (C := R_LeftOut) (T := T_LeftOut) (N := 2) hx hb hT i_LeftOut hown hK hP 0 rfl rfl 0 (by decide) (hT _ kF_LeftOut_9) (fun _ h9 => h9) rfl d_LeftOut_remove_27 ?_
    refine lv_aload_n hx hb d_LeftOut_remove_30 rfl (lv_at hl 1 rfl) ?_
    refine va_get (D := (dC, dI)) (ci := 0) (v := .int (v_count - 1)) (C := R_LeftOut) (T := T_LeftOut) (N := 2) hx hb hT i_LeftOut hown hK hP 0 rfl rfl 1 (by decide) (hT _ kF_LeftOut_15) (fun _ h9 => h9) rfl d_LeftOut_remove_31 ?_
    obtain ⟨hi_3, hf⟩ := o_in hf
    refine va_iald hx hb hK hP 1 0 rfl rfl hi_3 d_LeftOut_remove_34 ?_
    obtain ⟨hi_4, hf⟩ := o_in hf
    refine va_iast hx hb hK hP hD hS 1 0 rfl rfl hi_4 d_LeftOut_remove_35 (fun H locs hP hD hS => ?_)
    have hP : va_P (dC, dI) vwCl [(h_this, .inr (0, [.ref h_minutes, .int (v_count - 1)])), (h_minutes, .inl (cI, 100, .inl (upd v_minutes (t_1 : Int32).toNatClampNeg (v_minutes (v_count - 1 : Int32).toNatClampNeg))))] H := hP
    have hD : va_D A [(h_this, .inr (0, [.ref h_minutes, .int (v_count - 1)])), (h_minutes, .inl (cI, 100, .inl (upd v_minutes (t_1 : Int32).toNatClampNeg (v_minutes (v_count - 1 : Int32).toNatClampNeg))))] := hD
    rw [hQ, ← Option.some.inj hf]
    exact W.vret hx hb hr (fun t9 ht9 hW9 => ⟨rfl, by rw [ht9]; exact hP, hS.F ht9⟩) hS.2.2 d_LeftOut_remove_36
