def rm_Rows_init : Room := { frames := 1, cells := 4, slots := 273, locals := 12 }
set_option maxHeartbeats 4000000 in
set_option maxRecDepth 100000 in
theorem c_Rows_init (l : Launch) (dC : Nat → ClassId) (dI : Nat → Nat → Nat) (cI cL cC : ClassId) (h_this sz : Nat) : Met l y_Rows_init (Cond.code y_Rows_init prog_4_method_1_code 1 none :: xT) rm_Rows_init (va_Pc [.ref h_this] (xP (dC, dI) (xTy cI cL cC) [(h_this, .inr (2, [.null, .null, .null, .null]))] sz)) (xQN (dC, dI) (fun q => [(h_this, .inr (2, [.ref (q 0), .ref (q 1), .ref (q 2), .ref (q 3)])), ((q 0), .inl (cI, 120, .inl (fun _ => 0))), ((q 1), .inl (cI, 120, .inl (fun _ => 0))), ((q 2), .inl (cI, 17, .inl (fun _ => 0))), ((q 3), .inl (cI, 16, .inl (fun _ => 0)))]) (va_A [(h_this, .inr (2, [.null, .null, .null, .null]))] sz)) 4 273 (va_A [(h_this, .inr (2, [.null, .null, .null, .null]))] sz) := by
  refine Met.ofW (cc := prog_4_method_1_code) (maxL := 1) (ret := none) (by decide) rfl ?_
  intro p e s m args below meth c s₁ B hml hv
  obtain ⟨hargs, hsz, hP, hK, hN, hD0⟩ := hv
  have hx := B.exec
  have hb := B.bytes
  have hr := B.returns
  have hT : ∀ w ∈ xT, w.before args s = true := fun w hw => atoms_spec (ws := Cond.code y_Rows_init prog_4_method_1_code 1 none :: xT) B.pre w (List.mem_cons_of_mem _ hw)
  have hown : s.vm.findClass R_Rows = some m.cls := findClass_of_methodNamed B.named
  have hlocks := B.notSynchronized
  have hin : meth.name = "<init>" := (name_of_methodNamed B.named B.method).1
  subst hsz
  have hD := hD0.self (sz := s.heap.size)
  generalize hAe : va_A [(h_this, .inr (2, [.null, .null, .null, .null]))] s.heap.size = A at hD ⊢
  have hA : ∀ q : Nat, s.heap.size ≤ q → A q := fun q h => by rw [← hAe]; exact Or.inr h
  have hS : va_S A s.heap s.heap [] := va_S.rf
  have hl := lv_entry ([.ref h_this]) (n := 1) (Nat.le_of_ble_eq_true rfl)
  rw [show entryFrame m args 1 = entryFrame m ([.ref h_this] : List Value).toArray 1 from by rw [hargs], lg_entry_eq]
  generalize (lg_sl ([.ref h_this]) ++ List.replicate (1 - (lg_sl ([.ref h_this])).length) Slot.unset).toArray = ls at hl ⊢
  have hl : lv_has ls 1 [(0, .ref h_this)] := hl
  show W p l e rm_Rows_init s m args below meth c s.heap [] 0 0 _ _
  obtain ⟨H, hH⟩ : ∃ H, H = s.heap := ⟨_, rfl⟩
  obtain ⟨locs, hlocs⟩ : ∃ L : List Loc, L = [] := ⟨_, rfl⟩
  rw [← hlocs] at hS ⊢
  have hS : va_S A s.heap H locs := by rw [hH]; exact hS
  rw [← hH] at hP ⊢
  have hP : va_P (dC, dI) vwCl [(h_this, .inr (2, [.null, .null, .null, .null]))] H := hP
  have hD : va_D A [(h_this, .inr (2, [.null, .null, .null, .null]))] := hD
  refine lv_aload_n hx hb d_Rows_init_0 rfl (lv_at hl 0 rfl) ?_
  refine W.objInit hx hb hown (hT _ kM_Rows_3) (hT _ kI_Object) (hT _ kC_Object) rfl (by rw [hml]; exact hl.1) rfl d_Rows_init_1 (Nat.le_of_ble_eq_true rfl) (Nat.le_of_ble_eq_true rfl) ?_
  refine W.eq (g2 := F0 m 4 ls []) rfl ?_
  refine lv_aload_n hx hb d_Rows_init_4 rfl (lv_at hl 0 rfl) ?_
  refine lv_bipush (v := 120) hx hb d_Rows_init_5 (by decide) ?_
  refine va_newa (atype := .int) (ty := .int) (N' := 120) (a0 := (120, .inl (fun _ => 0))) hx hb (hT _ kAr_int) rfl hK hP hD hS hA (fun _ => rfl) (by decide) rfl (Nat.le_of_ble_eq_true rfl) (Nat.le_of_ble_eq_true rfl) (Nat.le_of_ble_eq_true rfl) d_Rows_init_7 (fun q7 cA9 H hK9 hP hD hS => ?_)
  obtain rfl : cI = cA9 := x_cls hK9 0 3 rfl rfl rfl
  have hK : va_K (dC, dI) vwCl (xTy cI cL cC) s := hK9.sub [0, 1, 2] rfl
  have hP : va_P (dC, dI) vwCl [(h_this, .inr (2, [.null, .null, .null, .null])), (q7, .inl (cI, 120, .inl (fun _ => 0)))] H := hP
  have hD : va_D A [(h_this, .inr (2, [.null, .null, .null, .null])), (q7, .inl (cI, 120, .inl (fun _ => 0)))] := hD
  refine va_putF (D := (dC, dI)) (ci := 2) (v := .ref q7) (ty := .array .int) (C := R_Rows) (T := T_Rows) (N := 4) hx hb hT i_Rows ty_Rows ty_Rows_ok n_Rows hown hK hP hD hS 0 rfl rfl 0 (by decide) (hT _ kF_Rows_9) (fun _ h9 => h9) rfl hin rfl (by decide +kernel) rfl rfl (Nat.le_of_ble_eq_true rfl) d_Rows_init_9 (fun H locs hP hD hS => ?_)
  have hP : va_P (dC, dI) vwCl [(h_this, .inr (2, [.ref q7, .null, .null, .null])), (q7, .inl (cI, 120, .inl (fun _ => 0)))] H := hP
  have hD : va_D A [(h_this, .inr (2, [.ref q7, .null, .null, .null])), (q7, .inl (cI, 120, .inl (fun _ => 0)))] := hD
  refine lv_aload_n hx hb d_Rows_init_12 rfl (lv_at hl 0 rfl) ?_
  refine lv_bipush (v := 120) hx hb d_Rows_init_13 (by decide) ?_
  refine va_newa (atype := .int) (ty := .int) (N' := 120) (a0 := (120, .inl (fun _ => 0))) hx hb (hT _ kAr_int) rfl hK hP hD hS hA (fun _ => rfl) (by decide) rfl (Nat.le_of_ble_eq_true rfl) (Nat.le_of_ble_eq_true rfl) (Nat.le_of_ble_eq_true rfl) d_Rows_init_15 (fun q15 cA9 H hK9 hP hD hS => ?_)
  obtain rfl : cI = cA9 := x_cls hK9 0 3 rfl rfl rfl
  have hK : va_K (dC, dI) vwCl (xTy cI cL cC) s := hK9.sub [0, 1, 2] rfl
  have hP : va_P (dC, dI) vwCl [(h_this, .inr (2, [.ref q7, .null, .null, .null])), (q7, .inl (cI, 120, .inl (fun _ => 0))), (q15, .inl (cI, 120, .inl (fun _ => 0)))] H := hP
  have hD : va_D A [(h_this, .inr (2, [.ref q7, .null, .null, .null])), (q7, .inl (cI, 120, .inl (fun _ => 0))), (q15, .inl (cI, 120, .inl (fun _ => 0)))] := hD
  refine va_putF (D := (dC, dI)) (ci := 2) (v := .ref q15) (ty := .array .int) (C := R_Rows) (T := T_Rows) (N := 4) hx hb hT i_Rows ty_Rows ty_Rows_ok n_Rows hown hK hP hD hS 0 rfl rfl 1 (by decide) (hT _ kF_Rows_15) (fun _ h9 => h9) rfl hin rfl (by decide +kernel) rfl rfl (Nat.le_of_ble_eq_true rfl) d_Rows_init_17 (fun H locs hP hD hS => ?_)
  have hP : va_P (dC, dI) vwCl [(h_this, .inr (2, [.ref q7, .ref q15, .null, .null])), (q7, .inl (cI, 120, .inl (fun _ => 0))), (q15, .inl (cI, 120, .inl (fun _ => 0)))] H := hP
  have hD : va_D A [(h_this, .inr (2, [.ref q7, .ref q15, .null, .null])), (q7, .inl (cI, 120, .inl (fun _ => 0))), (q15, .inl (cI, 120, .inl (fun _ => 0)))] := hD
  refine lv_aload_n hx hb d_Rows_init_20 rfl (lv_at hl 0 rfl) ?_
  refine lv_bipush (v := 17) hx hb d_Rows_init_21 (by decide) ?_
  refine va_newa (atype := .int) (ty := .int) (N' := 17) (a0 := (17, .inl (fun _ => 0))) hx hb (hT _ kAr_int) rfl hK hP hD hS hA (fun _ => rfl) (by decide) rfl (Nat.le_of_ble_eq_true rfl) (Nat.le_of_ble_eq_true rfl) (Nat.le_of_ble_eq_true rfl) d_Rows_init_23 (fun q23 cA9 H hK9 hP hD hS => ?_)
  obtain rfl : cI = cA9 := x_cls hK9 0 3 rfl rfl rfl
  have hK : va_K (dC, dI) vwCl (xTy cI cL cC) s := hK9.sub [0, 1, 2] rfl
  have hP : va_P (dC, dI) vwCl [(h_this, .inr (2, [.ref q7, .ref q15, .null, .null])), (q7, .inl (cI, 120, .inl (fun _ => 0))), (q15, .inl (cI, 120, .inl (fun _ => 0))), (q23, .inl (cI, 17, .inl (fun _ => 0)))] H := hP
  have hD : va_D A [(h_this, .inr (2, [.ref q7, .ref q15, .null, .null])), (q7, .inl (cI, 120, .inl (fun _ => 0))), (q15, .inl (cI, 120, .inl (fun _ => 0))), (q23, .inl (cI, 17, .inl (fun _ => 0)))] := hD
  refine va_putF (D := (dC, dI)) (ci := 2) (v := .ref q23) (ty := .array .int) (C := R_Rows) (T := T_Rows) (N := 4) hx hb hT i_Rows ty_Rows ty_Rows_ok n_Rows hown hK hP hD hS 0 rfl rfl 2 (by decide) (hT _ kF_Rows_18) (fun _ h9 => h9) rfl hin rfl (by decide +kernel) rfl rfl (Nat.le_of_ble_eq_true rfl) d_Rows_init_25 (fun H locs hP hD hS => ?_)
  have hP : va_P (dC, dI) vwCl [(h_this, .inr (2, [.ref q7, .ref q15, .ref q23, .null])), (q7, .inl (cI, 120, .inl (fun _ => 0))), (q15, .inl (cI, 120, .inl (fun _ => 0))), (q23, .inl (cI, 17, .inl (fun _ => 0)))] H := hP
  have hD : va_D A [(h_this, .inr (2, [.ref q7, .ref q15, .ref q23, .null])), (q7, .inl (cI, 120, .inl (fun _ => 0))), (q15, .inl (cI, 120, .inl (fun _ => 0))), (q23, .inl (cI, 17, .inl (fun _ => 0)))] := hD
  refine lv_aload_n hx hb d_Rows_init_28 rfl (lv_at hl 0 rfl) ?_
  refine lv_bipush (v := 16) hx hb d_Rows_init_29 (by decide) ?_
  refine va_newa (atype := .int) (ty := .int) (N' := 16) (a0 := (16, .inl (fun _ => 0))) hx hb (hT _ kAr_int) rfl hK hP hD hS hA (fun _ => rfl) (by decide) rfl (Nat.le_of_ble_eq_true rfl) (Nat.le_of_ble_eq_true rfl) (Nat.le_of_ble_eq_true rfl) d_Rows_init_31 (fun q31 cA9 H hK9 hP hD hS => ?_)
  obtain rfl : cI = cA9 := x_cls hK9 0 3 rfl rfl rfl
  have hK : va_K (dC, dI) vwCl (xTy cI cL cC) s := hK9.sub [0, 1, 2] rfl
  have hP : va_P (dC, dI) vwCl [(h_this, .inr (2, [.ref q7, .ref q15, .ref q23, .null])), (q7, .inl (cI, 120, .inl (fun _ => 0))), (q15, .inl (cI, 120, .inl (fun _ => 0))), (q23, .inl (cI, 17, .inl (fun _ => 0))), (q31, .inl (cI, 16, .inl (fun _ => 0)))] H := hP
  have hD : va_D A [(h_this, .inr (2, [.ref q7, .ref q15, .ref q23, .null])), (q7, .inl (cI, 120, .inl (fun _ => 0))), (q15, .inl (cI, 120, .inl (fun _ => 0))), (q23, .inl (cI, 17, .inl (fun _ => 0))), (q31, .inl (cI, 16, .inl (fun _ => 0)))] := hD
  refine va_putF (D := (dC, dI)) (ci := 2) (v := .ref q31) (ty := .array .int) (C := R_Rows) (T := T_Rows) (N := 4) hx hb hT i_Rows ty_Rows ty_Rows_ok n_Rows hown hK hP hD hS 0 rfl rfl 3 (by decide) (hT _ kF_Rows_21) (fun _ h9 => h9) rfl hin rfl (by decide +kernel) rfl rfl (Nat.le_of_ble_eq_true rfl) d_Rows_init_33 (fun H locs hP hD hS => ?_)
  have hP : va_P (dC, dI) vwCl [(h_this, .inr (2, [.ref q7, .ref q15, .ref q23, .ref q31])), (q7, .inl (cI, 120, .inl (fun _ => 0))), (q15, .inl (cI, 120, .inl (fun _ => 0))), (q23, .inl (cI, 17, .inl (fun _ => 0))), (q31, .inl (cI, 16, .inl (fun _ => 0)))] H := hP
  have hD : va_D A [(h_this, .inr (2, [.ref q7, .ref q15, .ref q23, .ref q31])), (q7, .inl (cI, 120, .inl (fun _ => 0))), (q15, .inl (cI, 120, .inl (fun _ => 0))), (q23, .inl (cI, 17, .inl (fun _ => 0))), (q31, .inl (cI, 16, .inl (fun _ => 0)))] := hD
  exact W.vret hx hb hr (fun t9 ht9 hW9 => ⟨rfl, ⟨fun k => [q7, q15, q23, q31].getD k 0, by rw [ht9]; exact hP, hD⟩, hS.F ht9⟩) hS.2.2 d_Rows_init_36
def rm_Text_init : Room := { frames := 1, cells := 1, slots := 1000, locals := 12 }
set_option maxHeartbeats 4000000 in
set_option maxRecDepth 100000 in
theorem c_Text_init (l : Launch) (dC : Nat → ClassId) (dI : Nat → Nat → Nat) (cI cL cC : ClassId) (h_this sz : Nat) : Met l y_Text_init (Cond.code y_Text_init prog_7_method_1_code 1 none :: xT) rm_Text_init (va_Pc [.ref h_this] (xP (dC, dI) (xTy cI cL cC) [(h_this, .inr (5, [.null, .int 0, .int 0, .int 0, .int 0, .long 0]))] sz)) (xQN (dC, dI) (fun q => [(h_this, .inr (5, [.ref (q 0), .int 0, .int 0, .int 0, .int 0, .long 0])), ((q 0), .inl (cC, 1000, .inl (fun _ => 0)))]) (va_A [(h_this, .inr (5, [.null, .int 0, .int 0, .int 0, .int 0, .long 0]))] sz)) 1 1000 (va_A [(h_this, .inr (5, [.null, .int 0, .int 0, .int 0, .int 0, .long 0]))] sz) := by
  refine Met.ofW (cc := prog_7_method_1_code) (maxL := 1) (ret := none) (by decide) rfl ?_
  intro p e s m args below meth c s₁ B hml hv
  obtain ⟨hargs, hsz, hP, hK, hN, hD0⟩ := hv
  have hx := B.exec
  have hb := B.bytes
  have hr := B.returns
  have hT : ∀ w ∈ xT, w.before args s = true := fun w hw => atoms_spec (ws := Cond.code y_Text_init prog_7_method_1_code 1 none :: xT) B.pre w (List.mem_cons_of_mem _ hw)
  have hown : s.vm.findClass R_Text = some m.cls := findClass_of_methodNamed B.named
  have hlocks := B.notSynchronized
  have hin : meth.name = "<init>" := (name_of_methodNamed B.named B.method).1
  subst hsz
  have hD := hD0.self (sz := s.heap.size)
  generalize hAe : va_A [(h_this, .inr (5, [.null, .int 0, .int 0, .int 0, .int 0, .long 0]))] s.heap.size = A at hD ⊢
  have hA : ∀ q : Nat, s.heap.size ≤ q → A q := fun q h => by rw [← hAe]; exact Or.inr h
  have hS : va_S A s.heap s.heap [] := va_S.rf
  have hl := lv_entry ([.ref h_this]) (n := 1) (Nat.le_of_ble_eq_true rfl)
  rw [show entryFrame m args 1 = entryFrame m ([.ref h_this] : List Value).toArray 1 from by rw [hargs], lg_entry_eq]
  generalize (lg_sl ([.ref h_this]) ++ List.replicate (1 - (lg_sl ([.ref h_this])).length) Slot.unset).toArray = ls at hl ⊢
  have hl : lv_has ls 1 [(0, .ref h_this)] := hl
  show W p l e rm_Text_init s m args below meth c s.heap [] 0 0 _ _
  obtain ⟨H, hH⟩ : ∃ H, H = s.heap := ⟨_, rfl⟩
  obtain ⟨locs, hlocs⟩ : ∃ L : List Loc, L = [] := ⟨_, rfl⟩
  rw [← hlocs] at hS ⊢
  have hS : va_S A s.heap H locs := by rw [hH]; exact hS
  rw [← hH] at hP ⊢
  have hP : va_P (dC, dI) vwCl [(h_this, .inr (5, [.null, .int 0, .int 0, .int 0, .int 0, .long 0]))] H := hP
  have hD : va_D A [(h_this, .inr (5, [.null, .int 0, .int 0, .int 0, .int 0, .long 0]))] := hD
  refine lv_aload_n hx hb d_Text_init_0 rfl (lv_at hl 0 rfl) ?_
  refine W.objInit hx hb hown (hT _ kM_Text_3) (hT _ kI_Object) (hT _ kC_Object) rfl (by rw [hml]; exact hl.1) rfl d_Text_init_1 (Nat.le_of_ble_eq_true rfl) (Nat.le_of_ble_eq_true rfl) ?_
  refine W.eq (g2 := F0 m 4 ls []) rfl ?_
  refine lv_aload_n hx hb d_Text_init_4 rfl (lv_at hl 0 rfl) ?_
  refine lv_sipush (v := 1000) hx hb d_Text_init_5 (by decide) ?_
  refine va_newa (atype := .char) (ty := .char) (N' := 1000) (a0 := (1000, .inl (fun _ => 0))) hx hb (hT _ kAr_char) rfl hK hP hD hS hA (fun _ => rfl) (by decide) rfl (Nat.le_of_ble_eq_true rfl) (Nat.le_of_ble_eq_true rfl) (Nat.le_of_ble_eq_true rfl) d_Text_init_8 (fun q8 cA9 H hK9 hP hD hS => ?_)
  obtain rfl : cC = cA9 := x_cls hK9 2 3 rfl rfl rfl
  have hK : va_K (dC, dI) vwCl (xTy cI cL cC) s := hK9.sub [0, 1, 2] rfl
  have hP : va_P (dC, dI) vwCl [(h_this, .inr (5, [.null, .int 0, .int 0, .int 0, .int 0, .long 0])), (q8, .inl (cC, 1000, .inl (fun _ => 0)))] H := hP
  have hD : va_D A [(h_this, .inr (5, [.null, .int 0, .int 0, .int 0, .int 0, .long 0])), (q8, .inl (cC, 1000, .inl (fun _ => 0)))] := hD
  refine va_putF (D := (dC, dI)) (ci := 5) (v := .ref q8) (ty := .array .char) (C := R_Text) (T := T_Text) (N := 6) hx hb hT i_Text ty_Text ty_Text_ok n_Text hown hK hP hD hS 0 rfl rfl 0 (by decide) (hT _ kF_Text_9) (fun _ h9 => h9) rfl hin rfl (by decide +kernel) rfl rfl (Nat.le_of_ble_eq_true rfl) d_Text_init_10 (fun H locs hP hD hS => ?_)
  have hP : va_P (dC, dI) vwCl [(h_this, .inr (5, [.ref q8, .int 0, .int 0, .int 0, .int 0, .long 0])), (q8, .inl (cC, 1000, .inl (fun _ => 0)))] H := hP
  have hD : va_D A [(h_this, .inr (5, [.ref q8, .int 0, .int 0, .int 0, .int 0, .long 0])), (q8, .inl (cC, 1000, .inl (fun _ => 0)))] := hD
  exact W.vret hx hb hr (fun t9 ht9 hW9 => ⟨rfl, ⟨fun k => [q8].getD k 0, by rw [ht9]; exact hP, hD⟩, hS.F ht9⟩) hS.2.2 d_Text_init_13
def rm_Reader_init : Room := { frames := 1, cells := 0, slots := 0, locals := 12 }
set_option maxHeartbeats 4000000 in
set_option maxRecDepth 100000 in
theorem c_Reader_init (l : Launch) (dC : Nat → ClassId) (dI : Nat → Nat → Nat) (cI cL cC : ClassId) (h_this sz : Nat) : Met l y_Reader_init (Cond.code y_Reader_init prog_3_method_1_code 1 none :: xT) rm_Reader_init (va_Pc [.ref h_this] (xP (dC, dI) (xTy cI cL cC) [(h_this, .inr (1, [.int 0, .int 0]))] sz)) (xQN (dC, dI) (fun q => [(h_this, .inr (1, [.int 0, .int 0]))]) (va_A [(h_this, .inr (1, [.int 0, .int 0]))] sz)) 0 0 (va_A [(h_this, .inr (1, [.int 0, .int 0]))] sz) := by
  refine Met.ofW (cc := prog_3_method_1_code) (maxL := 1) (ret := none) (by decide) rfl ?_
  intro p e s m args below meth c s₁ B hml hv
  obtain ⟨hargs, hsz, hP, hK, hN, hD0⟩ := hv
  have hx := B.exec
  have hb := B.bytes
  have hr := B.returns
  have hT : ∀ w ∈ xT, w.before args s = true := fun w hw => atoms_spec (ws := Cond.code y_Reader_init prog_3_method_1_code 1 none :: xT) B.pre w (List.mem_cons_of_mem _ hw)
  have hown : s.vm.findClass R_Reader = some m.cls := findClass_of_methodNamed B.named
  have hlocks := B.notSynchronized
  have hin : meth.name = "<init>" := (name_of_methodNamed B.named B.method).1
  subst hsz
  have hD := hD0.self (sz := s.heap.size)
  generalize hAe : va_A [(h_this, .inr (1, [.int 0, .int 0]))] s.heap.size = A at hD ⊢
  have hA : ∀ q : Nat, s.heap.size ≤ q → A q := fun q h => by rw [← hAe]; exact Or.inr h
  have hS : va_S A s.heap s.heap [] := va_S.rf
  have hl := lv_entry ([.ref h_this]) (n := 1) (Nat.le_of_ble_eq_true rfl)
  rw [show entryFrame m args 1 = entryFrame m ([.ref h_this] : List Value).toArray 1 from by rw [hargs], lg_entry_eq]
  generalize (lg_sl ([.ref h_this]) ++ List.replicate (1 - (lg_sl ([.ref h_this])).length) Slot.unset).toArray = ls at hl ⊢
  have hl : lv_has ls 1 [(0, .ref h_this)] := hl
  show W p l e rm_Reader_init s m args below meth c s.heap [] 0 0 _ _
  obtain ⟨H, hH⟩ : ∃ H, H = s.heap := ⟨_, rfl⟩
  obtain ⟨locs, hlocs⟩ : ∃ L : List Loc, L = [] := ⟨_, rfl⟩
  rw [← hlocs] at hS ⊢
  have hS : va_S A s.heap H locs := by rw [hH]; exact hS
  rw [← hH] at hP ⊢
  have hP : va_P (dC, dI) vwCl [(h_this, .inr (1, [.int 0, .int 0]))] H := hP
  have hD : va_D A [(h_this, .inr (1, [.int 0, .int 0]))] := hD
  refine lv_aload_n hx hb d_Reader_init_0 rfl (lv_at hl 0 rfl) ?_
  refine W.objInit hx hb hown (hT _ kM_Reader_3) (hT _ kI_Object) (hT _ kC_Object) rfl (by rw [hml]; exact hl.1) rfl d_Reader_init_1 (Nat.le_of_ble_eq_true rfl) (Nat.le_of_ble_eq_true rfl) ?_
  refine W.eq (g2 := F0 m 4 ls []) rfl ?_
  exact W.vret hx hb hr (fun t9 ht9 hW9 => ⟨rfl, ⟨fun k => [].getD k 0, by rw [ht9]; exact hP, hD⟩, hS.F ht9⟩) hS.2.2 d_Reader_init_4
def rm_Run_init : Room := { frames := 1, cells := 6, slots := 2916, locals := 12 }
set_option maxHeartbeats 4000000 in
set_option maxRecDepth 100000 in
theorem c_Run_init (l : Launch) (dC : Nat → ClassId) (dI : Nat → Nat → Nat) (cI cL cC : ClassId) (h_this sz : Nat) : Met l y_Run_init (Cond.code y_Run_init prog_6_method_1_code 1 none :: xT) rm_Run_init (va_Pc [.ref h_this] (xP (dC, dI) (xTy cI cL cC) [(h_this, .inr (4, [.int 0, .int 0, .int 0, .int 0, .null, .null, .null, .null, .null, .null]))] sz)) (xQN (dC, dI) (fun q => [(h_this, .inr (4, [.int 0, .int 0, .int 0, .int 0, .ref (q 0), .ref (q 1), .ref (q 2), .ref (q 3), .ref (q 4), .ref (q 5)])), ((q 0), .inl (cI, 6, .inl (fun _ => 0))), ((q 1), .inl (cI, 6, .inl (fun _ => 0))), ((q 2), .inl (cI, 726, .inl (fun _ => 0))), ((q 3), .inl (cI, 726, .inl (fun _ => 0))), ((q 4), .inl (cI, 726, .inl (fun _ => 0))), ((q 5), .inl (cI, 726, .inl (fun _ => 0)))]) (va_A [(h_this, .inr (4, [.int 0, .int 0, .int 0, .int 0, .null, .null, .null, .null, .null, .null]))] sz)) 6 2916 (va_A [(h_this, .inr (4, [.int 0, .int 0, .int 0, .int 0, .null, .null, .null, .null, .null, .null]))] sz) := by
  refine Met.ofW (cc := prog_6_method_1_code) (maxL := 1) (ret := none) (by decide) rfl ?_
  intro p e s m args below meth c s₁ B hml hv
  obtain ⟨hargs, hsz, hP, hK, hN, hD0⟩ := hv
  have hx := B.exec
  have hb := B.bytes
  have hr := B.returns
  have hT : ∀ w ∈ xT, w.before args s = true := fun w hw => atoms_spec (ws := Cond.code y_Run_init prog_6_method_1_code 1 none :: xT) B.pre w (List.mem_cons_of_mem _ hw)
  have hown : s.vm.findClass R_Run = some m.cls := findClass_of_methodNamed B.named
  have hlocks := B.notSynchronized
  have hin : meth.name = "<init>" := (name_of_methodNamed B.named B.method).1
  subst hsz
  have hD := hD0.self (sz := s.heap.size)
  generalize hAe : va_A [(h_this, .inr (4, [.int 0, .int 0, .int 0, .int 0, .null, .null, .null, .null, .null, .null]))] s.heap.size = A at hD ⊢
  have hA : ∀ q : Nat, s.heap.size ≤ q → A q := fun q h => by rw [← hAe]; exact Or.inr h
  have hS : va_S A s.heap s.heap [] := va_S.rf
  have hl := lv_entry ([.ref h_this]) (n := 1) (Nat.le_of_ble_eq_true rfl)
  rw [show entryFrame m args 1 = entryFrame m ([.ref h_this] : List Value).toArray 1 from by rw [hargs], lg_entry_eq]
  generalize (lg_sl ([.ref h_this]) ++ List.replicate (1 - (lg_sl ([.ref h_this])).length) Slot.unset).toArray = ls at hl ⊢
  have hl : lv_has ls 1 [(0, .ref h_this)] := hl
  show W p l e rm_Run_init s m args below meth c s.heap [] 0 0 _ _
  obtain ⟨H, hH⟩ : ∃ H, H = s.heap := ⟨_, rfl⟩
  obtain ⟨locs, hlocs⟩ : ∃ L : List Loc, L = [] := ⟨_, rfl⟩
  rw [← hlocs] at hS ⊢
  have hS : va_S A s.heap H locs := by rw [hH]; exact hS
  rw [← hH] at hP ⊢
  have hP : va_P (dC, dI) vwCl [(h_this, .inr (4, [.int 0, .int 0, .int 0, .int 0, .null, .null, .null, .null, .null, .null]))] H := hP
  have hD : va_D A [(h_this, .inr (4, [.int 0, .int 0, .int 0, .int 0, .null, .null, .null, .null, .null, .null]))] := hD
  refine lv_aload_n hx hb d_Run_init_0 rfl (lv_at hl 0 rfl) ?_
  refine W.objInit hx hb hown (hT _ kM_Run_3) (hT _ kI_Object) (hT _ kC_Object) rfl (by rw [hml]; exact hl.1) rfl d_Run_init_1 (Nat.le_of_ble_eq_true rfl) (Nat.le_of_ble_eq_true rfl) ?_
  refine W.eq (g2 := F0 m 4 ls []) rfl ?_
  refine lv_aload_n hx hb d_Run_init_4 rfl (lv_at hl 0 rfl) ?_
  refine lv_bipush (v := 6) hx hb d_Run_init_5 (by decide) ?_
  refine va_newa (atype := .int) (ty := .int) (N' := 6) (a0 := (6, .inl (fun _ => 0))) hx hb (hT _ kAr_int) rfl hK hP hD hS hA (fun _ => rfl) (by decide) rfl (Nat.le_of_ble_eq_true rfl) (Nat.le_of_ble_eq_true rfl) (Nat.le_of_ble_eq_true rfl) d_Run_init_7 (fun q7 cA9 H hK9 hP hD hS => ?_)
  obtain rfl : cI = cA9 := x_cls hK9 0 3 rfl rfl rfl
  have hK : va_K (dC, dI) vwCl (xTy cI cL cC) s := hK9.sub [0, 1, 2] rfl
  have hP : va_P (dC, dI) vwCl [(h_this, .inr (4, [.int 0, .int 0, .int 0, .int 0, .null, .null, .null, .null, .null, .null])), (q7, .inl (cI, 6, .inl (fun _ => 0)))] H := hP
  have hD : va_D A [(h_this, .inr (4, [.int 0, .int 0, .int 0, .int 0, .null, .null, .null, .null, .null, .null])), (q7, .inl (cI, 6, .inl (fun _ => 0)))] := hD
  refine va_putF (D := (dC, dI)) (ci := 4) (v := .ref q7) (ty := .array .int) (C := R_Run) (T := T_Run) (N := 10) hx hb hT i_Run ty_Run ty_Run_ok n_Run hown hK hP hD hS 0 rfl rfl 4 (by decide) (hT _ kF_Run_9) (fun _ h9 => h9) rfl hin rfl (by decide +kernel) rfl rfl (Nat.le_of_ble_eq_true rfl) d_Run_init_9 (fun H locs hP hD hS => ?_)
  have hP : va_P (dC, dI) vwCl [(h_this, .inr (4, [.int 0, .int 0, .int 0, .int 0, .ref q7, .null, .null, .null, .null, .null])), (q7, .inl (cI, 6, .inl (fun _ => 0)))] H := hP
  have hD : va_D A [(h_this, .inr (4, [.int 0, .int 0, .int 0, .int 0, .ref q7, .null, .null, .null, .null, .null])), (q7, .inl (cI, 6, .inl (fun _ => 0)))] := hD
  refine lv_aload_n hx hb d_Run_init_12 rfl (lv_at hl 0 rfl) ?_
  refine lv_bipush (v := 6) hx hb d_Run_init_13 (by decide) ?_
  refine va_newa (atype := .int) (ty := .int) (N' := 6) (a0 := (6, .inl (fun _ => 0))) hx hb (hT _ kAr_int) rfl hK hP hD hS hA (fun _ => rfl) (by decide) rfl (Nat.le_of_ble_eq_true rfl) (Nat.le_of_ble_eq_true rfl) (Nat.le_of_ble_eq_true rfl) d_Run_init_15 (fun q15 cA9 H hK9 hP hD hS => ?_)
  obtain rfl : cI = cA9 := x_cls hK9 0 3 rfl rfl rfl
  have hK : va_K (dC, dI) vwCl (xTy cI cL cC) s := hK9.sub [0, 1, 2] rfl
  have hP : va_P (dC, dI) vwCl [(h_this, .inr (4, [.int 0, .int 0, .int 0, .int 0, .ref q7, .null, .null, .null, .null, .null])), (q7, .inl (cI, 6, .inl (fun _ => 0))), (q15, .inl (cI, 6, .inl (fun _ => 0)))] H := hP
  have hD : va_D A [(h_this, .inr (4, [.int 0, .int 0, .int 0, .int 0, .ref q7, .null, .null, .null, .null, .null])), (q7, .inl (cI, 6, .inl (fun _ => 0))), (q15, .inl (cI, 6, .inl (fun _ => 0)))] := hD
  refine va_putF (D := (dC, dI)) (ci := 4) (v := .ref q15) (ty := .array .int) (C := R_Run) (T := T_Run) (N := 10) hx hb hT i_Run ty_Run ty_Run_ok n_Run hown hK hP hD hS 0 rfl rfl 5 (by decide) (hT _ kF_Run_15) (fun _ h9 => h9) rfl hin rfl (by decide +kernel) rfl rfl (Nat.le_of_ble_eq_true rfl) d_Run_init_17 (fun H locs hP hD hS => ?_)
  have hP : va_P (dC, dI) vwCl [(h_this, .inr (4, [.int 0, .int 0, .int 0, .int 0, .ref q7, .ref q15, .null, .null, .null, .null])), (q7, .inl (cI, 6, .inl (fun _ => 0))), (q15, .inl (cI, 6, .inl (fun _ => 0)))] H := hP
  have hD : va_D A [(h_this, .inr (4, [.int 0, .int 0, .int 0, .int 0, .ref q7, .ref q15, .null, .null, .null, .null])), (q7, .inl (cI, 6, .inl (fun _ => 0))), (q15, .inl (cI, 6, .inl (fun _ => 0)))] := hD
  refine lv_aload_n hx hb d_Run_init_20 rfl (lv_at hl 0 rfl) ?_
  refine lv_sipush (v := 726) hx hb d_Run_init_21 (by decide) ?_
  refine va_newa (atype := .int) (ty := .int) (N' := 726) (a0 := (726, .inl (fun _ => 0))) hx hb (hT _ kAr_int) rfl hK hP hD hS hA (fun _ => rfl) (by decide) rfl (Nat.le_of_ble_eq_true rfl) (Nat.le_of_ble_eq_true rfl) (Nat.le_of_ble_eq_true rfl) d_Run_init_24 (fun q24 cA9 H hK9 hP hD hS => ?_)
  obtain rfl : cI = cA9 := x_cls hK9 0 3 rfl rfl rfl
  have hK : va_K (dC, dI) vwCl (xTy cI cL cC) s := hK9.sub [0, 1, 2] rfl
  have hP : va_P (dC, dI) vwCl [(h_this, .inr (4, [.int 0, .int 0, .int 0, .int 0, .ref q7, .ref q15, .null, .null, .null, .null])), (q7, .inl (cI, 6, .inl (fun _ => 0))), (q15, .inl (cI, 6, .inl (fun _ => 0))), (q24, .inl (cI, 726, .inl (fun _ => 0)))] H := hP
  have hD : va_D A [(h_this, .inr (4, [.int 0, .int 0, .int 0, .int 0, .ref q7, .ref q15, .null, .null, .null, .null])), (q7, .inl (cI, 6, .inl (fun _ => 0))), (q15, .inl (cI, 6, .inl (fun _ => 0))), (q24, .inl (cI, 726, .inl (fun _ => 0)))] := hD
  refine va_putF (D := (dC, dI)) (ci := 4) (v := .ref q24) (ty := .array .int) (C := R_Run) (T := T_Run) (N := 10) hx hb hT i_Run ty_Run ty_Run_ok n_Run hown hK hP hD hS 0 rfl rfl 6 (by decide) (hT _ kF_Run_18) (fun _ h9 => h9) rfl hin rfl (by decide +kernel) rfl rfl (Nat.le_of_ble_eq_true rfl) d_Run_init_26 (fun H locs hP hD hS => ?_)
  have hP : va_P (dC, dI) vwCl [(h_this, .inr (4, [.int 0, .int 0, .int 0, .int 0, .ref q7, .ref q15, .ref q24, .null, .null, .null])), (q7, .inl (cI, 6, .inl (fun _ => 0))), (q15, .inl (cI, 6, .inl (fun _ => 0))), (q24, .inl (cI, 726, .inl (fun _ => 0)))] H := hP
  have hD : va_D A [(h_this, .inr (4, [.int 0, .int 0, .int 0, .int 0, .ref q7, .ref q15, .ref q24, .null, .null, .null])), (q7, .inl (cI, 6, .inl (fun _ => 0))), (q15, .inl (cI, 6, .inl (fun _ => 0))), (q24, .inl (cI, 726, .inl (fun _ => 0)))] := hD
  refine lv_aload_n hx hb d_Run_init_29 rfl (lv_at hl 0 rfl) ?_
  refine lv_sipush (v := 726) hx hb d_Run_init_30 (by decide) ?_
  refine va_newa (atype := .int) (ty := .int) (N' := 726) (a0 := (726, .inl (fun _ => 0))) hx hb (hT _ kAr_int) rfl hK hP hD hS hA (fun _ => rfl) (by decide) rfl (Nat.le_of_ble_eq_true rfl) (Nat.le_of_ble_eq_true rfl) (Nat.le_of_ble_eq_true rfl) d_Run_init_33 (fun q33 cA9 H hK9 hP hD hS => ?_)
  obtain rfl : cI = cA9 := x_cls hK9 0 3 rfl rfl rfl
  have hK : va_K (dC, dI) vwCl (xTy cI cL cC) s := hK9.sub [0, 1, 2] rfl
  have hP : va_P (dC, dI) vwCl [(h_this, .inr (4, [.int 0, .int 0, .int 0, .int 0, .ref q7, .ref q15, .ref q24, .null, .null, .null])), (q7, .inl (cI, 6, .inl (fun _ => 0))), (q15, .inl (cI, 6, .inl (fun _ => 0))), (q24, .inl (cI, 726, .inl (fun _ => 0))), (q33, .inl (cI, 726, .inl (fun _ => 0)))] H := hP
  have hD : va_D A [(h_this, .inr (4, [.int 0, .int 0, .int 0, .int 0, .ref q7, .ref q15, .ref q24, .null, .null, .null])), (q7, .inl (cI, 6, .inl (fun _ => 0))), (q15, .inl (cI, 6, .inl (fun _ => 0))), (q24, .inl (cI, 726, .inl (fun _ => 0))), (q33, .inl (cI, 726, .inl (fun _ => 0)))] := hD
  refine va_putF (D := (dC, dI)) (ci := 4) (v := .ref q33) (ty := .array .int) (C := R_Run) (T := T_Run) (N := 10) hx hb hT i_Run ty_Run ty_Run_ok n_Run hown hK hP hD hS 0 rfl rfl 7 (by decide) (hT _ kF_Run_21) (fun _ h9 => h9) rfl hin rfl (by decide +kernel) rfl rfl (Nat.le_of_ble_eq_true rfl) d_Run_init_35 (fun H locs hP hD hS => ?_)
  have hP : va_P (dC, dI) vwCl [(h_this, .inr (4, [.int 0, .int 0, .int 0, .int 0, .ref q7, .ref q15, .ref q24, .ref q33, .null, .null])), (q7, .inl (cI, 6, .inl (fun _ => 0))), (q15, .inl (cI, 6, .inl (fun _ => 0))), (q24, .inl (cI, 726, .inl (fun _ => 0))), (q33, .inl (cI, 726, .inl (fun _ => 0)))] H := hP
  have hD : va_D A [(h_this, .inr (4, [.int 0, .int 0, .int 0, .int 0, .ref q7, .ref q15, .ref q24, .ref q33, .null, .null])), (q7, .inl (cI, 6, .inl (fun _ => 0))), (q15, .inl (cI, 6, .inl (fun _ => 0))), (q24, .inl (cI, 726, .inl (fun _ => 0))), (q33, .inl (cI, 726, .inl (fun _ => 0)))] := hD
  refine lv_aload_n hx hb d_Run_init_38 rfl (lv_at hl 0 rfl) ?_
  refine lv_sipush (v := 726) hx hb d_Run_init_39 (by decide) ?_
  refine va_newa (atype := .int) (ty := .int) (N' := 726) (a0 := (726, .inl (fun _ => 0))) hx hb (hT _ kAr_int) rfl hK hP hD hS hA (fun _ => rfl) (by decide) rfl (Nat.le_of_ble_eq_true rfl) (Nat.le_of_ble_eq_true rfl) (Nat.le_of_ble_eq_true rfl) d_Run_init_42 (fun q42 cA9 H hK9 hP hD hS => ?_)
  obtain rfl : cI = cA9 := x_cls hK9 0 3 rfl rfl rfl
  have hK : va_K (dC, dI) vwCl (xTy cI cL cC) s := hK9.sub [0, 1, 2] rfl
  have hP : va_P (dC, dI) vwCl [(h_this, .inr (4, [.int 0, .int 0, .int 0, .int 0, .ref q7, .ref q15, .ref q24, .ref q33, .null, .null])), (q7, .inl (cI, 6, .inl (fun _ => 0))), (q15, .inl (cI, 6, .inl (fun _ => 0))), (q24, .inl (cI, 726, .inl (fun _ => 0))), (q33, .inl (cI, 726, .inl (fun _ => 0))), (q42, .inl (cI, 726, .inl (fun _ => 0)))] H := hP
  have hD : va_D A [(h_this, .inr (4, [.int 0, .int 0, .int 0, .int 0, .ref q7, .ref q15, .ref q24, .ref q33, .null, .null])), (q7, .inl (cI, 6, .inl (fun _ => 0))), (q15, .inl (cI, 6, .inl (fun _ => 0))), (q24, .inl (cI, 726, .inl (fun _ => 0))), (q33, .inl (cI, 726, .inl (fun _ => 0))), (q42, .inl (cI, 726, .inl (fun _ => 0)))] := hD
  refine va_putF (D := (dC, dI)) (ci := 4) (v := .ref q42) (ty := .array .int) (C := R_Run) (T := T_Run) (N := 10) hx hb hT i_Run ty_Run ty_Run_ok n_Run hown hK hP hD hS 0 rfl rfl 8 (by decide) (hT _ kF_Run_24) (fun _ h9 => h9) rfl hin rfl (by decide +kernel) rfl rfl (Nat.le_of_ble_eq_true rfl) d_Run_init_44 (fun H locs hP hD hS => ?_)
  have hP : va_P (dC, dI) vwCl [(h_this, .inr (4, [.int 0, .int 0, .int 0, .int 0, .ref q7, .ref q15, .ref q24, .ref q33, .ref q42, .null])), (q7, .inl (cI, 6, .inl (fun _ => 0))), (q15, .inl (cI, 6, .inl (fun _ => 0))), (q24, .inl (cI, 726, .inl (fun _ => 0))), (q33, .inl (cI, 726, .inl (fun _ => 0))), (q42, .inl (cI, 726, .inl (fun _ => 0)))] H := hP
  have hD : va_D A [(h_this, .inr (4, [.int 0, .int 0, .int 0, .int 0, .ref q7, .ref q15, .ref q24, .ref q33, .ref q42, .null])), (q7, .inl (cI, 6, .inl (fun _ => 0))), (q15, .inl (cI, 6, .inl (fun _ => 0))), (q24, .inl (cI, 726, .inl (fun _ => 0))), (q33, .inl (cI, 726, .inl (fun _ => 0))), (q42, .inl (cI, 726, .inl (fun _ => 0)))] := hD
  refine lv_aload_n hx hb d_Run_init_47 rfl (lv_at hl 0 rfl) ?_
  refine lv_sipush (v := 726) hx hb d_Run_init_48 (by decide) ?_
  refine va_newa (atype := .int) (ty := .int) (N' := 726) (a0 := (726, .inl (fun _ => 0))) hx hb (hT _ kAr_int) rfl hK hP hD hS hA (fun _ => rfl) (by decide) rfl (Nat.le_of_ble_eq_true rfl) (Nat.le_of_ble_eq_true rfl) (Nat.le_of_ble_eq_true rfl) d_Run_init_51 (fun q51 cA9 H hK9 hP hD hS => ?_)
  obtain rfl : cI = cA9 := x_cls hK9 0 3 rfl rfl rfl
  have hK : va_K (dC, dI) vwCl (xTy cI cL cC) s := hK9.sub [0, 1, 2] rfl
  have hP : va_P (dC, dI) vwCl [(h_this, .inr (4, [.int 0, .int 0, .int 0, .int 0, .ref q7, .ref q15, .ref q24, .ref q33, .ref q42, .null])), (q7, .inl (cI, 6, .inl (fun _ => 0))), (q15, .inl (cI, 6, .inl (fun _ => 0))), (q24, .inl (cI, 726, .inl (fun _ => 0))), (q33, .inl (cI, 726, .inl (fun _ => 0))), (q42, .inl (cI, 726, .inl (fun _ => 0))), (q51, .inl (cI, 726, .inl (fun _ => 0)))] H := hP
  have hD : va_D A [(h_this, .inr (4, [.int 0, .int 0, .int 0, .int 0, .ref q7, .ref q15, .ref q24, .ref q33, .ref q42, .null])), (q7, .inl (cI, 6, .inl (fun _ => 0))), (q15, .inl (cI, 6, .inl (fun _ => 0))), (q24, .inl (cI, 726, .inl (fun _ => 0))), (q33, .inl (cI, 726, .inl (fun _ => 0))), (q42, .inl (cI, 726, .inl (fun _ => 0))), (q51, .inl (cI, 726, .inl (fun _ => 0)))] := hD
  refine va_putF (D := (dC, dI)) (ci := 4) (v := .ref q51) (ty := .array .int) (C := R_Run) (T := T_Run) (N := 10) hx hb hT i_Run ty_Run ty_Run_ok n_Run hown hK hP hD hS 0 rfl rfl 9 (by decide) (hT _ kF_Run_27) (fun _ h9 => h9) rfl hin rfl (by decide +kernel) rfl rfl (Nat.le_of_ble_eq_true rfl) d_Run_init_53 (fun H locs hP hD hS => ?_)
  have hP : va_P (dC, dI) vwCl [(h_this, .inr (4, [.int 0, .int 0, .int 0, .int 0, .ref q7, .ref q15, .ref q24, .ref q33, .ref q42, .ref q51])), (q7, .inl (cI, 6, .inl (fun _ => 0))), (q15, .inl (cI, 6, .inl (fun _ => 0))), (q24, .inl (cI, 726, .inl (fun _ => 0))), (q33, .inl (cI, 726, .inl (fun _ => 0))), (q42, .inl (cI, 726, .inl (fun _ => 0))), (q51, .inl (cI, 726, .inl (fun _ => 0)))] H := hP
  have hD : va_D A [(h_this, .inr (4, [.int 0, .int 0, .int 0, .int 0, .ref q7, .ref q15, .ref q24, .ref q33, .ref q42, .ref q51])), (q7, .inl (cI, 6, .inl (fun _ => 0))), (q15, .inl (cI, 6, .inl (fun _ => 0))), (q24, .inl (cI, 726, .inl (fun _ => 0))), (q33, .inl (cI, 726, .inl (fun _ => 0))), (q42, .inl (cI, 726, .inl (fun _ => 0))), (q51, .inl (cI, 726, .inl (fun _ => 0)))] := hD
  exact W.vret hx hb hr (fun t9 ht9 hW9 => ⟨rfl, ⟨fun k => [q7, q15, q24, q33, q42, q51].getD k 0, by rw [ht9]; exact hP, hD⟩, hS.F ht9⟩) hS.2.2 d_Run_init_56
def rm_LeftOut_init : Room := { frames := 1, cells := 1, slots := 100, locals := 12 }
set_option maxHeartbeats 4000000 in
set_option maxRecDepth 100000 in
theorem c_LeftOut_init (l : Launch) (dC : Nat → ClassId) (dI : Nat → Nat → Nat) (cI cL cC : ClassId) (h_this sz : Nat) : Met l y_LeftOut_init (Cond.code y_LeftOut_init prog_2_method_1_code 1 none :: xT) rm_LeftOut_init (va_Pc [.ref h_this] (xP (dC, dI) (xTy cI cL cC) [(h_this, .inr (0, [.null, .int 0]))] sz)) (xQN (dC, dI) (fun q => [(h_this, .inr (0, [.ref (q 0), .int 0])), ((q 0), .inl (cI, 100, .inl (fun _ => 0)))]) (va_A [(h_this, .inr (0, [.null, .int 0]))] sz)) 1 100 (va_A [(h_this, .inr (0, [.null, .int 0]))] sz) := by
  refine Met.ofW (cc := prog_2_method_1_code) (maxL := 1) (ret := none) (by decide) rfl ?_
  intro p e s m args below meth c s₁ B hml hv
  obtain ⟨hargs, hsz, hP, hK, hN, hD0⟩ := hv
  have hx := B.exec
  have hb := B.bytes
  have hr := B.returns
  have hT : ∀ w ∈ xT, w.before args s = true := fun w hw => atoms_spec (ws := Cond.code y_LeftOut_init prog_2_method_1_code 1 none :: xT) B.pre w (List.mem_cons_of_mem _ hw)
  have hown : s.vm.findClass R_LeftOut = some m.cls := findClass_of_methodNamed B.named
  have hlocks := B.notSynchronized
  have hin : meth.name = "<init>" := (name_of_methodNamed B.named B.method).1
  subst hsz
  have hD := hD0.self (sz := s.heap.size)
  generalize hAe : va_A [(h_this, .inr (0, [.null, .int 0]))] s.heap.size = A at hD ⊢
  have hA : ∀ q : Nat, s.heap.size ≤ q → A q := fun q h => by rw [← hAe]; exact Or.inr h
  have hS : va_S A s.heap s.heap [] := va_S.rf
  have hl := lv_entry ([.ref h_this]) (n := 1) (Nat.le_of_ble_eq_true rfl)
  rw [show entryFrame m args 1 = entryFrame m ([.ref h_this] : List Value).toArray 1 from by rw [hargs], lg_entry_eq]
  generalize (lg_sl ([.ref h_this]) ++ List.replicate (1 - (lg_sl ([.ref h_this])).length) Slot.unset).toArray = ls at hl ⊢
  have hl : lv_has ls 1 [(0, .ref h_this)] := hl
  show W p l e rm_LeftOut_init s m args below meth c s.heap [] 0 0 _ _
  obtain ⟨H, hH⟩ : ∃ H, H = s.heap := ⟨_, rfl⟩
  obtain ⟨locs, hlocs⟩ : ∃ L : List Loc, L = [] := ⟨_, rfl⟩
  rw [← hlocs] at hS ⊢
  have hS : va_S A s.heap H locs := by rw [hH]; exact hS
  rw [← hH] at hP ⊢
  have hP : va_P (dC, dI) vwCl [(h_this, .inr (0, [.null, .int 0]))] H := hP
  have hD : va_D A [(h_this, .inr (0, [.null, .int 0]))] := hD
  refine lv_aload_n hx hb d_LeftOut_init_0 rfl (lv_at hl 0 rfl) ?_
  refine W.objInit hx hb hown (hT _ kM_LeftOut_3) (hT _ kI_Object) (hT _ kC_Object) rfl (by rw [hml]; exact hl.1) rfl d_LeftOut_init_1 (Nat.le_of_ble_eq_true rfl) (Nat.le_of_ble_eq_true rfl) ?_
  refine W.eq (g2 := F0 m 4 ls []) rfl ?_
  refine lv_aload_n hx hb d_LeftOut_init_4 rfl (lv_at hl 0 rfl) ?_
  refine lv_bipush (v := 100) hx hb d_LeftOut_init_5 (by decide) ?_
  refine va_newa (atype := .int) (ty := .int) (N' := 100) (a0 := (100, .inl (fun _ => 0))) hx hb (hT _ kAr_int) rfl hK hP hD hS hA (fun _ => rfl) (by decide) rfl (Nat.le_of_ble_eq_true rfl) (Nat.le_of_ble_eq_true rfl) (Nat.le_of_ble_eq_true rfl) d_LeftOut_init_7 (fun q7 cA9 H hK9 hP hD hS => ?_)
  obtain rfl : cI = cA9 := x_cls hK9 0 3 rfl rfl rfl
  have hK : va_K (dC, dI) vwCl (xTy cI cL cC) s := hK9.sub [0, 1, 2] rfl
  have hP : va_P (dC, dI) vwCl [(h_this, .inr (0, [.null, .int 0])), (q7, .inl (cI, 100, .inl (fun _ => 0)))] H := hP
  have hD : va_D A [(h_this, .inr (0, [.null, .int 0])), (q7, .inl (cI, 100, .inl (fun _ => 0)))] := hD
  refine va_putF (D := (dC, dI)) (ci := 0) (v := .ref q7) (ty := .array .int) (C := R_LeftOut) (T := T_LeftOut) (N := 2) hx hb hT i_LeftOut ty_LeftOut ty_LeftOut_ok n_LeftOut hown hK hP hD hS 0 rfl rfl 0 (by decide) (hT _ kF_LeftOut_9) (fun _ h9 => h9) rfl hin rfl (by decide +kernel) rfl rfl (Nat.le_of_ble_eq_true rfl) d_LeftOut_init_9 (fun H locs hP hD hS => ?_)
  have hP : va_P (dC, dI) vwCl [(h_this, .inr (0, [.ref q7, .int 0])), (q7, .inl (cI, 100, .inl (fun _ => 0)))] H := hP
  have hD : va_D A [(h_this, .inr (0, [.ref q7, .int 0])), (q7, .inl (cI, 100, .inl (fun _ => 0)))] := hD
  exact W.vret hx hb hr (fun t9 ht9 hW9 => ⟨rfl, ⟨fun k => [q7].getD k 0, by rw [ht9]; exact hP, hD⟩, hS.F ht9⟩) hS.2.2 d_LeftOut_init_12
def rm_RuleSet_init : Room := { frames := 1, cells := 8, slots := 168, locals := 12 }
set_option maxHeartbeats 4000000 in
set_option maxRecDepth 100000 in
theorem c_RuleSet_init (l : Launch) (dC : Nat → ClassId) (dI : Nat → Nat → Nat) (cI cL cC : ClassId) (h_this sz : Nat) : Met l y_RuleSet_init (Cond.code y_RuleSet_init prog_5_method_1_code 1 none :: xT) rm_RuleSet_init (va_Pc [.ref h_this] (xP (dC, dI) (xTy cI cL cC) [(h_this, .inr (3, [.null, .null, .null, .null, .null, .null, .null, .null, .int 0]))] sz)) (xQN (dC, dI) (fun q => [(h_this, .inr (3, [.ref (q 0), .ref (q 1), .ref (q 2), .ref (q 3), .ref (q 4), .ref (q 5), .ref (q 6), .ref (q 7), .int 0])), ((q 0), .inl (cL, 6, .inr (.inl (fun _ => 0)))), ((q 1), .inl (cI, 6, .inl (fun _ => 0))), ((q 2), .inl (cI, 6, .inl (fun _ => 0))), ((q 3), .inl (cI, 6, .inl (fun _ => 0))), ((q 4), .inl (cI, 36, .inl (fun _ => 0))), ((q 5), .inl (cI, 36, .inl (fun _ => 0))), ((q 6), .inl (cI, 36, .inl (fun _ => 0))), ((q 7), .inl (cI, 36, .inl (fun _ => 0)))]) (va_A [(h_this, .inr (3, [.null, .null, .null, .null, .null, .null, .null, .null, .int 0]))] sz)) 8 168 (va_A [(h_this, .inr (3, [.null, .null, .null, .null, .null, .null, .null, .null, .int 0]))] sz) := by
  refine Met.ofW (cc := prog_5_method_1_code) (maxL := 1) (ret := none) (by decide) rfl ?_
  intro p e s m args below meth c s₁ B hml hv
  obtain ⟨hargs, hsz, hP, hK, hN, hD0⟩ := hv
  have hx := B.exec
  have hb := B.bytes
  have hr := B.returns
  have hT : ∀ w ∈ xT, w.before args s = true := fun w hw => atoms_spec (ws := Cond.code y_RuleSet_init prog_5_method_1_code 1 none :: xT) B.pre w (List.mem_cons_of_mem _ hw)
  have hown : s.vm.findClass R_RuleSet = some m.cls := findClass_of_methodNamed B.named
  have hlocks := B.notSynchronized
  have hin : meth.name = "<init>" := (name_of_methodNamed B.named B.method).1
  subst hsz
  have hD := hD0.self (sz := s.heap.size)
  generalize hAe : va_A [(h_this, .inr (3, [.null, .null, .null, .null, .null, .null, .null, .null, .int 0]))] s.heap.size = A at hD ⊢
  have hA : ∀ q : Nat, s.heap.size ≤ q → A q := fun q h => by rw [← hAe]; exact Or.inr h
  have hS : va_S A s.heap s.heap [] := va_S.rf
  have hl := lv_entry ([.ref h_this]) (n := 1) (Nat.le_of_ble_eq_true rfl)
  rw [show entryFrame m args 1 = entryFrame m ([.ref h_this] : List Value).toArray 1 from by rw [hargs], lg_entry_eq]
  generalize (lg_sl ([.ref h_this]) ++ List.replicate (1 - (lg_sl ([.ref h_this])).length) Slot.unset).toArray = ls at hl ⊢
  have hl : lv_has ls 1 [(0, .ref h_this)] := hl
  show W p l e rm_RuleSet_init s m args below meth c s.heap [] 0 0 _ _
  obtain ⟨H, hH⟩ : ∃ H, H = s.heap := ⟨_, rfl⟩
  obtain ⟨locs, hlocs⟩ : ∃ L : List Loc, L = [] := ⟨_, rfl⟩
  rw [← hlocs] at hS ⊢
  have hS : va_S A s.heap H locs := by rw [hH]; exact hS
  rw [← hH] at hP ⊢
  have hP : va_P (dC, dI) vwCl [(h_this, .inr (3, [.null, .null, .null, .null, .null, .null, .null, .null, .int 0]))] H := hP
  have hD : va_D A [(h_this, .inr (3, [.null, .null, .null, .null, .null, .null, .null, .null, .int 0]))] := hD
  refine lv_aload_n hx hb d_RuleSet_init_0 rfl (lv_at hl 0 rfl) ?_
  refine W.objInit hx hb hown (hT _ kM_RuleSet_3) (hT _ kI_Object) (hT _ kC_Object) rfl (by rw [hml]; exact hl.1) rfl d_RuleSet_init_1 (Nat.le_of_ble_eq_true rfl) (Nat.le_of_ble_eq_true rfl) ?_
  refine W.eq (g2 := F0 m 4 ls []) rfl ?_
  refine lv_aload_n hx hb d_RuleSet_init_4 rfl (lv_at hl 0 rfl) ?_
  refine lv_bipush (v := 6) hx hb d_RuleSet_init_5 (by decide) ?_
  refine va_newa (atype := .long) (ty := .long) (N' := 6) (a0 := (6, .inr (.inl (fun _ => 0)))) hx hb (hT _ kAr_long) rfl hK hP hD hS hA (fun _ => rfl) (by decide) rfl (Nat.le_of_ble_eq_true rfl) (Nat.le_of_ble_eq_true rfl) (Nat.le_of_ble_eq_true rfl) d_RuleSet_init_7 (fun q7 cA9 H hK9 hP hD hS => ?_)
  obtain rfl : cL = cA9 := x_cls hK9 1 3 rfl rfl rfl
  have hK : va_K (dC, dI) vwCl (xTy cI cL cC) s := hK9.sub [0, 1, 2] rfl
  have hP : va_P (dC, dI) vwCl [(h_this, .inr (3, [.null, .null, .null, .null, .null, .null, .null, .null, .int 0])), (q7, .inl (cL, 6, .inr (.inl (fun _ => 0))))] H := hP
  have hD : va_D A [(h_this, .inr (3, [.null, .null, .null, .null, .null, .null, .null, .null, .int 0])), (q7, .inl (cL, 6, .inr (.inl (fun _ => 0))))] := hD
  refine va_putF (D := (dC, dI)) (ci := 3) (v := .ref q7) (ty := .array .long) (C := R_RuleSet) (T := T_RuleSet) (N := 9) hx hb hT i_RuleSet ty_RuleSet ty_RuleSet_ok n_RuleSet hown hK hP hD hS 0 rfl rfl 0 (by decide) (hT _ kF_RuleSet_9) (fun _ h9 => h9) rfl hin rfl (by decide +kernel) rfl rfl (Nat.le_of_ble_eq_true rfl) d_RuleSet_init_9 (fun H locs hP hD hS => ?_)
  have hP : va_P (dC, dI) vwCl [(h_this, .inr (3, [.ref q7, .null, .null, .null, .null, .null, .null, .null, .int 0])), (q7, .inl (cL, 6, .inr (.inl (fun _ => 0))))] H := hP
  have hD : va_D A [(h_this, .inr (3, [.ref q7, .null, .null, .null, .null, .null, .null, .null, .int 0])), (q7, .inl (cL, 6, .inr (.inl (fun _ => 0))))] := hD
  refine lv_aload_n hx hb d_RuleSet_init_12 rfl (lv_at hl 0 rfl) ?_
  refine lv_bipush (v := 6) hx hb d_RuleSet_init_13 (by decide) ?_
  refine va_newa (atype := .int) (ty := .int) (N' := 6) (a0 := (6, .inl (fun _ => 0))) hx hb (hT _ kAr_int) rfl hK hP hD hS hA (fun _ => rfl) (by decide) rfl (Nat.le_of_ble_eq_true rfl) (Nat.le_of_ble_eq_true rfl) (Nat.le_of_ble_eq_true rfl) d_RuleSet_init_15 (fun q15 cA9 H hK9 hP hD hS => ?_)
  obtain rfl : cI = cA9 := x_cls hK9 0 3 rfl rfl rfl
  have hK : va_K (dC, dI) vwCl (xTy cI cL cC) s := hK9.sub [0, 1, 2] rfl
  have hP : va_P (dC, dI) vwCl [(h_this, .inr (3, [.ref q7, .null, .null, .null, .null, .null, .null, .null, .int 0])), (q7, .inl (cL, 6, .inr (.inl (fun _ => 0)))), (q15, .inl (cI, 6, .inl (fun _ => 0)))] H := hP
  have hD : va_D A [(h_this, .inr (3, [.ref q7, .null, .null, .null, .null, .null, .null, .null, .int 0])), (q7, .inl (cL, 6, .inr (.inl (fun _ => 0)))), (q15, .inl (cI, 6, .inl (fun _ => 0)))] := hD
  refine va_putF (D := (dC, dI)) (ci := 3) (v := .ref q15) (ty := .array .int) (C := R_RuleSet) (T := T_RuleSet) (N := 9) hx hb hT i_RuleSet ty_RuleSet ty_RuleSet_ok n_RuleSet hown hK hP hD hS 0 rfl rfl 1 (by decide) (hT _ kF_RuleSet_15) (fun _ h9 => h9) rfl hin rfl (by decide +kernel) rfl rfl (Nat.le_of_ble_eq_true rfl) d_RuleSet_init_17 (fun H locs hP hD hS => ?_)
  have hP : va_P (dC, dI) vwCl [(h_this, .inr (3, [.ref q7, .ref q15, .null, .null, .null, .null, .null, .null, .int 0])), (q7, .inl (cL, 6, .inr (.inl (fun _ => 0)))), (q15, .inl (cI, 6, .inl (fun _ => 0)))] H := hP
  have hD : va_D A [(h_this, .inr (3, [.ref q7, .ref q15, .null, .null, .null, .null, .null, .null, .int 0])), (q7, .inl (cL, 6, .inr (.inl (fun _ => 0)))), (q15, .inl (cI, 6, .inl (fun _ => 0)))] := hD
  refine lv_aload_n hx hb d_RuleSet_init_20 rfl (lv_at hl 0 rfl) ?_
  refine lv_bipush (v := 6) hx hb d_RuleSet_init_21 (by decide) ?_
  refine va_newa (atype := .int) (ty := .int) (N' := 6) (a0 := (6, .inl (fun _ => 0))) hx hb (hT _ kAr_int) rfl hK hP hD hS hA (fun _ => rfl) (by decide) rfl (Nat.le_of_ble_eq_true rfl) (Nat.le_of_ble_eq_true rfl) (Nat.le_of_ble_eq_true rfl) d_RuleSet_init_23 (fun q23 cA9 H hK9 hP hD hS => ?_)
  obtain rfl : cI = cA9 := x_cls hK9 0 3 rfl rfl rfl
  have hK : va_K (dC, dI) vwCl (xTy cI cL cC) s := hK9.sub [0, 1, 2] rfl
  have hP : va_P (dC, dI) vwCl [(h_this, .inr (3, [.ref q7, .ref q15, .null, .null, .null, .null, .null, .null, .int 0])), (q7, .inl (cL, 6, .inr (.inl (fun _ => 0)))), (q15, .inl (cI, 6, .inl (fun _ => 0))), (q23, .inl (cI, 6, .inl (fun _ => 0)))] H := hP
  have hD : va_D A [(h_this, .inr (3, [.ref q7, .ref q15, .null, .null, .null, .null, .null, .null, .int 0])), (q7, .inl (cL, 6, .inr (.inl (fun _ => 0)))), (q15, .inl (cI, 6, .inl (fun _ => 0))), (q23, .inl (cI, 6, .inl (fun _ => 0)))] := hD
  refine va_putF (D := (dC, dI)) (ci := 3) (v := .ref q23) (ty := .array .int) (C := R_RuleSet) (T := T_RuleSet) (N := 9) hx hb hT i_RuleSet ty_RuleSet ty_RuleSet_ok n_RuleSet hown hK hP hD hS 0 rfl rfl 2 (by decide) (hT _ kF_RuleSet_19) (fun _ h9 => h9) rfl hin rfl (by decide +kernel) rfl rfl (Nat.le_of_ble_eq_true rfl) d_RuleSet_init_25 (fun H locs hP hD hS => ?_)
  have hP : va_P (dC, dI) vwCl [(h_this, .inr (3, [.ref q7, .ref q15, .ref q23, .null, .null, .null, .null, .null, .int 0])), (q7, .inl (cL, 6, .inr (.inl (fun _ => 0)))), (q15, .inl (cI, 6, .inl (fun _ => 0))), (q23, .inl (cI, 6, .inl (fun _ => 0)))] H := hP
  have hD : va_D A [(h_this, .inr (3, [.ref q7, .ref q15, .ref q23, .null, .null, .null, .null, .null, .int 0])), (q7, .inl (cL, 6, .inr (.inl (fun _ => 0)))), (q15, .inl (cI, 6, .inl (fun _ => 0))), (q23, .inl (cI, 6, .inl (fun _ => 0)))] := hD
  refine lv_aload_n hx hb d_RuleSet_init_28 rfl (lv_at hl 0 rfl) ?_
  refine lv_bipush (v := 6) hx hb d_RuleSet_init_29 (by decide) ?_
  refine va_newa (atype := .int) (ty := .int) (N' := 6) (a0 := (6, .inl (fun _ => 0))) hx hb (hT _ kAr_int) rfl hK hP hD hS hA (fun _ => rfl) (by decide) rfl (Nat.le_of_ble_eq_true rfl) (Nat.le_of_ble_eq_true rfl) (Nat.le_of_ble_eq_true rfl) d_RuleSet_init_31 (fun q31 cA9 H hK9 hP hD hS => ?_)
  obtain rfl : cI = cA9 := x_cls hK9 0 3 rfl rfl rfl
  have hK : va_K (dC, dI) vwCl (xTy cI cL cC) s := hK9.sub [0, 1, 2] rfl
  have hP : va_P (dC, dI) vwCl [(h_this, .inr (3, [.ref q7, .ref q15, .ref q23, .null, .null, .null, .null, .null, .int 0])), (q7, .inl (cL, 6, .inr (.inl (fun _ => 0)))), (q15, .inl (cI, 6, .inl (fun _ => 0))), (q23, .inl (cI, 6, .inl (fun _ => 0))), (q31, .inl (cI, 6, .inl (fun _ => 0)))] H := hP
  have hD : va_D A [(h_this, .inr (3, [.ref q7, .ref q15, .ref q23, .null, .null, .null, .null, .null, .int 0])), (q7, .inl (cL, 6, .inr (.inl (fun _ => 0)))), (q15, .inl (cI, 6, .inl (fun _ => 0))), (q23, .inl (cI, 6, .inl (fun _ => 0))), (q31, .inl (cI, 6, .inl (fun _ => 0)))] := hD
  refine va_putF (D := (dC, dI)) (ci := 3) (v := .ref q31) (ty := .array .int) (C := R_RuleSet) (T := T_RuleSet) (N := 9) hx hb hT i_RuleSet ty_RuleSet ty_RuleSet_ok n_RuleSet hown hK hP hD hS 0 rfl rfl 3 (by decide) (hT _ kF_RuleSet_22) (fun _ h9 => h9) rfl hin rfl (by decide +kernel) rfl rfl (Nat.le_of_ble_eq_true rfl) d_RuleSet_init_33 (fun H locs hP hD hS => ?_)
  have hP : va_P (dC, dI) vwCl [(h_this, .inr (3, [.ref q7, .ref q15, .ref q23, .ref q31, .null, .null, .null, .null, .int 0])), (q7, .inl (cL, 6, .inr (.inl (fun _ => 0)))), (q15, .inl (cI, 6, .inl (fun _ => 0))), (q23, .inl (cI, 6, .inl (fun _ => 0))), (q31, .inl (cI, 6, .inl (fun _ => 0)))] H := hP
  have hD : va_D A [(h_this, .inr (3, [.ref q7, .ref q15, .ref q23, .ref q31, .null, .null, .null, .null, .int 0])), (q7, .inl (cL, 6, .inr (.inl (fun _ => 0)))), (q15, .inl (cI, 6, .inl (fun _ => 0))), (q23, .inl (cI, 6, .inl (fun _ => 0))), (q31, .inl (cI, 6, .inl (fun _ => 0)))] := hD
  refine lv_aload_n hx hb d_RuleSet_init_36 rfl (lv_at hl 0 rfl) ?_
  refine lv_bipush (v := 36) hx hb d_RuleSet_init_37 (by decide) ?_
  refine va_newa (atype := .int) (ty := .int) (N' := 36) (a0 := (36, .inl (fun _ => 0))) hx hb (hT _ kAr_int) rfl hK hP hD hS hA (fun _ => rfl) (by decide) rfl (Nat.le_of_ble_eq_true rfl) (Nat.le_of_ble_eq_true rfl) (Nat.le_of_ble_eq_true rfl) d_RuleSet_init_39 (fun q39 cA9 H hK9 hP hD hS => ?_)
  obtain rfl : cI = cA9 := x_cls hK9 0 3 rfl rfl rfl
  have hK : va_K (dC, dI) vwCl (xTy cI cL cC) s := hK9.sub [0, 1, 2] rfl
  have hP : va_P (dC, dI) vwCl [(h_this, .inr (3, [.ref q7, .ref q15, .ref q23, .ref q31, .null, .null, .null, .null, .int 0])), (q7, .inl (cL, 6, .inr (.inl (fun _ => 0)))), (q15, .inl (cI, 6, .inl (fun _ => 0))), (q23, .inl (cI, 6, .inl (fun _ => 0))), (q31, .inl (cI, 6, .inl (fun _ => 0))), (q39, .inl (cI, 36, .inl (fun _ => 0)))] H := hP
  have hD : va_D A [(h_this, .inr (3, [.ref q7, .ref q15, .ref q23, .ref q31, .null, .null, .null, .null, .int 0])), (q7, .inl (cL, 6, .inr (.inl (fun _ => 0)))), (q15, .inl (cI, 6, .inl (fun _ => 0))), (q23, .inl (cI, 6, .inl (fun _ => 0))), (q31, .inl (cI, 6, .inl (fun _ => 0))), (q39, .inl (cI, 36, .inl (fun _ => 0)))] := hD
  refine va_putF (D := (dC, dI)) (ci := 3) (v := .ref q39) (ty := .array .int) (C := R_RuleSet) (T := T_RuleSet) (N := 9) hx hb hT i_RuleSet ty_RuleSet ty_RuleSet_ok n_RuleSet hown hK hP hD hS 0 rfl rfl 4 (by decide) (hT _ kF_RuleSet_25) (fun _ h9 => h9) rfl hin rfl (by decide +kernel) rfl rfl (Nat.le_of_ble_eq_true rfl) d_RuleSet_init_41 (fun H locs hP hD hS => ?_)
  have hP : va_P (dC, dI) vwCl [(h_this, .inr (3, [.ref q7, .ref q15, .ref q23, .ref q31, .ref q39, .null, .null, .null, .int 0])), (q7, .inl (cL, 6, .inr (.inl (fun _ => 0)))), (q15, .inl (cI, 6, .inl (fun _ => 0))), (q23, .inl (cI, 6, .inl (fun _ => 0))), (q31, .inl (cI, 6, .inl (fun _ => 0))), (q39, .inl (cI, 36, .inl (fun _ => 0)))] H := hP
  have hD : va_D A [(h_this, .inr (3, [.ref q7, .ref q15, .ref q23, .ref q31, .ref q39, .null, .null, .null, .int 0])), (q7, .inl (cL, 6, .inr (.inl (fun _ => 0)))), (q15, .inl (cI, 6, .inl (fun _ => 0))), (q23, .inl (cI, 6, .inl (fun _ => 0))), (q31, .inl (cI, 6, .inl (fun _ => 0))), (q39, .inl (cI, 36, .inl (fun _ => 0)))] := hD
  refine lv_aload_n hx hb d_RuleSet_init_44 rfl (lv_at hl 0 rfl) ?_
  refine lv_bipush (v := 36) hx hb d_RuleSet_init_45 (by decide) ?_
  refine va_newa (atype := .int) (ty := .int) (N' := 36) (a0 := (36, .inl (fun _ => 0))) hx hb (hT _ kAr_int) rfl hK hP hD hS hA (fun _ => rfl) (by decide) rfl (Nat.le_of_ble_eq_true rfl) (Nat.le_of_ble_eq_true rfl) (Nat.le_of_ble_eq_true rfl) d_RuleSet_init_47 (fun q47 cA9 H hK9 hP hD hS => ?_)
  obtain rfl : cI = cA9 := x_cls hK9 0 3 rfl rfl rfl
  have hK : va_K (dC, dI) vwCl (xTy cI cL cC) s := hK9.sub [0, 1, 2] rfl
  have hP : va_P (dC, dI) vwCl [(h_this, .inr (3, [.ref q7, .ref q15, .ref q23, .ref q31, .ref q39, .null, .null, .null, .int 0])), (q7, .inl (cL, 6, .inr (.inl (fun _ => 0)))), (q15, .inl (cI, 6, .inl (fun _ => 0))), (q23, .inl (cI, 6, .inl (fun _ => 0))), (q31, .inl (cI, 6, .inl (fun _ => 0))), (q39, .inl (cI, 36, .inl (fun _ => 0))), (q47, .inl (cI, 36, .inl (fun _ => 0)))] H := hP
  have hD : va_D A [(h_this, .inr (3, [.ref q7, .ref q15, .ref q23, .ref q31, .ref q39, .null, .null, .null, .int 0])), (q7, .inl (cL, 6, .inr (.inl (fun _ => 0)))), (q15, .inl (cI, 6, .inl (fun _ => 0))), (q23, .inl (cI, 6, .inl (fun _ => 0))), (q31, .inl (cI, 6, .inl (fun _ => 0))), (q39, .inl (cI, 36, .inl (fun _ => 0))), (q47, .inl (cI, 36, .inl (fun _ => 0)))] := hD
  refine va_putF (D := (dC, dI)) (ci := 3) (v := .ref q47) (ty := .array .int) (C := R_RuleSet) (T := T_RuleSet) (N := 9) hx hb hT i_RuleSet ty_RuleSet ty_RuleSet_ok n_RuleSet hown hK hP hD hS 0 rfl rfl 5 (by decide) (hT _ kF_RuleSet_28) (fun _ h9 => h9) rfl hin rfl (by decide +kernel) rfl rfl (Nat.le_of_ble_eq_true rfl) d_RuleSet_init_49 (fun H locs hP hD hS => ?_)
  have hP : va_P (dC, dI) vwCl [(h_this, .inr (3, [.ref q7, .ref q15, .ref q23, .ref q31, .ref q39, .ref q47, .null, .null, .int 0])), (q7, .inl (cL, 6, .inr (.inl (fun _ => 0)))), (q15, .inl (cI, 6, .inl (fun _ => 0))), (q23, .inl (cI, 6, .inl (fun _ => 0))), (q31, .inl (cI, 6, .inl (fun _ => 0))), (q39, .inl (cI, 36, .inl (fun _ => 0))), (q47, .inl (cI, 36, .inl (fun _ => 0)))] H := hP
  have hD : va_D A [(h_this, .inr (3, [.ref q7, .ref q15, .ref q23, .ref q31, .ref q39, .ref q47, .null, .null, .int 0])), (q7, .inl (cL, 6, .inr (.inl (fun _ => 0)))), (q15, .inl (cI, 6, .inl (fun _ => 0))), (q23, .inl (cI, 6, .inl (fun _ => 0))), (q31, .inl (cI, 6, .inl (fun _ => 0))), (q39, .inl (cI, 36, .inl (fun _ => 0))), (q47, .inl (cI, 36, .inl (fun _ => 0)))] := hD
  refine lv_aload_n hx hb d_RuleSet_init_52 rfl (lv_at hl 0 rfl) ?_
  refine lv_bipush (v := 36) hx hb d_RuleSet_init_53 (by decide) ?_
  refine va_newa (atype := .int) (ty := .int) (N' := 36) (a0 := (36, .inl (fun _ => 0))) hx hb (hT _ kAr_int) rfl hK hP hD hS hA (fun _ => rfl) (by decide) rfl (Nat.le_of_ble_eq_true rfl) (Nat.le_of_ble_eq_true rfl) (Nat.le_of_ble_eq_true rfl) d_RuleSet_init_55 (fun q55 cA9 H hK9 hP hD hS => ?_)
  obtain rfl : cI = cA9 := x_cls hK9 0 3 rfl rfl rfl
  have hK : va_K (dC, dI) vwCl (xTy cI cL cC) s := hK9.sub [0, 1, 2] rfl
  have hP : va_P (dC, dI) vwCl [(h_this, .inr (3, [.ref q7, .ref q15, .ref q23, .ref q31, .ref q39, .ref q47, .null, .null, .int 0])), (q7, .inl (cL, 6, .inr (.inl (fun _ => 0)))), (q15, .inl (cI, 6, .inl (fun _ => 0))), (q23, .inl (cI, 6, .inl (fun _ => 0))), (q31, .inl (cI, 6, .inl (fun _ => 0))), (q39, .inl (cI, 36, .inl (fun _ => 0))), (q47, .inl (cI, 36, .inl (fun _ => 0))), (q55, .inl (cI, 36, .inl (fun _ => 0)))] H := hP
  have hD : va_D A [(h_this, .inr (3, [.ref q7, .ref q15, .ref q23, .ref q31, .ref q39, .ref q47, .null, .null, .int 0])), (q7, .inl (cL, 6, .inr (.inl (fun _ => 0)))), (q15, .inl (cI, 6, .inl (fun _ => 0))), (q23, .inl (cI, 6, .inl (fun _ => 0))), (q31, .inl (cI, 6, .inl (fun _ => 0))), (q39, .inl (cI, 36, .inl (fun _ => 0))), (q47, .inl (cI, 36, .inl (fun _ => 0))), (q55, .inl (cI, 36, .inl (fun _ => 0)))] := hD
  refine va_putF (D := (dC, dI)) (ci := 3) (v := .ref q55) (ty := .array .int) (C := R_RuleSet) (T := T_RuleSet) (N := 9) hx hb hT i_RuleSet ty_RuleSet ty_RuleSet_ok n_RuleSet hown hK hP hD hS 0 rfl rfl 6 (by decide) (hT _ kF_RuleSet_31) (fun _ h9 => h9) rfl hin rfl (by decide +kernel) rfl rfl (Nat.le_of_ble_eq_true rfl) d_RuleSet_init_57 (fun H locs hP hD hS => ?_)
  have hP : va_P (dC, dI) vwCl [(h_this, .inr (3, [.ref q7, .ref q15, .ref q23, .ref q31, .ref q39, .ref q47, .ref q55, .null, .int 0])), (q7, .inl (cL, 6, .inr (.inl (fun _ => 0)))), (q15, .inl (cI, 6, .inl (fun _ => 0))), (q23, .inl (cI, 6, .inl (fun _ => 0))), (q31, .inl (cI, 6, .inl (fun _ => 0))), (q39, .inl (cI, 36, .inl (fun _ => 0))), (q47, .inl (cI, 36, .inl (fun _ => 0))), (q55, .inl (cI, 36, .inl (fun _ => 0)))] H := hP
  have hD : va_D A [(h_this, .inr (3, [.ref q7, .ref q15, .ref q23, .ref q31, .ref q39, .ref q47, .ref q55, .null, .int 0])), (q7, .inl (cL, 6, .inr (.inl (fun _ => 0)))), (q15, .inl (cI, 6, .inl (fun _ => 0))), (q23, .inl (cI, 6, .inl (fun _ => 0))), (q31, .inl (cI, 6, .inl (fun _ => 0))), (q39, .inl (cI, 36, .inl (fun _ => 0))), (q47, .inl (cI, 36, .inl (fun _ => 0))), (q55, .inl (cI, 36, .inl (fun _ => 0)))] := hD
  refine lv_aload_n hx hb d_RuleSet_init_60 rfl (lv_at hl 0 rfl) ?_
  refine lv_bipush (v := 36) hx hb d_RuleSet_init_61 (by decide) ?_
  refine va_newa (atype := .int) (ty := .int) (N' := 36) (a0 := (36, .inl (fun _ => 0))) hx hb (hT _ kAr_int) rfl hK hP hD hS hA (fun _ => rfl) (by decide) rfl (Nat.le_of_ble_eq_true rfl) (Nat.le_of_ble_eq_true rfl) (Nat.le_of_ble_eq_true rfl) d_RuleSet_init_63 (fun q63 cA9 H hK9 hP hD hS => ?_)
  obtain rfl : cI = cA9 := x_cls hK9 0 3 rfl rfl rfl
  have hK : va_K (dC, dI) vwCl (xTy cI cL cC) s := hK9.sub [0, 1, 2] rfl
  have hP : va_P (dC, dI) vwCl [(h_this, .inr (3, [.ref q7, .ref q15, .ref q23, .ref q31, .ref q39, .ref q47, .ref q55, .null, .int 0])), (q7, .inl (cL, 6, .inr (.inl (fun _ => 0)))), (q15, .inl (cI, 6, .inl (fun _ => 0))), (q23, .inl (cI, 6, .inl (fun _ => 0))), (q31, .inl (cI, 6, .inl (fun _ => 0))), (q39, .inl (cI, 36, .inl (fun _ => 0))), (q47, .inl (cI, 36, .inl (fun _ => 0))), (q55, .inl (cI, 36, .inl (fun _ => 0))), (q63, .inl (cI, 36, .inl (fun _ => 0)))] H := hP
  have hD : va_D A [(h_this, .inr (3, [.ref q7, .ref q15, .ref q23, .ref q31, .ref q39, .ref q47, .ref q55, .null, .int 0])), (q7, .inl (cL, 6, .inr (.inl (fun _ => 0)))), (q15, .inl (cI, 6, .inl (fun _ => 0))), (q23, .inl (cI, 6, .inl (fun _ => 0))), (q31, .inl (cI, 6, .inl (fun _ => 0))), (q39, .inl (cI, 36, .inl (fun _ => 0))), (q47, .inl (cI, 36, .inl (fun _ => 0))), (q55, .inl (cI, 36, .inl (fun _ => 0))), (q63, .inl (cI, 36, .inl (fun _ => 0)))] := hD
  refine va_putF (D := (dC, dI)) (ci := 3) (v := .ref q63) (ty := .array .int) (C := R_RuleSet) (T := T_RuleSet) (N := 9) hx hb hT i_RuleSet ty_RuleSet ty_RuleSet_ok n_RuleSet hown hK hP hD hS 0 rfl rfl 7 (by decide) (hT _ kF_RuleSet_34) (fun _ h9 => h9) rfl hin rfl (by decide +kernel) rfl rfl (Nat.le_of_ble_eq_true rfl) d_RuleSet_init_65 (fun H locs hP hD hS => ?_)
  have hP : va_P (dC, dI) vwCl [(h_this, .inr (3, [.ref q7, .ref q15, .ref q23, .ref q31, .ref q39, .ref q47, .ref q55, .ref q63, .int 0])), (q7, .inl (cL, 6, .inr (.inl (fun _ => 0)))), (q15, .inl (cI, 6, .inl (fun _ => 0))), (q23, .inl (cI, 6, .inl (fun _ => 0))), (q31, .inl (cI, 6, .inl (fun _ => 0))), (q39, .inl (cI, 36, .inl (fun _ => 0))), (q47, .inl (cI, 36, .inl (fun _ => 0))), (q55, .inl (cI, 36, .inl (fun _ => 0))), (q63, .inl (cI, 36, .inl (fun _ => 0)))] H := hP
  have hD : va_D A [(h_this, .inr (3, [.ref q7, .ref q15, .ref q23, .ref q31, .ref q39, .ref q47, .ref q55, .ref q63, .int 0])), (q7, .inl (cL, 6, .inr (.inl (fun _ => 0)))), (q15, .inl (cI, 6, .inl (fun _ => 0))), (q23, .inl (cI, 6, .inl (fun _ => 0))), (q31, .inl (cI, 6, .inl (fun _ => 0))), (q39, .inl (cI, 36, .inl (fun _ => 0))), (q47, .inl (cI, 36, .inl (fun _ => 0))), (q55, .inl (cI, 36, .inl (fun _ => 0))), (q63, .inl (cI, 36, .inl (fun _ => 0)))] := hD
  exact W.vret hx hb hr (fun t9 ht9 hW9 => ⟨rfl, ⟨fun k => [q7, q15, q23, q31, q39, q47, q55, q63].getD k 0, by rw [ht9]; exact hP, hD⟩, hS.F ht9⟩) hS.2.2 d_RuleSet_init_68
