def L_java_util_Arrays_fill_5 (fu : Nat) (n_p1 : Nat) (l1_5 : Int32) (l3_5 : Int32) : Nat → Int32 → (Nat → Int32) → Option ((Nat → Int32))
  | 0, _, _ => none
  | n + 1, l2_5, v_p1_5 => (if l3_5 ≤ l2_5 then (some v_p1_5) else (bd l2_5 n_p1 ((L_java_util_Arrays_fill_5 fu n_p1 l1_5 l3_5 n) (l2_5 + 1) (upd v_p1_5 (l2_5 : Int32).toNatClampNeg l1_5))))
theorem L_java_util_Arrays_fill_5_z {fu : Nat} {n_p1 : Nat} {l1_5 : Int32} {l3_5 : Int32} {l2_5 : Int32} {v_p1_5 : Nat → Int32} {t : (Nat → Int32)} (h : L_java_util_Arrays_fill_5 fu n_p1 l1_5 l3_5 0 l2_5 v_p1_5 = some t) : False := by cases (show (none : Option ((Nat → Int32))) = some t from h)
theorem L_java_util_Arrays_fill_5_u {fu : Nat} {n_p1 : Nat} {l1_5 : Int32} {l3_5 : Int32} {n : Nat} {l2_5 : Int32} {v_p1_5 : Nat → Int32} {t : (Nat → Int32)} (h : L_java_util_Arrays_fill_5 fu n_p1 l1_5 l3_5 (n + 1) l2_5 v_p1_5 = some t) : (if l3_5 ≤ l2_5 then (some v_p1_5) else (bd l2_5 n_p1 ((L_java_util_Arrays_fill_5 fu n_p1 l1_5 l3_5 n) (l2_5 + 1) (upd v_p1_5 (l2_5 : Int32).toNatClampNeg l1_5)))) = some t := h
def f_java_util_Arrays_fill (fu : Nat) (n_p1 : Nat) (v_p1 : Nat → Int32) (p2 : Int32) : Option ((Nat → Int32)) :=
  (L_java_util_Arrays_fill_5 fu n_p1 p2 ((Int32.ofNat n_p1)) fu 0 v_p1)
theorem f_java_util_Arrays_fill_u {fu : Nat} {n_p1 : Nat} {v_p1 : Nat → Int32} {p2 : Int32} {t : (Nat → Int32)} (h : f_java_util_Arrays_fill fu n_p1 v_p1 p2 = some t) : (L_java_util_Arrays_fill_5 fu n_p1 p2 ((Int32.ofNat n_p1)) fu 0 v_p1) = some t := h
def rm_java_util_Arrays_fill : Room := { frames := 0, cells := 0, slots := 0, locals := 0 }
set_option maxHeartbeats 4000000 in
set_option maxRecDepth 100000 in
theorem c_java_util_Arrays_fill (l : Launch) (dC : Nat → ClassId) (dI : Nat → Nat → Nat) (cI cL cC : ClassId) (h_p1 : Nat) (sz : Nat) (fu : Nat) (n_p1 : Nat) (v_p1 : Nat → Int32) (p2 : Int32) (t : (Nat → Int32)) (hf : f_java_util_Arrays_fill fu n_p1 v_p1 p2 = some t) : Met l y_java_util_Arrays_fill (Cond.code y_java_util_Arrays_fill prog_19_method_103_code 4 none :: xT) rm_java_util_Arrays_fill (va_Pc [.ref h_p1, .int p2] (xP (dC, dI) (xTy cI cL cC) [(h_p1, .inl (cI, n_p1, .inl v_p1))] sz)) (xQ (dC, dI) [(h_p1, .inl (cI, n_p1, .inl t))] (va_A [(h_p1, .inl (cI, n_p1, .inl v_p1))] sz) (none)) 0 0 (va_A [(h_p1, .inl (cI, n_p1, .inl v_p1))] sz) := by
  refine Met.ofW (cc := prog_19_method_103_code) (maxL := 4) (ret := none) (by decide) rfl ?_
  intro p e s m args below meth c s₁ B hml hv
  obtain ⟨hargs, hsz, hP, hK, hN, hD0⟩ := hv
  have hx := B.exec
  have hb := B.bytes
  have hr := B.returns
  have hT : ∀ w ∈ xT, w.before args s = true := fun w hw => atoms_spec (ws := Cond.code y_java_util_Arrays_fill prog_19_method_103_code 4 none :: xT) B.pre w (List.mem_cons_of_mem _ hw)
  have hown : s.vm.findClass R_java_util_Arrays = some m.cls := findClass_of_methodNamed B.named
  have hlocks := B.notSynchronized
  subst hsz
  have hD := hD0.self (sz := s.heap.size)
  generalize hAe : va_A [(h_p1, .inl (cI, n_p1, .inl v_p1))] s.heap.size = A at hD ⊢
  have hA : ∀ q : Nat, s.heap.size ≤ q → A q := fun q h => by rw [← hAe]; exact Or.inr h
  have hS : va_S A s.heap s.heap [] := va_S.rf
  have hP : va_P (dC, dI) vwCl [(h_p1, .inl (cI, n_p1, .inl v_p1))] s.heap := hP
  have hl := lv_entry ([.ref h_p1, .int p2]) (n := 4) (Nat.le_of_ble_eq_true rfl)
  rw [show entryFrame m args 4 = entryFrame m ([.ref h_p1, .int p2] : List Value).toArray 4 from by rw [hargs], lg_entry_eq]
  generalize (lg_sl ([.ref h_p1, .int p2]) ++ List.replicate (4 - (lg_sl ([.ref h_p1, .int p2])).length) Slot.unset).toArray = ls at hl ⊢
  have hl : lv_has ls 4 [(0, .ref h_p1), (1, .int p2)] := hl
  obtain ⟨Q, hQ⟩ : ∃ Q, Q = MQ below (xQ (dC, dI) [(h_p1, .inl (cI, n_p1, .inl t))] A (none)) args s 0 0 A := ⟨_, rfl⟩
  rw [← hQ]
  show W p l e rm_java_util_Arrays_fill s m args below meth c s.heap [] 0 0 Q _
  obtain ⟨H, hH⟩ : ∃ H, H = s.heap := ⟨_, rfl⟩
  obtain ⟨locs, hlocs⟩ : ∃ L : List Loc, L = [] := ⟨_, rfl⟩
  rw [← hlocs] at hS ⊢
  have hS : va_S A s.heap H locs := by rw [hH]; exact hS
  rw [← hH] at hP ⊢
  replace hf := f_java_util_Arrays_fill_u hf
  refine lv_iconst (v := 0) hx hb d_java_util_Arrays_fill_0 (by decide) ?_
  refine lv_istore_n (lv' := [(2, .int 0), (0, .ref h_p1), (1, .int p2)]) hx hb d_java_util_Arrays_fill_1 rfl hl (by decide) rfl (fun ls hl => ?_)
  refine lv_aload_n hx hb d_java_util_Arrays_fill_2 rfl (lv_at hl 1 rfl) ?_
  refine va_alen (v := (Int32.ofNat n_p1)) hx hb hK hP 0 0 rfl rfl rfl d_java_util_Arrays_fill_3 ?_
  refine lv_istore_n (lv' := [(3, .int ((Int32.ofNat n_p1))), (2, .int 0), (0, .ref h_p1), (1, .int p2)]) hx hb d_java_util_Arrays_fill_4 rfl hl (by decide) rfl (fun ls hl => ?_)
  have lp_5 : ∀ (n : Nat) (l2_5 : Int32) (v_p1_5 : Nat → Int32) (H : Heap) (locs : List Loc) (ls : Array Slot), L_java_util_Arrays_fill_5 fu n_p1 p2 ((Int32.ofNat n_p1)) n l2_5 v_p1_5 = some t → va_P (dC, dI) vwCl [(h_p1, .inl (cI, n_p1, .inl v_p1_5))] H → va_D A [(h_p1, .inl (cI, n_p1, .inl v_p1_5))] → va_S A s.heap H locs → lv_has ls 4 [(0, .ref h_p1), (1, .int p2), (2, .int l2_5), (3, .int ((Int32.ofNat n_p1)))] → W p l e rm_java_util_Arrays_fill s m args below meth c H locs 0 0 Q (F0 m 5 ls []) := by
    intro  n
    induction n with
    | zero => intro l2_5 v_p1_5 H locs ls hf; exact (L_java_util_Arrays_fill_5_z hf).elim
    | succ n ih =>
      intro l2_5 v_p1_5 H locs ls hf hP hD hS hl
      replace hf := L_java_util_Arrays_fill_5_u hf
      refine lv_iload_n hx hb d_java_util_Arrays_fill_5 rfl (lv_at hl 2 rfl) ?_
      refine lv_iload_n hx hb d_java_util_Arrays_fill_6 rfl (lv_at hl 3 rfl) ?_
      refine lv_icmp_ge (tgt := 20) hx hb d_java_util_Arrays_fill_7 (by decide) (fun c_1 => ?_) (fun c_1 => ?_)
      · replace hf := o_pos c_1 hf
        rw [hQ, ← Option.some.inj hf]
        exact W.vret hx hb hr (fun t9 ht9 hW9 => ⟨rfl, by rw [ht9]; exact hP, hS.F ht9⟩) hS.2.2 d_java_util_Arrays_fill_20
      · replace hf := o_neg c_1 hf
        refine lv_aload_n hx hb d_java_util_Arrays_fill_10 rfl (lv_at hl 0 rfl) ?_
        refine lv_iload_n hx hb d_java_util_Arrays_fill_11 rfl (lv_at hl 2 rfl) ?_
        refine lv_iload_n hx hb d_java_util_Arrays_fill_12 rfl (lv_at hl 1 rfl) ?_
        obtain ⟨hi_2, hf⟩ := o_in hf
        refine va_iast hx hb hK hP hD hS 0 0 rfl rfl hi_2 d_java_util_Arrays_fill_13 (fun H locs hP hD hS => ?_)
        have hP : va_P (dC, dI) vwCl [(h_p1, .inl (cI, n_p1, .inl (upd v_p1_5 (l2_5 : Int32).toNatClampNeg p2)))] H := hP
        have hD : va_D A [(h_p1, .inl (cI, n_p1, .inl (upd v_p1_5 (l2_5 : Int32).toNatClampNeg p2)))] := hD
        refine lv_iinc (v := l2_5 + 1) (lv' := [(2, .int (l2_5 + 1)), (0, .ref h_p1), (1, .int p2), (3, .int ((Int32.ofNat n_p1)))]) hx hb d_java_util_Arrays_fill_14 hl (k := 2) rfl rfl (by decide) rfl (fun ls hl => ?_)
        refine lv_goto (tgt := 5) hx hb d_java_util_Arrays_fill_17 (by decide) ?_
        exact ih (l2_5 + 1) (upd v_p1_5 (l2_5 : Int32).toNatClampNeg p2) H locs ls hf hP hD hS (lv_sub hl [1, 2, 0, 3] rfl)
  refine lp_5  fu 0 v_p1 H locs ls hf hP hD hS (lv_sub hl [2, 3, 1, 0] rfl)
