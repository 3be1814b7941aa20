-- the catch: the search through the table of handlers, whose classes may be resolved there for the first time
def xFT (e : Env) (s : State) (f : JFrame) (a : Addr) (pc : Nat) (vm' : Vm) : Prop := ∀ (Q : Handler → Pre) (E : CtlPost) (d : Bool) (acts : List Action), wp (findHandler f a) Q E e d acts s ↔ Q (.found pc) d acts (s.setVm vm')
theorem x_goYes {Q : Handler → Pre} {E : CtlPost} {e : Env} {d : Bool} {acts : List Action} {s : State} {f : JFrame} {a : Addr} {x : ExceptionTableEntry} {t : List ExceptionTableEntry} {c : ClassId} {cell : Cell} (hx : covers x f.pc = true) (h0 : x.catchType ≠ 0)
    (hl : s.vm.ClassLinks e.platform f.method.cls x.catchType c) (hcell : s.heap[a]? = some cell) (hobj : ∀ k, cell.vm ≠ .statics k) (hk : ∃ k, s.vm.classes[cell.cls]? = some k) (hc : ∃ k, s.vm.classes[c]? = some k) (hfit : s.vm.assignable cell.cls c = true) :
    wp (findHandler.go f a (x :: t)) Q E e d acts s ↔ Q (.found x.handlerPc) d acts (s.setVm (s.vm.noted f.method.cls x.catchType (.cls c))) := by
  simp only [covers] at hx
  obtain ⟨ha, ht⟩ := (resolveClass_links e.toSetting hl).op (op := VmOp.resolveClass f.method.cls x.catchType) rfl
  have hal : s.vm.Alike (s.vm.noted f.method.cls x.catchType (.cls c)) := (Vm.Alike.refl s.vm).noted _ _ _
  obtain ⟨k1, hk1⟩ := hk
  obtain ⟨k2, hk2⟩ := hc
  obtain ⟨k1', hk1', -⟩ := hal.2.2 _ _ hk1
  obtain ⟨k2', hk2', -⟩ := hal.2.2 _ _ hk2
  have hf : (s.vm.noted f.method.cls x.catchType (.cls c)).assignable cell.cls c = true := by rw [hal.assignable]; exact hfit
  simp [findHandler.go, hx, h0, ha, ht, hcell, hobj, hk1', hk2', hf, VmOp.dirties, VmOp.acts]
theorem x_goNo {Q : Handler → Pre} {E : CtlPost} {e : Env} {d : Bool} {acts : List Action} {s : State} {f : JFrame} {a : Addr} {x : ExceptionTableEntry} {t : List ExceptionTableEntry} {c : ClassId} {cell : Cell} (hx : covers x f.pc = true) (h0 : x.catchType ≠ 0)
    (hl : s.vm.ClassLinks e.platform f.method.cls x.catchType c) (hcell : s.heap[a]? = some cell) (hobj : ∀ k, cell.vm ≠ .statics k) (hk : ∃ k, s.vm.classes[cell.cls]? = some k) (hc : ∃ k, s.vm.classes[c]? = some k) (hno : s.vm.assignable cell.cls c = false) :
    wp (findHandler.go f a (x :: t)) Q E e d acts s ↔ wp (findHandler.go f a t) Q E e d acts (s.setVm (s.vm.noted f.method.cls x.catchType (.cls c))) := by
  simp only [covers] at hx
  obtain ⟨ha, ht⟩ := (resolveClass_links e.toSetting hl).op (op := VmOp.resolveClass f.method.cls x.catchType) rfl
  have hal : s.vm.Alike (s.vm.noted f.method.cls x.catchType (.cls c)) := (Vm.Alike.refl s.vm).noted _ _ _
  obtain ⟨k1, hk1⟩ := hk
  obtain ⟨k2, hk2⟩ := hc
  obtain ⟨k1', hk1', -⟩ := hal.2.2 _ _ hk1
  obtain ⟨k2', hk2', -⟩ := hal.2.2 _ _ hk2
  have hf : (s.vm.noted f.method.cls x.catchType (.cls c)).assignable cell.cls c = false := by rw [hal.assignable]; exact hno
  simp [findHandler.go, hx, h0, ha, ht, hcell, hobj, hk1', hk2', hf, VmOp.dirties, VmOp.acts]
theorem x_caught {tb : Tables} {e : Env} {s target : State} {g : JFrame} {c : Code} {below : List Frame} {a : Addr} (h : At s g.method c below) {pc : Nat} {vm' : Vm}
    (hfind : xFT e ((s.setTop g).pushFrame (.throwing a)) g a pc vm') (hrest : Steps tb e below ((s.setVm vm').setTop { g with pc := pc, stack := [.ref a] }) target) :
    Steps tb e below ((s.setTop g).pushFrame (.throwing a)) target := by
  obtain ⟨hgo, hw⟩ := h.throwing a
  refine Steps.head hgo hw ?_
  have hst : ∀ r : List Frame, (stepThrowing e ((s.setTop g).pushFrame (.throwing a)) a (.java g :: r)).Is ((((s.setTop g).pushFrame (.throwing a)).setVm vm').setFrames (.java { g with pc := pc, stack := [.ref a] } :: r)) [] := by
    intro r
    simp only [stepThrowing, searchFrame, vmDo]
    generalize hr : Sem.go _ e false [] ((s.setTop g).pushFrame (.throwing a)) = res
    obtain ⟨as, rfl, ha⟩ := Sem.eq_ok_of hr (a := Handler.found pc) (s' := ((s.setTop g).pushFrame (.throwing a)).setVm vm') (acts' := []) (by simp [hfind _ _ _ _])
    exact ⟨rfl, ha⟩
  have hsf : ∀ (u : State) (F G : List Frame), ((u.setFrames F).setVm vm').setFrames G = (u.setVm vm').setFrames G := by
    intro u F G
    have h1 : (u.setFrames F).setVm vm' = (u.setVm vm').setFrames F := rfl
    rw [h1, State.setFrames_setFrames]
  rw [stepThread_throwing (frames_entered h.top _), (hst _).1]
  obtain ⟨g₀, hg⟩ := Option.isSome_iff_exists.mp h.top
  obtain ⟨r, hr⟩ := State.topJava?_eq_some.mp hg
  have hr' : (s.setVm vm').frames = .java g₀ :: r := hr
  rw [State.setTop_of_frames _ hr'] at hrest
  rw [hr, List.tail_cons, State.pushFrame, hsf, State.setTop_of_frames _ hr, hsf]
  exact hrest
section XCT
variable {p : Program} {l : Launch} {e : Env} {R : Room} {s : State} {m : MethodId} {args : Array Value} {below : List Frame} {meth : Method} {c : Code} {H : Heap} {locs : List Loc} {cells slots : Nat} {Q : State → Prop}
variable {pc : Nat} {ls : Array Slot} {rest : List Value}
/-- the first entry takes it -/
theorem x_catch1 {own E : String} {x : Addr} {ce : Cell} {y : ExceptionTableEntry} {ys : List ExceptionTableEntry} (hown : s.vm.findClass own = some m.cls) (htab : c.exceptionTable.toList = y :: ys) (hcov : covers y pc = true) (h0 : y.catchType ≠ 0)
    (hlink : (Cond.classLink own y.catchType E).before args s = true) (hcast : (Cond.castable E E).before #[] s = true) (hx1 : H[x]? = some ce) (hx2 : ce.vm = .none) (hx3 : s.vm.findClass E = some ce.cls)
    (kk : W p l e R s m args below meth c H locs cells slots Q (F0 m y.handlerPc ls [.ref x])) : xWt p l e R s m args below meth c H locs cells slots Q (F0 m pc ls rest) x := by
  intro T hT X
  have hpl : e.platform.magicAccessors = ({} : Platform).magicAccessors := by rw [X.admits.platform]
  obtain ⟨c3, c4, hc3, hc4, hasg⟩ := Cond.castable_spec hcast
  cases Option.some.inj (hc3.symm.trans hx3)
  cases Option.some.inj (hc4.symm.trans hx3)
  obtain ⟨c5, hc5, hl5⟩ := Cond.classLink_spec hown hlink e.platform hpl
  cases Option.some.inj (hc5.symm.trans hx3)
  obtain ⟨k9, hk9, -⟩ := Vm.findClass_spec hx3
  obtain ⟨dk, _, _, kt, hd, _, _, _, _, hkt, _, hopen⟩ := hl5.here
  obtain ⟨k9', hk9', -⟩ := X.warmed.alike.2.2 _ _ hk9
  have hWn : s.WarmedH (T.vm.noted m.cls y.catchType (.cls ce.cls)) := X.warmed.noted hd hopen (State.rightAt_cls hl5)
  obtain ⟨t, a1, b1⟩ := kk (T.setVm (T.vm.noted m.cls y.catchType (.cls ce.cls))) hT (X.noted hWn)
  refine ⟨t, x_caught (c := c) (vm' := T.vm.noted m.cls y.catchType (.cls ce.cls)) X.here (pc := y.handlerPc) (fun Q E d acts => ?_) a1, b1⟩
  rw [_root_.Jvm.W.findHandler_eq (f := F0 m pc ls rest) (s := (T.setTop (F0 m pc ls rest)).pushFrame (.throwing x)) (meth := meth) (code := c) (by rw [throwing_vm]; exact X.method') X.code, htab]
  exact x_goYes (s := (T.setTop (F0 m pc ls rest)).pushFrame (.throwing x)) (f := F0 m pc ls rest) hcov h0 (X.warmed.classLinks hl5) (by rw [throwing_heap, hT]; exact hx1) (fun k hk => by rw [hx2] at hk; cases hk) ⟨k9', hk9'⟩ ⟨k9', hk9'⟩ (by show T.vm.assignable _ _ = true; rw [X.warmed.alike.assignable]; exact hasg)
/-- the first entry is passed, the second takes it -/
theorem x_catch2 {own E E1 : String} {x : Addr} {ce : Cell} {y1 y : ExceptionTableEntry} {ys : List ExceptionTableEntry} (hown : s.vm.findClass own = some m.cls) (htab : c.exceptionTable.toList = y1 :: y :: ys) (hcov1 : covers y1 pc = true) (h01 : y1.catchType ≠ 0) (hcov : covers y pc = true) (h0 : y.catchType ≠ 0)
    (hlink1 : (Cond.classLink own y1.catchType E1).before args s = true) (hno : va_Nc E E1 s)
    (hlink : (Cond.classLink own y.catchType E).before args s = true) (hcast : (Cond.castable E E).before #[] s = true) (hx1 : H[x]? = some ce) (hx2 : ce.vm = .none) (hx3 : s.vm.findClass E = some ce.cls)
    (kk : W p l e R s m args below meth c H locs cells slots Q (F0 m y.handlerPc ls [.ref x])) : xWt p l e R s m args below meth c H locs cells slots Q (F0 m pc ls rest) x := by
  intro T hT X
  have hpl : e.platform.magicAccessors = ({} : Platform).magicAccessors := by rw [X.admits.platform]
  obtain ⟨c3, c4, hc3, hc4, hasg⟩ := Cond.castable_spec hcast
  cases Option.some.inj (hc3.symm.trans hx3)
  cases Option.some.inj (hc4.symm.trans hx3)
  obtain ⟨c5, hc5, hl5⟩ := Cond.classLink_spec hown hlink e.platform hpl
  cases Option.some.inj (hc5.symm.trans hx3)
  obtain ⟨c6, hc6, hl6⟩ := Cond.classLink_spec hown hlink1 e.platform hpl
  obtain ⟨a8, b8, g1, g2, g3⟩ := hno
  cases Option.some.inj (g1.symm.trans hx3)
  obtain rfl : b8 = c6 := Option.some.inj (g2.symm.trans hc6)
  obtain ⟨k9, hk9, -⟩ := Vm.findClass_spec hx3
  obtain ⟨k6, hk6, -⟩ := Vm.findClass_spec hc6
  obtain ⟨dk, _, _, kt, hd, _, _, _, _, hkt, _, hopen⟩ := hl5.here
  obtain ⟨dk1, _, _, kt1, hd1, _, _, _, _, hkt1, _, hopen1⟩ := hl6.here
  have hW1 : s.WarmedH (T.vm.noted m.cls y1.catchType (.cls b8)) := X.warmed.noted hd1 hopen1 (State.rightAt_cls hl6)
  obtain ⟨k9', hk9', -⟩ := X.warmed.alike.2.2 _ _ hk9
  obtain ⟨k6', hk6', -⟩ := X.warmed.alike.2.2 _ _ hk6
  obtain ⟨k9'', hk9'', -⟩ := hW1.alike.2.2 _ _ hk9
  have hWn : s.WarmedH ((T.vm.noted m.cls y1.catchType (.cls b8)).noted m.cls y.catchType (.cls ce.cls)) := hW1.noted hd hopen (State.rightAt_cls hl5)
  obtain ⟨t, a1, b1⟩ := kk (T.setVm ((T.vm.noted m.cls y1.catchType (.cls b8)).noted m.cls y.catchType (.cls ce.cls))) hT (X.noted hWn)
  refine ⟨t, x_caught (c := c) (vm' := (T.vm.noted m.cls y1.catchType (.cls b8)).noted m.cls y.catchType (.cls ce.cls)) X.here (pc := y.handlerPc) (fun Q E d acts => ?_) a1, b1⟩
  rw [_root_.Jvm.W.findHandler_eq (f := F0 m pc ls rest) (s := (T.setTop (F0 m pc ls rest)).pushFrame (.throwing x)) (meth := meth) (code := c) (by rw [throwing_vm]; exact X.method') X.code, htab]
  rw [x_goNo (s := (T.setTop (F0 m pc ls rest)).pushFrame (.throwing x)) (f := F0 m pc ls rest) (c := b8) (cell := ce) hcov1 h01 (X.warmed.classLinks hl6) (by rw [throwing_heap, hT]; exact hx1) (fun k hk => by rw [hx2] at hk; cases hk) ⟨k9', hk9'⟩ ⟨k6', hk6'⟩ (by show T.vm.assignable _ _ = false; rw [X.warmed.alike.assignable]; exact g3)]
  exact x_goYes (s := ((T.setTop (F0 m pc ls rest)).pushFrame (.throwing x)).setVm (T.vm.noted m.cls y1.catchType (.cls b8))) (f := F0 m pc ls rest) hcov h0 (hW1.classLinks hl5) (by show T.heap[x]? = _; rw [hT]; exact hx1) (fun k hk => by rw [hx2] at hk; cases hk) ⟨k9'', hk9''⟩ ⟨k9'', hk9''⟩ (by show (T.vm.noted m.cls y1.catchType (.cls b8)).assignable _ _ = true; rw [hW1.alike.assignable]; exact hasg)
end XCT
theorem x_tabW {p : Program} {l : Launch} {x : MethodName} {S : Spec} {code : ByteArray} {maxLocals : Nat} {ret : Option FieldType} {e : Env} {s : State} {m : MethodId} {args : Array Value} {below : List Frame} {meth : Method} {c : Code} {s₁ : State} {hh : List (Nat × Nat × Nat × Nat)}
    (B : BodyLoose p l x S code maxLocals ret e s m args below meth c s₁) (h : (Cond.codeWith x code maxLocals ret hh).before args s = true) : c.exceptionTable.toList.map (fun h => (h.startPc, h.endPc, h.handlerPc, h.catchType)) = hh := by
  obtain ⟨m', meth', c', hn', hm', hc', -, -, ht, -⟩ := Cond.codeWith_spec h
  cases Option.some.inj (B.named.symm.trans hn')
  cases B.method.symm.trans hm'
  cases (Stand.of_body B).code.symm.trans hc'
  exact ht
theorem x_tabI : ∀ (a b : List ExceptionTableEntry), a.map (fun h => (h.startPc, h.endPc, h.handlerPc, h.catchType)) = b.map (fun h => (h.startPc, h.endPc, h.handlerPc, h.catchType)) → a = b := by
  intro a
  induction a with
  | nil => intro b h; cases b with
    | nil => rfl
    | cons y ys => cases h
  | cons x xs ih =>
    intro b h
    cases b with
    | nil => cases h
    | cons y ys =>
      simp only [List.map_cons, List.cons.injEq, Prod.mk.injEq] at h
      obtain ⟨⟨h1, h2, h3, h4⟩, h5⟩ := h
      rw [ih ys h5]
      congr 1
      cases x; cases y
      simp_all
theorem x_tab {a l : List ExceptionTableEntry} {hh : List (Nat × Nat × Nat × Nat)} (h : a.map (fun h => (h.startPc, h.endPc, h.handlerPc, h.catchType)) = hh) (h2 : l.map (fun h => (h.startPc, h.endPc, h.handlerPc, h.catchType)) = hh) : a = l := x_tabI a l (h.trans h2.symm)
