-- a call of a static method that has handlers of its own (the law's wrappers)
section XSW
variable {p : Program} {l : Launch} {e : Env} {R : Room} {s : State} {m : MethodId} {args : Array Value} {below : List Frame} {meth : Method} {c : Code} {H : Heap} {locs : List Loc} {cells slots : Nat} {Q : State → Prop}
variable {pc : Nat} {ls : Array Slot} {rest st0 : List Value} {A : Nat → Prop} {H0 : Heap} {D : va_G} {tys : List (ClassId × FieldType)} {ws wc w1 w' : va_W} {rv : Option Value}
variable {cc bytes : ByteArray} {nL maxL index n : Nat} {own : String} {y : MethodName} {ret : Option FieldType} {rm : Room} {As : List Value} {hh : List (Nat × Nat × Nat × Nat)}
set_option maxHeartbeats 4000000 in
theorem x_statW (hx : p.tables.exec = Jvm.exec) (hb : c.code = cc) (hml : c.maxLocals = nL) (hsz : ls.size = nL) (hown : s.vm.findClass own = some m.cls) (hT : ∀ w ∈ xT, w.before args s = true)
    (hK : va_K D vwCl tys s) (hN : va_Nw xNw s) (hW : xW s) (hNS : ∀ (q : Nat) (cell : Cell), A q → H0[q]? = some cell → cell.vm.isStatics = false) (hH0 : H0 = s.heap) (hP : va_P D vwCl ws H) (hD : va_D A ws) (hS : va_S A H0 H locs) (hA : ∀ q, H0.size ≤ q → A q)
    (hM : Met l y (Cond.codeWith y bytes maxL ret hh :: xT) rm (va_Pc As (xPT D tys wc H.size)) (xQ D w1 (va_A wc H.size) rv) 1 6 (va_A wc H.size))
    (k1 : Cond.methodLink own index y ∈ xT) (k2 : Cond.static y ∈ xT) (k4 : Cond.initialized y.cls ∈ xT) (k5 : Cond.codeWith y bytes maxL ret hh ∈ xT)
    (hd : y.cls ≠ "java/lang/invoke/MethodHandle" ∧ y.cls ≠ "java/lang/invoke/VarHandle" ∧ (parseMethodDescriptor y.desc).map (fun d => d.parameters.length) = some n) (hn : As.length = n)
    (hR : rm.frames + 1 ≤ R.frames ∧ 8 + (maxL + 11) + rm.locals ≤ R.locals) (hrc : rm.cells = 1) (hrs : rm.slots = 6) (hcR : cells + 1 ≤ R.cells ∧ slots + 6 ≤ R.slots)
    (hst : st0 = As.reverse ++ rest) (hw : (rest.map fun v => v.category).sum ≤ 8) (hdg : decode cc pc = .ok (.invokestatic index, 3))
    (isC : List Nat) (hC : isC.map (fun i => ws[i]?) = wc.map some) (hnd : va_nd isC = true) (src : List (Nat ⊕ Nat)) (hok : x_ok isC 0 src = true) (hw' : src.map (x_src ws w1) = w'.map some) (hfst : w'.map Prod.fst = ws.map Prod.fst)
    (kk0 : ∀ (H1 : Heap) (locs1 : List Loc), va_P D vwCl w' H1 → va_D A w' → va_S A H0 H1 locs1 → W p l e R s m args below meth c H1 locs1 (cells + 1) (slots + 6) Q (F0 m (pc + 3) ls (rv.toList ++ rest))) : W p l e R s m args below meth c H locs cells slots Q (F0 m pc ls st0) := by
  have hFc := va_free hD hS hA isC hC
  intro T hT0 X
  obtain ⟨mk, methM, cM, hnamed, hmethM, hcM, -, hlM, -, -, hlk, hsigM⟩ := Cond.codeWith_spec (hT _ k5)
  have hstatic : methM.isStatic = true := Cond.static_spec hnamed hmethM (hT _ k2)
  obtain ⟨kP, hkP, -⟩ := className_of_methodNamed hnamed
  have hinitP : kP.init = .initialized := Cond.initialized_spec (findClass_of_methodNamed hnamed) hkP (hT _ k4)
  obtain ⟨vm₁, X₁, hstep₁⟩ := X.invokestatic hx hown (hT _ k1) hnamed hmethM hstatic hkP hinitP ⟨hd.1, hd.2.1⟩ (g := F0 m pc ls st0) rfl (argsL := As) (rest := rest) (by
      have h2 := hd.2.2
      rw [hsigM] at h2
      exact hn.trans (Option.some.inj h2).symm) hst (by rw [hb]; exact hdg)
  have hnU : (T.setVm vm₁).methodNamed? y = some mk := X₁.named hnamed
  have hwarm := X₁.warmed
  have hcodeU : (Cond.codeWith y bytes maxL ret hh).before As.toArray (T.setVm vm₁) = true := word_at hwarm (good_of_word (lw_good _ k5)) (hT _ k5)
  have hiniU : (Cond.initialized y.cls).before As.toArray (T.setVm vm₁) = true := word_at hwarm (good_of_word (lw_good _ k4)) (hT _ k4)
  obtain ⟨mk2, methY, cY, hn2, hmY, hcY, -, hlY, -⟩ := Cond.codeWith_spec hcodeU
  cases Option.some.inj (hnU.symm.trans hn2)
  obtain ⟨kY, hkY, -⟩ := className_of_methodNamed hnU
  have hinitY : kY.init = .initialized := Cond.initialized_spec (findClass_of_methodNamed hnU) hkY hiniU
  have hpreU : (headSpec (Cond.codeWith y bytes maxL ret hh :: xT) rm).pre.before As.toArray (T.setVm vm₁) = true := atoms_intro fun w hw2 => by
    rcases List.mem_cons.mp hw2 with rfl | h
    · exact hcodeU
    · exact word_at hwarm (good_of_word (lw_good _ h)) (hT _ h)
  have happ := Spec.appliesLoose_calling (S := headSpec (Cond.codeWith y bytes maxL ret hh :: xT) rm) (g := F0 m pc ls rest) X₁.here (by rw [hb]; exact hdg) hnU hkY hinitY
      (X₁.room_calling (g := F0 m pc ls rest) (R' := rm) (hsz.trans hml.symm) hmY hcY hR.1 (by rw [hlY]; have h9 : 2 * (F0 m pc ls rest).monitorRoom + (rest.map fun v => v.category).sum ≤ 8 := lv_room hw; show 2 * (F0 m pc ls rest).monitorRoom + (rest.map fun v => v.category).sum + _ + _ ≤ _; omega) (by rw [hrc]; exact hcR.1) (by rw [hrs]; exact hcR.2)) hpreU
  have hfr : ((T.setVm vm₁).setTop (F0 m pc ls rest)).frames = [.java (F0 m pc ls rest)] ++ below := by rw [State.frames_setTop' _ X₁.here.top, X₁.tail]; rfl
  have hpc : va_Pc As (xPT D tys wc H.size) As.toArray ((T.setVm vm₁).calling (F0 m pc ls rest) mk As.toArray) := by
    have h1 := x_blind (D := D) (tys := tys) (wc := wc) (av := As) (sz := H.size) _ _ (F0 m pc ls rest) mk (x_pre (av := As) hK hN hP hD isC hnd hC (T.setVm vm₁) hT0 hwarm)
    refine ⟨h1.1, h1.2, ?_⟩
    refine x_Wmove (S := s) hwarm (fun a cell h2 h3 => ?_) hW
    show T.heap[a]? = some cell
    rw [hT0]
    exact x_stH (hH0 ▸ hS) (fun q cell hA2 hc2 => hNS q cell hA2 (by rw [hH0]; exact hc2)) a cell h2 h3
  obtain ⟨o, s₂, hsteps, hrun, hend, ⟨⟨ho, hp1, hF⟩, L, ⟨-, hW2, hsame⟩, hL⟩⟩ := Steps.callFree hM p X₁.admits X₁.cas X₁.clock (acts := []) hfr happ hpc trivial
  subst ho
  rw [hfr] at hend
  have hF' : H.size ≤ s₂.heap.size ∧ ∀ q : Nat, q < H.size → ¬ va_A wc H.size q → s₂.heap[q]? = H[q]? := by
    have hsth : (((T.setVm vm₁).setTop (F0 m pc ls rest)).pushFrame (.invoking mk As.toArray)).heap = H := hT0
    simp only [va_F, hsth] at hF
    exact hF
  obtain ⟨T', X', -, -, ht⟩ := X₁.outOf (g := F0 m pc ls rest) rfl (by rw [hb]; exact hdg) hend hW2 hsame
  have hhp : s₂.heap = T'.heap := by rw [ht]; exact State.heap_setTop _ _
  rw [hhp] at hp1 hF'
  obtain ⟨t2, a1, b1⟩ := kk0 T'.heap (locs ++ L) (x_repl hP hD hC hok hw' hp1 hF'.2 (x_at hC)) (x_fst hD hfst) (x_replS (isC := isC) hS hFc hF'.1 hF'.2 hL) T' rfl X'
  refine ⟨t2, hstep₁ _ (fun acts => ?_), b1⟩
  rw [doInvoke_state]
  rw [ht] at hsteps
  exact hsteps.trans a1
end XSW
