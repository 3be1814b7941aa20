-- a call of a method that may throw, and the catch
section XT2
variable {p : Program} {l : Launch} {e : Env} {R : Room} {s : State} {m : MethodId} {args : Array Value} {below : List Frame} {meth : Method} {c : Code} {H : Heap} {locs : List Loc} {cells slots : Nat} {Q : State → Prop}
variable {pc : Nat} {ls : Array Slot} {rest st0 : List Value} {A : Nat → Prop} {H0 : Heap} {D : va_G} {tys : List (ClassId × FieldType)} {ws wc w1 w' : va_W} {rv : Option Value}
variable {cc bytes : ByteArray} {nL maxL index n : Nat} {own C : String} {y : MethodName} {ret : Option FieldType} {rm : Room} {b : Addr} {As : List Value} {ci : Nat} {q : vw_C} {fs : List Value} {th : Nat}
def xWt (p : Program) (l : Launch) (e : Env) (R : Room) (s : State) (m : MethodId) (args : Array Value) (below : List Frame) (meth : Method) (c : Code) (H : Heap) (locs : List Loc) (cells slots : Nat) (Q : State → Prop) (g : JFrame) (x : Addr) : Prop :=
  ∀ T : State, T.heap = H → Stand p l e R s m args below meth c T locs cells slots → ∃ t, Steps p.tables e below ((T.setTop g).pushFrame (.throwing x)) t ∧ Q t
theorem x_replS {isC : List Nat} {T1 : Heap} {L : List Loc} (hS : va_S A H0 H locs) (hFc : ∀ q, va_A wc H.size q → A q) (hz : H.size ≤ T1.size) (hk' : ∀ q : Nat, q < H.size → ¬ va_A wc H.size q → T1[q]? = H[q]?) (hL : ∀ z ∈ L, va_A wc H.size z.base) : va_S A H0 T1 (locs ++ L) :=
  ⟨Nat.le_trans hS.1 hz, fun q h1 h2 => by rw [hk' q (Nat.lt_of_lt_of_le h1 hS.1) (fun z => h2 (hFc q z))]; exact hS.2.1 q h1 h2, fun z hz2 => by
      rcases List.mem_append.mp hz2 with h | h
      · exact hS.2.2 z h
      · exact hFc _ (hL z h)⟩
set_option maxHeartbeats 4000000 in
theorem x_tvirt (hx : p.tables.exec = Jvm.exec) (hb : c.code = cc) (hml : c.maxLocals = nL) (hsz : ls.size = nL) (hown : s.vm.findClass own = some m.cls) (hT : ∀ w ∈ xT, w.before args s = true)
    (hK : va_K D vwCl tys s) (hN : va_Nw xNw s) (hW : xW s) (hNS : ∀ (q : Nat) (cell : Cell), A q → H0[q]? = some cell → cell.vm.isStatics = false) (hH0 : H0 = s.heap) (hP : va_P D vwCl ws H) (hD : va_D A ws) (hS : va_S A H0 H locs) (hA : ∀ q, H0.size ≤ q → A q)
    (hM : xMet l y (Cond.code y bytes maxL ret :: xT) rm (va_Pc (.ref b :: As) (xPT D tys wc H.size)) (xQT D w1 (va_A wc H.size) th rv) 1 6 (va_A wc H.size))
    (k1 : Cond.methodLink own index y ∈ xT) (k2 : Cond.instanceMethod y ∈ xT) (k3 : Cond.selects C y y ∈ xT) (k4 : Cond.initialized y.cls ∈ xT) (k5 : Cond.code y bytes maxL ret ∈ xT)
    (hd : y.cls ≠ "java/lang/invoke/MethodHandle" ∧ y.cls ≠ "java/lang/invoke/VarHandle" ∧ (parseMethodDescriptor y.desc).map (fun d => d.parameters.length) = some n) (hn : As.length = n)
    (q0 : Nat) (he : ws[q0]? = some (b, .inr (ci, fs))) (hc : vwCl[ci]? = some q) (hq : q.1 = C) (hR : rm.frames + 1 ≤ R.frames ∧ 8 + (maxL + 11) + rm.locals ≤ R.locals) (hrc : rm.cells = 1) (hrs : rm.slots = 6) (hcR : cells + 1 ≤ R.cells ∧ slots + 6 ≤ R.slots)
    (hst : st0 = As.reverse ++ .ref b :: rest) (hw : (rest.map fun v => v.category).sum ≤ 8) (hdg : decode cc pc = .ok (.invokevirtual index, 3))
    (isC : List Nat) (hC : isC.map (fun i => ws[i]?) = wc.map some) (hnd : va_nd isC = true) (src : List (Nat ⊕ Nat)) (hok : x_ok isC 0 src = true) (hw' : src.map (x_src ws w1) = w'.map some) (hfst : w'.map Prod.fst = ws.map Prod.fst)
    (kk0 : th = 0 → ∀ (H1 : Heap) (locs1 : List Loc), va_P D vwCl w' H1 → va_D A w' → va_S A H0 H1 locs1 → W p l e R s m args below meth c H1 locs1 (cells + 1) (slots + 6) Q (F0 m (pc + 3) ls (rv.toList ++ rest)))
    (kk1 : th ≠ 0 → ∀ (H1 : Heap) (locs1 : List Loc) (x : Nat) (ce : Cell), va_P D vwCl w' H1 → va_D A w' → va_S A H0 H1 locs1 → H1[x]? = some ce → ce.vm = .none → s.vm.findClass (xEn th) = some ce.cls → xWt p l e R s m args below meth c H1 locs1 (cells + 1) (slots + 6) Q (F0 m pc ls rest) x) : W p l e R s m args below meth c H locs cells slots Q (F0 m pc ls st0) := by
  have hFc := va_free hD hS hA isC hC
  subst hq
  intro T hT0 X
  obtain ⟨mk, methM, hnamed, hmethM, hstM, habM⟩ := Cond.instanceMethod_spec (hT _ k2)
  obtain ⟨methM', cM, hmethM', hcM, -, hlM, -, -, -, hsigM⟩ := Cond.code_spec hnamed (hT _ k5)
  cases hmethM.symm.trans hmethM'
  obtain ⟨c2, r2, m2, q1, q2, q3, q4, kP, hkP, hkPi⟩ := Cond.selects_spec (hT _ k3)
  obtain ⟨cellB, hcB, hoB, hclB⟩ := va_recv hK hP hc he
  cases hclB.symm.trans q1
  cases (State.methodFound?_of_named hnamed ⟨hd.1, hd.2.1⟩).symm.trans q2
  cases hnamed.symm.trans q3
  have hselP : selectMethod e.platform s.vm cellB.cls mk = .method mk := by rw [Launch.admits_selectMethod X.admits]; exact q4
  obtain ⟨vm₁, X₁, hstep₁⟩ := X.invokevirtual hx hown (hT _ k1) hnamed hmethM hstM hkP hkPi ⟨hd.1, hd.2.1⟩ (a := b) (cell := cellB) (by rw [hT0]; exact hcB)
    (fun z h => by rw [h] at hoB; cases hoB) hselP hmethM habM hkP hkPi (g := F0 m pc ls st0) rfl (argsL := As) (rest := rest) (by
      have h2 := hd.2.2
      rw [hsigM] at h2
      exact hn.trans (Option.some.inj h2).symm) hst (by rw [hb]; exact hdg)
  have hnU : (T.setVm vm₁).methodNamed? y = some mk := X₁.named hnamed
  have hwarm := X₁.warmed
  have hcodeU : (Cond.code y bytes maxL ret).before (Value.ref b :: As).toArray (T.setVm vm₁) = true := word_at hwarm (good_of_word (lw_good _ k5)) (hT _ k5)
  have hiniU : (Cond.initialized y.cls).before (Value.ref b :: As).toArray (T.setVm vm₁) = true := word_at hwarm (good_of_word (lw_good _ k4)) (hT _ k4)
  obtain ⟨methY, cY, hmY, hcY, -, hlY, -, -, -, -⟩ := Cond.code_spec hnU hcodeU
  obtain ⟨kY, hkY, -⟩ := className_of_methodNamed hnU
  have hinitY : kY.init = .initialized := Cond.initialized_spec (findClass_of_methodNamed hnU) hkY hiniU
  have hpreU : (headSpec (Cond.code y bytes maxL ret :: xT) rm).pre.before (Value.ref b :: As).toArray (T.setVm vm₁) = true := atoms_intro fun w hw2 => by
    rcases List.mem_cons.mp hw2 with rfl | h
    · exact hcodeU
    · exact word_at hwarm (good_of_word (lw_good _ h)) (hT _ h)
  have happ := Spec.appliesLoose_calling (S := headSpec (Cond.code y bytes maxL ret :: xT) rm) (g := F0 m pc ls rest) X₁.here (by rw [hb]; exact hdg) hnU hkY hinitY
      (X₁.room_calling (g := F0 m pc ls rest) (R' := rm) (hsz.trans hml.symm) hmY hcY hR.1 (by rw [hlY]; have h9 : 2 * (F0 m pc ls rest).monitorRoom + (rest.map fun v => v.category).sum ≤ 8 := lv_room hw; show 2 * (F0 m pc ls rest).monitorRoom + (rest.map fun v => v.category).sum + _ + _ ≤ _; omega) (by rw [hrc]; exact hcR.1) (by rw [hrs]; exact hcR.2)) hpreU
  obtain ⟨g₀, hr₀⟩ := X₁.frames_eq
  have hfr : ((T.setVm vm₁).setTop (F0 m pc ls rest)).frames = [.java (F0 m pc ls rest)] ++ below := by rw [State.frames_setTop' _ X₁.here.top, X₁.tail]; rfl
  have hpc : va_Pc (.ref b :: As) (xPT D tys wc H.size) (Value.ref b :: As).toArray ((T.setVm vm₁).calling (F0 m pc ls rest) mk (Value.ref b :: As).toArray) := by
    have h1 := x_blind (D := D) (tys := tys) (wc := wc) (av := .ref b :: As) (sz := H.size) _ _ (F0 m pc ls rest) mk (x_pre (av := .ref b :: As) hK hN hP hD isC hnd hC (T.setVm vm₁) hT0 hwarm)
    refine ⟨h1.1, h1.2, ?_⟩
    refine x_Wmove (S := s) hwarm (fun a cell h2 h3 => ?_) hW
    show T.heap[a]? = some cell
    rw [hT0]
    exact x_stH (hH0 ▸ hS) (fun q cell hA2 hc2 => hNS q cell hA2 (by rw [hH0]; exact hc2)) a cell h2 h3
  obtain ⟨o, s₂, hsteps, hrun, hend, ⟨⟨hp1, hF, hcase⟩, L, ⟨hW2, hsame⟩, hL⟩⟩ := Steps.callFree hM p X₁.admits X₁.cas X₁.clock (acts := []) hfr happ hpc trivial
  rw [hfr] at hend
  have hF' : H.size ≤ s₂.heap.size ∧ ∀ q : Nat, q < H.size → ¬ va_A wc H.size q → s₂.heap[q]? = H[q]? := by
    have hsth : (((T.setVm vm₁).setTop (F0 m pc ls rest)).pushFrame (.invoking mk (Value.ref b :: As).toArray)).heap = H := hT0
    simp only [va_F, hsth] at hF
    exact hF
  rcases hcase with ⟨h0, rfl⟩ | ⟨h0, x, ce, rfl, hx1, hx2, hx3⟩
  · obtain ⟨T', X', -, -, ht⟩ := X₁.outOf (g := F0 m pc ls rest) rfl (by rw [hb]; exact hdg) hend hW2 hsame
    have hh : s₂.heap = T'.heap := by rw [ht]; exact State.heap_setTop _ _
    rw [hh] at hp1 hF'
    obtain ⟨t2, a1, b1⟩ := kk0 h0 T'.heap (locs ++ L) (x_repl hP hD hC hok hw' hp1 hF'.2 (x_at hC)) (x_fst hD hfst) (x_replS (isC := isC) hS hFc hF'.1 hF'.2 hL) T' rfl X'
    refine ⟨t2, hstep₁ _ (fun acts => ?_), b1⟩
    rw [doInvoke_state]
    rw [ht] at hsteps
    exact hsteps.trans a1
  · obtain ⟨T', X', -, -, ht⟩ := X₁.outOfThrown (g := F0 m pc ls rest) rfl hend hW2 hsame
    have hh : s₂.heap = T'.heap := by rw [ht]; exact throwing_heap _ _ _
    rw [hh] at hp1 hF' hx1
    obtain ⟨t2, a1, b1⟩ := kk1 h0 T'.heap (locs ++ L) x ce (x_repl hP hD hC hok hw' hp1 hF'.2 (x_at hC)) (x_fst hD hfst) (x_replS (isC := isC) hS hFc hF'.1 hF'.2 hL) hx1 hx2 (by
      have h5 : (T.setVm vm₁).vm.findClass (xEn th) = some ce.cls := hx3
      rw [← hwarm.alike.findClass]
      exact h5) T' rfl X'
    refine ⟨t2, hstep₁ _ (fun acts => ?_), b1⟩
    rw [doInvoke_state]
    rw [ht] at hsteps
    exact hsteps.trans a1
end XT2
