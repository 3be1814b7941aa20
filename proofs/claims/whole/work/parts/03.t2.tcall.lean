-- contracts of methods that may throw, and their calls
def xMet (l : Launch) (y : MethodName) (ws : List Cond) (rm : Room) (Pc : Array Value → State → Prop) (Qc : Array Value → State → Outcome → State → Prop) (mc ms : Nat) (free : Addr → Prop) : Prop :=
  MetFree l y (headSpec ws rm) Pc (fun _ _ _ _ _ => True) (fun a st o t => Qc a st o t ∧ ∃ L, (st.WarmedH t.vm ∧ st.sameButNew ({ t with vm := st.vm } : State) L mc ms) ∧ ∀ q ∈ L, free q.base)
def xMQ (below : List Frame) (Qc : Array Value → State → Outcome → State → Prop) (a : Array Value) (s : State) (mc ms : Nat) (free : Addr → Prop) : State → Prop := fun t =>
  ∃ o, t.status = .running ∧ Ended t below o ∧ Qc a s o t ∧ ∃ L, (s.WarmedH t.vm ∧ s.sameButNew ({ t with vm := s.vm } : State) L mc ms) ∧ ∀ q ∈ L, free q.base
theorem xMet_ofW {l : Launch} {y : MethodName} {ws ws' : List Cond} {rm : Room} {Pc : Array Value → State → Prop} {Qc : Array Value → State → Outcome → State → Prop} {mc ms : Nat} {free : Addr → Prop} {cc : ByteArray} {maxL : Nat} {ret : Option FieldType}
    (hy : plainName y.cls = true) (hw : ws = Cond.code y cc maxL ret :: ws')
    (body : ∀ p e s m args below meth c s₁, BodyLoose p l y (headSpec ws rm) cc maxL ret e s m args below meth c s₁ → c.maxLocals = maxL → Pc args s →
      W p l e (headSpec ws rm).room s m args below meth c s.heap [] 0 0 (xMQ below Qc args s mc ms free) (entryFrame m args maxL)) : xMet l y ws rm Pc Qc mc ms free := by
  refine MetFree.of_bodyS (code := cc) (maxLocals := maxL) (ret := ret) hy ?_ ?_
  · intro args s m h hn
    obtain ⟨meth, c, h1, h2, h3, h4, h5, h6, -, -⟩ := Cond.code_spec hn (atoms_spec (ws := ws) h _ (by rw [hw]; exact List.mem_cons_self))
    exact ⟨meth, c, h1, h2, h3, h4, h5, h6⟩
  · intro p e s m args below meth c s₁ B hml hP _
    have hh0 : s₁.heap = s.heap := by rw [B.state]; rfl
    obtain ⟨t, a1, o, b1, b2, b3⟩ := body p e s m args below meth c s₁ B hml hP s₁ hh0 (Stand.of_body B)
    exact ⟨t, o, a1, b1, b2, ⟨b3.1, b3.2⟩⟩
abbrev xPT (D : va_G) (tys : List (ClassId × FieldType)) (ws : va_W) (sz : Nat) : State → Prop := fun U => xP D tys ws sz U ∧ xW U
abbrev xQT (D : va_G) (w1 : va_W) (A : Nat → Prop) (th : Nat) (rv : Option Value) : Array Value → State → Outcome → State → Prop := fun _ st oc t => va_P D vwCl w1 t.heap ∧ va_F A st t ∧ ((th = 0 ∧ oc = .returned rv) ∨ (th ≠ 0 ∧ ∃ (x : Nat) (ce : Cell), oc = .threw x ∧ t.heap[x]? = some ce ∧ ce.vm = .none ∧ st.vm.findClass (xEn th) = some ce.cls))
section XT1
variable {p : Program} {l : Launch} {e : Env} {R : Room} {s : State} {m : MethodId} {args : Array Value} {below : List Frame} {meth : Method} {c : Code} {H : Heap} {locs : List Loc} {cells slots : Nat} {Q : State → Prop}
variable {pc : Nat} {ls : Array Slot} {rest st0 : List Value} {A : Nat → Prop} {H0 : Heap} {D : va_G} {tys : List (ClassId × FieldType)} {ws wc w1 : va_W} {rv : Option Value}
variable {cc bytes : ByteArray} {nL maxL index n : Nat} {own C : String} {y : MethodName} {ret : Option FieldType} {rm : Room} {b : Addr} {As : List Value} {ci : Nat} {q : vw_C} {fs : List Value} {th : Nat}
theorem x_ret {Qc : Array Value → State → Outcome → State → Prop} {mc ms : Nat} {free : Addr → Prop} {g : JFrame} (k : W p l e R s m args below meth c H locs cells slots (MQ below Qc args s mc ms free) g) : W p l e R s m args below meth c H locs cells slots (xMQ below Qc args s mc ms free) g := by
  intro T hT X
  obtain ⟨t, a1, o, b1, b2, b3, L, ⟨-, b5, b6⟩, b7⟩ := k T hT X
  exact ⟨t, a1, o, b1, b2, b3, L, ⟨b5, b6⟩, b7⟩
set_option maxHeartbeats 4000000 in
theorem x_throw (hx : p.tables.exec = Jvm.exec) (hb : c.code = cc) (htr : l.stackTraces = false) (hml : c.maxLocals = nL) (hsz : ls.size = nL) (hown : s.vm.findClass "FaultRules" = some m.cls) (hT : ∀ w ∈ xT, w.before args s = true) (hW : xW s)
    (hNS : ∀ (q : Nat) (cell : Cell), A q → s.heap[q]? = some cell → cell.vm.isStatics = false) (hP : va_P D vwCl ws H) (hS : va_S A s.heap H locs) (hA : ∀ q, s.heap.size ≤ q → A q) (hlocks : meth.locks = false) (hnh : c.exceptionTable.toList = [])
    (k : Nat) (hk : k ≠ 0) {ik is ic : Nat} {tx : String} (katoms : ∀ a ∈ Bundle.ownAtoms "FaultRules" ic (xEn k) xUp, a ∈ xT ∨ a ∈ xEv ++ xSt) (kcl : Cond.classLink "FaultRules" ik (xEn k) ∈ xT) (kini : Cond.initialized (xEn k) ∈ xT) (kins : Cond.instantiable (xEn k) 6 ∈ xT) (kstr : (is, tx) ∈ xStr) (hfit : Bundle.fit (xEn k) = true)
    (d0 : decode cc pc = .ok (.new ik, 3)) (d3 : decode cc (pc + 3) = .ok (.dup, 1)) (d4 : decode cc (pc + 4) = .ok (.ldc is, 2)) (d6 : decode cc (pc + 6) = .ok (.invokespecial ic, 3)) (d9 : decode cc (pc + 9) = .ok (.athrow, 1))
    (hRf : 5 < R.frames) (hRl : 90 ≤ R.locals) (hRc : 1 ≤ R.cells) (hRs : 6 ≤ R.slots) :
    W p l e R s m args below meth c H locs 0 0 (xMQ below (xQT D ws A k rv) args s 1 6 A) (F0 m pc ls []) := by
  have hall : ∀ a ∈ Bundle.ownAtoms "FaultRules" ic (xEn k) xUp, a.before args s = true := by
    intro a ha
    rcases katoms a ha with h | h
    · exact hT a h
    · rcases List.mem_append.mp h with h2 | h2
      · exact va_tabs (x_evt a h2) rfl (hW.1 a h)
      · have h3 := hW.1 a h
        rcases List.mem_cons.mp h2 with rfl | h2
        · exact h3
        · rcases List.mem_cons.mp h2 with rfl | h2
          · exact h3
          · rcases List.mem_cons.mp h2 with rfl | h2
            · exact h3
            · rcases List.mem_cons.mp h2 with rfl | h2
              · exact h3
              · cases h2
  obtain ⟨cX, kX0, hfX, hkX0, -⟩ := Cond.instantiable_spec (hT _ kins)
  refine W.newcK (cC := cX) hx hb hown (hT _ kcl) (hT _ kins) (hT _ kini) (g := F0 m pc ls []) rfl d0 (by omega) (by omega) hfX rfl (fun H1 kX hkX hcellA hsz1 hold => ?_)
  refine W.eq (g2 := F0 m (pc + 3) ls [.ref H.size]) rfl ?_
  refine lv_dup hx hb d3 rfl ?_
  obtain ⟨sa, hZ⟩ := hW.2.1 _ kstr
  refine va_ldcS hx hb hown hZ d4 ?_
  refine W.eq (g2 := F0 m (pc + 6) ls [.ref sa, .ref H.size, .ref H.size]) rfl ?_
  intro T hT1 X
  have htr' : e.platform.stackTraces = false := by rw [X.admits.platform]; exact htr
  obtain ⟨V', ce, L, hVh, X2, hL, hcls, hvm, st⟩ := x_ctor X hx htr' (own := "FaultRules") (cls := xEn k) (names := xUp) (ic := ic) hown hfit (by decide +kernel) hall
    (fun y hy cell hc => hNS y.base cell (hS.2.2 y hy) hc) hfX hkX (by rw [hT1]; exact hcellA) hS.1 (msg := .ref sa) rfl (g := F0 m (pc + 6) ls [.ref sa, .ref H.size, .ref H.size]) rfl (hsz.trans hml.symm) (rest := []) rfl (by rw [hb]; exact d6)
    hRf (by show 2 * 0 + (1 + 0) + (13 * 3 + 42) ≤ R.locals; omega)
  obtain ⟨hwalk, hrun, hended, hWU, hsame⟩ := X2.athrowLeaves hx (g := F0 m (pc + 9) ls [.ref H.size]) rfl rfl rfl (fun z hz => by rw [hnh] at hz; cases hz) (a := H.size) (rest := []) rfl (by rw [hb]; exact d9) hlocks
  have hlt : H.size < V'.heap.size := by rw [hVh, hT1, hsz1]; exact Nat.lt_succ_self _
  have hself : (V'.setCell H.size ce).heap[H.size]? = some ce := heapAt_setCell_self (s := V') ce hlt
  have hoth : ∀ q : Nat, q < H.size → (V'.setCell H.size ce).heap[q]? = H[q]? := by
    intro q hq
    have h1 : (V'.setCell H.size ce).heap[q]? = V'.heap[q]? := by simp [State.setCell, Array.getElem?_setIfInBounds, Nat.ne_of_gt hq]
    rw [h1, hVh, hT1]
    exact hold q hq
  refine ⟨_, st _ hwalk, .threw H.size, hrun, hended, ⟨?_, ?_, Or.inr ⟨hk, H.size, ce, rfl, hself, hvm, by rw [hcls]; exact hfX⟩⟩, locs ++ L, ⟨hWU, hsame⟩, ?_⟩
  · intro j z hz
    have h1 := hP j z hz
    exact va_at.kept h1 (hoth z.1 (va_at.lt h1))
  · refine ⟨?_, fun q h1 h2 => ?_⟩
    · have : (V'.setCell H.size ce).heap.size = H.size + 1 := by rw [size_setCell, hVh, hT1, hsz1]
      show s.heap.size ≤ (V'.setCell H.size ce).heap.size
      rw [this]
      exact Nat.le_succ_of_le hS.1
    · show (V'.setCell H.size ce).heap[q]? = s.heap[q]?
      rw [hoth q (Nat.lt_of_lt_of_le h1 hS.1)]
      exact hS.2.1 q h1 h2
  · intro z hz
    rcases List.mem_append.mp hz with h | h
    · exact hS.2.2 z h
    · rw [hL z h]
      exact hA _ hS.1
end XT1
theorem x_nh {p : Program} {l : Launch} {x : MethodName} {S : Spec} {code : ByteArray} {maxLocals : Nat} {ret : Option FieldType} {e : Env} {s : State} {m : MethodId} {args : Array Value} {below : List Frame} {meth : Method} {c : Code} {s₁ : State}
    (B : BodyLoose p l x S code maxLocals ret e s m args below meth c s₁) (h : (Cond.code x code maxLocals ret).before args s = true) : c.exceptionTable.toList = [] := by
  have h1 := B.noHandlers h
  have h2 : c.exceptionTable = #[] := Array.isEmpty_iff.mp h1
  rw [h2]
