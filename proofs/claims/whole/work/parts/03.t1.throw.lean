-- THROWS: what a 'throw new E("..")' of the class does, out of the library's law of such a constructor
abbrev xSt : List Cond := [.laysStatic Bundle.tN "UNASSIGNED_STACK" Bundle.steD, .laysStatic Bundle.tN "SUPPRESSED_SENTINEL" Bundle.listD, .isRef (.static Bundle.tN "UNASSIGNED_STACK" Bundle.steD), .isRef (.static Bundle.tN "SUPPRESSED_SENTINEL" Bundle.listD)]
abbrev xUp : List String := ["java/lang/RuntimeException", "java/lang/Exception"]
def xEn (n : Nat) : String := if n = 1 then "java/lang/IllegalArgumentException" else "java/lang/IllegalStateException"
section XTH
variable {p : Program} {l : Launch} {e : Env} {R : Room} {s : State} {m₀ : MethodId} {args : Array Value} {below : List Frame} {meth : Method} {c : Code} {V : State} {locs : List Loc} {cells slots : Nat}
set_option maxHeartbeats 4000000 in
theorem x_ctor (X : Stand p l e R s m₀ args below meth c V locs cells slots) (hexec : p.tables.exec = Jvm.exec) (htr : e.platform.stackTraces = false) {own cls : String} {names : List String} {ic : Nat}
    (hown : s.vm.findClass own = some m₀.cls) (hcls : Bundle.fit cls = true) (hnames : ∀ n ∈ names, Bundle.fit n = true)
    (h : ∀ a ∈ Bundle.ownAtoms own ic cls names, a.before args s = true)
    (hlocs : ∀ x ∈ locs, ∀ cell, s.heap[x.base]? = some cell → cell.vm.isStatics = false)
    {a : Addr} {cX : ClassId} {kX : Class} (hfoundX : s.vm.findClass cls = some cX) (hkX : s.vm.classes[cX]? = some kX) (hcell : V.heap[a]? = some (freshCell cX kX)) (hnew : s.heap.size ≤ a)
    {msg : Value} (hmsg : msg.isRef = true)
    {g : JFrame} (hg : g.method = m₀) (hsize : g.locals.size = c.maxLocals) {rest : List Value} (hstack : g.stack = msg :: .ref a :: .ref a :: rest)
    (hd6 : decode c.code g.pc = .ok (.invokespecial ic, 3))
    (hRframes : names.length + 3 < R.frames) (hRlocals : 2 * g.monitorRoom + ((Value.ref a :: rest).map fun v => v.category).sum + (13 * (names.length + 1) + 42) ≤ R.locals) :
    ∃ (V' : State) (ce : Cell) (L : List Loc), V'.heap = V.heap ∧ Stand p l e R s m₀ args below meth c (V'.setCell a ce) (locs ++ L) cells slots ∧ (∀ y ∈ L, y.base = a) ∧ ce.cls = cX ∧ ce.vm = .none ∧
      ∀ target, Steps p.tables e below ((V'.setCell a ce).setTop { g with stack := .ref a :: rest, pc := g.pc + 3 }) target → Steps p.tables e below (V.setTop g) target := by
  have howns : e.platform.frameOwnsMonitors = true := by rw [X.admits.platform]
  have hfin : e.platform.finalization = false := by rw [X.admits.platform]
  have hpl : e.platform.magicAccessors = ({} : Platform).magicAccessors := by rw [X.admits.platform]
  have wd : ∀ x, x ∈ Bundle.ownAtoms own ic cls names → x.holds args s none s [] = true := fun x hx => h x hx
  obtain ⟨T, Z0, L, -, Y⟩ := ThrowableC.of_atoms (args := args) howns hfin hpl (fun x hx => h x (by simp [Bundle.ownAtoms, hx]))
  obtain ⟨Z, M, LZ, LM, hnZ⟩ := Init0T.ofS_atoms (args := args) hpl L Y (fun x hx => h x (by simp [Bundle.ownAtoms, hx]))
  obtain ⟨P1, Ps, hlen, L1, hL, hP1m, hlink1, hlink⟩ := Bundle.chainS (args := args) hpl hnZ names cls hcls hnames (fun x hx => h x (by simp [Bundle.ownAtoms, hx]))
  have hfound : s.vm.findClass cls = some P1.m.cls := findClass_of_methodNamed hP1m
  cases Option.some.inj (hfoundX.symm.trans hfound)
  obtain ⟨c1, kX', hc1, hk, hord, -, -, hn6⟩ := Cond.instantiable_spec (wd (.instantiable cls 6) (by simp [Bundle.ownAtoms]))
  cases Option.some.inj (hc1.symm.trans hfound)
  cases Option.some.inj (hkX.symm.trans hk)
  have sel : ∀ {y : MethodName} {k : MethodId}, (Cond.selects cls y y).before args s = true → s.methodNamed? y = some k → (y.cls ≠ "java/lang/invoke/MethodHandle" ∧ y.cls ≠ "java/lang/invoke/VarHandle") → selectMethod e.platform s.vm P1.m.cls k = .method k := by
    intro y k hy hk2 hne
    obtain ⟨c2, r2, m2, q1, q2, q3, q4, -⟩ := Cond.selects_spec hy
    cases Option.some.inj (q1.symm.trans hfound)
    cases Option.some.inj (q2.symm.trans (State.methodFound?_of_named hk2 hne))
    cases Option.some.inj (q3.symm.trans hk2)
    rw [Launch.admits_selectMethod X.admits]; exact q4
  have hsel0 := sel (wd (.selects cls Bundle.tFill0 Bundle.tFill0) (by simp [Bundle.ownAtoms])) Y.fill0 (by decide)
  have hselF := sel (wd (.selects cls Bundle.tFill Bundle.tFill) (by simp [Bundle.ownAtoms])) Y.fill (by decide)
  obtain ⟨cellS0, hcS0, hiss⟩ := Y.statics
  obtain ⟨u0, hu0⟩ := Cond.staticRefV Y.unassigned L.unassignedStatic L.statics hcS0 hiss (wd (.isRef (.static Bundle.tN "UNASSIGNED_STACK" Bundle.steD)) (by simp [Bundle.ownAtoms]))
  obtain ⟨sen, hsen⟩ := Cond.staticRefV Y.sentinel L.sentinelStatic L.statics hcS0 hiss (wd (.isRef (.static Bundle.tN "SUPPRESSED_SENTINEL" Bundle.listD)) (by simp [Bundle.ownAtoms]))
  obtain ⟨ci198, i198, fB, hk198, hg198, ha198, hsB, -, hnB, htB, hffB⟩ := Cond.ownField (t := .object "java/lang/Object") Y.found L.cls (by decide +kernel) (wd (.fieldLink Bundle.tN 198 Bundle.tN "backtrace" "Ljava/lang/Object;") (by simp [Bundle.ownAtoms])) (wd (.lays Bundle.tN Bundle.tN "backtrace" "Ljava/lang/Object;") (by simp [Bundle.ownAtoms])) e.platform hpl
  obtain ⟨cellS, hcS', heS, -, hkeep⟩ := X.same.2.2.2.2.2 T.aS cellS0 hcS0
  have hcellS : V.heap[T.aS]? = some cellS := hcS'
  have hout' : ∀ i, (⟨T.aS, i⟩ : Loc) ∉ locs := fun i hmem => by
    have := hlocs _ hmem cellS0 hcS0
    rw [hiss] at this; cases this
  have hknownS : cellS.vm ≠ .unknown := by
    rw [heS]; intro hu
    rw [show cellS0.vm = .unknown from hu] at hiss
    cases hiss
  have hneS : T.aS ≠ a := Nat.ne_of_lt (Nat.lt_of_lt_of_le (Array.getElem?_eq_some_iff.mp hcS0).1 hnew)
  obtain ⟨iM, hffM⟩ := Y.msg
  obtain ⟨tyC, dC, hdC, hdnC⟩ := Cond.laysAt hfound hk Y.cause (wd (.lays cls Bundle.tN "cause" "Ljava/lang/Throwable;") (by simp [Bundle.ownAtoms]))
  obtain ⟨tyS, dS, hdS, hdnS⟩ := Cond.laysAt hfound hk Y.stack (wd (.lays cls Bundle.tN "stackTrace" Bundle.steD) (by simp [Bundle.ownAtoms]))
  obtain ⟨tyP, dP, hdP, hdnP⟩ := Cond.laysAt hfound hk Y.supp (wd (.lays cls Bundle.tN "suppressedExceptions" Bundle.listD) (by simp [Bundle.ownAtoms]))
  obtain ⟨tyM, dM, hdM, hdnM⟩ := Cond.laysAt hfound hk hffM (wd (.lays cls Bundle.tN "detailMessage" "Ljava/lang/String;") (by simp [Bundle.ownAtoms]))
  obtain ⟨tyB, dB, hdB, hdnB⟩ := Cond.laysAt hfound hk hffB (wd (.lays cls Bundle.tN "backtrace" "Ljava/lang/Object;") (by simp [Bundle.ownAtoms]))
  have bC := Cond.laysApart hdB hdC hdnB hdnC (by rw [hnB, Y.causeName]; decide)
  have bS := Cond.laysApart hdB hdS hdnB hdnS (by rw [hnB, Y.stackName]; decide)
  have bP := Cond.laysApart hdB hdP hdnB hdnP (by rw [hnB, Y.suppName]; decide)
  have hskip : SkipFacts T e.platform s (fun u => u) u0 ((preparedCellV T.toThrowableT (freshCell P1.m.cls kX) a u0 sen).withEntry V.cur) :=
    ⟨{ ci198 := ci198, i198 := i198, fBack := fB }, ⟨hk198, hg198, ha198, hsB⟩, by
      have := fresh_default (c := P1.m.cls) tyB
      rw [htB] at this
      simpa [preparedCellV, Cell.setSlot, Cell.withEntry, Array.getElem?_setIfInBounds, bC, bS, bP, bC.symm, bS.symm, bP.symm, defaultValue] using this, fun _ _ => rfl⟩
  obtain ⟨tm, methC, cdC, kC, vm₁, hnC, -, -, -, -, -, -, -, hW₁, st1⟩ := Steps.initColdS (tb := p.tables) (e := e) (below := below) (s := s) (U := V) X.here hexec X.warmed hpl hown (t := Bundle.initS cls) rfl rfl (Bundle.fit_spec hcls).2
    (wd (.methodLink own ic (Bundle.initS cls)) (by simp [Bundle.ownAtoms])) (h (.instanceMethod (Bundle.initS cls)) (by cases names <;> simp [Bundle.ownAtoms, Bundle.chainSAtoms, Bundle.passSAtoms])) (bytes := Bundle.six) (maxL := 2) (h (.code (Bundle.initS cls) Bundle.six 2 none) (by cases names <;> simp [Bundle.ownAtoms, Bundle.chainSAtoms, Bundle.passSAtoms]))
    (f := g) hg (a := a) (msg := msg) (rest := .ref a :: rest) hstack hd6
  cases Option.some.inj (hnC.symm.trans hP1m)
  have X₁ := X.noted hW₁
  obtain ⟨vm₂, X₂, st2⟩ := X₁.ctorMessageOffV hexec (g := { g with stack := .ref a :: rest }) hg hsize T L Z LZ M LM (P1 :: Ps)
    (fun P hP => by rcases List.mem_cons.mp hP with rfl | hP; exact L1; exact hL P hP) ⟨hlink1, hlink⟩ (u0 := u0) (sen := sen) (self := a) hmsg (cell := freshCell P1.m.cls kX) (cellS := cellS)
    hcell (fun _ => by simp) (by simp) rfl rfl hsel0 hselF hcellS hneS hknownS (by rw [hkeep _ (hout' _)]; exact hu0) (by rw [hkeep _ (hout' _)]; exact hsen)
    (Takes.of_laid hk hord tyC (by rw [Y.causeType]; rfl)) (Takes.of_laid hk hord tyS (by rw [Y.stackType]; exact fits_refV_array _ u0)) (Takes.of_laid hk hord tyP (by rw [Y.suppType]; exact fits_refV_object _ sen))
    (Takes.of_laid hk hord tyM (by rw [Y.msgType]; exact fits_refV_object _ ⟨msg, hmsg⟩)) Y.objLocals hskip htr [] hd6
    (by simp only [List.length_cons, hlen]; omega) (by simp only [List.length_cons, hlen]; exact hRlocals)
  refine ⟨(V.setVm vm₁).setVm vm₂, _, _, rfl, X₂, fun y hy => ?_, rfl, rfl, fun target hwalk => st1 _ (fun acts => ?_)⟩
  · simp only [List.mem_cons, List.not_mem_nil, or_false] at hy
    rcases hy with rfl | rfl | rfl | rfl | rfl <;> rfl
  · rw [doInvoke_state]
    exact st2 _ hwalk
end XTH
/-- words of the tables and of Throwable's two statics that are no 'good words' -/
abbrev xEv : List Cond := [.castable "java/lang/IllegalArgumentException" "java/lang/IllegalArgumentException", .castable "java/lang/IllegalStateException" "java/lang/IllegalStateException", .declares (Bundle.initS "java/lang/RuntimeException"), .declares (Bundle.initS "java/lang/Exception"), .declares (Bundle.initS "java/lang/Throwable")]
theorem x_evk : ∀ w ∈ xEv ++ xSt, w.keepsFace = true := by decide +kernel
theorem x_evt : ∀ w ∈ xEv, w.onTables = true := by decide +kernel
theorem x_ff {S U : State} (hvm : U.vm = S.vm) (o n d : String) : U.fieldFound? o n d = S.fieldFound? o n d := by
  unfold State.fieldFound?
  rw [hvm]
theorem x_laysSt {S U : State} {o n d : String} (hvm : U.vm = S.vm) (hst : ∀ (a : Nat) (cell : Cell), S.heap[a]? = some cell → cell.vm.isStatics = true → U.heap[a]? = some cell) (h : (Cond.laysStatic o n d).before #[] S = true) : (Cond.laysStatic o n d).before #[] U = true := by
  simp only [Cond.before, Cond.holds, Cond.value, beq_iff_eq] at h ⊢
  rw [x_ff hvm, hvm]
  cases h1 : S.vm.findClass o with
  | none => simp [h1] at h
  | some c =>
    cases h2 : S.fieldFound? o n d with
    | none => simp [h1, h2] at h
    | some q =>
      obtain ⟨c', k, i, f⟩ := q
      cases h3 : k.statics with
      | none => simp [h1, h2, h3] at h
      | some a =>
        cases h4 : S.heap[a]? with
        | none => simp [h1, h2, h3, h4] at h
        | some cell =>
          simp only [h1, h2, h3, h4, Option.bind_some, Option.map_some, Option.some.injEq, Bool.and_eq_true] at h
          have h5 := hst a cell h4 h.1.1.1.2
          simp only [h3, h5, Option.bind_some, Option.map_some, Option.some.injEq, Bool.and_eq_true]
          exact h
theorem x_isRefSt {S U : State} {o n d : String} (hvm : U.vm = S.vm) (hst : ∀ (a : Nat) (cell : Cell), S.heap[a]? = some cell → cell.vm.isStatics = true → U.heap[a]? = some cell) (h : (Cond.isRef (.static o n d)).before #[] S = true) : (Cond.isRef (.static o n d)).before #[] U = true := by
  have key : ∀ v, (Term.static o n d).eval #[] S none [] S = some v → (Term.static o n d).eval #[] U none [] U = some v := by
    intro v hv
    simp only [Term.eval, State.fieldNamed?, x_ff hvm] at hv ⊢
    cases h2 : S.fieldFound? o n d with
    | none => simp [h2] at hv
    | some q =>
      obtain ⟨c', k, i, f⟩ := q
      cases h0 : f.isStatic with
      | false => simp [h2, h0] at hv
      | true =>
        cases h3 : k.statics with
        | none => simp [h2, h0, h3] at hv
        | some a =>
          cases h4 : S.heap[a]? with
          | none => simp [h2, h0, h3, h4] at hv
          | some cell =>
            cases h6 : cell.vm.isStatics with
            | false => simp [h2, h0, h3, h4, h6] at hv
            | true =>
              have h5 := hst a cell h4 h6
              simpa [h2, h0, h3, h4, h5, h6] using hv
  simp only [Cond.before, Cond.holds, Cond.value] at h ⊢
  cases hv : (Term.static o n d).eval #[] S none [] S with
  | none => simp [hv] at h
  | some v => rw [key v hv]; rw [hv] at h; exact h
abbrev xStr : List (Nat × String) := [(69, "no such point, minute or value"), (84, "the row is not behind the latest one, or there are too many"), (91, "no such point or minute"), (103, "the point has nothing yet"), (109, "a character that the text can't have"), (115, "the text would be too long"), (121, "so many characters there are not"), (135, "no such stretch of minutes"), (140, "there are no rules"), (147, "no such fault or question"), (149, "there is no run"), (158, "no such rule"), (166, "no such rule, test or minute"), (172, "no such point, stretch of minutes or part"), (179, "no such minute"), (182, "too many minutes would be left out"), (189, "no such cause or rules")]
abbrev xW (U : State) : Prop := (∀ w ∈ xEv ++ xSt, w.before #[] U = true) ∧ (∀ q ∈ xStr, ∃ a : Nat, vk_R "FaultRules" q.1 q.2 a U) ∧ va_Nc "java/lang/IllegalStateException" "java/lang/IllegalArgumentException" U
theorem x_Wmove {S U : State} (hW : S.WarmedH U.vm) (hst : ∀ (a : Nat) (cell : Cell), S.heap[a]? = some cell → cell.vm.isStatics = true → U.heap[a]? = some cell) (h : xW S) : xW U := by
  refine ⟨fun w hw => ?_, fun q hq => ?_, va_Nc.moved hW.alike h.2.2⟩
  · have h1 : w.before #[] (S.setVm U.vm) = true := Cond.before_shiftedFace (State.Shifted.of_warmed hW) w (x_evk w hw) (h.1 w hw)
    rcases List.mem_append.mp hw with h2 | h2
    · exact va_tabs (u := S.setVm U.vm) (U := U) (x_evt w h2) rfl h1
    · rcases List.mem_cons.mp h2 with rfl | h2
      · exact x_laysSt (S := S.setVm U.vm) rfl hst h1
      · rcases List.mem_cons.mp h2 with rfl | h2
        · exact x_laysSt (S := S.setVm U.vm) rfl hst h1
        · rcases List.mem_cons.mp h2 with rfl | h2
          · exact x_isRefSt (S := S.setVm U.vm) rfl hst h1
          · rcases List.mem_cons.mp h2 with rfl | h2
            · exact x_isRefSt (S := S.setVm U.vm) rfl hst h1
            · cases h2
  · obtain ⟨a, ha⟩ := h.2.1 q hq
    exact ⟨a, vk_R.warm hW ha⟩
/-- no cell of a world is a class's statics -/
theorem x_noSt {D : va_G} {cl : List vw_C} {ws : va_W} {H : Heap} (hP : va_P D cl ws H) (q : Nat) (cell : Cell) (hq : va_A ws H.size q) (hc : H[q]? = some cell) : cell.vm.isStatics = false := by
  rcases hq with ⟨k, e, hk⟩ | h
  · have h1 := hP k _ hk
    cases e with
    | inl a =>
      have h2 : H[q]? = some (vp_cell a.1 a.2) := h1
      rw [hc] at h2
      cases h2
      obtain ⟨cA, n, f⟩ := a
      rcases f with f | f | f | f | f <;> rfl
    | inr o =>
      obtain ⟨r, -, cell2, g1, g2, g3, -⟩ := h1
      rw [hc] at g1
      cases g1
      rw [g3]; rfl
  · exact absurd (Array.getElem?_eq_some_iff.mp hc).1 (Nat.not_lt.mpr h)
theorem x_stH {A : Nat → Prop} {H0 H : Heap} {locs : List Loc} (hS : va_S A H0 H locs) (hNS : ∀ (q : Nat) (cell : Cell), A q → H0[q]? = some cell → cell.vm.isStatics = false) : ∀ (a : Nat) (cell : Cell), H0[a]? = some cell → cell.vm.isStatics = true → H[a]? = some cell := by
  intro a cell hc hs
  rw [hS.2.1 a (Array.getElem?_eq_some_iff.mp hc).1 (fun hA => by rw [hNS a cell hA hc] at hs; cases hs)]
  exact hc
