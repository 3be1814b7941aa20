-- BASE: pure combinators that the written functions use, and one row a call
def bd {α : Type} (i : Int32) (n : Nat) (k : Option α) : Option α := if i < 0 ∨ n ≤ i.toNatClampNeg then none else k
theorem o_in {α : Type} {i : Int32} {n : Nat} {k : Option α} {t : α} (h : bd i n k = some t) : vp_in i n ∧ k = some t := by
  unfold bd at h
  by_cases hc : i < 0 ∨ n ≤ i.toNatClampNeg
  · rw [if_pos hc] at h; cases h
  · rw [if_neg hc] at h; exact ⟨hc, h⟩
theorem o_pos {α : Type} {c : Prop} {d : Decidable c} {a b y : α} (hc : c) (h : @ite α c d a b = y) : a = y := by
  rw [if_pos hc] at h; exact h
theorem o_neg {α : Type} {c : Prop} {d : Decidable c} {a b y : α} (hc : ¬ c) (h : @ite α c d a b = y) : b = y := by
  rw [if_neg hc] at h; exact h
theorem o_bind {α β : Type} {o : Option α} {k : α → Option β} {t : β} (h : o.bind k = some t) : ∃ x, o = some x ∧ k x = some t := by
  cases o with
  | none => cases h
  | some x => exact ⟨x, rfl, h⟩
def zb {α : Type} (r : Int32) (k : Option α) : Option α := if r &&& 1 = r then k else none
theorem o_zb {α : Type} {r : Int32} {k : Option α} {t : α} (h : zb r k = some t) : narrow .boolean (.int r) = .int r ∧ k = some t := by
  unfold zb at h
  by_cases hc : r &&& 1 = r
  · rw [if_pos hc] at h; exact ⟨by show Value.int (r &&& 1) = .int r; rw [hc], h⟩
  · rw [if_neg hc] at h; cases h
def zc {α : Type} (r : Int32) (k : Option α) : Option α := if r.toUInt32.toUInt16.toUInt32.toInt32 = r then k else none
theorem o_zc {α : Type} {r : Int32} {k : Option α} {t : α} (h : zc r k = some t) : narrow .char (.int r) = .int r ∧ k = some t := by
  unfold zc at h
  by_cases hc : r.toUInt32.toUInt16.toUInt32.toInt32 = r
  · rw [if_pos hc] at h; exact ⟨by show Value.int (r.toUInt32.toUInt16.toUInt32.toInt32) = .int r; rw [hc], h⟩
  · rw [if_neg hc] at h; cases h
def nzI {α : Type} (y : Int32) (k : Option α) : Option α := if y = 0 then none else k
theorem o_nzI {α : Type} {y : Int32} {k : Option α} {t : α} (h : nzI y k = some t) : (¬ y = 0) ∧ k = some t := by
  unfold nzI at h
  by_cases hc : y = 0
  · rw [if_pos hc] at h; cases h
  · rw [if_neg hc] at h; exact ⟨hc, h⟩
def nzL {α : Type} (y : Int64) (k : Option α) : Option α := if y = 0 then none else k
theorem o_nzL {α : Type} {y : Int64} {k : Option α} {t : α} (h : nzL y k = some t) : (¬ y = 0) ∧ k = some t := by
  unfold nzL at h
  by_cases hc : y = 0
  · rw [if_pos hc] at h; cases h
  · rw [if_neg hc] at h; exact ⟨hc, h⟩
def cp {α : Type} (sp dp n : Int32) (n0 n1 : Nat) (k : Option α) : Option α := if (¬ sp < 0) ∧ (¬ dp < 0) ∧ (¬ n < 0) ∧ sp.toNatClampNeg + n.toNatClampNeg ≤ n0 ∧ dp.toNatClampNeg + n.toNatClampNeg ≤ n1 then k else none
theorem o_cp {α : Type} {sp dp n : Int32} {n0 n1 : Nat} {k : Option α} {t : α} (h : cp sp dp n n0 n1 k = some t) : (¬ sp < 0) ∧ (¬ dp < 0) ∧ (¬ n < 0) ∧ sp.toNatClampNeg + n.toNatClampNeg ≤ n0 ∧ dp.toNatClampNeg + n.toNatClampNeg ≤ n1 ∧ k = some t := by
  unfold cp at h
  by_cases hc : (¬ sp < 0) ∧ (¬ dp < 0) ∧ (¬ n < 0) ∧ sp.toNatClampNeg + n.toNatClampNeg ≤ n0 ∧ dp.toNatClampNeg + n.toNatClampNeg ≤ n1
  · rw [if_pos hc] at h; exact ⟨hc.1, hc.2.1, hc.2.2.1, hc.2.2.2.1, hc.2.2.2.2, h⟩
  · rw [if_neg hc] at h; cases h
abbrev xTy (cI cL cC : ClassId) : List (ClassId × FieldType) := [(cI, .int), (cL, .long), (cC, .char)]
abbrev xNw : Cond := Cond.methodLinkNest "FaultRules$Text" (59 : Nat) ({ cls := "FaultRules", name := "isPoint", desc := "(I)Z" } : Jvm.MethodName) "FaultRules"
abbrev xP (D : va_G) (tys : List (ClassId × FieldType)) (ws : va_W) (sz : Nat) : State → Prop := fun U => U.heap.size = sz ∧ va_P D vwCl ws U.heap ∧ va_K D vwCl tys U ∧ va_Nw xNw U ∧ va_D (fun _ => True) ws
abbrev xQ (D : va_G) (w1 : va_W) (A : Nat → Prop) (rv : Option Value) : Array Value → State → Outcome → State → Prop := fun _ st oc t => oc = .returned rv ∧ va_P D vwCl w1 t.heap ∧ va_F A st t
def x_src (ws w1 : va_W) : Nat ⊕ Nat → Option (Nat × va_E)
  | .inl i => ws[i]?
  | .inr j => w1[j]?
def x_ok (isC : List Nat) : Nat → List (Nat ⊕ Nat) → Bool
  | _, [] => true
  | k, .inl i :: r => (i == k) && (!isC.contains i) && x_ok isC (k + 1) r
  | k, .inr _ :: r => x_ok isC (k + 1) r
theorem x_ok_get {isC : List Nat} : ∀ (src : List (Nat ⊕ Nat)) (k0 k i : Nat), x_ok isC k0 src = true → src[k]? = some (.inl i) → i = k0 + k ∧ i ∉ isC := by
  intro src
  induction src with
  | nil => intro k0 k i _ h; cases h
  | cons a r ih =>
    intro k0 k i h hk
    cases k with
    | zero =>
      have ha : a = .inl i := Option.some.inj hk
      subst ha
      simp only [x_ok, Bool.and_eq_true, beq_iff_eq, Bool.not_eq_true', List.contains_eq_mem, decide_eq_false_iff_not] at h
      exact ⟨h.1.1, h.1.2⟩
    | succ k =>
      have h2 : x_ok isC (k0 + 1) r = true := by
        cases a with
        | inl j => simp only [x_ok, Bool.and_eq_true] at h; exact h.2
        | inr j => simpa only [x_ok] using h
      obtain ⟨e1, e2⟩ := ih (k0 + 1) k i h2 (by simpa using hk)
      exact ⟨by omega, e2⟩
theorem x_wget {ws w1 w' : va_W} {src : List (Nat ⊕ Nat)} (hw' : src.map (x_src ws w1) = w'.map some) {k : Nat} {z : Nat × va_E} (hk : w'[k]? = some z) : ∃ t, src[k]? = some t ∧ x_src ws w1 t = some z := by
  have h1 : (src.map (x_src ws w1))[k]? = some (some z) := by rw [hw', List.getElem?_map, hk]; rfl
  rw [List.getElem?_map] at h1
  cases h2 : src[k]? with
  | none => rw [h2] at h1; cases h1
  | some t => rw [h2] at h1; exact ⟨t, rfl, Option.some.inj h1⟩
theorem x_repl {D : va_G} {A : Nat → Prop} {ws wc w1 w' : va_W} {H T1 : Heap} {isC : List Nat} {src : List (Nat ⊕ Nat)} (hP : va_P D vwCl ws H) (hD : va_D A ws) (hC : isC.map (fun i => ws[i]?) = wc.map some) (hok : x_ok isC 0 src = true) (hw' : src.map (x_src ws w1) = w'.map some) (hp1 : va_P D vwCl w1 T1) (hk' : ∀ q : Nat, q < H.size → ¬ va_A wc H.size q → T1[q]? = H[q]?) (hat : ∀ {k : Nat} {q : Nat × va_E}, wc[k]? = some q → ∃ i, isC[k]? = some i ∧ ws[i]? = some q) : va_P D vwCl w' T1 := by
  intro k z hz
  obtain ⟨t, h1, h2⟩ := x_wget hw' hz
  cases t with
  | inr j => exact hp1 j z h2
  | inl i =>
    obtain ⟨e1, e2⟩ := x_ok_get src 0 k i hok h1
    have h3 : ws[i]? = some z := h2
    have hlt := va_at.lt (hP i z h3)
    refine va_at.kept (hP i z h3) (hk' z.1 hlt ?_)
    rintro (⟨k2, e3, h4⟩ | h4)
    · obtain ⟨i2, hi1, hi2⟩ := hat h4
      have := hD.1 i2 i (z.1, e3) z hi2 h3 rfl
      subst this
      exact e2 (List.mem_of_getElem? hi1)
    · exact absurd hlt (Nat.not_lt.mpr h4)
theorem x_fst {A : Nat → Prop} {ws w1 : va_W} (hD : va_D A ws) (hf : w1.map Prod.fst = ws.map Prod.fst) : va_D A w1 := by
  have key : ∀ (k : Nat) (q : Nat × va_E), w1[k]? = some q → ∃ q0, ws[k]? = some q0 ∧ q0.1 = q.1 := by
    intro k q hk
    have h1 : (w1.map Prod.fst)[k]? = some q.1 := by rw [List.getElem?_map, hk]; rfl
    rw [hf, List.getElem?_map] at h1
    cases h2 : ws[k]? with
    | none => rw [h2] at h1; cases h1
    | some q0 => rw [h2] at h1; exact ⟨q0, rfl, Option.some.inj h1⟩
  refine ⟨fun i j p q hi hj hpq => ?_, fun k q hk => ?_⟩
  · obtain ⟨p0, a1, b1⟩ := key i p hi
    obtain ⟨q0, a2, b2⟩ := key j q hj
    exact hD.1 i j p0 q0 a1 a2 (by rw [b1, b2]; exact hpq)
  · obtain ⟨q0, a1, b1⟩ := key k q hk
    rw [← b1]
    exact hD.2 k q0 a1
theorem x_at {ws wc : va_W} {is : List Nat} (hC : is.map (fun i => ws[i]?) = wc.map some) {k : Nat} {q : Nat × va_E} (hk : wc[k]? = some q) : ∃ i, is[k]? = some i ∧ ws[i]? = some q := by
  have h1 : (is.map (fun i => ws[i]?))[k]? = some (some q) := by rw [hC, List.getElem?_map, hk]; rfl
  rw [List.getElem?_map] at h1
  cases h2 : is[k]? with
  | none => rw [h2] at h1; cases h1
  | some i => rw [h2] at h1; exact ⟨i, rfl, Option.some.inj h1⟩
theorem x_subP {D : va_G} {cl : List vw_C} {ws wc : va_W} {H : Heap} {is : List Nat} (hP : va_P D cl ws H) (hC : is.map (fun i => ws[i]?) = wc.map some) : va_P D cl wc H := by
  intro k q hk
  obtain ⟨i, -, hi⟩ := x_at hC hk
  exact hP i q hi
section XC
variable {p : Program} {l : Launch} {e : Env} {R : Room} {s : State} {m : MethodId} {args : Array Value} {below : List Frame} {meth : Method} {c : Code} {H : Heap} {locs : List Loc} {cells slots : Nat} {Q : State → Prop}
variable {pc : Nat} {ls : Array Slot} {rest st0 : List Value} {a : Array Value} {A : Nat → Prop} {H0 : Heap} {D : va_G} {tys : List (ClassId × FieldType)} {ws wc w1 w' : va_W} {rv : Option Value}
theorem x_call (hr : va_Run p l e R s m args below meth c H locs cells slots 0 0 (F0 m pc ls st0) rest (xQ D w1 (va_A wc H.size) rv a) (va_A wc H.size)) (hP : va_P D vwCl ws H) (hD : va_D A ws) (hS : va_S A H0 H locs) (hA : ∀ q, H0.size ≤ q → A q) (isC : List Nat) (hC : isC.map (fun i => ws[i]?) = wc.map some) (src : List (Nat ⊕ Nat)) (hok : x_ok isC 0 src = true) (hw' : src.map (x_src ws w1) = w'.map some) (hfst : w'.map Prod.fst = ws.map Prod.fst)
    (kk : ∀ (H1 : Heap) (locs1 : List Loc), va_P D vwCl w' H1 → va_D A w' → va_S A H0 H1 locs1 → W p l e R s m args below meth c H1 locs1 cells slots Q (F0 m (pc + 3) ls (rv.toList ++ rest))) : W p l e R s m args below meth c H locs cells slots Q (F0 m pc ls st0) := by
  have hFc := va_free hD hS hA isC hC
  intro T hT X
  obtain ⟨v, st₀, t, T', L, h0, X', hL, e1, e2, ⟨hv, hp1, hz, hk⟩, st⟩ := hr T hT X
  cases hv
  rw [h0] at hz hk
  have hk' : ∀ q : Nat, q < H.size → ¬ va_A wc H.size q → T'.heap[q]? = H[q]? := fun q h1 h2 => by rw [e1]; exact hk q h1 h2
  have hP' : va_P D vwCl w' T'.heap := x_repl hP hD hC hok hw' (by rw [e1]; exact hp1) hk' (x_at hC)
  obtain ⟨t2, a1, b1⟩ := kk T'.heap (locs ++ L) hP' (x_fst hD hfst)
    ⟨Nat.le_trans hS.1 (by rw [e1]; exact hz), fun q h1 h2 => by rw [hk' q (Nat.lt_of_lt_of_le h1 hS.1) (fun z => h2 (hFc q z))]; exact hS.2.1 q h1 h2, fun q hq => by
      rcases List.mem_append.mp hq with h | h
      · exact hS.2.2 q h
      · exact hFc _ (hL q h)⟩ T' rfl X'
  exact ⟨t2, st t2 a1, b1⟩
end XC
theorem x_good {ws : List Cond} (h : ∀ w ∈ ws, w ∈ xT) : GoodIn xT ws := fun w hw => ⟨h w hw, good_of_word (lw_good w (h w hw))⟩
theorem x_goodC {y : MethodName} {bytes : ByteArray} {maxL : Nat} {ret : Option FieldType} (k5 : Cond.code y bytes maxL ret ∈ xT) : GoodIn xT (Cond.code y bytes maxL ret :: xT) := x_good fun w hw => by
  rcases List.mem_cons.mp hw with rfl | h
  · exact k5
  · exact h
section XV
variable {p : Program} {l : Launch} {e : Env} {R : Room} {s : State} {m : MethodId} {args : Array Value} {below : List Frame} {meth : Method} {c : Code} {H : Heap} {locs : List Loc} {cells slots : Nat} {Q : State → Prop}
variable {pc : Nat} {ls : Array Slot} {rest st0 : List Value} {a : Array Value} {A : Nat → Prop} {H0 : Heap} {D : va_G} {tys : List (ClassId × FieldType)} {ws wc w1 w' : va_W} {rv : Option Value}
variable {cc bytes : ByteArray} {nL maxL index n : Nat} {own C host : String} {y : MethodName} {ret : Option FieldType} {rm : Room} {b : Addr} {As : List Value} {ci : Nat} {q : vw_C} {fs : List Value}
theorem x_blind {av : List Value} {sz : Nat} : FrameBlind (va_Pc av (xP D tys wc sz)) := fun a U g mk q => by
  obtain ⟨q0, q1, qP, qK, qN, qD⟩ := q
  exact ⟨q0, q1, qP, va_K.moved (u := U) (U := U.calling g mk a) (Vm.Alike.refl U.vm) qK, va_tabs (u := U) (U := U.calling g mk a) rfl rfl qN, qD⟩
theorem x_pre {av : List Value} (hK : va_K D vwCl tys s) (hN : va_Nw xNw s) (hP : va_P D vwCl ws H) (hD : va_D A ws) (isC : List Nat) (hnd : va_nd isC = true) (hC : isC.map (fun i => ws[i]?) = wc.map some) : ∀ U : State, U.heap = H → s.WarmedH U.vm → va_Pc av (xP D tys wc H.size) av.toArray U := fun U hU hW =>
  ⟨rfl, by rw [hU], by rw [hU]; exact x_subP hP hC, va_K.moved hW.alike hK, va_Nw.warmM hW hN, (hD.sub isC hnd hC).weaken (fun _ _ _ _ => trivial)⟩
theorem x_virt (hx : p.tables.exec = Jvm.exec) (hb : c.code = cc) (hml : c.maxLocals = nL) (hsz : ls.size = nL) (hown : s.vm.findClass own = some m.cls) (hT : ∀ w ∈ xT, w.before args s = true)
    (hK : va_K D vwCl tys s) (hN : va_Nw xNw s) (hP : va_P D vwCl ws H) (hD : va_D A ws) (hS : va_S A H0 H locs) (hA : ∀ q, H0.size ≤ q → A q)
    (hM : Met l y (Cond.code y bytes maxL ret :: xT) rm (va_Pc (.ref b :: As) (xP D tys wc H.size)) (xQ D w1 (va_A wc H.size) rv) 0 0 (va_A wc H.size))
    (k1 : Cond.methodLink own index y ∈ xT) (k2 : Cond.instanceMethod y ∈ xT) (k3 : Cond.selects C y y ∈ xT) (k4 : Cond.initialized y.cls ∈ xT) (k5 : Cond.code y bytes maxL ret ∈ xT)
    (hd : y.cls ≠ "java/lang/invoke/MethodHandle" ∧ y.cls ≠ "java/lang/invoke/VarHandle" ∧ (parseMethodDescriptor y.desc).map (fun d => d.parameters.length) = some n) (hn : As.length = n)
    (q0 : Nat) (he : ws[q0]? = some (b, .inr (ci, fs))) (hc : vwCl[ci]? = some q) (hq : q.1 = C) (hR : rm.frames + 1 ≤ R.frames ∧ 8 + (maxL + 11) + rm.locals ≤ R.locals) (hrc : rm.cells = 0) (hrs : rm.slots = 0) (hcR : cells + 0 ≤ R.cells ∧ slots + 0 ≤ R.slots)
    (hst : st0 = As.reverse ++ .ref b :: rest) (hw : (rest.map fun v => v.category).sum ≤ 8) (hdg : decode cc pc = .ok (.invokevirtual index, 3))
    (isC : List Nat) (hC : isC.map (fun i => ws[i]?) = wc.map some) (hnd : va_nd isC = true) (src : List (Nat ⊕ Nat)) (hok : x_ok isC 0 src = true) (hw' : src.map (x_src ws w1) = w'.map some) (hfst : w'.map Prod.fst = ws.map Prod.fst)
    (kk : ∀ (H1 : Heap) (locs1 : List Loc), va_P D vwCl w' H1 → va_D A w' → va_S A H0 H1 locs1 → W p l e R s m args below meth c H1 locs1 cells slots Q (F0 m (pc + 3) ls (rv.toList ++ rest))) : W p l e R s m args below meth c H locs cells slots Q (F0 m pc ls st0) := by
  subst hq
  refine x_call (va_runV (As := As) (rest := rest) (b := b) (C := q.1) ⟨hx, hb, hml, hown, hT⟩ hM ⟨callB_of n hT (x_goodC k5) rfl hrc hrs (hT _ k4) (hT _ k1) hd hR, hT _ k2, hT _ k3⟩ ⟨x_blind, va_recv hK hP hc he, x_pre hK hN hP hD isC hnd hC⟩ rfl hn hsz hst (lv_room hw) hdg hcR) hP hD hS hA isC hC src hok hw' hfst kk
theorem x_stat (hx : p.tables.exec = Jvm.exec) (hb : c.code = cc) (hml : c.maxLocals = nL) (hsz : ls.size = nL) (hown : s.vm.findClass own = some m.cls) (hT : ∀ w ∈ xT, w.before args s = true)
    (hK : va_K D vwCl tys s) (hN : va_Nw xNw s) (hP : va_P D vwCl ws H) (hD : va_D A ws) (hS : va_S A H0 H locs) (hA : ∀ q, H0.size ≤ q → A q)
    (hM : Met l y (Cond.code y bytes maxL ret :: xT) rm (va_Pc As (xP D tys wc H.size)) (xQ D w1 (va_A wc H.size) rv) 0 0 (va_A wc H.size))
    (k1 : Cond.methodLink own index y ∈ xT) (k2 : Cond.static y ∈ xT) (k4 : Cond.initialized y.cls ∈ xT) (k5 : Cond.code y bytes maxL ret ∈ xT)
    (hd : y.cls ≠ "java/lang/invoke/MethodHandle" ∧ y.cls ≠ "java/lang/invoke/VarHandle" ∧ (parseMethodDescriptor y.desc).map (fun d => d.parameters.length) = some n) (hn : As.length = n)
    (hR : rm.frames + 1 ≤ R.frames ∧ 8 + (maxL + 11) + rm.locals ≤ R.locals) (hrc : rm.cells = 0) (hrs : rm.slots = 0) (hcR : cells + 0 ≤ R.cells ∧ slots + 0 ≤ R.slots)
    (hst : st0 = As.reverse ++ rest) (hw : (rest.map fun v => v.category).sum ≤ 8) (hdg : decode cc pc = .ok (.invokestatic index, 3))
    (isC : List Nat) (hC : isC.map (fun i => ws[i]?) = wc.map some) (hnd : va_nd isC = true) (src : List (Nat ⊕ Nat)) (hok : x_ok isC 0 src = true) (hw' : src.map (x_src ws w1) = w'.map some) (hfst : w'.map Prod.fst = ws.map Prod.fst)
    (kk : ∀ (H1 : Heap) (locs1 : List Loc), va_P D vwCl w' H1 → va_D A w' → va_S A H0 H1 locs1 → W p l e R s m args below meth c H1 locs1 cells slots Q (F0 m (pc + 3) ls (rv.toList ++ rest))) : W p l e R s m args below meth c H locs cells slots Q (F0 m pc ls st0) := by
  refine x_call (va_runS (As := As) (rest := rest) ⟨hx, hb, hml, hown, hT⟩ hM ⟨callB_of n hT (x_goodC k5) rfl hrc hrs (hT _ k4) (hT _ k1) hd hR, hT _ k2⟩ ⟨x_blind, x_pre hK hN hP hD isC hnd hC⟩ rfl hn hsz hst (lv_room hw) hdg hcR) hP hD hS hA isC hC src hok hw' hfst kk
theorem x_statN (hx : p.tables.exec = Jvm.exec) (hb : c.code = cc) (hml : c.maxLocals = nL) (hsz : ls.size = nL) (hown : s.vm.findClass own = some m.cls) (hT : ∀ w ∈ xT, w.before args s = true)
    (hK : va_K D vwCl tys s) (hN : va_Nw xNw s) (hP : va_P D vwCl ws H) (hD : va_D A ws) (hS : va_S A H0 H locs) (hA : ∀ q, H0.size ≤ q → A q)
    (hM : Met l y (Cond.code y bytes maxL ret :: xT) rm (va_Pc As (xP D tys wc H.size)) (xQ D w1 (va_A wc H.size) rv) 0 0 (va_A wc H.size))
    (k1 : va_Nw (Cond.methodLinkNest own index y host) s) (k2 : Cond.static y ∈ xT) (k4 : Cond.initialized y.cls ∈ xT) (k5 : Cond.code y bytes maxL ret ∈ xT)
    (hd : y.cls ≠ "java/lang/invoke/MethodHandle" ∧ y.cls ≠ "java/lang/invoke/VarHandle" ∧ (parseMethodDescriptor y.desc).map (fun d => d.parameters.length) = some n) (hn : As.length = n)
    (hR : rm.frames + 1 ≤ R.frames ∧ 8 + (maxL + 11) + rm.locals ≤ R.locals) (hrc : rm.cells = 0) (hrs : rm.slots = 0) (hcR : cells + 0 ≤ R.cells ∧ slots + 0 ≤ R.slots)
    (hst : st0 = As.reverse ++ rest) (hw : (rest.map fun v => v.category).sum ≤ 8) (hdg : decode cc pc = .ok (.invokestatic index, 3))
    (isC : List Nat) (hC : isC.map (fun i => ws[i]?) = wc.map some) (hnd : va_nd isC = true) (src : List (Nat ⊕ Nat)) (hok : x_ok isC 0 src = true) (hw' : src.map (x_src ws w1) = w'.map some) (hfst : w'.map Prod.fst = ws.map Prod.fst)
    (kk : ∀ (H1 : Heap) (locs1 : List Loc), va_P D vwCl w' H1 → va_D A w' → va_S A H0 H1 locs1 → W p l e R s m args below meth c H1 locs1 cells slots Q (F0 m (pc + 3) ls (rv.toList ++ rest))) : W p l e R s m args below meth c H locs cells slots Q (F0 m pc ls st0) := by
  refine x_call (va_runSN (As := As) (rest := rest) ⟨hx, hb, hml, hown, hT⟩ hM ⟨va_cnB n hT (x_goodC k5) rfl hrc hrs k1 (hT _ k4) hd hR, hT _ k2, trivial⟩ ⟨x_blind, x_pre hK hN hP hD isC hnd hC⟩ rfl hn hsz hst (lv_room hw) hdg hcR) hP hD hS hA isC hC src hok hw' hfst kk
-- switches
theorem x_ne {x v : Int32} (h : ¬ x = v) : ¬ v.toInt = x.toInt := fun h2 => h (Int32.toInt_inj.mp h2.symm)
theorem x_tabIn (hexec : p.tables.exec = Jvm.exec) (hb : c.code = cc) {dflt lo hi : Int} {offs : Array Int} {len : Nat} {x v : Int32} {off : Int} {tgt : Nat} (hdg : decode cc pc = .ok (.tableswitch dflt lo hi offs, len)) (hv : x = v) (h1 : ¬ v.toInt < lo) (h2 : ¬ hi < v.toInt) (ho : offs[(v.toInt - lo).toNat]? = some off) (ht : (pc : Int) + off = (tgt : Int))
    (k : W p l e R s m args below meth c H locs cells slots Q (F0 m tgt ls rest)) : W p l e R s m args below meth c H locs cells slots Q (F0 m pc ls (.int x :: rest)) := by
  subst hv
  exact lv_tableIn hexec hb hdg h1 h2 ho ht k
theorem x_lookIn (hexec : p.tables.exec = Jvm.exec) (hb : c.code = cc) {dflt : Int} {ps : Array (Int × Int)} {len : Nat} {x v : Int32} {off : Int} {tgt : Nat} (hdg : decode cc pc = .ok (.lookupswitch dflt ps, len)) (hv : x = v) (hp : (ps.toList.zip (ps.toList.drop 1)).all (fun (a, next) => a.1 < next.1) = true) (ho : Op.lookupswitch.offset ps.toList dflt v.toInt = off) (ht : (pc : Int) + off = (tgt : Int))
    (k : W p l e R s m args below meth c H locs cells slots Q (F0 m tgt ls rest)) : W p l e R s m args below meth c H locs cells slots Q (F0 m pc ls (.int x :: rest)) := by
  subst hv
  exact lv_lookup hexec hb hdg hp ho ht k
theorem x_lo : ∀ (l : List (Int × Int)) (d k : Int), (∀ q ∈ l, ¬ q.1 = k) → Op.lookupswitch.offset l d k = d := by
  intro l d k
  induction l with
  | nil => intro _; rfl
  | cons q l ih =>
    intro h
    obtain ⟨a, o⟩ := q
    rw [Op.lookupswitch.offset_cons, if_neg (h (a, o) List.mem_cons_self)]
    exact ih fun q hq => h q (List.mem_cons_of_mem _ hq)
theorem x_f0 {P : Int32 → Prop} : ∀ v ∈ ([] : List Int32), P v := fun _ h => absurd h List.not_mem_nil
theorem x_fa {P : Int32 → Prop} {v : Int32} {vs : List Int32} (h : P v) (hs : ∀ w ∈ vs, P w) : ∀ w ∈ v :: vs, P w := fun w hw => by
  rcases List.mem_cons.mp hw with rfl | h2
  · exact h
  · exact hs w h2
theorem x_lookOut (hexec : p.tables.exec = Jvm.exec) (hb : c.code = cc) {dflt : Int} {ps : Array (Int × Int)} {len : Nat} {x : Int32} {tgt : Nat} (hdg : decode cc pc = .ok (.lookupswitch dflt ps, len)) (vs : List Int32) (hp : (ps.toList.zip (ps.toList.drop 1)).all (fun (a, next) => a.1 < next.1) = true) (hvs : ps.toList.map Prod.fst = vs.map Int32.toInt) (h : ∀ v ∈ vs, ¬ x = v) (ht : (pc : Int) + dflt = (tgt : Int))
    (k : W p l e R s m args below meth c H locs cells slots Q (F0 m tgt ls rest)) : W p l e R s m args below meth c H locs cells slots Q (F0 m pc ls (.int x :: rest)) := by
  refine lv_lookup hexec hb hdg hp (x_lo _ _ _ fun q hq => ?_) ht k
  have h1 : q.1 ∈ vs.map Int32.toInt := by rw [← hvs]; exact List.mem_map.mpr ⟨q, hq, rfl⟩
  obtain ⟨v, hv, h2⟩ := List.mem_map.mp h1
  rw [← h2]
  exact x_ne (h v hv)
end XV
