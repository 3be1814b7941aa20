theorem x_arr {args : Array Value} {s : State} {ty : FieldType} (h : (Cond.arrayClass ty).before args s = true) : ∃ cA, s.vm.findClass ("[" ++ ty.toString) = some cA ∧ ArrOfT s cA ty := by
  simp only [Cond.before, Cond.holds, Cond.value] at h
  cases h1 : s.vm.findClass ("[" ++ ty.toString) with
  | none => simp [h1] at h
  | some cA =>
    cases h2 : s.vm.classes[cA]? with
    | none => simp [h1, h2] at h
    | some kA =>
      cases h3 : kA.kind with
      | array comp ty2 =>
        simp [h1, h2, h3] at h
        subst h
        exact ⟨cA, rfl, fun n z => ⟨fun k h => (by cases h), kA, h2, comp, h3⟩⟩
      | _ => simp [h1, h2, h3] at h
theorem x_memN : xNw ∈ lw_tbl := by decide +kernel
theorem x_vk {args : Array Value} {s : State} {k : Nat} {tx : String} {c : ClassId} (hown : s.vm.findClass "FaultRules" = some c) (h : (Cond.stringRef "FaultRules" k tx).before args s = true) : ∃ a : Nat, vk_R "FaultRules" k tx a s := by
  obtain ⟨-, -, -, sa, -, -, -, -, -, hev⟩ := Cond.stringRef_spec hown h
  exact ⟨sa, vk_R.of (A := args) h hev⟩
theorem x_strs : ∀ q ∈ xStr, Cond.stringRef "FaultRules" q.1 q.2 ∈ lw_tbl := by decide +kernel
theorem x_evs : ∀ w ∈ xEv, w ∈ lw_tbl := by decide +kernel
theorem x_Wstart {b : Nat} {s : State} (hts : ∀ w ∈ lw_tbl, w.before #[Value.ref b] s = true) (hgv : (Jvm.Cond.and given_1 narrow_1).before #[Value.ref b] s = true) : xW s := by
  have hs := flat_of_before _ hgv
  obtain ⟨c, k0, hc, -⟩ := Cond.instantiable_spec (hts (.instantiable "FaultRules" 8) (by decide +kernel))
  refine ⟨fun w hw => ?_, fun q hq => x_vk hc (hts _ (x_strs q hq)), va_Nc.of (hs _ (by decide +kernel))⟩
  rcases List.mem_append.mp hw with h2 | h2
  · exact va_tabs (x_evt w h2) rfl (hts w (x_evs w h2))
  · rcases List.mem_cons.mp h2 with rfl | h2
    · exact hts (.laysStatic Bundle.tN "UNASSIGNED_STACK" Bundle.steD) (by decide +kernel)
    · rcases List.mem_cons.mp h2 with rfl | h2
      · exact hts (.laysStatic Bundle.tN "SUPPRESSED_SENTINEL" Bundle.listD) (by decide +kernel)
      · rcases List.mem_cons.mp h2 with rfl | h2
        · exact hs (.isRef (.static Bundle.tN "UNASSIGNED_STACK" Bundle.steD)) (by decide +kernel)
        · rcases List.mem_cons.mp h2 with rfl | h2
          · exact hs (.isRef (.static Bundle.tN "SUPPRESSED_SENTINEL" Bundle.listD)) (by decide +kernel)
          · cases h2
theorem x_NIstart {b : Nat} {s : State} (hts : ∀ w ∈ lw_tbl, w.before #[Value.ref b] s = true) : xNI s :=
  ⟨va_Nw.of rfl (hts _ (by decide +kernel)), va_Nw.of rfl (hts _ (by decide +kernel)), va_Nw.of rfl (hts _ (by decide +kernel)), va_Nw.of rfl (hts _ (by decide +kernel)), va_Nw.of rfl (hts _ (by decide +kernel)), va_Nw.of rfl (hts _ (by decide +kernel))⟩
theorem x_blindI {D : va_G} {tys : List (ClassId × FieldType)} {wc : va_W} {av : List Value} {sz : Nat} : FrameBlind (va_Pc av (fun U => xP D tys wc sz U ∧ xNI U)) := fun a U g mk q => by
  obtain ⟨q0, q1, n0, n1, n2, n3, n4, n5⟩ := q
  have h1 := x_blind (D := D) (tys := tys) (wc := wc) (av := av) (sz := sz) a U g mk ⟨q0, q1⟩
  exact ⟨h1.1, h1.2, va_tabs (u := U) (U := U.calling g mk a) rfl rfl n0, va_tabs (u := U) (U := U.calling g mk a) rfl rfl n1, va_tabs (u := U) (U := U.calling g mk a) rfl rfl n2, va_tabs (u := U) (U := U.calling g mk a) rfl rfl n3, va_tabs (u := U) (U := U.calling g mk a) rfl rfl n4, va_tabs (u := U) (U := U.calling g mk a) rfl rfl n5⟩
theorem x_preI {s : State} {A : Nat → Prop} {H : Heap} {D : va_G} {tys : List (ClassId × FieldType)} {ws wc : va_W} {av : List Value} (hK : va_K D vwCl tys s) (hN : va_Nw xNw s) (hNI : xNI s) (hP : va_P D vwCl ws H) (hD : va_D A ws) (isC : List Nat) (hnd : va_nd isC = true) (hC : isC.map (fun i => ws[i]?) = wc.map some) : ∀ U : State, U.heap = H → s.WarmedH U.vm → va_Pc av (fun U => xP D tys wc H.size U ∧ xNI U) av.toArray U := fun U hU hW => by
  obtain ⟨n0, n1, n2, n3, n4, n5⟩ := hNI
  have h1 := x_pre (av := av) hK hN hP hD isC hnd hC U hU hW
  exact ⟨h1.1, h1.2, va_Nw.warmM hW n0, va_Nw.warmM hW n1, va_Nw.warmM hW n2, va_Nw.warmM hW n3, va_Nw.warmM hW n4, va_Nw.warmM hW n5⟩
