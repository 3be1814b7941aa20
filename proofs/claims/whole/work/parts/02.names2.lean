theorem d_Reader_read_30 : decode prog_3_method_2_code 30 = .ok (.aload_n 0, 1) := by decide +kernel
theorem d_Reader_read_31 : decode prog_3_method_2_code 31 = .ok (.aload_n 1, 1) := by decide +kernel
theorem d_Reader_read_32 : decode prog_3_method_2_code 32 = .ok (.aload_n 2, 1) := by decide +kernel
theorem d_Reader_read_33 : decode prog_3_method_2_code 33 = .ok (.invokevirtual 28, 3) := by decide +kernel
theorem d_Reader_read_36 : decode prog_3_method_2_code 36 = .ok (.ifCond .eq 13, 3) := by decide +kernel
theorem d_Reader_read_39 : decode prog_3_method_2_code 39 = .ok (.aload_n 1, 1) := by decide +kernel
theorem d_Reader_read_40 : decode prog_3_method_2_code 40 = .ok (.invokevirtual 32, 3) := by decide +kernel
theorem d_Reader_read_43 : decode prog_3_method_2_code 43 = .ok (.iinc 3 1, 3) := by decide +kernel
theorem d_Reader_read_46 : decode prog_3_method_2_code 46 = .ok (.goto (-30), 3) := by decide +kernel
theorem d_Reader_read_49 : decode prog_3_method_2_code 49 = .ok (.aload_n 1, 1) := by decide +kernel
theorem d_Reader_read_50 : decode prog_3_method_2_code 50 = .ok (.getfield 25, 3) := by decide +kernel
theorem d_Reader_read_53 : decode prog_3_method_2_code 53 = .ok (.ifCond .ne 17, 3) := by decide +kernel
theorem d_Reader_read_56 : decode prog_3_method_2_code 56 = .ok (.aload_n 0, 1) := by decide +kernel
theorem d_Reader_read_57 : decode prog_3_method_2_code 57 = .ok (.getfield 11, 3) := by decide +kernel
theorem d_Reader_read_60 : decode prog_3_method_2_code 60 = .ok (.ifCond .ne 10, 3) := by decide +kernel
theorem d_Reader_read_63 : decode prog_3_method_2_code 63 = .ok (.aload_n 2, 1) := by decide +kernel
theorem d_Reader_read_64 : decode prog_3_method_2_code 64 = .ok (.getfield 15, 3) := by decide +kernel
theorem d_Reader_read_67 : decode prog_3_method_2_code 67 = .ok (.goto 6, 3) := by decide +kernel
theorem d_Reader_read_70 : decode prog_3_method_2_code 70 = .ok (.iconst (-1), 1) := by decide +kernel
theorem d_Reader_read_71 : decode prog_3_method_2_code 71 = .ok (.iload_n 3, 1) := by decide +kernel
theorem d_Reader_read_72 : decode prog_3_method_2_code 72 = .ok (.isub, 1) := by decide +kernel
theorem d_Reader_read_73 : decode prog_3_method_2_code 73 = .ok (.ireturn, 1) := by decide +kernel
theorem kM_Reader_20 : Cond.methodLink "FaultRules$Reader" (20 : Nat) ({ cls := "FaultRules$Text", name := "readFirst", desc := "()V" } : Jvm.MethodName) ∈ xT := x_t1 rfl (i := 227) rfl
theorem kI_Text_readFirst : Cond.instanceMethod ({ cls := "FaultRules$Text", name := "readFirst", desc := "()V" } : Jvm.MethodName) ∈ xT := x_t1 rfl (i := 228) rfl
theorem kS_202 : Cond.selects "FaultRules$Text" ({ cls := "FaultRules$Text", name := "readFirst", desc := "()V" } : Jvm.MethodName) ({ cls := "FaultRules$Text", name := "readFirst", desc := "()V" } : Jvm.MethodName) ∈ xT := x_t1 rfl (i := 229) rfl
theorem kM_Reader_28 : Cond.methodLink "FaultRules$Reader" (28 : Nat) ({ cls := "FaultRules$Reader", name := "takes", desc := "(LFaultRules$Text;LFaultRules$RuleSet;)Z" } : Jvm.MethodName) ∈ xT := x_t2 rfl (i := 40) rfl
theorem kI_Reader_takes : Cond.instanceMethod ({ cls := "FaultRules$Reader", name := "takes", desc := "(LFaultRules$Text;LFaultRules$RuleSet;)Z" } : Jvm.MethodName) ∈ xT := x_t2 rfl (i := 42) rfl
theorem kS_205 : Cond.selects "FaultRules$Reader" ({ cls := "FaultRules$Reader", name := "takes", desc := "(LFaultRules$Text;LFaultRules$RuleSet;)Z" } : Jvm.MethodName) ({ cls := "FaultRules$Reader", name := "takes", desc := "(LFaultRules$Text;LFaultRules$RuleSet;)Z" } : Jvm.MethodName) ∈ xT := x_tp rfl (i := 6) rfl
theorem kM_Reader_32 : Cond.methodLink "FaultRules$Reader" (32 : Nat) ({ cls := "FaultRules$Text", name := "readNext", desc := "()V" } : Jvm.MethodName) ∈ xT := x_t2 rfl (i := 103) rfl
abbrev y_Run_clear : MethodName := { cls := "FaultRules$Run", name := "clear", desc := "()V" }
theorem kC_Run_clear : Cond.code ({ cls := "FaultRules$Run", name := "clear", desc := "()V" } : Jvm.MethodName) prog_6_method_4_code (1 : Nat) (Option.none : Option Jvm.ClassFile.FieldType) ∈ xT := x_t3 rfl (i := 46) rfl
theorem hd_Run_clear : y_Run_clear.cls ≠ "java/lang/invoke/MethodHandle" ∧ y_Run_clear.cls ≠ "java/lang/invoke/VarHandle" ∧ (parseMethodDescriptor y_Run_clear.desc).map (fun d => d.parameters.length) = some 0 := by decide +kernel
theorem d_Run_clear_0 : decode prog_6_method_4_code 0 = .ok (.aload_n 0, 1) := by decide +kernel
theorem d_Run_clear_1 : decode prog_6_method_4_code 1 = .ok (.iconst 0, 1) := by decide +kernel
theorem d_Run_clear_2 : decode prog_6_method_4_code 2 = .ok (.putfield 64, 3) := by decide +kernel
theorem d_Run_clear_5 : decode prog_6_method_4_code 5 = .ok (.aload_n 0, 1) := by decide +kernel
theorem d_Run_clear_6 : decode prog_6_method_4_code 6 = .ok (.iconst 0, 1) := by decide +kernel
theorem d_Run_clear_7 : decode prog_6_method_4_code 7 = .ok (.putfield 65, 3) := by decide +kernel
theorem d_Run_clear_10 : decode prog_6_method_4_code 10 = .ok (.aload_n 0, 1) := by decide +kernel
theorem d_Run_clear_11 : decode prog_6_method_4_code 11 = .ok (.iconst 0, 1) := by decide +kernel
theorem d_Run_clear_12 : decode prog_6_method_4_code 12 = .ok (.putfield 68, 3) := by decide +kernel
theorem d_Run_clear_15 : decode prog_6_method_4_code 15 = .ok (.aload_n 0, 1) := by decide +kernel
theorem d_Run_clear_16 : decode prog_6_method_4_code 16 = .ok (.getfield 9, 3) := by decide +kernel
theorem d_Run_clear_19 : decode prog_6_method_4_code 19 = .ok (.iconst 0, 1) := by decide +kernel
theorem d_Run_clear_20 : decode prog_6_method_4_code 20 = .ok (.invokestatic 71, 3) := by decide +kernel
theorem d_Run_clear_23 : decode prog_6_method_4_code 23 = .ok (.aload_n 0, 1) := by decide +kernel
theorem d_Run_clear_24 : decode prog_6_method_4_code 24 = .ok (.getfield 15, 3) := by decide +kernel
theorem d_Run_clear_27 : decode prog_6_method_4_code 27 = .ok (.iconst (-1), 1) := by decide +kernel
theorem d_Run_clear_28 : decode prog_6_method_4_code 28 = .ok (.invokestatic 71, 3) := by decide +kernel
theorem d_Run_clear_31 : decode prog_6_method_4_code 31 = .ok (.return_, 1) := by decide +kernel
theorem kF_Run_64 : Cond.fieldLink "FaultRules$Run" (64 : Nat) "FaultRules$Run" "count" "I" ∈ xT := x_t1 rfl (i := 97) rfl
theorem kF_Run_65 : Cond.fieldLink "FaultRules$Run" (65 : Nat) "FaultRules$Run" "total" "I" ∈ xT := x_t1 rfl (i := 99) rfl
theorem kF_Run_68 : Cond.fieldLink "FaultRules$Run" (68 : Nat) "FaultRules$Run" "faultyRules" "I" ∈ xT := x_t1 rfl (i := 101) rfl
theorem kF_Run_9 : Cond.fieldLink "FaultRules$Run" (9 : Nat) "FaultRules$Run" "minutesHeld" "[I" ∈ xT := x_t1 rfl (i := 103) rfl
theorem kF_Run_15 : Cond.fieldLink "FaultRules$Run" (15 : Nat) "FaultRules$Run" "since" "[I" ∈ xT := x_t1 rfl (i := 105) rfl
theorem kM_Run_71 : Cond.methodLink "FaultRules$Run" (71 : Nat) ({ cls := "java/util/Arrays", name := "fill", desc := "([II)V" } : Jvm.MethodName) ∈ xT := x_t3 rfl (i := 47) rfl
abbrev y_Run_goOn : MethodName := { cls := "FaultRules$Run", name := "goOn", desc := "(II)V" }
theorem kC_Run_goOn : Cond.code ({ cls := "FaultRules$Run", name := "goOn", desc := "(II)V" } : Jvm.MethodName) prog_6_method_5_code (3 : Nat) (Option.none : Option Jvm.ClassFile.FieldType) ∈ xT := x_t3 rfl (i := 78) rfl
theorem hd_Run_goOn : y_Run_goOn.cls ≠ "java/lang/invoke/MethodHandle" ∧ y_Run_goOn.cls ≠ "java/lang/invoke/VarHandle" ∧ (parseMethodDescriptor y_Run_goOn.desc).map (fun d => d.parameters.length) = some 2 := by decide +kernel
theorem d_Run_goOn_0 : decode prog_6_method_5_code 0 = .ok (.aload_n 0, 1) := by decide +kernel
theorem d_Run_goOn_1 : decode prog_6_method_5_code 1 = .ok (.getfield 9, 3) := by decide +kernel
theorem d_Run_goOn_4 : decode prog_6_method_5_code 4 = .ok (.iload_n 1, 1) := by decide +kernel
theorem d_Run_goOn_5 : decode prog_6_method_5_code 5 = .ok (.dup2, 1) := by decide +kernel
theorem d_Run_goOn_6 : decode prog_6_method_5_code 6 = .ok (.iaload, 1) := by decide +kernel
theorem d_Run_goOn_7 : decode prog_6_method_5_code 7 = .ok (.iconst 1, 1) := by decide +kernel
theorem d_Run_goOn_8 : decode prog_6_method_5_code 8 = .ok (.iadd, 1) := by decide +kernel
theorem d_Run_goOn_9 : decode prog_6_method_5_code 9 = .ok (.iastore, 1) := by decide +kernel
theorem d_Run_goOn_10 : decode prog_6_method_5_code 10 = .ok (.aload_n 0, 1) := by decide +kernel
theorem d_Run_goOn_11 : decode prog_6_method_5_code 11 = .ok (.getfield 15, 3) := by decide +kernel
theorem d_Run_goOn_14 : decode prog_6_method_5_code 14 = .ok (.iload_n 1, 1) := by decide +kernel
theorem d_Run_goOn_15 : decode prog_6_method_5_code 15 = .ok (.iaload, 1) := by decide +kernel
theorem d_Run_goOn_16 : decode prog_6_method_5_code 16 = .ok (.iconst (-1), 1) := by decide +kernel
theorem d_Run_goOn_17 : decode prog_6_method_5_code 17 = .ok (.if_icmp .ne 10, 3) := by decide +kernel
theorem d_Run_goOn_20 : decode prog_6_method_5_code 20 = .ok (.aload_n 0, 1) := by decide +kernel
theorem d_Run_goOn_21 : decode prog_6_method_5_code 21 = .ok (.getfield 15, 3) := by decide +kernel
theorem d_Run_goOn_24 : decode prog_6_method_5_code 24 = .ok (.iload_n 1, 1) := by decide +kernel
theorem d_Run_goOn_25 : decode prog_6_method_5_code 25 = .ok (.iload_n 2, 1) := by decide +kernel
theorem d_Run_goOn_26 : decode prog_6_method_5_code 26 = .ok (.iastore, 1) := by decide +kernel
theorem d_Run_goOn_27 : decode prog_6_method_5_code 27 = .ok (.return_, 1) := by decide +kernel
abbrev y_Run_ranksBefore : MethodName := { cls := "FaultRules$Run", name := "ranksBefore", desc := "(LFaultRules$RuleSet;IIII)Z" }
theorem kC_Run_ranksBefore : Cond.code ({ cls := "FaultRules$Run", name := "ranksBefore", desc := "(LFaultRules$RuleSet;IIII)Z" } : Jvm.MethodName) prog_6_method_10_code (6 : Nat) (Option.some Jvm.ClassFile.FieldType.boolean) ∈ xT := x_t3 rfl (i := 94) rfl
theorem hd_Run_ranksBefore : y_Run_ranksBefore.cls ≠ "java/lang/invoke/MethodHandle" ∧ y_Run_ranksBefore.cls ≠ "java/lang/invoke/VarHandle" ∧ (parseMethodDescriptor y_Run_ranksBefore.desc).map (fun d => d.parameters.length) = some 5 := by decide +kernel
theorem d_Run_ranksBefore_0 : decode prog_6_method_10_code 0 = .ok (.aload_n 0, 1) := by decide +kernel
theorem d_Run_ranksBefore_1 : decode prog_6_method_10_code 1 = .ok (.getfield 27, 3) := by decide +kernel
theorem d_Run_ranksBefore_4 : decode prog_6_method_10_code 4 = .ok (.iload_n 2, 1) := by decide +kernel
theorem d_Run_ranksBefore_5 : decode prog_6_method_10_code 5 = .ok (.iaload, 1) := by decide +kernel
theorem d_Run_ranksBefore_6 : decode prog_6_method_10_code 6 = .ok (.iload 5, 2) := by decide +kernel
theorem d_Run_ranksBefore_8 : decode prog_6_method_10_code 8 = .ok (.if_icmp .eq 20, 3) := by decide +kernel
theorem d_Run_ranksBefore_11 : decode prog_6_method_10_code 11 = .ok (.aload_n 0, 1) := by decide +kernel
theorem d_Run_ranksBefore_12 : decode prog_6_method_10_code 12 = .ok (.getfield 27, 3) := by decide +kernel
theorem d_Run_ranksBefore_15 : decode prog_6_method_10_code 15 = .ok (.iload_n 2, 1) := by decide +kernel
theorem d_Run_ranksBefore_16 : decode prog_6_method_10_code 16 = .ok (.iaload, 1) := by decide +kernel
theorem d_Run_ranksBefore_17 : decode prog_6_method_10_code 17 = .ok (.iload 5, 2) := by decide +kernel
theorem d_Run_ranksBefore_19 : decode prog_6_method_10_code 19 = .ok (.if_icmp .le 7, 3) := by decide +kernel
theorem d_Run_ranksBefore_22 : decode prog_6_method_10_code 22 = .ok (.iconst 1, 1) := by decide +kernel
theorem d_Run_ranksBefore_23 : decode prog_6_method_10_code 23 = .ok (.goto 4, 3) := by decide +kernel
theorem d_Run_ranksBefore_26 : decode prog_6_method_10_code 26 = .ok (.iconst 0, 1) := by decide +kernel
theorem d_Run_ranksBefore_27 : decode prog_6_method_10_code 27 = .ok (.ireturn, 1) := by decide +kernel
theorem d_Run_ranksBefore_28 : decode prog_6_method_10_code 28 = .ok (.aload_n 0, 1) := by decide +kernel
theorem d_Run_ranksBefore_29 : decode prog_6_method_10_code 29 = .ok (.getfield 18, 3) := by decide +kernel
theorem d_Run_ranksBefore_32 : decode prog_6_method_10_code 32 = .ok (.iload_n 2, 1) := by decide +kernel
theorem d_Run_ranksBefore_33 : decode prog_6_method_10_code 33 = .ok (.iaload, 1) := by decide +kernel
theorem d_Run_ranksBefore_34 : decode prog_6_method_10_code 34 = .ok (.iload_n 3, 1) := by decide +kernel
theorem d_Run_ranksBefore_35 : decode prog_6_method_10_code 35 = .ok (.if_icmp .eq 30, 3) := by decide +kernel
theorem d_Run_ranksBefore_38 : decode prog_6_method_10_code 38 = .ok (.aload_n 1, 1) := by decide +kernel
theorem d_Run_ranksBefore_39 : decode prog_6_method_10_code 39 = .ok (.getfield 104, 3) := by decide +kernel
theorem d_Run_ranksBefore_42 : decode prog_6_method_10_code 42 = .ok (.aload_n 0, 1) := by decide +kernel
theorem d_Run_ranksBefore_43 : decode prog_6_method_10_code 43 = .ok (.getfield 18, 3) := by decide +kernel
theorem d_Run_ranksBefore_46 : decode prog_6_method_10_code 46 = .ok (.iload_n 2, 1) := by decide +kernel
theorem d_Run_ranksBefore_47 : decode prog_6_method_10_code 47 = .ok (.iaload, 1) := by decide +kernel
theorem d_Run_ranksBefore_48 : decode prog_6_method_10_code 48 = .ok (.laload, 1) := by decide +kernel
theorem d_Run_ranksBefore_49 : decode prog_6_method_10_code 49 = .ok (.aload_n 1, 1) := by decide +kernel
theorem d_Run_ranksBefore_50 : decode prog_6_method_10_code 50 = .ok (.getfield 104, 3) := by decide +kernel
theorem d_Run_ranksBefore_53 : decode prog_6_method_10_code 53 = .ok (.iload_n 3, 1) := by decide +kernel
theorem d_Run_ranksBefore_54 : decode prog_6_method_10_code 54 = .ok (.laload, 1) := by decide +kernel
theorem d_Run_ranksBefore_55 : decode prog_6_method_10_code 55 = .ok (.lcmp, 1) := by decide +kernel
theorem d_Run_ranksBefore_56 : decode prog_6_method_10_code 56 = .ok (.ifCond .ge 7, 3) := by decide +kernel
theorem d_Run_ranksBefore_59 : decode prog_6_method_10_code 59 = .ok (.iconst 1, 1) := by decide +kernel
theorem d_Run_ranksBefore_60 : decode prog_6_method_10_code 60 = .ok (.goto 4, 3) := by decide +kernel
theorem d_Run_ranksBefore_63 : decode prog_6_method_10_code 63 = .ok (.iconst 0, 1) := by decide +kernel
theorem d_Run_ranksBefore_64 : decode prog_6_method_10_code 64 = .ok (.ireturn, 1) := by decide +kernel
theorem d_Run_ranksBefore_65 : decode prog_6_method_10_code 65 = .ok (.aload_n 0, 1) := by decide +kernel
theorem d_Run_ranksBefore_66 : decode prog_6_method_10_code 66 = .ok (.getfield 21, 3) := by decide +kernel
theorem d_Run_ranksBefore_69 : decode prog_6_method_10_code 69 = .ok (.iload_n 2, 1) := by decide +kernel
theorem d_Run_ranksBefore_70 : decode prog_6_method_10_code 70 = .ok (.iaload, 1) := by decide +kernel
theorem d_Run_ranksBefore_71 : decode prog_6_method_10_code 71 = .ok (.iload 4, 2) := by decide +kernel
theorem d_Run_ranksBefore_73 : decode prog_6_method_10_code 73 = .ok (.if_icmp .ge 7, 3) := by decide +kernel
theorem d_Run_ranksBefore_76 : decode prog_6_method_10_code 76 = .ok (.iconst 1, 1) := by decide +kernel
theorem d_Run_ranksBefore_77 : decode prog_6_method_10_code 77 = .ok (.goto 4, 3) := by decide +kernel
theorem d_Run_ranksBefore_80 : decode prog_6_method_10_code 80 = .ok (.iconst 0, 1) := by decide +kernel
theorem d_Run_ranksBefore_81 : decode prog_6_method_10_code 81 = .ok (.ireturn, 1) := by decide +kernel
theorem kF_Run_27 : Cond.fieldLink "FaultRules$Run" (27 : Nat) "FaultRules$Run" "faultCosts" "[I" ∈ xT := x_t1 rfl (i := 109) rfl
theorem kF_Run_18 : Cond.fieldLink "FaultRules$Run" (18 : Nat) "FaultRules$Run" "faultRules" "[I" ∈ xT := x_t1 rfl (i := 106) rfl
theorem kF_Run_21 : Cond.fieldLink "FaultRules$Run" (21 : Nat) "FaultRules$Run" "begins" "[I" ∈ xT := x_t1 rfl (i := 107) rfl
theorem kF_Run_104 : Cond.fieldLink "FaultRules$Run" (104 : Nat) "FaultRules$RuleSet" "names" "[J" ∈ xT := x_t1 rfl (i := 152) rfl
abbrev y_Run_placeOf : MethodName := { cls := "FaultRules$Run", name := "placeOf", desc := "(LFaultRules$RuleSet;III)I" }
theorem kC_Run_placeOf : Cond.code ({ cls := "FaultRules$Run", name := "placeOf", desc := "(LFaultRules$RuleSet;III)I" } : Jvm.MethodName) prog_6_method_9_code (9 : Nat) (Option.some Jvm.ClassFile.FieldType.int) ∈ xT := x_t3 rfl (i := 90) rfl
theorem hd_Run_placeOf : y_Run_placeOf.cls ≠ "java/lang/invoke/MethodHandle" ∧ y_Run_placeOf.cls ≠ "java/lang/invoke/VarHandle" ∧ (parseMethodDescriptor y_Run_placeOf.desc).map (fun d => d.parameters.length) = some 4 := by decide +kernel
theorem d_Run_placeOf_0 : decode prog_6_method_9_code 0 = .ok (.iconst 0, 1) := by decide +kernel
theorem d_Run_placeOf_1 : decode prog_6_method_9_code 1 = .ok (.istore 5, 2) := by decide +kernel
theorem d_Run_placeOf_3 : decode prog_6_method_9_code 3 = .ok (.aload_n 0, 1) := by decide +kernel
theorem d_Run_placeOf_4 : decode prog_6_method_9_code 4 = .ok (.getfield 64, 3) := by decide +kernel
theorem d_Run_placeOf_7 : decode prog_6_method_9_code 7 = .ok (.istore 6, 2) := by decide +kernel
theorem d_Run_placeOf_9 : decode prog_6_method_9_code 9 = .ok (.iconst 0, 1) := by decide +kernel
theorem d_Run_placeOf_10 : decode prog_6_method_9_code 10 = .ok (.istore 7, 2) := by decide +kernel
theorem d_Run_placeOf_12 : decode prog_6_method_9_code 12 = .ok (.iload 7, 2) := by decide +kernel
theorem d_Run_placeOf_14 : decode prog_6_method_9_code 14 = .ok (.bipush 32, 2) := by decide +kernel
theorem d_Run_placeOf_16 : decode prog_6_method_9_code 16 = .ok (.if_icmp .ge 52, 3) := by decide +kernel
theorem d_Run_placeOf_19 : decode prog_6_method_9_code 19 = .ok (.iload 5, 2) := by decide +kernel
theorem d_Run_placeOf_21 : decode prog_6_method_9_code 21 = .ok (.iload 6, 2) := by decide +kernel
theorem d_Run_placeOf_23 : decode prog_6_method_9_code 23 = .ok (.if_icmp .ge 45, 3) := by decide +kernel
theorem d_Run_placeOf_26 : decode prog_6_method_9_code 26 = .ok (.iload 5, 2) := by decide +kernel
theorem d_Run_placeOf_28 : decode prog_6_method_9_code 28 = .ok (.iload 6, 2) := by decide +kernel
theorem d_Run_placeOf_30 : decode prog_6_method_9_code 30 = .ok (.iadd, 1) := by decide +kernel
theorem d_Run_placeOf_31 : decode prog_6_method_9_code 31 = .ok (.iconst 1, 1) := by decide +kernel
theorem d_Run_placeOf_32 : decode prog_6_method_9_code 32 = .ok (.ishr, 1) := by decide +kernel
theorem d_Run_placeOf_33 : decode prog_6_method_9_code 33 = .ok (.istore 8, 2) := by decide +kernel
theorem d_Run_placeOf_35 : decode prog_6_method_9_code 35 = .ok (.aload_n 0, 1) := by decide +kernel
theorem d_Run_placeOf_36 : decode prog_6_method_9_code 36 = .ok (.aload_n 1, 1) := by decide +kernel
theorem d_Run_placeOf_37 : decode prog_6_method_9_code 37 = .ok (.iload 8, 2) := by decide +kernel
theorem d_Run_placeOf_39 : decode prog_6_method_9_code 39 = .ok (.iload_n 2, 1) := by decide +kernel
theorem d_Run_placeOf_40 : decode prog_6_method_9_code 40 = .ok (.iload_n 3, 1) := by decide +kernel
theorem d_Run_placeOf_41 : decode prog_6_method_9_code 41 = .ok (.iload 4, 2) := by decide +kernel
theorem d_Run_placeOf_43 : decode prog_6_method_9_code 43 = .ok (.invokevirtual 100, 3) := by decide +kernel
theorem d_Run_placeOf_46 : decode prog_6_method_9_code 46 = .ok (.ifCond .eq 12, 3) := by decide +kernel
theorem d_Run_placeOf_49 : decode prog_6_method_9_code 49 = .ok (.iload 8, 2) := by decide +kernel
theorem d_Run_placeOf_51 : decode prog_6_method_9_code 51 = .ok (.iconst 1, 1) := by decide +kernel
theorem d_Run_placeOf_52 : decode prog_6_method_9_code 52 = .ok (.iadd, 1) := by decide +kernel
theorem d_Run_placeOf_53 : decode prog_6_method_9_code 53 = .ok (.istore 5, 2) := by decide +kernel
theorem d_Run_placeOf_55 : decode prog_6_method_9_code 55 = .ok (.goto 7, 3) := by decide +kernel
theorem d_Run_placeOf_58 : decode prog_6_method_9_code 58 = .ok (.iload 8, 2) := by decide +kernel
theorem d_Run_placeOf_60 : decode prog_6_method_9_code 60 = .ok (.istore 6, 2) := by decide +kernel
theorem d_Run_placeOf_62 : decode prog_6_method_9_code 62 = .ok (.iinc 7 1, 3) := by decide +kernel
theorem d_Run_placeOf_65 : decode prog_6_method_9_code 65 = .ok (.goto (-53), 3) := by decide +kernel
theorem d_Run_placeOf_68 : decode prog_6_method_9_code 68 = .ok (.iload 5, 2) := by decide +kernel
theorem d_Run_placeOf_70 : decode prog_6_method_9_code 70 = .ok (.ireturn, 1) := by decide +kernel
theorem kM_Run_100 : Cond.methodLink "FaultRules$Run" (100 : Nat) ({ cls := "FaultRules$Run", name := "ranksBefore", desc := "(LFaultRules$RuleSet;IIII)Z" } : Jvm.MethodName) ∈ xT := x_t3 rfl (i := 91) rfl
theorem kN_Run : Cond.initialized "FaultRules$Run" ∈ xT := x_t1 rfl (i := 5) rfl
theorem kI_Run_ranksBefore : Cond.instanceMethod ({ cls := "FaultRules$Run", name := "ranksBefore", desc := "(LFaultRules$RuleSet;IIII)Z" } : Jvm.MethodName) ∈ xT := x_t3 rfl (i := 93) rfl
theorem kS_224 : Cond.selects "FaultRules$Run" ({ cls := "FaultRules$Run", name := "ranksBefore", desc := "(LFaultRules$RuleSet;IIII)Z" } : Jvm.MethodName) ({ cls := "FaultRules$Run", name := "ranksBefore", desc := "(LFaultRules$RuleSet;IIII)Z" } : Jvm.MethodName) ∈ xT := x_tp rfl (i := 26) rfl
abbrev y_Run_makeRoom : MethodName := { cls := "FaultRules$Run", name := "makeRoom", desc := "([II)V" }
theorem kC_Run_makeRoom : Cond.code ({ cls := "FaultRules$Run", name := "makeRoom", desc := "([II)V" } : Jvm.MethodName) prog_6_method_8_code (3 : Nat) (Option.none : Option Jvm.ClassFile.FieldType) ∈ xT := x_t3 rfl (i := 98) rfl
theorem hd_Run_makeRoom : y_Run_makeRoom.cls ≠ "java/lang/invoke/MethodHandle" ∧ y_Run_makeRoom.cls ≠ "java/lang/invoke/VarHandle" ∧ (parseMethodDescriptor y_Run_makeRoom.desc).map (fun d => d.parameters.length) = some 2 := by decide +kernel
theorem d_Run_makeRoom_0 : decode prog_6_method_8_code 0 = .ok (.aload_n 1, 1) := by decide +kernel
theorem d_Run_makeRoom_1 : decode prog_6_method_8_code 1 = .ok (.iload_n 2, 1) := by decide +kernel
theorem d_Run_makeRoom_2 : decode prog_6_method_8_code 2 = .ok (.aload_n 1, 1) := by decide +kernel
theorem d_Run_makeRoom_3 : decode prog_6_method_8_code 3 = .ok (.iload_n 2, 1) := by decide +kernel
theorem d_Run_makeRoom_4 : decode prog_6_method_8_code 4 = .ok (.iconst 1, 1) := by decide +kernel
theorem d_Run_makeRoom_5 : decode prog_6_method_8_code 5 = .ok (.iadd, 1) := by decide +kernel
theorem d_Run_makeRoom_6 : decode prog_6_method_8_code 6 = .ok (.aload_n 0, 1) := by decide +kernel
theorem d_Run_makeRoom_7 : decode prog_6_method_8_code 7 = .ok (.getfield 64, 3) := by decide +kernel
theorem d_Run_makeRoom_10 : decode prog_6_method_8_code 10 = .ok (.iload_n 2, 1) := by decide +kernel
theorem d_Run_makeRoom_11 : decode prog_6_method_8_code 11 = .ok (.isub, 1) := by decide +kernel
theorem d_Run_makeRoom_12 : decode prog_6_method_8_code 12 = .ok (.invokestatic 94, 3) := by decide +kernel
theorem d_Run_makeRoom_15 : decode prog_6_method_8_code 15 = .ok (.return_, 1) := by decide +kernel
theorem kM_Run_94 : Cond.methodLink "FaultRules$Run" (94 : Nat) ({ cls := "java/lang/System", name := "arraycopy", desc := "(Ljava/lang/Object;ILjava/lang/Object;II)V" } : Jvm.MethodName) ∈ xT := x_t3 rfl (i := 99) rfl
abbrev y_Run_add : MethodName := { cls := "FaultRules$Run", name := "add", desc := "(LFaultRules$RuleSet;III)V" }
theorem kC_Run_add : Cond.code ({ cls := "FaultRules$Run", name := "add", desc := "(LFaultRules$RuleSet;III)V" } : Jvm.MethodName) prog_6_method_7_code (7 : Nat) (Option.none : Option Jvm.ClassFile.FieldType) ∈ xT := x_t3 rfl (i := 86) rfl
theorem hd_Run_add : y_Run_add.cls ≠ "java/lang/invoke/MethodHandle" ∧ y_Run_add.cls ≠ "java/lang/invoke/VarHandle" ∧ (parseMethodDescriptor y_Run_add.desc).map (fun d => d.parameters.length) = some 4 := by decide +kernel
theorem d_Run_add_0 : decode prog_6_method_7_code 0 = .ok (.aload_n 0, 1) := by decide +kernel
theorem d_Run_add_1 : decode prog_6_method_7_code 1 = .ok (.getfield 64, 3) := by decide +kernel
theorem d_Run_add_4 : decode prog_6_method_7_code 4 = .ok (.sipush 726, 3) := by decide +kernel
theorem d_Run_add_7 : decode prog_6_method_7_code 7 = .ok (.if_icmp .lt 4, 3) := by decide +kernel
theorem d_Run_add_10 : decode prog_6_method_7_code 10 = .ok (.return_, 1) := by decide +kernel
theorem d_Run_add_11 : decode prog_6_method_7_code 11 = .ok (.iload 4, 2) := by decide +kernel
theorem d_Run_add_13 : decode prog_6_method_7_code 13 = .ok (.iload_n 3, 1) := by decide +kernel
theorem d_Run_add_14 : decode prog_6_method_7_code 14 = .ok (.isub, 1) := by decide +kernel
theorem d_Run_add_15 : decode prog_6_method_7_code 15 = .ok (.iconst 1, 1) := by decide +kernel
theorem d_Run_add_16 : decode prog_6_method_7_code 16 = .ok (.iadd, 1) := by decide +kernel
theorem d_Run_add_17 : decode prog_6_method_7_code 17 = .ok (.aload_n 1, 1) := by decide +kernel
theorem d_Run_add_18 : decode prog_6_method_7_code 18 = .ok (.getfield 84, 3) := by decide +kernel
theorem d_Run_add_21 : decode prog_6_method_7_code 21 = .ok (.iload_n 2, 1) := by decide +kernel
theorem d_Run_add_22 : decode prog_6_method_7_code 22 = .ok (.iaload, 1) := by decide +kernel
theorem d_Run_add_23 : decode prog_6_method_7_code 23 = .ok (.imul, 1) := by decide +kernel
theorem d_Run_add_24 : decode prog_6_method_7_code 24 = .ok (.istore 5, 2) := by decide +kernel
theorem d_Run_add_26 : decode prog_6_method_7_code 26 = .ok (.aload_n 0, 1) := by decide +kernel
theorem d_Run_add_27 : decode prog_6_method_7_code 27 = .ok (.aload_n 1, 1) := by decide +kernel
theorem d_Run_add_28 : decode prog_6_method_7_code 28 = .ok (.iload_n 2, 1) := by decide +kernel
theorem d_Run_add_29 : decode prog_6_method_7_code 29 = .ok (.iload_n 3, 1) := by decide +kernel
theorem d_Run_add_30 : decode prog_6_method_7_code 30 = .ok (.iload 5, 2) := by decide +kernel
theorem d_Run_add_32 : decode prog_6_method_7_code 32 = .ok (.invokevirtual 87, 3) := by decide +kernel
theorem d_Run_add_35 : decode prog_6_method_7_code 35 = .ok (.istore 6, 2) := by decide +kernel
theorem d_Run_add_37 : decode prog_6_method_7_code 37 = .ok (.aload_n 0, 1) := by decide +kernel
theorem d_Run_add_38 : decode prog_6_method_7_code 38 = .ok (.aload_n 0, 1) := by decide +kernel
theorem d_Run_add_39 : decode prog_6_method_7_code 39 = .ok (.getfield 18, 3) := by decide +kernel
theorem d_Run_add_42 : decode prog_6_method_7_code 42 = .ok (.iload 6, 2) := by decide +kernel
theorem d_Run_add_44 : decode prog_6_method_7_code 44 = .ok (.invokevirtual 91, 3) := by decide +kernel
theorem d_Run_add_47 : decode prog_6_method_7_code 47 = .ok (.aload_n 0, 1) := by decide +kernel
theorem d_Run_add_48 : decode prog_6_method_7_code 48 = .ok (.aload_n 0, 1) := by decide +kernel
theorem d_Run_add_49 : decode prog_6_method_7_code 49 = .ok (.getfield 21, 3) := by decide +kernel
theorem d_Run_add_52 : decode prog_6_method_7_code 52 = .ok (.iload 6, 2) := by decide +kernel
theorem d_Run_add_54 : decode prog_6_method_7_code 54 = .ok (.invokevirtual 91, 3) := by decide +kernel
theorem d_Run_add_57 : decode prog_6_method_7_code 57 = .ok (.aload_n 0, 1) := by decide +kernel
theorem d_Run_add_58 : decode prog_6_method_7_code 58 = .ok (.aload_n 0, 1) := by decide +kernel
theorem d_Run_add_59 : decode prog_6_method_7_code 59 = .ok (.getfield 24, 3) := by decide +kernel
theorem d_Run_add_62 : decode prog_6_method_7_code 62 = .ok (.iload 6, 2) := by decide +kernel
theorem d_Run_add_64 : decode prog_6_method_7_code 64 = .ok (.invokevirtual 91, 3) := by decide +kernel
theorem d_Run_add_67 : decode prog_6_method_7_code 67 = .ok (.aload_n 0, 1) := by decide +kernel
theorem d_Run_add_68 : decode prog_6_method_7_code 68 = .ok (.aload_n 0, 1) := by decide +kernel
theorem d_Run_add_69 : decode prog_6_method_7_code 69 = .ok (.getfield 27, 3) := by decide +kernel
theorem d_Run_add_72 : decode prog_6_method_7_code 72 = .ok (.iload 6, 2) := by decide +kernel
theorem d_Run_add_74 : decode prog_6_method_7_code 74 = .ok (.invokevirtual 91, 3) := by decide +kernel
theorem d_Run_add_77 : decode prog_6_method_7_code 77 = .ok (.aload_n 0, 1) := by decide +kernel
theorem d_Run_add_78 : decode prog_6_method_7_code 78 = .ok (.getfield 18, 3) := by decide +kernel
theorem d_Run_add_81 : decode prog_6_method_7_code 81 = .ok (.iload 6, 2) := by decide +kernel
theorem d_Run_add_83 : decode prog_6_method_7_code 83 = .ok (.iload_n 2, 1) := by decide +kernel
theorem d_Run_add_84 : decode prog_6_method_7_code 84 = .ok (.iastore, 1) := by decide +kernel
theorem d_Run_add_85 : decode prog_6_method_7_code 85 = .ok (.aload_n 0, 1) := by decide +kernel
theorem d_Run_add_86 : decode prog_6_method_7_code 86 = .ok (.getfield 21, 3) := by decide +kernel
theorem d_Run_add_89 : decode prog_6_method_7_code 89 = .ok (.iload 6, 2) := by decide +kernel
theorem d_Run_add_91 : decode prog_6_method_7_code 91 = .ok (.iload_n 3, 1) := by decide +kernel
theorem d_Run_add_92 : decode prog_6_method_7_code 92 = .ok (.iastore, 1) := by decide +kernel
theorem d_Run_add_93 : decode prog_6_method_7_code 93 = .ok (.aload_n 0, 1) := by decide +kernel
theorem d_Run_add_94 : decode prog_6_method_7_code 94 = .ok (.getfield 24, 3) := by decide +kernel
theorem d_Run_add_97 : decode prog_6_method_7_code 97 = .ok (.iload 6, 2) := by decide +kernel
theorem d_Run_add_99 : decode prog_6_method_7_code 99 = .ok (.iload 4, 2) := by decide +kernel
theorem d_Run_add_101 : decode prog_6_method_7_code 101 = .ok (.iastore, 1) := by decide +kernel
theorem d_Run_add_102 : decode prog_6_method_7_code 102 = .ok (.aload_n 0, 1) := by decide +kernel
theorem d_Run_add_103 : decode prog_6_method_7_code 103 = .ok (.getfield 27, 3) := by decide +kernel
theorem d_Run_add_106 : decode prog_6_method_7_code 106 = .ok (.iload 6, 2) := by decide +kernel
theorem d_Run_add_108 : decode prog_6_method_7_code 108 = .ok (.iload 5, 2) := by decide +kernel
theorem d_Run_add_110 : decode prog_6_method_7_code 110 = .ok (.iastore, 1) := by decide +kernel
theorem d_Run_add_111 : decode prog_6_method_7_code 111 = .ok (.aload_n 0, 1) := by decide +kernel
theorem d_Run_add_112 : decode prog_6_method_7_code 112 = .ok (.dup, 1) := by decide +kernel
theorem d_Run_add_113 : decode prog_6_method_7_code 113 = .ok (.getfield 64, 3) := by decide +kernel
theorem d_Run_add_116 : decode prog_6_method_7_code 116 = .ok (.iconst 1, 1) := by decide +kernel
theorem d_Run_add_117 : decode prog_6_method_7_code 117 = .ok (.iadd, 1) := by decide +kernel
theorem d_Run_add_118 : decode prog_6_method_7_code 118 = .ok (.putfield 64, 3) := by decide +kernel
theorem d_Run_add_121 : decode prog_6_method_7_code 121 = .ok (.aload_n 0, 1) := by decide +kernel
theorem d_Run_add_122 : decode prog_6_method_7_code 122 = .ok (.dup, 1) := by decide +kernel
theorem d_Run_add_123 : decode prog_6_method_7_code 123 = .ok (.getfield 65, 3) := by decide +kernel
theorem d_Run_add_126 : decode prog_6_method_7_code 126 = .ok (.iload 5, 2) := by decide +kernel
theorem d_Run_add_128 : decode prog_6_method_7_code 128 = .ok (.iadd, 1) := by decide +kernel
theorem d_Run_add_129 : decode prog_6_method_7_code 129 = .ok (.putfield 65, 3) := by decide +kernel
theorem d_Run_add_132 : decode prog_6_method_7_code 132 = .ok (.aload_n 0, 1) := by decide +kernel
theorem d_Run_add_133 : decode prog_6_method_7_code 133 = .ok (.dup, 1) := by decide +kernel
theorem d_Run_add_134 : decode prog_6_method_7_code 134 = .ok (.getfield 68, 3) := by decide +kernel
theorem d_Run_add_137 : decode prog_6_method_7_code 137 = .ok (.iconst 1, 1) := by decide +kernel
theorem d_Run_add_138 : decode prog_6_method_7_code 138 = .ok (.iload_n 2, 1) := by decide +kernel
theorem d_Run_add_139 : decode prog_6_method_7_code 139 = .ok (.ishl, 1) := by decide +kernel
theorem d_Run_add_140 : decode prog_6_method_7_code 140 = .ok (.ior, 1) := by decide +kernel
theorem d_Run_add_141 : decode prog_6_method_7_code 141 = .ok (.putfield 68, 3) := by decide +kernel
theorem d_Run_add_144 : decode prog_6_method_7_code 144 = .ok (.return_, 1) := by decide +kernel
theorem kF_Run_84 : Cond.fieldLink "FaultRules$Run" (84 : Nat) "FaultRules$RuleSet" "costs" "[I" ∈ xT := x_t1 rfl (i := 157) rfl
theorem kF_Run_24 : Cond.fieldLink "FaultRules$Run" (24 : Nat) "FaultRules$Run" "ends" "[I" ∈ xT := x_t1 rfl (i := 108) rfl
theorem kM_Run_87 : Cond.methodLink "FaultRules$Run" (87 : Nat) ({ cls := "FaultRules$Run", name := "placeOf", desc := "(LFaultRules$RuleSet;III)I" } : Jvm.MethodName) ∈ xT := x_t3 rfl (i := 87) rfl
theorem kI_Run_placeOf : Cond.instanceMethod ({ cls := "FaultRules$Run", name := "placeOf", desc := "(LFaultRules$RuleSet;III)I" } : Jvm.MethodName) ∈ xT := x_t3 rfl (i := 89) rfl
theorem kS_232 : Cond.selects "FaultRules$Run" ({ cls := "FaultRules$Run", name := "placeOf", desc := "(LFaultRules$RuleSet;III)I" } : Jvm.MethodName) ({ cls := "FaultRules$Run", name := "placeOf", desc := "(LFaultRules$RuleSet;III)I" } : Jvm.MethodName) ∈ xT := x_tp rfl (i := 25) rfl
theorem kM_Run_91 : Cond.methodLink "FaultRules$Run" (91 : Nat) ({ cls := "FaultRules$Run", name := "makeRoom", desc := "([II)V" } : Jvm.MethodName) ∈ xT := x_t3 rfl (i := 95) rfl
theorem kI_Run_makeRoom : Cond.instanceMethod ({ cls := "FaultRules$Run", name := "makeRoom", desc := "([II)V" } : Jvm.MethodName) ∈ xT := x_t3 rfl (i := 97) rfl
theorem kS_235 : Cond.selects "FaultRules$Run" ({ cls := "FaultRules$Run", name := "makeRoom", desc := "([II)V" } : Jvm.MethodName) ({ cls := "FaultRules$Run", name := "makeRoom", desc := "([II)V" } : Jvm.MethodName) ∈ xT := x_tp rfl (i := 27) rfl
abbrev y_Run_end : MethodName := { cls := "FaultRules$Run", name := "end", desc := "(LFaultRules$RuleSet;II)V" }
theorem kC_Run_end : Cond.code ({ cls := "FaultRules$Run", name := "end", desc := "(LFaultRules$RuleSet;II)V" } : Jvm.MethodName) prog_6_method_6_code (5 : Nat) (Option.none : Option Jvm.ClassFile.FieldType) ∈ xT := x_t3 rfl (i := 82) rfl
theorem hd_Run_end : y_Run_end.cls ≠ "java/lang/invoke/MethodHandle" ∧ y_Run_end.cls ≠ "java/lang/invoke/VarHandle" ∧ (parseMethodDescriptor y_Run_end.desc).map (fun d => d.parameters.length) = some 3 := by decide +kernel
theorem d_Run_end_0 : decode prog_6_method_6_code 0 = .ok (.aload_n 0, 1) := by decide +kernel
theorem d_Run_end_1 : decode prog_6_method_6_code 1 = .ok (.getfield 15, 3) := by decide +kernel
theorem d_Run_end_4 : decode prog_6_method_6_code 4 = .ok (.iload_n 2, 1) := by decide +kernel
theorem d_Run_end_5 : decode prog_6_method_6_code 5 = .ok (.iaload, 1) := by decide +kernel
theorem d_Run_end_6 : decode prog_6_method_6_code 6 = .ok (.istore 4, 2) := by decide +kernel
theorem d_Run_end_8 : decode prog_6_method_6_code 8 = .ok (.aload_n 0, 1) := by decide +kernel
theorem d_Run_end_9 : decode prog_6_method_6_code 9 = .ok (.getfield 15, 3) := by decide +kernel
theorem d_Run_end_12 : decode prog_6_method_6_code 12 = .ok (.iload_n 2, 1) := by decide +kernel
theorem d_Run_end_13 : decode prog_6_method_6_code 13 = .ok (.iconst (-1), 1) := by decide +kernel
theorem d_Run_end_14 : decode prog_6_method_6_code 14 = .ok (.iastore, 1) := by decide +kernel
theorem d_Run_end_15 : decode prog_6_method_6_code 15 = .ok (.iload 4, 2) := by decide +kernel
theorem d_Run_end_17 : decode prog_6_method_6_code 17 = .ok (.iconst (-1), 1) := by decide +kernel
theorem d_Run_end_18 : decode prog_6_method_6_code 18 = .ok (.if_icmp .eq 27, 3) := by decide +kernel
theorem d_Run_end_21 : decode prog_6_method_6_code 21 = .ok (.iload_n 3, 1) := by decide +kernel
theorem d_Run_end_22 : decode prog_6_method_6_code 22 = .ok (.iload 4, 2) := by decide +kernel
theorem d_Run_end_24 : decode prog_6_method_6_code 24 = .ok (.isub, 1) := by decide +kernel
theorem d_Run_end_25 : decode prog_6_method_6_code 25 = .ok (.iconst 1, 1) := by decide +kernel
theorem d_Run_end_26 : decode prog_6_method_6_code 26 = .ok (.iadd, 1) := by decide +kernel
theorem d_Run_end_27 : decode prog_6_method_6_code 27 = .ok (.aload_n 1, 1) := by decide +kernel
theorem d_Run_end_28 : decode prog_6_method_6_code 28 = .ok (.getfield 77, 3) := by decide +kernel
theorem d_Run_end_31 : decode prog_6_method_6_code 31 = .ok (.iload_n 2, 1) := by decide +kernel
theorem d_Run_end_32 : decode prog_6_method_6_code 32 = .ok (.iaload, 1) := by decide +kernel
theorem d_Run_end_33 : decode prog_6_method_6_code 33 = .ok (.if_icmp .lt 12, 3) := by decide +kernel
theorem d_Run_end_36 : decode prog_6_method_6_code 36 = .ok (.aload_n 0, 1) := by decide +kernel
theorem d_Run_end_37 : decode prog_6_method_6_code 37 = .ok (.aload_n 1, 1) := by decide +kernel
theorem d_Run_end_38 : decode prog_6_method_6_code 38 = .ok (.iload_n 2, 1) := by decide +kernel
theorem d_Run_end_39 : decode prog_6_method_6_code 39 = .ok (.iload 4, 2) := by decide +kernel
theorem d_Run_end_41 : decode prog_6_method_6_code 41 = .ok (.iload_n 3, 1) := by decide +kernel
theorem d_Run_end_42 : decode prog_6_method_6_code 42 = .ok (.invokevirtual 80, 3) := by decide +kernel
theorem d_Run_end_45 : decode prog_6_method_6_code 45 = .ok (.return_, 1) := by decide +kernel
theorem kF_Run_77 : Cond.fieldLink "FaultRules$Run" (77 : Nat) "FaultRules$RuleSet" "spans" "[I" ∈ xT := x_t1 rfl (i := 154) rfl
theorem kM_Run_80 : Cond.methodLink "FaultRules$Run" (80 : Nat) ({ cls := "FaultRules$Run", name := "add", desc := "(LFaultRules$RuleSet;III)V" } : Jvm.MethodName) ∈ xT := x_t3 rfl (i := 83) rfl
theorem kI_Run_add : Cond.instanceMethod ({ cls := "FaultRules$Run", name := "add", desc := "(LFaultRules$RuleSet;III)V" } : Jvm.MethodName) ∈ xT := x_t3 rfl (i := 85) rfl
theorem kS_240 : Cond.selects "FaultRules$Run" ({ cls := "FaultRules$Run", name := "add", desc := "(LFaultRules$RuleSet;III)V" } : Jvm.MethodName) ({ cls := "FaultRules$Run", name := "add", desc := "(LFaultRules$RuleSet;III)V" } : Jvm.MethodName) ∈ xT := x_tp rfl (i := 24) rfl
abbrev y_Run_find : MethodName := { cls := "FaultRules$Run", name := "find", desc := "(LFaultRules$RuleSet;LFaultRules$Rows;II)V" }
theorem kC_Run_find : Cond.code ({ cls := "FaultRules$Run", name := "find", desc := "(LFaultRules$RuleSet;LFaultRules$Rows;II)V" } : Jvm.MethodName) prog_6_method_2_code (7 : Nat) (Option.none : Option Jvm.ClassFile.FieldType) ∈ xT := x_t3 rfl (i := 42) rfl
theorem hd_Run_find : y_Run_find.cls ≠ "java/lang/invoke/MethodHandle" ∧ y_Run_find.cls ≠ "java/lang/invoke/VarHandle" ∧ (parseMethodDescriptor y_Run_find.desc).map (fun d => d.parameters.length) = some 4 := by decide +kernel
theorem d_Run_find_0 : decode prog_6_method_2_code 0 = .ok (.aload_n 0, 1) := by decide +kernel
theorem d_Run_find_1 : decode prog_6_method_2_code 1 = .ok (.invokevirtual 30, 3) := by decide +kernel
theorem d_Run_find_4 : decode prog_6_method_2_code 4 = .ok (.aload_n 2, 1) := by decide +kernel
theorem d_Run_find_5 : decode prog_6_method_2_code 5 = .ok (.invokevirtual 33, 3) := by decide +kernel
theorem d_Run_find_8 : decode prog_6_method_2_code 8 = .ok (.iload_n 3, 1) := by decide +kernel
theorem d_Run_find_9 : decode prog_6_method_2_code 9 = .ok (.istore 5, 2) := by decide +kernel
theorem d_Run_find_11 : decode prog_6_method_2_code 11 = .ok (.iload 5, 2) := by decide +kernel
theorem d_Run_find_13 : decode prog_6_method_2_code 13 = .ok (.iload 4, 2) := by decide +kernel
theorem d_Run_find_15 : decode prog_6_method_2_code 15 = .ok (.if_icmp .gt 67, 3) := by decide +kernel
theorem d_Run_find_18 : decode prog_6_method_2_code 18 = .ok (.aload_n 2, 1) := by decide +kernel
theorem d_Run_find_19 : decode prog_6_method_2_code 19 = .ok (.iload 5, 2) := by decide +kernel
theorem d_Run_find_21 : decode prog_6_method_2_code 21 = .ok (.invokevirtual 38, 3) := by decide +kernel
theorem d_Run_find_24 : decode prog_6_method_2_code 24 = .ok (.iconst 0, 1) := by decide +kernel
theorem d_Run_find_25 : decode prog_6_method_2_code 25 = .ok (.istore 6, 2) := by decide +kernel
theorem d_Run_find_27 : decode prog_6_method_2_code 27 = .ok (.iload 6, 2) := by decide +kernel
theorem d_Run_find_29 : decode prog_6_method_2_code 29 = .ok (.aload_n 1, 1) := by decide +kernel
theorem d_Run_find_30 : decode prog_6_method_2_code 30 = .ok (.getfield 42, 3) := by decide +kernel
theorem d_Run_find_33 : decode prog_6_method_2_code 33 = .ok (.if_icmp .ge 43, 3) := by decide +kernel
theorem d_Run_find_36 : decode prog_6_method_2_code 36 = .ok (.aload_n 1, 1) := by decide +kernel
theorem d_Run_find_37 : decode prog_6_method_2_code 37 = .ok (.iload 6, 2) := by decide +kernel
theorem d_Run_find_39 : decode prog_6_method_2_code 39 = .ok (.aload_n 2, 1) := by decide +kernel
theorem d_Run_find_40 : decode prog_6_method_2_code 40 = .ok (.iload 5, 2) := by decide +kernel
theorem d_Run_find_42 : decode prog_6_method_2_code 42 = .ok (.invokevirtual 48, 3) := by decide +kernel
theorem d_Run_find_45 : decode prog_6_method_2_code 45 = .ok (.ifCond .eq 14, 3) := by decide +kernel
theorem d_Run_find_48 : decode prog_6_method_2_code 48 = .ok (.aload_n 0, 1) := by decide +kernel
theorem d_Run_find_49 : decode prog_6_method_2_code 49 = .ok (.iload 6, 2) := by decide +kernel
theorem d_Run_find_51 : decode prog_6_method_2_code 51 = .ok (.iload 5, 2) := by decide +kernel
theorem d_Run_find_53 : decode prog_6_method_2_code 53 = .ok (.invokevirtual 52, 3) := by decide +kernel
theorem d_Run_find_56 : decode prog_6_method_2_code 56 = .ok (.goto 14, 3) := by decide +kernel
theorem d_Run_find_59 : decode prog_6_method_2_code 59 = .ok (.aload_n 0, 1) := by decide +kernel
theorem d_Run_find_60 : decode prog_6_method_2_code 60 = .ok (.aload_n 1, 1) := by decide +kernel
theorem d_Run_find_61 : decode prog_6_method_2_code 61 = .ok (.iload 6, 2) := by decide +kernel
theorem d_Run_find_63 : decode prog_6_method_2_code 63 = .ok (.iload 5, 2) := by decide +kernel
theorem d_Run_find_65 : decode prog_6_method_2_code 65 = .ok (.iconst 1, 1) := by decide +kernel
theorem d_Run_find_66 : decode prog_6_method_2_code 66 = .ok (.isub, 1) := by decide +kernel
theorem d_Run_find_67 : decode prog_6_method_2_code 67 = .ok (.invokevirtual 56, 3) := by decide +kernel
theorem d_Run_find_70 : decode prog_6_method_2_code 70 = .ok (.iinc 6 1, 3) := by decide +kernel
theorem d_Run_find_73 : decode prog_6_method_2_code 73 = .ok (.goto (-46), 3) := by decide +kernel
theorem d_Run_find_76 : decode prog_6_method_2_code 76 = .ok (.iinc 5 1, 3) := by decide +kernel
theorem d_Run_find_79 : decode prog_6_method_2_code 79 = .ok (.goto (-68), 3) := by decide +kernel
theorem d_Run_find_82 : decode prog_6_method_2_code 82 = .ok (.iconst 0, 1) := by decide +kernel
theorem d_Run_find_83 : decode prog_6_method_2_code 83 = .ok (.istore 5, 2) := by decide +kernel
theorem d_Run_find_85 : decode prog_6_method_2_code 85 = .ok (.iload 5, 2) := by decide +kernel
theorem d_Run_find_87 : decode prog_6_method_2_code 87 = .ok (.aload_n 1, 1) := by decide +kernel
theorem d_Run_find_88 : decode prog_6_method_2_code 88 = .ok (.getfield 42, 3) := by decide +kernel
theorem d_Run_find_91 : decode prog_6_method_2_code 91 = .ok (.if_icmp .ge 18, 3) := by decide +kernel
theorem d_Run_find_94 : decode prog_6_method_2_code 94 = .ok (.aload_n 0, 1) := by decide +kernel
theorem d_Run_find_95 : decode prog_6_method_2_code 95 = .ok (.aload_n 1, 1) := by decide +kernel
theorem d_Run_find_96 : decode prog_6_method_2_code 96 = .ok (.iload 5, 2) := by decide +kernel
theorem d_Run_find_98 : decode prog_6_method_2_code 98 = .ok (.iload 4, 2) := by decide +kernel
theorem d_Run_find_100 : decode prog_6_method_2_code 100 = .ok (.invokevirtual 56, 3) := by decide +kernel
theorem d_Run_find_103 : decode prog_6_method_2_code 103 = .ok (.iinc 5 1, 3) := by decide +kernel
theorem d_Run_find_106 : decode prog_6_method_2_code 106 = .ok (.goto (-21), 3) := by decide +kernel
theorem d_Run_find_109 : decode prog_6_method_2_code 109 = .ok (.aload_n 0, 1) := by decide +kernel
theorem d_Run_find_110 : decode prog_6_method_2_code 110 = .ok (.iconst 1, 1) := by decide +kernel
theorem d_Run_find_111 : decode prog_6_method_2_code 111 = .ok (.putfield 60, 3) := by decide +kernel
theorem d_Run_find_114 : decode prog_6_method_2_code 114 = .ok (.return_, 1) := by decide +kernel
theorem kF_Run_42 : Cond.fieldLink "FaultRules$Run" (42 : Nat) "FaultRules$RuleSet" "count" "I" ∈ xT := x_t1 rfl (i := 172) rfl
theorem kF_Run_60 : Cond.fieldLink "FaultRules$Run" (60 : Nat) "FaultRules$Run" "isThere" "Z" ∈ xT := x_t1 rfl (i := 95) rfl
theorem kM_Run_30 : Cond.methodLink "FaultRules$Run" (30 : Nat) ({ cls := "FaultRules$Run", name := "clear", desc := "()V" } : Jvm.MethodName) ∈ xT := x_t3 rfl (i := 43) rfl
theorem kI_Run_clear : Cond.instanceMethod ({ cls := "FaultRules$Run", name := "clear", desc := "()V" } : Jvm.MethodName) ∈ xT := x_t3 rfl (i := 45) rfl
theorem kS_246 : Cond.selects "FaultRules$Run" ({ cls := "FaultRules$Run", name := "clear", desc := "()V" } : Jvm.MethodName) ({ cls := "FaultRules$Run", name := "clear", desc := "()V" } : Jvm.MethodName) ∈ xT := x_tp rfl (i := 20) rfl
theorem kM_Run_33 : Cond.methodLink "FaultRules$Run" (33 : Nat) ({ cls := "FaultRules$Rows", name := "rewind", desc := "()V" } : Jvm.MethodName) ∈ xT := x_t3 rfl (i := 48) rfl
theorem kI_Rows_rewind : Cond.instanceMethod ({ cls := "FaultRules$Rows", name := "rewind", desc := "()V" } : Jvm.MethodName) ∈ xT := x_t2 rfl (i := 227) rfl
theorem kS_249 : Cond.selects "FaultRules$Rows" ({ cls := "FaultRules$Rows", name := "rewind", desc := "()V" } : Jvm.MethodName) ({ cls := "FaultRules$Rows", name := "rewind", desc := "()V" } : Jvm.MethodName) ∈ xT := x_t2 rfl (i := 228) rfl
theorem kM_Run_38 : Cond.methodLink "FaultRules$Run" (38 : Nat) ({ cls := "FaultRules$Rows", name := "advance", desc := "(I)V" } : Jvm.MethodName) ∈ xT := x_t3 rfl (i := 49) rfl
theorem kI_Rows_advance : Cond.instanceMethod ({ cls := "FaultRules$Rows", name := "advance", desc := "(I)V" } : Jvm.MethodName) ∈ xT := x_t2 rfl (i := 234) rfl
theorem kS_252 : Cond.selects "FaultRules$Rows" ({ cls := "FaultRules$Rows", name := "advance", desc := "(I)V" } : Jvm.MethodName) ({ cls := "FaultRules$Rows", name := "advance", desc := "(I)V" } : Jvm.MethodName) ∈ xT := x_t2 rfl (i := 235) rfl
theorem kM_Run_48 : Cond.methodLink "FaultRules$Run" (48 : Nat) ({ cls := "FaultRules$RuleSet", name := "ruleHolds", desc := "(ILFaultRules$Rows;I)Z" } : Jvm.MethodName) ∈ xT := x_t3 rfl (i := 50) rfl
theorem kI_RuleSet_ruleHolds : Cond.instanceMethod ({ cls := "FaultRules$RuleSet", name := "ruleHolds", desc := "(ILFaultRules$Rows;I)Z" } : Jvm.MethodName) ∈ xT := x_t3 rfl (i := 51) rfl
theorem kS_255 : Cond.selects "FaultRules$RuleSet" ({ cls := "FaultRules$RuleSet", name := "ruleHolds", desc := "(ILFaultRules$Rows;I)Z" } : Jvm.MethodName) ({ cls := "FaultRules$RuleSet", name := "ruleHolds", desc := "(ILFaultRules$Rows;I)Z" } : Jvm.MethodName) ∈ xT := x_t3 rfl (i := 52) rfl
theorem kM_Run_56 : Cond.methodLink "FaultRules$Run" (56 : Nat) ({ cls := "FaultRules$Run", name := "end", desc := "(LFaultRules$RuleSet;II)V" } : Jvm.MethodName) ∈ xT := x_t3 rfl (i := 79) rfl
theorem kI_Run_end : Cond.instanceMethod ({ cls := "FaultRules$Run", name := "end", desc := "(LFaultRules$RuleSet;II)V" } : Jvm.MethodName) ∈ xT := x_t3 rfl (i := 81) rfl
theorem kS_258 : Cond.selects "FaultRules$Run" ({ cls := "FaultRules$Run", name := "end", desc := "(LFaultRules$RuleSet;II)V" } : Jvm.MethodName) ({ cls := "FaultRules$Run", name := "end", desc := "(LFaultRules$RuleSet;II)V" } : Jvm.MethodName) ∈ xT := x_tp rfl (i := 23) rfl
theorem kM_Run_52 : Cond.methodLink "FaultRules$Run" (52 : Nat) ({ cls := "FaultRules$Run", name := "goOn", desc := "(II)V" } : Jvm.MethodName) ∈ xT := x_t3 rfl (i := 75) rfl
theorem kI_Run_goOn : Cond.instanceMethod ({ cls := "FaultRules$Run", name := "goOn", desc := "(II)V" } : Jvm.MethodName) ∈ xT := x_t3 rfl (i := 77) rfl
theorem kS_261 : Cond.selects "FaultRules$Run" ({ cls := "FaultRules$Run", name := "goOn", desc := "(II)V" } : Jvm.MethodName) ({ cls := "FaultRules$Run", name := "goOn", desc := "(II)V" } : Jvm.MethodName) ∈ xT := x_tp rfl (i := 22) rfl
abbrev y_Run_part : MethodName := { cls := "FaultRules$Run", name := "part", desc := "(II)I" }
theorem kC_Run_part : Cond.code ({ cls := "FaultRules$Run", name := "part", desc := "(II)I" } : Jvm.MethodName) prog_6_method_3_code (3 : Nat) (Option.some Jvm.ClassFile.FieldType.int) ∈ xT := x_t3 rfl (i := 112) rfl
theorem hd_Run_part : y_Run_part.cls ≠ "java/lang/invoke/MethodHandle" ∧ y_Run_part.cls ≠ "java/lang/invoke/VarHandle" ∧ (parseMethodDescriptor y_Run_part.desc).map (fun d => d.parameters.length) = some 2 := by decide +kernel
theorem d_Run_part_0 : decode prog_6_method_3_code 0 = .ok (.iload_n 2, 1) := by decide +kernel
theorem d_Run_part_1 : decode prog_6_method_3_code 1 = .ok (.tableswitch 48 0 2 #[27, 34, 41], 27) := by decide +kernel
theorem d_Run_part_28 : decode prog_6_method_3_code 28 = .ok (.aload_n 0, 1) := by decide +kernel
theorem d_Run_part_29 : decode prog_6_method_3_code 29 = .ok (.getfield 18, 3) := by decide +kernel
theorem d_Run_part_32 : decode prog_6_method_3_code 32 = .ok (.iload_n 1, 1) := by decide +kernel
theorem d_Run_part_33 : decode prog_6_method_3_code 33 = .ok (.iaload, 1) := by decide +kernel
theorem d_Run_part_34 : decode prog_6_method_3_code 34 = .ok (.ireturn, 1) := by decide +kernel
theorem d_Run_part_35 : decode prog_6_method_3_code 35 = .ok (.aload_n 0, 1) := by decide +kernel
theorem d_Run_part_36 : decode prog_6_method_3_code 36 = .ok (.getfield 21, 3) := by decide +kernel
theorem d_Run_part_39 : decode prog_6_method_3_code 39 = .ok (.iload_n 1, 1) := by decide +kernel
theorem d_Run_part_40 : decode prog_6_method_3_code 40 = .ok (.iaload, 1) := by decide +kernel
theorem d_Run_part_41 : decode prog_6_method_3_code 41 = .ok (.ireturn, 1) := by decide +kernel
theorem d_Run_part_42 : decode prog_6_method_3_code 42 = .ok (.aload_n 0, 1) := by decide +kernel
theorem d_Run_part_43 : decode prog_6_method_3_code 43 = .ok (.getfield 24, 3) := by decide +kernel
theorem d_Run_part_46 : decode prog_6_method_3_code 46 = .ok (.iload_n 1, 1) := by decide +kernel
theorem d_Run_part_47 : decode prog_6_method_3_code 47 = .ok (.iaload, 1) := by decide +kernel
theorem d_Run_part_48 : decode prog_6_method_3_code 48 = .ok (.ireturn, 1) := by decide +kernel
theorem d_Run_part_49 : decode prog_6_method_3_code 49 = .ok (.aload_n 0, 1) := by decide +kernel
theorem d_Run_part_50 : decode prog_6_method_3_code 50 = .ok (.getfield 27, 3) := by decide +kernel
theorem d_Run_part_53 : decode prog_6_method_3_code 53 = .ok (.iload_n 1, 1) := by decide +kernel
theorem d_Run_part_54 : decode prog_6_method_3_code 54 = .ok (.iaload, 1) := by decide +kernel
theorem d_Run_part_55 : decode prog_6_method_3_code 55 = .ok (.ireturn, 1) := by decide +kernel
abbrev y_FaultRules_broughtBy : MethodName := { cls := "FaultRules", name := "broughtBy", desc := "(I)I" }
theorem kC_FaultRules_broughtBy : Cond.code ({ cls := "FaultRules", name := "broughtBy", desc := "(I)I" } : Jvm.MethodName) prog_1_method_16_code (4 : Nat) (Option.some Jvm.ClassFile.FieldType.int) ∈ xT := x_t3 rfl (i := 207) rfl
theorem hd_FaultRules_broughtBy : y_FaultRules_broughtBy.cls ≠ "java/lang/invoke/MethodHandle" ∧ y_FaultRules_broughtBy.cls ≠ "java/lang/invoke/VarHandle" ∧ (parseMethodDescriptor y_FaultRules_broughtBy.desc).map (fun d => d.parameters.length) = some 1 := by decide +kernel
theorem d_FaultRules_broughtBy_0 : decode prog_1_method_16_code 0 = .ok (.iconst 0, 1) := by decide +kernel
theorem d_FaultRules_broughtBy_1 : decode prog_1_method_16_code 1 = .ok (.istore_n 2, 1) := by decide +kernel
theorem d_FaultRules_broughtBy_2 : decode prog_1_method_16_code 2 = .ok (.iconst 0, 1) := by decide +kernel
theorem d_FaultRules_broughtBy_3 : decode prog_1_method_16_code 3 = .ok (.istore_n 3, 1) := by decide +kernel
theorem d_FaultRules_broughtBy_4 : decode prog_1_method_16_code 4 = .ok (.iload_n 3, 1) := by decide +kernel
theorem d_FaultRules_broughtBy_5 : decode prog_1_method_16_code 5 = .ok (.bipush 10, 2) := by decide +kernel
theorem d_FaultRules_broughtBy_7 : decode prog_1_method_16_code 7 = .ok (.if_icmp .ge 27, 3) := by decide +kernel
theorem d_FaultRules_broughtBy_10 : decode prog_1_method_16_code 10 = .ok (.iload_n 1, 1) := by decide +kernel
theorem d_FaultRules_broughtBy_11 : decode prog_1_method_16_code 11 = .ok (.iload_n 3, 1) := by decide +kernel
theorem d_FaultRules_broughtBy_12 : decode prog_1_method_16_code 12 = .ok (.ishr, 1) := by decide +kernel
theorem d_FaultRules_broughtBy_13 : decode prog_1_method_16_code 13 = .ok (.iconst 1, 1) := by decide +kernel
theorem d_FaultRules_broughtBy_14 : decode prog_1_method_16_code 14 = .ok (.iand, 1) := by decide +kernel
theorem d_FaultRules_broughtBy_15 : decode prog_1_method_16_code 15 = .ok (.iconst 1, 1) := by decide +kernel
theorem d_FaultRules_broughtBy_16 : decode prog_1_method_16_code 16 = .ok (.if_icmp .ne 12, 3) := by decide +kernel
theorem d_FaultRules_broughtBy_19 : decode prog_1_method_16_code 19 = .ok (.iload_n 2, 1) := by decide +kernel
theorem d_FaultRules_broughtBy_20 : decode prog_1_method_16_code 20 = .ok (.aload_n 0, 1) := by decide +kernel
theorem d_FaultRules_broughtBy_21 : decode prog_1_method_16_code 21 = .ok (.getfield 44, 3) := by decide +kernel
theorem d_FaultRules_broughtBy_24 : decode prog_1_method_16_code 24 = .ok (.iload_n 3, 1) := by decide +kernel
theorem d_FaultRules_broughtBy_25 : decode prog_1_method_16_code 25 = .ok (.iaload, 1) := by decide +kernel
theorem d_FaultRules_broughtBy_26 : decode prog_1_method_16_code 26 = .ok (.ior, 1) := by decide +kernel
theorem d_FaultRules_broughtBy_27 : decode prog_1_method_16_code 27 = .ok (.istore_n 2, 1) := by decide +kernel
theorem d_FaultRules_broughtBy_28 : decode prog_1_method_16_code 28 = .ok (.iinc 3 1, 3) := by decide +kernel
theorem d_FaultRules_broughtBy_31 : decode prog_1_method_16_code 31 = .ok (.goto (-27), 3) := by decide +kernel
theorem d_FaultRules_broughtBy_34 : decode prog_1_method_16_code 34 = .ok (.iload_n 2, 1) := by decide +kernel
theorem d_FaultRules_broughtBy_35 : decode prog_1_method_16_code 35 = .ok (.ireturn, 1) := by decide +kernel
theorem kF_FaultRules_44 : Cond.fieldLink "FaultRules" (44 : Nat) "FaultRules" "brought" "[I" ∈ xT := x_t1 rfl (i := 199) rfl
abbrev y_FaultRules_isMinute : MethodName := { cls := "FaultRules", name := "isMinute", desc := "(I)Z" }
theorem kC_FaultRules_isMinute : Cond.code ({ cls := "FaultRules", name := "isMinute", desc := "(I)Z" } : Jvm.MethodName) prog_1_method_18_code (1 : Nat) (Option.some Jvm.ClassFile.FieldType.boolean) ∈ xT := x_t2 rfl (i := 116) rfl
theorem hd_FaultRules_isMinute : y_FaultRules_isMinute.cls ≠ "java/lang/invoke/MethodHandle" ∧ y_FaultRules_isMinute.cls ≠ "java/lang/invoke/VarHandle" ∧ (parseMethodDescriptor y_FaultRules_isMinute.desc).map (fun d => d.parameters.length) = some 1 := by decide +kernel
theorem d_FaultRules_isMinute_0 : decode prog_1_method_18_code 0 = .ok (.iload_n 0, 1) := by decide +kernel
theorem d_FaultRules_isMinute_1 : decode prog_1_method_18_code 1 = .ok (.ifCond .lt 13, 3) := by decide +kernel
theorem d_FaultRules_isMinute_4 : decode prog_1_method_18_code 4 = .ok (.iload_n 0, 1) := by decide +kernel
theorem d_FaultRules_isMinute_5 : decode prog_1_method_18_code 5 = .ok (.ldc 202, 2) := by decide +kernel
theorem d_FaultRules_isMinute_7 : decode prog_1_method_18_code 7 = .ok (.if_icmp .gt 7, 3) := by decide +kernel
theorem d_FaultRules_isMinute_10 : decode prog_1_method_18_code 10 = .ok (.iconst 1, 1) := by decide +kernel
theorem d_FaultRules_isMinute_11 : decode prog_1_method_18_code 11 = .ok (.goto 4, 3) := by decide +kernel
theorem d_FaultRules_isMinute_14 : decode prog_1_method_18_code 14 = .ok (.iconst 0, 1) := by decide +kernel
theorem d_FaultRules_isMinute_15 : decode prog_1_method_18_code 15 = .ok (.ireturn, 1) := by decide +kernel
theorem kK_FaultRules_202 : Cond.constant "FaultRules" (202 : Nat) (100000 : Int32) ∈ xT := x_t2 rfl (i := 117) rfl
abbrev y_FaultRules_isStretch : MethodName := { cls := "FaultRules", name := "isStretch", desc := "(III)Z" }
theorem kC_FaultRules_isStretch : Cond.code ({ cls := "FaultRules", name := "isStretch", desc := "(III)Z" } : Jvm.MethodName) prog_1_method_19_code (3 : Nat) (Option.some Jvm.ClassFile.FieldType.boolean) ∈ xT := x_t3 rfl (i := 36) rfl
theorem hd_FaultRules_isStretch : y_FaultRules_isStretch.cls ≠ "java/lang/invoke/MethodHandle" ∧ y_FaultRules_isStretch.cls ≠ "java/lang/invoke/VarHandle" ∧ (parseMethodDescriptor y_FaultRules_isStretch.desc).map (fun d => d.parameters.length) = some 3 := by decide +kernel
theorem d_FaultRules_isStretch_0 : decode prog_1_method_19_code 0 = .ok (.iload_n 0, 1) := by decide +kernel
theorem d_FaultRules_isStretch_1 : decode prog_1_method_19_code 1 = .ok (.invokestatic 62, 3) := by decide +kernel
theorem d_FaultRules_isStretch_4 : decode prog_1_method_19_code 4 = .ok (.ifCond .eq 26, 3) := by decide +kernel
theorem d_FaultRules_isStretch_7 : decode prog_1_method_19_code 7 = .ok (.iload_n 1, 1) := by decide +kernel
theorem d_FaultRules_isStretch_8 : decode prog_1_method_19_code 8 = .ok (.invokestatic 62, 3) := by decide +kernel
theorem d_FaultRules_isStretch_11 : decode prog_1_method_19_code 11 = .ok (.ifCond .eq 19, 3) := by decide +kernel
theorem d_FaultRules_isStretch_14 : decode prog_1_method_19_code 14 = .ok (.iload_n 1, 1) := by decide +kernel
theorem d_FaultRules_isStretch_15 : decode prog_1_method_19_code 15 = .ok (.iload_n 0, 1) := by decide +kernel
theorem d_FaultRules_isStretch_16 : decode prog_1_method_19_code 16 = .ok (.if_icmp .lt 14, 3) := by decide +kernel
theorem d_FaultRules_isStretch_19 : decode prog_1_method_19_code 19 = .ok (.iload_n 1, 1) := by decide +kernel
theorem d_FaultRules_isStretch_20 : decode prog_1_method_19_code 20 = .ok (.iload_n 0, 1) := by decide +kernel
theorem d_FaultRules_isStretch_21 : decode prog_1_method_19_code 21 = .ok (.isub, 1) := by decide +kernel
theorem d_FaultRules_isStretch_22 : decode prog_1_method_19_code 22 = .ok (.iload_n 2, 1) := by decide +kernel
theorem d_FaultRules_isStretch_23 : decode prog_1_method_19_code 23 = .ok (.if_icmp .ge 7, 3) := by decide +kernel
theorem d_FaultRules_isStretch_26 : decode prog_1_method_19_code 26 = .ok (.iconst 1, 1) := by decide +kernel
theorem d_FaultRules_isStretch_27 : decode prog_1_method_19_code 27 = .ok (.goto 4, 3) := by decide +kernel
theorem d_FaultRules_isStretch_30 : decode prog_1_method_19_code 30 = .ok (.iconst 0, 1) := by decide +kernel
theorem d_FaultRules_isStretch_31 : decode prog_1_method_19_code 31 = .ok (.ireturn, 1) := by decide +kernel
theorem kM_FaultRules_62 : Cond.methodLink "FaultRules" (62 : Nat) ({ cls := "FaultRules", name := "isMinute", desc := "(I)Z" } : Jvm.MethodName) ∈ xT := x_t2 rfl (i := 114) rfl
theorem kT_FaultRules_isMinute : Cond.static ({ cls := "FaultRules", name := "isMinute", desc := "(I)Z" } : Jvm.MethodName) ∈ xT := x_t2 rfl (i := 115) rfl
abbrev y_FaultRules_commonDivisor : MethodName := { cls := "FaultRules", name := "commonDivisor", desc := "(JJ)J" }
theorem kC_FaultRules_commonDivisor : Cond.code ({ cls := "FaultRules", name := "commonDivisor", desc := "(JJ)J" } : Jvm.MethodName) prog_1_method_21_code (11 : Nat) (Option.some Jvm.ClassFile.FieldType.long) ∈ xT := x_t3 rfl (i := 161) rfl
theorem hd_FaultRules_commonDivisor : y_FaultRules_commonDivisor.cls ≠ "java/lang/invoke/MethodHandle" ∧ y_FaultRules_commonDivisor.cls ≠ "java/lang/invoke/VarHandle" ∧ (parseMethodDescriptor y_FaultRules_commonDivisor.desc).map (fun d => d.parameters.length) = some 2 := by decide +kernel
theorem d_FaultRules_commonDivisor_0 : decode prog_1_method_21_code 0 = .ok (.lload_n 0, 1) := by decide +kernel
theorem d_FaultRules_commonDivisor_1 : decode prog_1_method_21_code 1 = .ok (.lstore 4, 2) := by decide +kernel
theorem d_FaultRules_commonDivisor_3 : decode prog_1_method_21_code 3 = .ok (.lload_n 2, 1) := by decide +kernel
theorem d_FaultRules_commonDivisor_4 : decode prog_1_method_21_code 4 = .ok (.lstore 6, 2) := by decide +kernel
theorem d_FaultRules_commonDivisor_6 : decode prog_1_method_21_code 6 = .ok (.iconst 0, 1) := by decide +kernel
theorem d_FaultRules_commonDivisor_7 : decode prog_1_method_21_code 7 = .ok (.istore 8, 2) := by decide +kernel
theorem d_FaultRules_commonDivisor_9 : decode prog_1_method_21_code 9 = .ok (.iload 8, 2) := by decide +kernel
theorem d_FaultRules_commonDivisor_11 : decode prog_1_method_21_code 11 = .ok (.sipush 128, 3) := by decide +kernel
theorem d_FaultRules_commonDivisor_14 : decode prog_1_method_21_code 14 = .ok (.if_icmp .ge 31, 3) := by decide +kernel
theorem d_FaultRules_commonDivisor_17 : decode prog_1_method_21_code 17 = .ok (.lload 6, 2) := by decide +kernel
theorem d_FaultRules_commonDivisor_19 : decode prog_1_method_21_code 19 = .ok (.lconst 0, 1) := by decide +kernel
theorem d_FaultRules_commonDivisor_20 : decode prog_1_method_21_code 20 = .ok (.lcmp, 1) := by decide +kernel
theorem d_FaultRules_commonDivisor_21 : decode prog_1_method_21_code 21 = .ok (.ifCond .eq 24, 3) := by decide +kernel
theorem d_FaultRules_commonDivisor_24 : decode prog_1_method_21_code 24 = .ok (.lload 4, 2) := by decide +kernel
theorem d_FaultRules_commonDivisor_26 : decode prog_1_method_21_code 26 = .ok (.lload 6, 2) := by decide +kernel
theorem d_FaultRules_commonDivisor_28 : decode prog_1_method_21_code 28 = .ok (.lrem, 1) := by decide +kernel
theorem d_FaultRules_commonDivisor_29 : decode prog_1_method_21_code 29 = .ok (.lstore 9, 2) := by decide +kernel
theorem d_FaultRules_commonDivisor_31 : decode prog_1_method_21_code 31 = .ok (.lload 6, 2) := by decide +kernel
theorem d_FaultRules_commonDivisor_33 : decode prog_1_method_21_code 33 = .ok (.lstore 4, 2) := by decide +kernel
theorem d_FaultRules_commonDivisor_35 : decode prog_1_method_21_code 35 = .ok (.lload 9, 2) := by decide +kernel
theorem d_FaultRules_commonDivisor_37 : decode prog_1_method_21_code 37 = .ok (.lstore 6, 2) := by decide +kernel
theorem d_FaultRules_commonDivisor_39 : decode prog_1_method_21_code 39 = .ok (.iinc 8 1, 3) := by decide +kernel
theorem d_FaultRules_commonDivisor_42 : decode prog_1_method_21_code 42 = .ok (.goto (-33), 3) := by decide +kernel
theorem d_FaultRules_commonDivisor_45 : decode prog_1_method_21_code 45 = .ok (.lload 4, 2) := by decide +kernel
theorem d_FaultRules_commonDivisor_47 : decode prog_1_method_21_code 47 = .ok (.lconst 0, 1) := by decide +kernel
theorem d_FaultRules_commonDivisor_48 : decode prog_1_method_21_code 48 = .ok (.lcmp, 1) := by decide +kernel
theorem d_FaultRules_commonDivisor_49 : decode prog_1_method_21_code 49 = .ok (.ifCond .ne 7, 3) := by decide +kernel
theorem d_FaultRules_commonDivisor_52 : decode prog_1_method_21_code 52 = .ok (.lconst 1, 1) := by decide +kernel
theorem d_FaultRules_commonDivisor_53 : decode prog_1_method_21_code 53 = .ok (.goto 5, 3) := by decide +kernel
theorem d_FaultRules_commonDivisor_56 : decode prog_1_method_21_code 56 = .ok (.lload 4, 2) := by decide +kernel
theorem d_FaultRules_commonDivisor_58 : decode prog_1_method_21_code 58 = .ok (.lreturn, 1) := by decide +kernel
abbrev y_FaultRules_lowest : MethodName := { cls := "FaultRules", name := "lowest", desc := "(JJI)J" }
theorem kC_FaultRules_lowest : Cond.code ({ cls := "FaultRules", name := "lowest", desc := "(JJI)J" } : Jvm.MethodName) prog_1_method_20_code (7 : Nat) (Option.some Jvm.ClassFile.FieldType.long) ∈ xT := x_t3 rfl (i := 155) rfl
theorem hd_FaultRules_lowest : y_FaultRules_lowest.cls ≠ "java/lang/invoke/MethodHandle" ∧ y_FaultRules_lowest.cls ≠ "java/lang/invoke/VarHandle" ∧ (parseMethodDescriptor y_FaultRules_lowest.desc).map (fun d => d.parameters.length) = some 3 := by decide +kernel
theorem d_FaultRules_lowest_0 : decode prog_1_method_20_code 0 = .ok (.lload_n 2, 1) := by decide +kernel
theorem d_FaultRules_lowest_1 : decode prog_1_method_20_code 1 = .ok (.lconst 0, 1) := by decide +kernel
theorem d_FaultRules_lowest_2 : decode prog_1_method_20_code 2 = .ok (.lcmp, 1) := by decide +kernel
theorem d_FaultRules_lowest_3 : decode prog_1_method_20_code 3 = .ok (.ifCond .gt 5, 3) := by decide +kernel
theorem d_FaultRules_lowest_6 : decode prog_1_method_20_code 6 = .ok (.lconst 0, 1) := by decide +kernel
theorem d_FaultRules_lowest_7 : decode prog_1_method_20_code 7 = .ok (.lreturn, 1) := by decide +kernel
theorem d_FaultRules_lowest_8 : decode prog_1_method_20_code 8 = .ok (.lload_n 2, 1) := by decide +kernel
theorem d_FaultRules_lowest_9 : decode prog_1_method_20_code 9 = .ok (.lload_n 0, 1) := by decide +kernel
theorem d_FaultRules_lowest_10 : decode prog_1_method_20_code 10 = .ok (.invokestatic 203, 3) := by decide +kernel
theorem d_FaultRules_lowest_13 : decode prog_1_method_20_code 13 = .ok (.invokestatic 209, 3) := by decide +kernel
theorem d_FaultRules_lowest_16 : decode prog_1_method_20_code 16 = .ok (.lstore 5, 2) := by decide +kernel
theorem d_FaultRules_lowest_18 : decode prog_1_method_20_code 18 = .ok (.iload 4, 2) := by decide +kernel
theorem d_FaultRules_lowest_20 : decode prog_1_method_20_code 20 = .ok (.ifCond .ne 7, 3) := by decide +kernel
theorem d_FaultRules_lowest_23 : decode prog_1_method_20_code 23 = .ok (.lload_n 0, 1) := by decide +kernel
theorem d_FaultRules_lowest_24 : decode prog_1_method_20_code 24 = .ok (.goto 4, 3) := by decide +kernel
theorem d_FaultRules_lowest_27 : decode prog_1_method_20_code 27 = .ok (.lload_n 2, 1) := by decide +kernel
theorem d_FaultRules_lowest_28 : decode prog_1_method_20_code 28 = .ok (.lload 5, 2) := by decide +kernel
theorem d_FaultRules_lowest_30 : decode prog_1_method_20_code 30 = .ok (.ldiv, 1) := by decide +kernel
theorem d_FaultRules_lowest_31 : decode prog_1_method_20_code 31 = .ok (.lreturn, 1) := by decide +kernel
theorem kM_FaultRules_203 : Cond.methodLink "FaultRules" (203 : Nat) ({ cls := "java/lang/Math", name := "abs", desc := "(J)J" } : Jvm.MethodName) ∈ xT := x_t3 rfl (i := 156) rfl
theorem kT_absJ : Cond.static ({ cls := "java/lang/Math", name := "abs", desc := "(J)J" } : Jvm.MethodName) ∈ xT := x_t3 rfl (i := 157) rfl
theorem kC_absJ : Cond.code ({ cls := "java/lang/Math", name := "abs", desc := "(J)J" } : Jvm.MethodName) prog_14_method_61_code (2 : Nat) (Option.some Jvm.ClassFile.FieldType.long) ∈ xT := x_t3 rfl (i := 158) rfl
theorem kM_FaultRules_209 : Cond.methodLink "FaultRules" (209 : Nat) ({ cls := "FaultRules", name := "commonDivisor", desc := "(JJ)J" } : Jvm.MethodName) ∈ xT := x_t3 rfl (i := 159) rfl
theorem kT_FaultRules_commonDivisor : Cond.static ({ cls := "FaultRules", name := "commonDivisor", desc := "(JJ)J" } : Jvm.MethodName) ∈ xT := x_t3 rfl (i := 160) rfl
abbrev y_Model_thrown : MethodName := { cls := "FaultRulesModel", name := "thrown", desc := "()I" }
theorem kC_Model_thrown : Cond.code ({ cls := "FaultRulesModel", name := "thrown", desc := "()I" } : Jvm.MethodName) prog_9_method_2_code (1 : Nat) (Option.some Jvm.ClassFile.FieldType.int) ∈ xT := x_t4 rfl (i := 80) rfl
theorem hd_Model_thrown : y_Model_thrown.cls ≠ "java/lang/invoke/MethodHandle" ∧ y_Model_thrown.cls ≠ "java/lang/invoke/VarHandle" ∧ (parseMethodDescriptor y_Model_thrown.desc).map (fun d => d.parameters.length) = some 0 := by decide +kernel
theorem d_Model_thrown_0 : decode prog_9_method_2_code 0 = .ok (.aload_n 0, 1) := by decide +kernel
theorem d_Model_thrown_1 : decode prog_9_method_2_code 1 = .ok (.getfield 86, 3) := by decide +kernel
theorem d_Model_thrown_4 : decode prog_9_method_2_code 4 = .ok (.ireturn, 1) := by decide +kernel
theorem kF_Model_86 : Cond.fieldLink "FaultRulesModel" (86 : Nat) "FaultRulesModel" "thrown" "I" ∈ xT := x_t3 rfl (i := 214) rfl
abbrev y_Model_isIn : MethodName := { cls := "FaultRulesModel", name := "isIn", desc := "(JJJ)Z" }
theorem kC_Model_isIn : Cond.code ({ cls := "FaultRulesModel", name := "isIn", desc := "(JJJ)Z" } : Jvm.MethodName) prog_9_method_3_code (6 : Nat) (Option.some Jvm.ClassFile.FieldType.boolean) ∈ xT := x_t4 rfl (i := 91) rfl
theorem hd_Model_isIn : y_Model_isIn.cls ≠ "java/lang/invoke/MethodHandle" ∧ y_Model_isIn.cls ≠ "java/lang/invoke/VarHandle" ∧ (parseMethodDescriptor y_Model_isIn.desc).map (fun d => d.parameters.length) = some 3 := by decide +kernel
theorem d_Model_isIn_0 : decode prog_9_method_3_code 0 = .ok (.lload_n 0, 1) := by decide +kernel
theorem d_Model_isIn_1 : decode prog_9_method_3_code 1 = .ok (.lload_n 2, 1) := by decide +kernel
theorem d_Model_isIn_2 : decode prog_9_method_3_code 2 = .ok (.lcmp, 1) := by decide +kernel
theorem d_Model_isIn_3 : decode prog_9_method_3_code 3 = .ok (.ifCond .lt 14, 3) := by decide +kernel
theorem d_Model_isIn_6 : decode prog_9_method_3_code 6 = .ok (.lload_n 0, 1) := by decide +kernel
theorem d_Model_isIn_7 : decode prog_9_method_3_code 7 = .ok (.lload 4, 2) := by decide +kernel
theorem d_Model_isIn_9 : decode prog_9_method_3_code 9 = .ok (.lcmp, 1) := by decide +kernel
theorem d_Model_isIn_10 : decode prog_9_method_3_code 10 = .ok (.ifCond .gt 7, 3) := by decide +kernel
theorem d_Model_isIn_13 : decode prog_9_method_3_code 13 = .ok (.iconst 1, 1) := by decide +kernel
theorem d_Model_isIn_14 : decode prog_9_method_3_code 14 = .ok (.goto 4, 3) := by decide +kernel
theorem d_Model_isIn_17 : decode prog_9_method_3_code 17 = .ok (.iconst 0, 1) := by decide +kernel
theorem d_Model_isIn_18 : decode prog_9_method_3_code 18 = .ok (.ireturn, 1) := by decide +kernel
abbrev y_Model_isMinute : MethodName := { cls := "FaultRulesModel", name := "isMinute", desc := "(I)Z" }
theorem kC_Model_isMinute : Cond.code ({ cls := "FaultRulesModel", name := "isMinute", desc := "(I)Z" } : Jvm.MethodName) prog_9_method_4_code (1 : Nat) (Option.some Jvm.ClassFile.FieldType.boolean) ∈ xT := x_t4 rfl (i := 94) rfl
theorem hd_Model_isMinute : y_Model_isMinute.cls ≠ "java/lang/invoke/MethodHandle" ∧ y_Model_isMinute.cls ≠ "java/lang/invoke/VarHandle" ∧ (parseMethodDescriptor y_Model_isMinute.desc).map (fun d => d.parameters.length) = some 1 := by decide +kernel
theorem d_Model_isMinute_0 : decode prog_9_method_4_code 0 = .ok (.iload_n 0, 1) := by decide +kernel
theorem d_Model_isMinute_1 : decode prog_9_method_4_code 1 = .ok (.i2l, 1) := by decide +kernel
theorem d_Model_isMinute_2 : decode prog_9_method_4_code 2 = .ok (.lconst 0, 1) := by decide +kernel
theorem d_Model_isMinute_3 : decode prog_9_method_4_code 3 = .ok (.ldc2_w 90, 3) := by decide +kernel
theorem d_Model_isMinute_6 : decode prog_9_method_4_code 6 = .ok (.invokestatic 92, 3) := by decide +kernel
theorem d_Model_isMinute_9 : decode prog_9_method_4_code 9 = .ok (.ireturn, 1) := by decide +kernel
theorem kK_Model_90 : Cond.constantLong "FaultRulesModel" (90 : Nat) (100000 : Int64) ∈ xT := x_t4 rfl (i := 95) rfl
theorem kM_Model_92 : Cond.methodLink "FaultRulesModel" (92 : Nat) ({ cls := "FaultRulesModel", name := "isIn", desc := "(JJJ)Z" } : Jvm.MethodName) ∈ xT := x_t4 rfl (i := 89) rfl
theorem kN_Model : Cond.initialized "FaultRulesModel" ∈ xT := x_t1 rfl (i := 8) rfl
theorem kT_Model_isIn : Cond.static ({ cls := "FaultRulesModel", name := "isIn", desc := "(JJJ)Z" } : Jvm.MethodName) ∈ xT := x_t4 rfl (i := 90) rfl
abbrev y_Model_isPoint : MethodName := { cls := "FaultRulesModel", name := "isPoint", desc := "(I)Z" }
theorem kC_Model_isPoint : Cond.code ({ cls := "FaultRulesModel", name := "isPoint", desc := "(I)Z" } : Jvm.MethodName) prog_9_method_5_code (1 : Nat) (Option.some Jvm.ClassFile.FieldType.boolean) ∈ xT := x_t4 rfl (i := 87) rfl
theorem hd_Model_isPoint : y_Model_isPoint.cls ≠ "java/lang/invoke/MethodHandle" ∧ y_Model_isPoint.cls ≠ "java/lang/invoke/VarHandle" ∧ (parseMethodDescriptor y_Model_isPoint.desc).map (fun d => d.parameters.length) = some 1 := by decide +kernel
theorem d_Model_isPoint_0 : decode prog_9_method_5_code 0 = .ok (.iload_n 0, 1) := by decide +kernel
theorem d_Model_isPoint_1 : decode prog_9_method_5_code 1 = .ok (.i2l, 1) := by decide +kernel
theorem d_Model_isPoint_2 : decode prog_9_method_5_code 2 = .ok (.lconst 0, 1) := by decide +kernel
theorem d_Model_isPoint_3 : decode prog_9_method_5_code 3 = .ok (.ldc2_w 96, 3) := by decide +kernel
theorem d_Model_isPoint_6 : decode prog_9_method_5_code 6 = .ok (.invokestatic 92, 3) := by decide +kernel
theorem d_Model_isPoint_9 : decode prog_9_method_5_code 9 = .ok (.ireturn, 1) := by decide +kernel
theorem kK_Model_96 : Cond.constantLong "FaultRulesModel" (96 : Nat) (15 : Int64) ∈ xT := x_t4 rfl (i := 88) rfl
abbrev y_Model_latest : MethodName := { cls := "FaultRulesModel", name := "latest", desc := "(II)I" }
theorem kC_Model_latest : Cond.code ({ cls := "FaultRulesModel", name := "latest", desc := "(II)I" } : Jvm.MethodName) prog_9_method_6_code (5 : Nat) (Option.some Jvm.ClassFile.FieldType.int) ∈ xT := x_t4 rfl (i := 105) rfl
theorem hd_Model_latest : y_Model_latest.cls ≠ "java/lang/invoke/MethodHandle" ∧ y_Model_latest.cls ≠ "java/lang/invoke/VarHandle" ∧ (parseMethodDescriptor y_Model_latest.desc).map (fun d => d.parameters.length) = some 2 := by decide +kernel
theorem d_Model_latest_0 : decode prog_9_method_6_code 0 = .ok (.iconst (-1), 1) := by decide +kernel
theorem d_Model_latest_1 : decode prog_9_method_6_code 1 = .ok (.istore_n 3, 1) := by decide +kernel
theorem d_Model_latest_2 : decode prog_9_method_6_code 2 = .ok (.iconst 0, 1) := by decide +kernel
theorem d_Model_latest_3 : decode prog_9_method_6_code 3 = .ok (.istore 4, 2) := by decide +kernel
theorem d_Model_latest_5 : decode prog_9_method_6_code 5 = .ok (.iload 4, 2) := by decide +kernel
theorem d_Model_latest_7 : decode prog_9_method_6_code 7 = .ok (.aload_n 0, 1) := by decide +kernel
theorem d_Model_latest_8 : decode prog_9_method_6_code 8 = .ok (.getfield 98, 3) := by decide +kernel
theorem d_Model_latest_11 : decode prog_9_method_6_code 11 = .ok (.if_icmp .ge 34, 3) := by decide +kernel
theorem d_Model_latest_14 : decode prog_9_method_6_code 14 = .ok (.aload_n 0, 1) := by decide +kernel
theorem d_Model_latest_15 : decode prog_9_method_6_code 15 = .ok (.getfield 7, 3) := by decide +kernel
theorem d_Model_latest_18 : decode prog_9_method_6_code 18 = .ok (.iload 4, 2) := by decide +kernel
theorem d_Model_latest_20 : decode prog_9_method_6_code 20 = .ok (.iaload, 1) := by decide +kernel
theorem d_Model_latest_21 : decode prog_9_method_6_code 21 = .ok (.iload_n 1, 1) := by decide +kernel
theorem d_Model_latest_22 : decode prog_9_method_6_code 22 = .ok (.if_icmp .ne 17, 3) := by decide +kernel
theorem d_Model_latest_25 : decode prog_9_method_6_code 25 = .ok (.aload_n 0, 1) := by decide +kernel
theorem d_Model_latest_26 : decode prog_9_method_6_code 26 = .ok (.getfield 13, 3) := by decide +kernel
theorem d_Model_latest_29 : decode prog_9_method_6_code 29 = .ok (.iload 4, 2) := by decide +kernel
theorem d_Model_latest_31 : decode prog_9_method_6_code 31 = .ok (.iaload, 1) := by decide +kernel
theorem d_Model_latest_32 : decode prog_9_method_6_code 32 = .ok (.iload_n 2, 1) := by decide +kernel
theorem d_Model_latest_33 : decode prog_9_method_6_code 33 = .ok (.if_icmp .gt 6, 3) := by decide +kernel
theorem d_Model_latest_36 : decode prog_9_method_6_code 36 = .ok (.iload 4, 2) := by decide +kernel
theorem d_Model_latest_38 : decode prog_9_method_6_code 38 = .ok (.istore_n 3, 1) := by decide +kernel
theorem d_Model_latest_39 : decode prog_9_method_6_code 39 = .ok (.iinc 4 1, 3) := by decide +kernel
theorem d_Model_latest_42 : decode prog_9_method_6_code 42 = .ok (.goto (-37), 3) := by decide +kernel
theorem d_Model_latest_45 : decode prog_9_method_6_code 45 = .ok (.iload_n 3, 1) := by decide +kernel
theorem d_Model_latest_46 : decode prog_9_method_6_code 46 = .ok (.ireturn, 1) := by decide +kernel
theorem kF_Model_98 : Cond.fieldLink "FaultRulesModel" (98 : Nat) "FaultRulesModel" "rows" "I" ∈ xT := x_t3 rfl (i := 215) rfl
theorem kF_Model_7 : Cond.fieldLink "FaultRulesModel" (7 : Nat) "FaultRulesModel" "rowPoint" "[I" ∈ xT := x_t3 rfl (i := 216) rfl
theorem kF_Model_13 : Cond.fieldLink "FaultRulesModel" (13 : Nat) "FaultRulesModel" "rowMinute" "[I" ∈ xT := x_t3 rfl (i := 217) rfl
abbrev y_Model_row : MethodName := { cls := "FaultRulesModel", name := "row", desc := "(III)I" }
theorem kC_Model_row : Cond.code ({ cls := "FaultRulesModel", name := "row", desc := "(III)I" } : Jvm.MethodName) prog_9_method_7_code (6 : Nat) (Option.some Jvm.ClassFile.FieldType.int) ∈ xT := x_t4 rfl (i := 84) rfl
theorem hd_Model_row : y_Model_row.cls ≠ "java/lang/invoke/MethodHandle" ∧ y_Model_row.cls ≠ "java/lang/invoke/VarHandle" ∧ (parseMethodDescriptor y_Model_row.desc).map (fun d => d.parameters.length) = some 3 := by decide +kernel
theorem d_Model_row_0 : decode prog_9_method_7_code 0 = .ok (.aload_n 0, 1) := by decide +kernel
theorem d_Model_row_1 : decode prog_9_method_7_code 1 = .ok (.iload_n 1, 1) := by decide +kernel
theorem d_Model_row_2 : decode prog_9_method_7_code 2 = .ok (.invokestatic 101, 3) := by decide +kernel
theorem d_Model_row_5 : decode prog_9_method_7_code 5 = .ok (.ifCond .eq 24, 3) := by decide +kernel
theorem d_Model_row_8 : decode prog_9_method_7_code 8 = .ok (.iload_n 2, 1) := by decide +kernel
theorem d_Model_row_9 : decode prog_9_method_7_code 9 = .ok (.invokestatic 105, 3) := by decide +kernel
theorem d_Model_row_12 : decode prog_9_method_7_code 12 = .ok (.ifCond .eq 17, 3) := by decide +kernel
theorem d_Model_row_15 : decode prog_9_method_7_code 15 = .ok (.iload_n 3, 1) := by decide +kernel
theorem d_Model_row_16 : decode prog_9_method_7_code 16 = .ok (.i2l, 1) := by decide +kernel
theorem d_Model_row_17 : decode prog_9_method_7_code 17 = .ok (.ldc2_w 108, 3) := by decide +kernel
theorem d_Model_row_20 : decode prog_9_method_7_code 20 = .ok (.ldc2_w 110, 3) := by decide +kernel
theorem d_Model_row_23 : decode prog_9_method_7_code 23 = .ok (.invokestatic 92, 3) := by decide +kernel
theorem d_Model_row_26 : decode prog_9_method_7_code 26 = .ok (.ifCond .ne 7, 3) := by decide +kernel
theorem d_Model_row_29 : decode prog_9_method_7_code 29 = .ok (.iconst 1, 1) := by decide +kernel
theorem d_Model_row_30 : decode prog_9_method_7_code 30 = .ok (.goto 17, 3) := by decide +kernel
theorem d_Model_row_33 : decode prog_9_method_7_code 33 = .ok (.aload_n 0, 1) := by decide +kernel
theorem d_Model_row_34 : decode prog_9_method_7_code 34 = .ok (.getfield 98, 3) := by decide +kernel
theorem d_Model_row_37 : decode prog_9_method_7_code 37 = .ok (.bipush 120, 2) := by decide +kernel
theorem d_Model_row_39 : decode prog_9_method_7_code 39 = .ok (.if_icmp .ne 7, 3) := by decide +kernel
theorem d_Model_row_42 : decode prog_9_method_7_code 42 = .ok (.iconst 2, 1) := by decide +kernel
theorem d_Model_row_43 : decode prog_9_method_7_code 43 = .ok (.goto 4, 3) := by decide +kernel
theorem d_Model_row_46 : decode prog_9_method_7_code 46 = .ok (.iconst 0, 1) := by decide +kernel
theorem d_Model_row_47 : decode prog_9_method_7_code 47 = .ok (.putfield 86, 3) := by decide +kernel
theorem d_Model_row_50 : decode prog_9_method_7_code 50 = .ok (.aload_n 0, 1) := by decide +kernel
theorem d_Model_row_51 : decode prog_9_method_7_code 51 = .ok (.getfield 86, 3) := by decide +kernel
theorem d_Model_row_54 : decode prog_9_method_7_code 54 = .ok (.iconst 1, 1) := by decide +kernel
theorem d_Model_row_55 : decode prog_9_method_7_code 55 = .ok (.if_icmp .ne 5, 3) := by decide +kernel
theorem d_Model_row_58 : decode prog_9_method_7_code 58 = .ok (.iconst 0, 1) := by decide +kernel
theorem d_Model_row_59 : decode prog_9_method_7_code 59 = .ok (.ireturn, 1) := by decide +kernel
theorem d_Model_row_60 : decode prog_9_method_7_code 60 = .ok (.iconst 1, 1) := by decide +kernel
theorem d_Model_row_61 : decode prog_9_method_7_code 61 = .ok (.istore 4, 2) := by decide +kernel
theorem d_Model_row_63 : decode prog_9_method_7_code 63 = .ok (.iconst 0, 1) := by decide +kernel
theorem d_Model_row_64 : decode prog_9_method_7_code 64 = .ok (.istore 5, 2) := by decide +kernel
theorem d_Model_row_66 : decode prog_9_method_7_code 66 = .ok (.iload 5, 2) := by decide +kernel
theorem d_Model_row_68 : decode prog_9_method_7_code 68 = .ok (.aload_n 0, 1) := by decide +kernel
theorem d_Model_row_69 : decode prog_9_method_7_code 69 = .ok (.getfield 98, 3) := by decide +kernel
theorem d_Model_row_72 : decode prog_9_method_7_code 72 = .ok (.if_icmp .ge 46, 3) := by decide +kernel
theorem d_Model_row_75 : decode prog_9_method_7_code 75 = .ok (.aload_n 0, 1) := by decide +kernel
theorem d_Model_row_76 : decode prog_9_method_7_code 76 = .ok (.getfield 7, 3) := by decide +kernel
theorem d_Model_row_79 : decode prog_9_method_7_code 79 = .ok (.iload 5, 2) := by decide +kernel
theorem d_Model_row_81 : decode prog_9_method_7_code 81 = .ok (.iaload, 1) := by decide +kernel
theorem d_Model_row_82 : decode prog_9_method_7_code 82 = .ok (.iload_n 1, 1) := by decide +kernel
theorem d_Model_row_83 : decode prog_9_method_7_code 83 = .ok (.if_icmp .ne 29, 3) := by decide +kernel
theorem d_Model_row_86 : decode prog_9_method_7_code 86 = .ok (.iinc 4 1, 3) := by decide +kernel
theorem d_Model_row_89 : decode prog_9_method_7_code 89 = .ok (.aload_n 0, 1) := by decide +kernel
theorem d_Model_row_90 : decode prog_9_method_7_code 90 = .ok (.aload_n 0, 1) := by decide +kernel
theorem d_Model_row_91 : decode prog_9_method_7_code 91 = .ok (.getfield 13, 3) := by decide +kernel
theorem d_Model_row_94 : decode prog_9_method_7_code 94 = .ok (.iload 5, 2) := by decide +kernel
theorem d_Model_row_96 : decode prog_9_method_7_code 96 = .ok (.iaload, 1) := by decide +kernel
theorem d_Model_row_97 : decode prog_9_method_7_code 97 = .ok (.iload_n 2, 1) := by decide +kernel
theorem d_Model_row_98 : decode prog_9_method_7_code 98 = .ok (.if_icmp .lt 7, 3) := by decide +kernel
theorem d_Model_row_101 : decode prog_9_method_7_code 101 = .ok (.iconst 2, 1) := by decide +kernel
theorem d_Model_row_102 : decode prog_9_method_7_code 102 = .ok (.goto 7, 3) := by decide +kernel
theorem d_Model_row_105 : decode prog_9_method_7_code 105 = .ok (.aload_n 0, 1) := by decide +kernel
theorem d_Model_row_106 : decode prog_9_method_7_code 106 = .ok (.getfield 86, 3) := by decide +kernel
theorem d_Model_row_109 : decode prog_9_method_7_code 109 = .ok (.putfield 86, 3) := by decide +kernel
theorem d_Model_row_112 : decode prog_9_method_7_code 112 = .ok (.iinc 5 1, 3) := by decide +kernel
theorem d_Model_row_115 : decode prog_9_method_7_code 115 = .ok (.goto (-49), 3) := by decide +kernel
theorem d_Model_row_118 : decode prog_9_method_7_code 118 = .ok (.aload_n 0, 1) := by decide +kernel
theorem d_Model_row_119 : decode prog_9_method_7_code 119 = .ok (.getfield 86, 3) := by decide +kernel
theorem d_Model_row_122 : decode prog_9_method_7_code 122 = .ok (.ifCond .le 5, 3) := by decide +kernel
theorem d_Model_row_125 : decode prog_9_method_7_code 125 = .ok (.iconst 0, 1) := by decide +kernel
theorem d_Model_row_126 : decode prog_9_method_7_code 126 = .ok (.ireturn, 1) := by decide +kernel
theorem d_Model_row_127 : decode prog_9_method_7_code 127 = .ok (.aload_n 0, 1) := by decide +kernel
theorem d_Model_row_128 : decode prog_9_method_7_code 128 = .ok (.getfield 7, 3) := by decide +kernel
theorem d_Model_row_131 : decode prog_9_method_7_code 131 = .ok (.aload_n 0, 1) := by decide +kernel
theorem d_Model_row_132 : decode prog_9_method_7_code 132 = .ok (.getfield 98, 3) := by decide +kernel
theorem d_Model_row_135 : decode prog_9_method_7_code 135 = .ok (.iload_n 1, 1) := by decide +kernel
theorem d_Model_row_136 : decode prog_9_method_7_code 136 = .ok (.iastore, 1) := by decide +kernel
theorem d_Model_row_137 : decode prog_9_method_7_code 137 = .ok (.aload_n 0, 1) := by decide +kernel
theorem d_Model_row_138 : decode prog_9_method_7_code 138 = .ok (.getfield 13, 3) := by decide +kernel
theorem d_Model_row_141 : decode prog_9_method_7_code 141 = .ok (.aload_n 0, 1) := by decide +kernel
theorem d_Model_row_142 : decode prog_9_method_7_code 142 = .ok (.getfield 98, 3) := by decide +kernel
theorem d_Model_row_145 : decode prog_9_method_7_code 145 = .ok (.iload_n 2, 1) := by decide +kernel
theorem d_Model_row_146 : decode prog_9_method_7_code 146 = .ok (.iastore, 1) := by decide +kernel
theorem d_Model_row_147 : decode prog_9_method_7_code 147 = .ok (.aload_n 0, 1) := by decide +kernel
theorem d_Model_row_148 : decode prog_9_method_7_code 148 = .ok (.getfield 16, 3) := by decide +kernel
theorem d_Model_row_151 : decode prog_9_method_7_code 151 = .ok (.aload_n 0, 1) := by decide +kernel
theorem d_Model_row_152 : decode prog_9_method_7_code 152 = .ok (.getfield 98, 3) := by decide +kernel
theorem d_Model_row_155 : decode prog_9_method_7_code 155 = .ok (.iload_n 3, 1) := by decide +kernel
theorem d_Model_row_156 : decode prog_9_method_7_code 156 = .ok (.iastore, 1) := by decide +kernel
theorem d_Model_row_157 : decode prog_9_method_7_code 157 = .ok (.aload_n 0, 1) := by decide +kernel
theorem d_Model_row_158 : decode prog_9_method_7_code 158 = .ok (.dup, 1) := by decide +kernel
theorem d_Model_row_159 : decode prog_9_method_7_code 159 = .ok (.getfield 98, 3) := by decide +kernel
theorem d_Model_row_162 : decode prog_9_method_7_code 162 = .ok (.iconst 1, 1) := by decide +kernel
theorem d_Model_row_163 : decode prog_9_method_7_code 163 = .ok (.iadd, 1) := by decide +kernel
theorem d_Model_row_164 : decode prog_9_method_7_code 164 = .ok (.putfield 98, 3) := by decide +kernel
theorem d_Model_row_167 : decode prog_9_method_7_code 167 = .ok (.iload 4, 2) := by decide +kernel
theorem d_Model_row_169 : decode prog_9_method_7_code 169 = .ok (.ireturn, 1) := by decide +kernel
theorem kF_Model_16 : Cond.fieldLink "FaultRulesModel" (16 : Nat) "FaultRulesModel" "rowValue" "[I" ∈ xT := x_t3 rfl (i := 218) rfl
theorem kK_Model_108 : Cond.constantLong "FaultRulesModel" (108 : Nat) (-1000000 : Int64) ∈ xT := x_t4 rfl (i := 96) rfl
theorem kK_Model_110 : Cond.constantLong "FaultRulesModel" (110 : Nat) (1000000 : Int64) ∈ xT := x_t4 rfl (i := 97) rfl
theorem kM_Model_101 : Cond.methodLink "FaultRulesModel" (101 : Nat) ({ cls := "FaultRulesModel", name := "isPoint", desc := "(I)Z" } : Jvm.MethodName) ∈ xT := x_t4 rfl (i := 85) rfl
theorem kT_Model_isPoint : Cond.static ({ cls := "FaultRulesModel", name := "isPoint", desc := "(I)Z" } : Jvm.MethodName) ∈ xT := x_t4 rfl (i := 86) rfl
theorem kM_Model_105 : Cond.methodLink "FaultRulesModel" (105 : Nat) ({ cls := "FaultRulesModel", name := "isMinute", desc := "(I)Z" } : Jvm.MethodName) ∈ xT := x_t4 rfl (i := 92) rfl
theorem kT_Model_isMinute : Cond.static ({ cls := "FaultRulesModel", name := "isMinute", desc := "(I)Z" } : Jvm.MethodName) ∈ xT := x_t4 rfl (i := 93) rfl
abbrev y_Model_value : MethodName := { cls := "FaultRulesModel", name := "value", desc := "(II)I" }
theorem kC_Model_value : Cond.code ({ cls := "FaultRulesModel", name := "value", desc := "(II)I" } : Jvm.MethodName) prog_9_method_8_code (3 : Nat) (Option.some Jvm.ClassFile.FieldType.int) ∈ xT := x_t4 rfl (i := 101) rfl
theorem hd_Model_value : y_Model_value.cls ≠ "java/lang/invoke/MethodHandle" ∧ y_Model_value.cls ≠ "java/lang/invoke/VarHandle" ∧ (parseMethodDescriptor y_Model_value.desc).map (fun d => d.parameters.length) = some 2 := by decide +kernel
theorem d_Model_value_0 : decode prog_9_method_8_code 0 = .ok (.aload_n 0, 1) := by decide +kernel
theorem d_Model_value_1 : decode prog_9_method_8_code 1 = .ok (.iload_n 1, 1) := by decide +kernel
theorem d_Model_value_2 : decode prog_9_method_8_code 2 = .ok (.invokestatic 101, 3) := by decide +kernel
theorem d_Model_value_5 : decode prog_9_method_8_code 5 = .ok (.ifCond .eq 19, 3) := by decide +kernel
theorem d_Model_value_8 : decode prog_9_method_8_code 8 = .ok (.iload_n 2, 1) := by decide +kernel
theorem d_Model_value_9 : decode prog_9_method_8_code 9 = .ok (.invokestatic 105, 3) := by decide +kernel
theorem d_Model_value_12 : decode prog_9_method_8_code 12 = .ok (.ifCond .eq 12, 3) := by decide +kernel
theorem d_Model_value_15 : decode prog_9_method_8_code 15 = .ok (.aload_n 0, 1) := by decide +kernel
theorem d_Model_value_16 : decode prog_9_method_8_code 16 = .ok (.iload_n 1, 1) := by decide +kernel
theorem d_Model_value_17 : decode prog_9_method_8_code 17 = .ok (.iload_n 2, 1) := by decide +kernel
theorem d_Model_value_18 : decode prog_9_method_8_code 18 = .ok (.invokevirtual 112, 3) := by decide +kernel
theorem d_Model_value_21 : decode prog_9_method_8_code 21 = .ok (.ifCond .ge 7, 3) := by decide +kernel
theorem d_Model_value_24 : decode prog_9_method_8_code 24 = .ok (.iconst 1, 1) := by decide +kernel
theorem d_Model_value_25 : decode prog_9_method_8_code 25 = .ok (.goto 4, 3) := by decide +kernel
theorem d_Model_value_28 : decode prog_9_method_8_code 28 = .ok (.iconst 0, 1) := by decide +kernel
theorem d_Model_value_29 : decode prog_9_method_8_code 29 = .ok (.putfield 86, 3) := by decide +kernel
theorem d_Model_value_32 : decode prog_9_method_8_code 32 = .ok (.aload_n 0, 1) := by decide +kernel
theorem d_Model_value_33 : decode prog_9_method_8_code 33 = .ok (.getfield 86, 3) := by decide +kernel
theorem d_Model_value_36 : decode prog_9_method_8_code 36 = .ok (.ifCond .le 7, 3) := by decide +kernel
theorem d_Model_value_39 : decode prog_9_method_8_code 39 = .ok (.iconst 0, 1) := by decide +kernel
theorem d_Model_value_40 : decode prog_9_method_8_code 40 = .ok (.goto 14, 3) := by decide +kernel
theorem d_Model_value_43 : decode prog_9_method_8_code 43 = .ok (.aload_n 0, 1) := by decide +kernel
theorem d_Model_value_44 : decode prog_9_method_8_code 44 = .ok (.getfield 16, 3) := by decide +kernel
theorem d_Model_value_47 : decode prog_9_method_8_code 47 = .ok (.aload_n 0, 1) := by decide +kernel
theorem d_Model_value_48 : decode prog_9_method_8_code 48 = .ok (.iload_n 1, 1) := by decide +kernel
theorem d_Model_value_49 : decode prog_9_method_8_code 49 = .ok (.iload_n 2, 1) := by decide +kernel
theorem d_Model_value_50 : decode prog_9_method_8_code 50 = .ok (.invokevirtual 112, 3) := by decide +kernel
theorem d_Model_value_53 : decode prog_9_method_8_code 53 = .ok (.iaload, 1) := by decide +kernel
theorem d_Model_value_54 : decode prog_9_method_8_code 54 = .ok (.ireturn, 1) := by decide +kernel
theorem kM_Model_112 : Cond.methodLink "FaultRulesModel" (112 : Nat) ({ cls := "FaultRulesModel", name := "latest", desc := "(II)I" } : Jvm.MethodName) ∈ xT := x_t4 rfl (i := 102) rfl
theorem kI_Model_latest : Cond.instanceMethod ({ cls := "FaultRulesModel", name := "latest", desc := "(II)I" } : Jvm.MethodName) ∈ xT := x_t4 rfl (i := 104) rfl
theorem kS_302 : Cond.selects "FaultRulesModel" ({ cls := "FaultRulesModel", name := "latest", desc := "(II)I" } : Jvm.MethodName) ({ cls := "FaultRulesModel", name := "latest", desc := "(II)I" } : Jvm.MethodName) ∈ xT := x_tp rfl (i := 30) rfl
abbrev y_Model_say : MethodName := { cls := "FaultRulesModel", name := "say", desc := "(J)I" }
theorem kC_Model_say : Cond.code ({ cls := "FaultRulesModel", name := "say", desc := "(J)I" } : Jvm.MethodName) prog_9_method_9_code (6 : Nat) (Option.some Jvm.ClassFile.FieldType.int) ∈ xT := x_t4 rfl (i := 109) rfl
theorem hd_Model_say : y_Model_say.cls ≠ "java/lang/invoke/MethodHandle" ∧ y_Model_say.cls ≠ "java/lang/invoke/VarHandle" ∧ (parseMethodDescriptor y_Model_say.desc).map (fun d => d.parameters.length) = some 1 := by decide +kernel
theorem d_Model_say_0 : decode prog_9_method_9_code 0 = .ok (.iconst 0, 1) := by decide +kernel
theorem d_Model_say_1 : decode prog_9_method_9_code 1 = .ok (.istore_n 3, 1) := by decide +kernel
theorem d_Model_say_2 : decode prog_9_method_9_code 2 = .ok (.aload_n 0, 1) := by decide +kernel
theorem d_Model_say_3 : decode prog_9_method_9_code 3 = .ok (.iconst 0, 1) := by decide +kernel
theorem d_Model_say_4 : decode prog_9_method_9_code 4 = .ok (.putfield 86, 3) := by decide +kernel
theorem d_Model_say_7 : decode prog_9_method_9_code 7 = .ok (.bipush 56, 2) := by decide +kernel
theorem d_Model_say_9 : decode prog_9_method_9_code 9 = .ok (.istore 4, 2) := by decide +kernel
theorem d_Model_say_11 : decode prog_9_method_9_code 11 = .ok (.iload 4, 2) := by decide +kernel
theorem d_Model_say_13 : decode prog_9_method_9_code 13 = .ok (.ifCond .lt 65, 3) := by decide +kernel
theorem d_Model_say_16 : decode prog_9_method_9_code 16 = .ok (.lload_n 1, 1) := by decide +kernel
theorem d_Model_say_17 : decode prog_9_method_9_code 17 = .ok (.iload 4, 2) := by decide +kernel
theorem d_Model_say_19 : decode prog_9_method_9_code 19 = .ok (.lshr, 1) := by decide +kernel
theorem d_Model_say_20 : decode prog_9_method_9_code 20 = .ok (.ldc2_w 116, 3) := by decide +kernel
theorem d_Model_say_23 : decode prog_9_method_9_code 23 = .ok (.land, 1) := by decide +kernel
theorem d_Model_say_24 : decode prog_9_method_9_code 24 = .ok (.l2i, 1) := by decide +kernel
theorem d_Model_say_25 : decode prog_9_method_9_code 25 = .ok (.istore 5, 2) := by decide +kernel
theorem d_Model_say_27 : decode prog_9_method_9_code 27 = .ok (.aload_n 0, 1) := by decide +kernel
theorem d_Model_say_28 : decode prog_9_method_9_code 28 = .ok (.iload 5, 2) := by decide +kernel
theorem d_Model_say_30 : decode prog_9_method_9_code 30 = .ok (.ifCond .eq 22, 3) := by decide +kernel
theorem d_Model_say_33 : decode prog_9_method_9_code 33 = .ok (.iload 5, 2) := by decide +kernel
theorem d_Model_say_35 : decode prog_9_method_9_code 35 = .ok (.i2l, 1) := by decide +kernel
theorem d_Model_say_36 : decode prog_9_method_9_code 36 = .ok (.ldc2_w 118, 3) := by decide +kernel
theorem d_Model_say_39 : decode prog_9_method_9_code 39 = .ok (.ldc2_w 120, 3) := by decide +kernel
theorem d_Model_say_42 : decode prog_9_method_9_code 42 = .ok (.invokestatic 92, 3) := by decide +kernel
theorem d_Model_say_45 : decode prog_9_method_9_code 45 = .ok (.ifCond .ne 7, 3) := by decide +kernel
theorem d_Model_say_48 : decode prog_9_method_9_code 48 = .ok (.iconst 1, 1) := by decide +kernel
theorem d_Model_say_49 : decode prog_9_method_9_code 49 = .ok (.goto 7, 3) := by decide +kernel
theorem d_Model_say_52 : decode prog_9_method_9_code 52 = .ok (.aload_n 0, 1) := by decide +kernel
theorem d_Model_say_53 : decode prog_9_method_9_code 53 = .ok (.getfield 86, 3) := by decide +kernel
theorem d_Model_say_56 : decode prog_9_method_9_code 56 = .ok (.putfield 86, 3) := by decide +kernel
theorem d_Model_say_59 : decode prog_9_method_9_code 59 = .ok (.iload_n 3, 1) := by decide +kernel
theorem d_Model_say_60 : decode prog_9_method_9_code 60 = .ok (.iload 5, 2) := by decide +kernel
theorem d_Model_say_62 : decode prog_9_method_9_code 62 = .ok (.ifCond .eq 7, 3) := by decide +kernel
theorem d_Model_say_65 : decode prog_9_method_9_code 65 = .ok (.iconst 1, 1) := by decide +kernel
theorem d_Model_say_66 : decode prog_9_method_9_code 66 = .ok (.goto 4, 3) := by decide +kernel
theorem d_Model_say_69 : decode prog_9_method_9_code 69 = .ok (.iconst 0, 1) := by decide +kernel
theorem d_Model_say_70 : decode prog_9_method_9_code 70 = .ok (.iadd, 1) := by decide +kernel
theorem d_Model_say_71 : decode prog_9_method_9_code 71 = .ok (.istore_n 3, 1) := by decide +kernel
theorem d_Model_say_72 : decode prog_9_method_9_code 72 = .ok (.iinc 4 (-8), 3) := by decide +kernel
theorem d_Model_say_75 : decode prog_9_method_9_code 75 = .ok (.goto (-64), 3) := by decide +kernel
theorem d_Model_say_78 : decode prog_9_method_9_code 78 = .ok (.aload_n 0, 1) := by decide +kernel
theorem d_Model_say_79 : decode prog_9_method_9_code 79 = .ok (.aload_n 0, 1) := by decide +kernel
theorem d_Model_say_80 : decode prog_9_method_9_code 80 = .ok (.getfield 86, 3) := by decide +kernel
theorem d_Model_say_83 : decode prog_9_method_9_code 83 = .ok (.ifCond .ne 19, 3) := by decide +kernel
theorem d_Model_say_86 : decode prog_9_method_9_code 86 = .ok (.aload_n 0, 1) := by decide +kernel
theorem d_Model_say_87 : decode prog_9_method_9_code 87 = .ok (.getfield 122, 3) := by decide +kernel
theorem d_Model_say_90 : decode prog_9_method_9_code 90 = .ok (.iload_n 3, 1) := by decide +kernel
theorem d_Model_say_91 : decode prog_9_method_9_code 91 = .ok (.iadd, 1) := by decide +kernel
theorem d_Model_say_92 : decode prog_9_method_9_code 92 = .ok (.sipush 1000, 3) := by decide +kernel
theorem d_Model_say_95 : decode prog_9_method_9_code 95 = .ok (.if_icmp .le 7, 3) := by decide +kernel
theorem d_Model_say_98 : decode prog_9_method_9_code 98 = .ok (.iconst 2, 1) := by decide +kernel
theorem d_Model_say_99 : decode prog_9_method_9_code 99 = .ok (.goto 7, 3) := by decide +kernel
theorem d_Model_say_102 : decode prog_9_method_9_code 102 = .ok (.aload_n 0, 1) := by decide +kernel
theorem d_Model_say_103 : decode prog_9_method_9_code 103 = .ok (.getfield 86, 3) := by decide +kernel
theorem d_Model_say_106 : decode prog_9_method_9_code 106 = .ok (.putfield 86, 3) := by decide +kernel
theorem d_Model_say_109 : decode prog_9_method_9_code 109 = .ok (.aload_n 0, 1) := by decide +kernel
theorem d_Model_say_110 : decode prog_9_method_9_code 110 = .ok (.getfield 86, 3) := by decide +kernel
theorem d_Model_say_113 : decode prog_9_method_9_code 113 = .ok (.ifCond .le 5, 3) := by decide +kernel
theorem d_Model_say_116 : decode prog_9_method_9_code 116 = .ok (.iconst 0, 1) := by decide +kernel
theorem d_Model_say_117 : decode prog_9_method_9_code 117 = .ok (.ireturn, 1) := by decide +kernel
theorem d_Model_say_118 : decode prog_9_method_9_code 118 = .ok (.bipush 56, 2) := by decide +kernel
theorem d_Model_say_120 : decode prog_9_method_9_code 120 = .ok (.istore 4, 2) := by decide +kernel
theorem d_Model_say_122 : decode prog_9_method_9_code 122 = .ok (.iload 4, 2) := by decide +kernel
theorem d_Model_say_124 : decode prog_9_method_9_code 124 = .ok (.ifCond .lt 46, 3) := by decide +kernel
theorem d_Model_say_127 : decode prog_9_method_9_code 127 = .ok (.lload_n 1, 1) := by decide +kernel
theorem d_Model_say_128 : decode prog_9_method_9_code 128 = .ok (.iload 4, 2) := by decide +kernel
theorem d_Model_say_130 : decode prog_9_method_9_code 130 = .ok (.lshr, 1) := by decide +kernel
theorem d_Model_say_131 : decode prog_9_method_9_code 131 = .ok (.ldc2_w 116, 3) := by decide +kernel
theorem d_Model_say_134 : decode prog_9_method_9_code 134 = .ok (.land, 1) := by decide +kernel
theorem d_Model_say_135 : decode prog_9_method_9_code 135 = .ok (.l2i, 1) := by decide +kernel
theorem d_Model_say_136 : decode prog_9_method_9_code 136 = .ok (.istore 5, 2) := by decide +kernel
theorem d_Model_say_138 : decode prog_9_method_9_code 138 = .ok (.iload 5, 2) := by decide +kernel
theorem d_Model_say_140 : decode prog_9_method_9_code 140 = .ok (.ifCond .eq 24, 3) := by decide +kernel
theorem d_Model_say_143 : decode prog_9_method_9_code 143 = .ok (.aload_n 0, 1) := by decide +kernel
theorem d_Model_say_144 : decode prog_9_method_9_code 144 = .ok (.getfield 19, 3) := by decide +kernel
theorem d_Model_say_147 : decode prog_9_method_9_code 147 = .ok (.aload_n 0, 1) := by decide +kernel
theorem d_Model_say_148 : decode prog_9_method_9_code 148 = .ok (.getfield 122, 3) := by decide +kernel
theorem d_Model_say_151 : decode prog_9_method_9_code 151 = .ok (.iload 5, 2) := by decide +kernel
theorem d_Model_say_153 : decode prog_9_method_9_code 153 = .ok (.iastore, 1) := by decide +kernel
theorem d_Model_say_154 : decode prog_9_method_9_code 154 = .ok (.aload_n 0, 1) := by decide +kernel
theorem d_Model_say_155 : decode prog_9_method_9_code 155 = .ok (.dup, 1) := by decide +kernel
theorem d_Model_say_156 : decode prog_9_method_9_code 156 = .ok (.getfield 122, 3) := by decide +kernel
theorem d_Model_say_159 : decode prog_9_method_9_code 159 = .ok (.iconst 1, 1) := by decide +kernel
theorem d_Model_say_160 : decode prog_9_method_9_code 160 = .ok (.iadd, 1) := by decide +kernel
theorem d_Model_say_161 : decode prog_9_method_9_code 161 = .ok (.putfield 122, 3) := by decide +kernel
theorem d_Model_say_164 : decode prog_9_method_9_code 164 = .ok (.iinc 4 (-8), 3) := by decide +kernel
theorem d_Model_say_167 : decode prog_9_method_9_code 167 = .ok (.goto (-45), 3) := by decide +kernel
theorem d_Model_say_170 : decode prog_9_method_9_code 170 = .ok (.aload_n 0, 1) := by decide +kernel
theorem d_Model_say_171 : decode prog_9_method_9_code 171 = .ok (.getfield 122, 3) := by decide +kernel
theorem d_Model_say_174 : decode prog_9_method_9_code 174 = .ok (.ireturn, 1) := by decide +kernel
theorem kK_Model_116 : Cond.constantLong "FaultRulesModel" (116 : Nat) (255 : Int64) ∈ xT := x_t4 rfl (i := 110) rfl
theorem kK_Model_118 : Cond.constantLong "FaultRulesModel" (118 : Nat) (32 : Int64) ∈ xT := x_t4 rfl (i := 111) rfl
theorem kK_Model_120 : Cond.constantLong "FaultRulesModel" (120 : Nat) (126 : Int64) ∈ xT := x_t4 rfl (i := 112) rfl
theorem kF_Model_122 : Cond.fieldLink "FaultRulesModel" (122 : Nat) "FaultRulesModel" "size" "I" ∈ xT := x_t3 rfl (i := 220) rfl
theorem kF_Model_19 : Cond.fieldLink "FaultRulesModel" (19 : Nat) "FaultRulesModel" "text" "[I" ∈ xT := x_t3 rfl (i := 219) rfl
abbrev y_Model_trim : MethodName := { cls := "FaultRulesModel", name := "trim", desc := "(I)I" }
theorem kC_Model_trim : Cond.code ({ cls := "FaultRulesModel", name := "trim", desc := "(I)I" } : Jvm.MethodName) prog_9_method_10_code (2 : Nat) (Option.some Jvm.ClassFile.FieldType.int) ∈ xT := x_t4 rfl (i := 116) rfl
theorem hd_Model_trim : y_Model_trim.cls ≠ "java/lang/invoke/MethodHandle" ∧ y_Model_trim.cls ≠ "java/lang/invoke/VarHandle" ∧ (parseMethodDescriptor y_Model_trim.desc).map (fun d => d.parameters.length) = some 1 := by decide +kernel
theorem d_Model_trim_0 : decode prog_9_method_10_code 0 = .ok (.aload_n 0, 1) := by decide +kernel
theorem d_Model_trim_1 : decode prog_9_method_10_code 1 = .ok (.iload_n 1, 1) := by decide +kernel
theorem d_Model_trim_2 : decode prog_9_method_10_code 2 = .ok (.ifCond .lt 11, 3) := by decide +kernel
theorem d_Model_trim_5 : decode prog_9_method_10_code 5 = .ok (.iload_n 1, 1) := by decide +kernel
theorem d_Model_trim_6 : decode prog_9_method_10_code 6 = .ok (.aload_n 0, 1) := by decide +kernel
theorem d_Model_trim_7 : decode prog_9_method_10_code 7 = .ok (.getfield 122, 3) := by decide +kernel
theorem d_Model_trim_10 : decode prog_9_method_10_code 10 = .ok (.if_icmp .le 7, 3) := by decide +kernel
theorem d_Model_trim_13 : decode prog_9_method_10_code 13 = .ok (.iconst 1, 1) := by decide +kernel
theorem d_Model_trim_14 : decode prog_9_method_10_code 14 = .ok (.goto 4, 3) := by decide +kernel
theorem d_Model_trim_17 : decode prog_9_method_10_code 17 = .ok (.iconst 0, 1) := by decide +kernel
theorem d_Model_trim_18 : decode prog_9_method_10_code 18 = .ok (.putfield 86, 3) := by decide +kernel
theorem d_Model_trim_21 : decode prog_9_method_10_code 21 = .ok (.aload_n 0, 1) := by decide +kernel
theorem d_Model_trim_22 : decode prog_9_method_10_code 22 = .ok (.getfield 86, 3) := by decide +kernel
theorem d_Model_trim_25 : decode prog_9_method_10_code 25 = .ok (.ifCond .le 5, 3) := by decide +kernel
theorem d_Model_trim_28 : decode prog_9_method_10_code 28 = .ok (.iconst 0, 1) := by decide +kernel
theorem d_Model_trim_29 : decode prog_9_method_10_code 29 = .ok (.ireturn, 1) := by decide +kernel
theorem d_Model_trim_30 : decode prog_9_method_10_code 30 = .ok (.aload_n 0, 1) := by decide +kernel
theorem d_Model_trim_31 : decode prog_9_method_10_code 31 = .ok (.dup, 1) := by decide +kernel
theorem d_Model_trim_32 : decode prog_9_method_10_code 32 = .ok (.getfield 122, 3) := by decide +kernel
theorem d_Model_trim_35 : decode prog_9_method_10_code 35 = .ok (.iload_n 1, 1) := by decide +kernel
theorem d_Model_trim_36 : decode prog_9_method_10_code 36 = .ok (.isub, 1) := by decide +kernel
theorem d_Model_trim_37 : decode prog_9_method_10_code 37 = .ok (.putfield 122, 3) := by decide +kernel
theorem d_Model_trim_40 : decode prog_9_method_10_code 40 = .ok (.aload_n 0, 1) := by decide +kernel
theorem d_Model_trim_41 : decode prog_9_method_10_code 41 = .ok (.getfield 122, 3) := by decide +kernel
theorem d_Model_trim_44 : decode prog_9_method_10_code 44 = .ok (.ireturn, 1) := by decide +kernel
abbrev y_Model_letter : MethodName := { cls := "FaultRulesModel", name := "letter", desc := "(I)I" }
theorem kC_Model_letter : Cond.code ({ cls := "FaultRulesModel", name := "letter", desc := "(I)I" } : Jvm.MethodName) prog_9_method_11_code (2 : Nat) (Option.some Jvm.ClassFile.FieldType.int) ∈ xT := x_t4 rfl (i := 128) rfl
theorem hd_Model_letter : y_Model_letter.cls ≠ "java/lang/invoke/MethodHandle" ∧ y_Model_letter.cls ≠ "java/lang/invoke/VarHandle" ∧ (parseMethodDescriptor y_Model_letter.desc).map (fun d => d.parameters.length) = some 1 := by decide +kernel
theorem d_Model_letter_0 : decode prog_9_method_11_code 0 = .ok (.iload_n 1, 1) := by decide +kernel
theorem d_Model_letter_1 : decode prog_9_method_11_code 1 = .ok (.aload_n 0, 1) := by decide +kernel
