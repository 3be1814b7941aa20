theorem d_Reader_read_27 : decode prog_3_method_2_code 27 = .ok (.ifCond .eq 22, 3) := by decide +kernel
theorem d_Reader_read_30 : decode prog_3_method_2_code 30 = .ok (.aload_n 0, 1) := by decide +kernel
theorem d_Reader_read_31 : decode prog_3_method_2_code 31 = .ok (.aload_n 1, 1) := by decide +kernel
theorem d_Reader_read_32 : decode prog_3_method_2_code 32 = .ok (.aload_n 2, 1) := by decide +kernel
theorem d_Reader_read_33 : decode prog_3_method_2_code 33 = .ok (.invokevirtual 28, 3) := by decide +kernel
theorem d_Reader_read_36 : decode prog_3_method_2_code 36 = .ok (.ifCond .eq 13, 3) := by decide +kernel
theorem d_Reader_read_39 : decode prog_3_method_2_code 39 = .ok (.aload_n 1, 1) := by decide +kernel
theorem d_Reader_read_40 : decode prog_3_method_2_code 40 = .ok (.invokevirtual 32, 3) := by decide +kernel
theorem d_Reader_read_43 : decode prog_3_method_2_code 43 = .ok (.iinc 3 1, 3) := by decide +kernel
theorem d_Reader_read_46 : decode prog_3_method_2_code 46 = .ok (.goto (-30), 3) := by decide +kernel
theorem d_Reader_read_49 : decode prog_3_method_2_code 49 = .ok (.aload_n 1, 1) := by decide +kernel
theorem d_Reader_read_50 : decode prog_3_method_2_code 50 = .ok (.getfield 25, 3) := by decide +kernel
theorem d_Reader_read_53 : decode prog_3_method_2_code 53 = .ok (.ifCond .ne 17, 3) := by decide +kernel
theorem d_Reader_read_56 : decode prog_3_method_2_code 56 = .ok (.aload_n 0, 1) := by decide +kernel
theorem d_Reader_read_57 : decode prog_3_method_2_code 57 = .ok (.getfield 11, 3) := by decide +kernel
theorem d_Reader_read_60 : decode prog_3_method_2_code 60 = .ok (.ifCond .ne 10, 3) := by decide +kernel
theorem d_Reader_read_63 : decode prog_3_method_2_code 63 = .ok (.aload_n 2, 1) := by decide +kernel
theorem d_Reader_read_64 : decode prog_3_method_2_code 64 = .ok (.getfield 15, 3) := by decide +kernel
theorem d_Reader_read_67 : decode prog_3_method_2_code 67 = .ok (.goto 6, 3) := by decide +kernel
theorem d_Reader_read_70 : decode prog_3_method_2_code 70 = .ok (.iconst (-1), 1) := by decide +kernel
theorem d_Reader_read_71 : decode prog_3_method_2_code 71 = .ok (.iload_n 3, 1) := by decide +kernel
theorem d_Reader_read_72 : decode prog_3_method_2_code 72 = .ok (.isub, 1) := by decide +kernel
theorem d_Reader_read_73 : decode prog_3_method_2_code 73 = .ok (.ireturn, 1) := by decide +kernel
theorem kM_Reader_20 : Cond.methodLink "FaultRules$Reader" (20 : Nat) ({ cls := "FaultRules$Text", name := "readFirst", desc := "()V" } : Jvm.MethodName) ∈ xT := x_t1 rfl (i := 227) rfl
theorem kI_Text_readFirst : Cond.instanceMethod ({ cls := "FaultRules$Text", name := "readFirst", desc := "()V" } : Jvm.MethodName) ∈ xT := x_t1 rfl (i := 228) rfl
theorem kS_202 : Cond.selects "FaultRules$Text" ({ cls := "FaultRules$Text", name := "readFirst", desc := "()V" } : Jvm.MethodName) ({ cls := "FaultRules$Text", name := "readFirst", desc := "()V" } : Jvm.MethodName) ∈ xT := x_t1 rfl (i := 229) rfl
theorem kM_Reader_28 : Cond.methodLink "FaultRules$Reader" (28 : Nat) ({ cls := "FaultRules$Reader", name := "takes", desc := "(LFaultRules$Text;LFaultRules$RuleSet;)Z" } : Jvm.MethodName) ∈ xT := x_t2 rfl (i := 40) rfl
theorem kI_Reader_takes : Cond.instanceMethod ({ cls := "FaultRules$Reader", name := "takes", desc := "(LFaultRules$Text;LFaultRules$RuleSet;)Z" } : Jvm.MethodName) ∈ xT := x_t2 rfl (i := 42) rfl
theorem kS_205 : Cond.selects "FaultRules$Reader" ({ cls := "FaultRules$Reader", name := "takes", desc := "(LFaultRules$Text;LFaultRules$RuleSet;)Z" } : Jvm.MethodName) ({ cls := "FaultRules$Reader", name := "takes", desc := "(LFaultRules$Text;LFaultRules$RuleSet;)Z" } : Jvm.MethodName) ∈ xT := x_tp rfl (i := 6) rfl
theorem kM_Reader_32 : Cond.methodLink "FaultRules$Reader" (32 : Nat) ({ cls := "FaultRules$Text", name := "readNext", desc := "()V" } : Jvm.MethodName) ∈ xT := x_t2 rfl (i := 103) rfl
abbrev y_Run_clear : MethodName := { cls := "FaultRules$Run", name := "clear", desc := "()V" }
theorem kC_Run_clear : Cond.code ({ cls := "FaultRules$Run", name := "clear", desc := "()V" } : Jvm.MethodName) prog_6_method_4_code (1 : Nat) (Option.none : Option Jvm.ClassFile.FieldType) ∈ xT := x_t3 rfl (i := 46) rfl
theorem hd_Run_clear : y_Run_clear.cls ≠ "java/lang/invoke/MethodHandle" ∧ y_Run_clear.cls ≠ "java/lang/invoke/VarHandle" ∧ (parseMethodDescriptor y_Run_clear.desc).map (fun d => d.parameters.length) = some 0 := by decide +kernel
theorem d_Run_clear_0 : decode prog_6_method_4_code 0 = .ok (.aload_n 0, 1) := by decide +kernel
theorem d_Run_clear_1 : decode prog_6_method_4_code 1 = .ok (.iconst 0, 1) := by decide +kernel
theorem d_Run_clear_2 : decode prog_6_method_4_code 2 = .ok (.putfield 64, 3) := by decide +kernel
theorem d_Run_clear_5 : decode prog_6_method_4_code 5 = .ok (.aload_n 0, 1) := by decide +kernel
theorem d_Run_clear_6 : decode prog_6_method_4_code 6 = .ok (.iconst 0, 1) := by decide +kernel
theorem d_Run_clear_7 : decode prog_6_method_4_code 7 = .ok (.putfield 65, 3) := by decide +kernel
theorem d_Run_clear_10 : decode prog_6_method_4_code 10 = .ok (.aload_n 0, 1) := by decide +kernel
theorem d_Run_clear_11 : decode prog_6_method_4_code 11 = .ok (.iconst 0, 1) := by decide +kernel
theorem d_Run_clear_12 : decode prog_6_method_4_code 12 = .ok (.putfield 68, 3) := by decide +kernel
theorem d_Run_clear_15 : decode prog_6_method_4_code 15 = .ok (.aload_n 0, 1) := by decide +kernel
theorem d_Run_clear_16 : decode prog_6_method_4_code 16 = .ok (.getfield 9, 3) := by decide +kernel
theorem d_Run_clear_19 : decode prog_6_method_4_code 19 = .ok (.iconst 0, 1) := by decide +kernel
theorem d_Run_clear_20 : decode prog_6_method_4_code 20 = .ok (.invokestatic 71, 3) := by decide +kernel
theorem d_Run_clear_23 : decode prog_6_method_4_code 23 = .ok (.aload_n 0, 1) := by decide +kernel
theorem d_Run_clear_24 : decode prog_6_method_4_code 24 = .ok (.getfield 15, 3) := by decide +kernel
theorem d_Run_clear_27 : decode prog_6_method_4_code 27 = .ok (.iconst (-1), 1) := by decide +kernel
theorem d_Run_clear_28 : decode prog_6_method_4_code 28 = .ok (.invokestatic 71, 3) := by decide +kernel
theorem d_Run_clear_31 : decode prog_6_method_4_code 31 = .ok (.return_, 1) := by decide +kernel
theorem kF_Run_64 : Cond.fieldLink "FaultRules$Run" (64 : Nat) "FaultRules$Run" "count" "I" ∈ xT := x_t1 rfl (i := 97) rfl
theorem kF_Run_65 : Cond.fieldLink "FaultRules$Run" (65 : Nat) "FaultRules$Run" "total" "I" ∈ xT := x_t1 rfl (i := 99) rfl
theorem kF_Run_68 : Cond.fieldLink "FaultRules$Run" (68 : Nat) "FaultRules$Run" "faultyRules" "I" ∈ xT := x_t1 rfl (i := 101) rfl
theorem kF_Run_9 : Cond.fieldLink "FaultRules$Run" (9 : Nat) "FaultRules$Run" "minutesHeld" "[I" ∈ xT := x_t1 rfl (i := 103) rfl
theorem kF_Run_15 : Cond.fieldLink "FaultRules$Run" (15 : Nat) "FaultRules$Run" "since" "[I" ∈ xT := x_t1 rfl (i := 105) rfl
theorem kM_Run_71 : Cond.methodLink "FaultRules$Run" (71 : Nat) ({ cls := "java/util/Arrays", name := "fill", desc := "([II)V" } : Jvm.MethodName) ∈ xT := x_t3 rfl (i := 47) rfl
abbrev y_Run_goOn : MethodName := { cls := "FaultRules$Run", name := "goOn", desc := "(II)V" }
theorem kC_Run_goOn : Cond.code ({ cls := "FaultRules$Run", name := "goOn", desc := "(II)V" } : Jvm.MethodName) prog_6_method_5_code (3 : Nat) (Option.none : Option Jvm.ClassFile.FieldType) ∈ xT := x_t3 rfl (i := 78) rfl
theorem hd_Run_goOn : y_Run_goOn.cls ≠ "java/lang/invoke/MethodHandle" ∧ y_Run_goOn.cls ≠ "java/lang/invoke/VarHandle" ∧ (parseMethodDescriptor y_Run_goOn.desc).map (fun d => d.parameters.length) = some 2 := by decide +kernel
theorem d_Run_goOn_0 : decode prog_6_method_5_code 0 = .ok (.aload_n 0, 1) := by decide +kernel
theorem d_Run_goOn_1 : decode prog_6_method_5_code 1 = .ok (.getfield 9, 3) := by decide +kernel
theorem d_Run_goOn_4 : decode prog_6_method_5_code 4 = .ok (.iload_n 1, 1) := by decide +kernel
theorem d_Run_goOn_5 : decode prog_6_method_5_code 5 = .ok (.dup2, 1) := by decide +kernel
theorem d_Run_goOn_6 : decode prog_6_method_5_code 6 = .ok (.iaload, 1) := by decide +kernel
theorem d_Run_goOn_7 : decode prog_6_method_5_code 7 = .ok (.iconst 1, 1) := by decide +kernel
theorem d_Run_goOn_8 : decode prog_6_method_5_code 8 = .ok (.iadd, 1) := by decide +kernel
theorem d_Run_goOn_9 : decode prog_6_method_5_code 9 = .ok (.iastore, 1) := by decide +kernel
theorem d_Run_goOn_10 : decode prog_6_method_5_code 10 = .ok (.aload_n 0, 1) := by decide +kernel
theorem d_Run_goOn_11 : decode prog_6_method_5_code 11 = .ok (.getfield 15, 3) := by decide +kernel
theorem d_Run_goOn_14 : decode prog_6_method_5_code 14 = .ok (.iload_n 1, 1) := by decide +kernel
theorem d_Run_goOn_15 : decode prog_6_method_5_code 15 = .ok (.iaload, 1) := by decide +kernel
theorem d_Run_goOn_16 : decode prog_6_method_5_code 16 = .ok (.iconst (-1), 1) := by decide +kernel
theorem d_Run_goOn_17 : decode prog_6_method_5_code 17 = .ok (.if_icmp .ne 10, 3) := by decide +kernel
theorem d_Run_goOn_20 : decode prog_6_method_5_code 20 = .ok (.aload_n 0, 1) := by decide +kernel
theorem d_Run_goOn_21 : decode prog_6_method_5_code 21 = .ok (.getfield 15, 3) := by decide +kernel
theorem d_Run_goOn_24 : decode prog_6_method_5_code 24 = .ok (.iload_n 1, 1) := by decide +kernel
theorem d_Run_goOn_25 : decode prog_6_method_5_code 25 = .ok (.iload_n 2, 1) := by decide +kernel
theorem d_Run_goOn_26 : decode prog_6_method_5_code 26 = .ok (.iastore, 1) := by decide +kernel
theorem d_Run_goOn_27 : decode prog_6_method_5_code 27 = .ok (.return_, 1) := by decide +kernel
abbrev y_Run_ranksBefore : MethodName := { cls := "FaultRules$Run", name := "ranksBefore", desc := "(LFaultRules$RuleSet;IIII)Z" }
theorem kC_Run_ranksBefore : Cond.code ({ cls := "FaultRules$Run", name := "ranksBefore", desc := "(LFaultRules$RuleSet;IIII)Z" } : Jvm.MethodName) prog_6_method_10_code (6 : Nat) (Option.some Jvm.ClassFile.FieldType.boolean) ∈ xT := x_t3 rfl (i := 94) rfl
theorem hd_Run_ranksBefore : y_Run_ranksBefore.cls ≠ "java/lang/invoke/MethodHandle" ∧ y_Run_ranksBefore.cls ≠ "java/lang/invoke/VarHandle" ∧ (parseMethodDescriptor y_Run_ranksBefore.desc).map (fun d => d.parameters.length) = some 5 := by decide +kernel
theorem d_Run_ranksBefore_0 : decode prog_6_method_10_code 0 = .ok (.aload_n 0, 1) := by decide +kernel
theorem d_Run_ranksBefore_1 : decode prog_6_method_10_code 1 = .ok (.getfield 27, 3) := by decide +kernel
theorem d_Run_ranksBefore_4 : decode prog_6_method_10_code 4 = .ok (.iload_n 2, 1) := by decide +kernel
theorem d_Run_ranksBefore_5 : decode prog_6_method_10_code 5 = .ok (.iaload, 1) := by decide +kernel
theorem d_Run_ranksBefore_6 : decode prog_6_method_10_code 6 = .ok (.iload 5, 2) := by decide +kernel
theorem d_Run_ranksBefore_8 : decode prog_6_method_10_code 8 = .ok (.if_icmp .eq 20, 3) := by decide +kernel
theorem d_Run_ranksBefore_11 : decode prog_6_method_10_code 11 = .ok (.aload_n 0, 1) := by decide +kernel
theorem d_Run_ranksBefore_12 : decode prog_6_method_10_code 12 = .ok (.getfield 27, 3) := by decide +kernel
theorem d_Run_ranksBefore_15 : decode prog_6_method_10_code 15 = .ok (.iload_n 2, 1) := by decide +kernel
theorem d_Run_ranksBefore_16 : decode prog_6_method_10_code 16 = .ok (.iaload, 1) := by decide +kernel
theorem d_Run_ranksBefore_17 : decode prog_6_method_10_code 17 = .ok (.iload 5, 2) := by decide +kernel
theorem d_Run_ranksBefore_19 : decode prog_6_method_10_code 19 = .ok (.if_icmp .le 7, 3) := by decide +kernel
theorem d_Run_ranksBefore_22 : decode prog_6_method_10_code 22 = .ok (.iconst 1, 1) := by decide +kernel
theorem d_Run_ranksBefore_23 : decode prog_6_method_10_code 23 = .ok (.goto 4, 3) := by decide +kernel
theorem d_Run_ranksBefore_26 : decode prog_6_method_10_code 26 = .ok (.iconst 0, 1) := by decide +kernel
theorem d_Run_ranksBefore_27 : decode prog_6_method_10_code 27 = .ok (.ireturn, 1) := by decide +kernel
theorem d_Run_ranksBefore_28 : decode prog_6_method_10_code 28 = .ok (.aload_n 0, 1) := by decide +kernel
theorem d_Run_ranksBefore_29 : decode prog_6_method_10_code 29 = .ok (.getfield 18, 3) := by decide +kernel
theorem d_Run_ranksBefore_32 : decode prog_6_method_10_code 32 = .ok (.iload_n 2, 1) := by decide +kernel
theorem d_Run_ranksBefore_33 : decode prog_6_method_10_code 33 = .ok (.iaload, 1) := by decide +kernel
theorem d_Run_ranksBefore_34 : decode prog_6_method_10_code 34 = .ok (.iload_n 3, 1) := by decide +kernel
theorem d_Run_ranksBefore_35 : decode prog_6_method_10_code 35 = .ok (.if_icmp .eq 30, 3) := by decide +kernel
theorem d_Run_ranksBefore_38 : decode prog_6_method_10_code 38 = .ok (.aload_n 1, 1) := by decide +kernel
theorem d_Run_ranksBefore_39 : decode prog_6_method_10_code 39 = .ok (.getfield 104, 3) := by decide +kernel
theorem d_Run_ranksBefore_42 : decode prog_6_method_10_code 42 = .ok (.aload_n 0, 1) := by decide +kernel
theorem d_Run_ranksBefore_43 : decode prog_6_method_10_code 43 = .ok (.getfield 18, 3) := by decide +kernel
theorem d_Run_ranksBefore_46 : decode prog_6_method_10_code 46 = .ok (.iload_n 2, 1) := by decide +kernel
theorem d_Run_ranksBefore_47 : decode prog_6_method_10_code 47 = .ok (.iaload, 1) := by decide +kernel
theorem d_Run_ranksBefore_48 : decode prog_6_method_10_code 48 = .ok (.laload, 1) := by decide +kernel
theorem d_Run_ranksBefore_49 : decode prog_6_method_10_code 49 = .ok (.aload_n 1, 1) := by decide +kernel
theorem d_Run_ranksBefore_50 : decode prog_6_method_10_code 50 = .ok (.getfield 104, 3) := by decide +kernel
theorem d_Run_ranksBefore_53 : decode prog_6_method_10_code 53 = .ok (.iload_n 3, 1) := by decide +kernel
theorem d_Run_ranksBefore_54 : decode prog_6_method_10_code 54 = .ok (.laload, 1) := by decide +kernel
theorem d_Run_ranksBefore_55 : decode prog_6_method_10_code 55 = .ok (.lcmp, 1) := by decide +kernel
theorem d_Run_ranksBefore_56 : decode prog_6_method_10_code 56 = .ok (.ifCond .ge 7, 3) := by decide +kernel
theorem d_Run_ranksBefore_59 : decode prog_6_method_10_code 59 = .ok (.iconst 1, 1) := by decide +kernel
theorem d_Run_ranksBefore_60 : decode prog_6_method_10_code 60 = .ok (.goto 4, 3) := by decide +kernel
theorem d_Run_ranksBefore_63 : decode prog_6_method_10_code 63 = .ok (.iconst 0, 1) := by decide +kernel
theorem d_Run_ranksBefore_64 : decode prog_6_method_10_code 64 = .ok (.ireturn, 1) := by decide +kernel
theorem d_Run_ranksBefore_65 : decode prog_6_method_10_code 65 = .ok (.aload_n 0, 1) := by decide +kernel
theorem d_Run_ranksBefore_66 : decode prog_6_method_10_code 66 = .ok (.getfield 21, 3) := by decide +kernel
theorem d_Run_ranksBefore_69 : decode prog_6_method_10_code 69 = .ok (.iload_n 2, 1) := by decide +kernel
theorem d_Run_ranksBefore_70 : decode prog_6_method_10_code 70 = .ok (.iaload, 1) := by decide +kernel
theorem d_Run_ranksBefore_71 : decode prog_6_method_10_code 71 = .ok (.iload 4, 2) := by decide +kernel
theorem d_Run_ranksBefore_73 : decode prog_6_method_10_code 73 = .ok (.if_icmp .ge 7, 3) := by decide +kernel
theorem d_Run_ranksBefore_76 : decode prog_6_method_10_code 76 = .ok (.iconst 1, 1) := by decide +kernel
theorem d_Run_ranksBefore_77 : decode prog_6_method_10_code 77 = .ok (.goto 4, 3) := by decide +kernel
theorem d_Run_ranksBefore_80 : decode prog_6_method_10_code 80 = .ok (.iconst 0, 1) := by decide +kernel
theorem d_Run_ranksBefore_81 : decode prog_6_method_10_code 81 = .ok (.ireturn, 1) := by decide +kernel
theorem kF_Run_27 : Cond.fieldLink "FaultRules$Run" (27 : Nat) "FaultRules$Run" "faultCosts" "[I" ∈ xT := x_t1 rfl (i := 109) rfl
theorem kF_Run_18 : Cond.fieldLink "FaultRules$Run" (18 : Nat) "FaultRules$Run" "faultRules" "[I" ∈ xT := x_t1 rfl (i := 106) rfl
theorem kF_Run_21 : Cond.fieldLink "FaultRules$Run" (21 : Nat) "FaultRules$Run" "begins" "[I" ∈ xT := x_t1 rfl (i := 107) rfl
theorem kF_Run_104 : Cond.fieldLink "FaultRules$Run" (104 : Nat) "FaultRules$RuleSet" "names" "[J" ∈ xT := x_t1 rfl (i := 152) rfl
abbrev y_Run_placeOf : MethodName := { cls := "FaultRules$Run", name := "placeOf", desc := "(LFaultRules$RuleSet;III)I" }
theorem kC_Run_placeOf : Cond.code ({ cls := "FaultRules$Run", name := "placeOf", desc := "(LFaultRules$RuleSet;III)I" } : Jvm.MethodName) prog_6_method_9_code (9 : Nat) (Option.some Jvm.ClassFile.FieldType.int) ∈ xT := x_t3 rfl (i := 90) rfl
theorem hd_Run_placeOf : y_Run_placeOf.cls ≠ "java/lang/invoke/MethodHandle" ∧ y_Run_placeOf.cls ≠ "java/lang/invoke/VarHandle" ∧ (parseMethodDescriptor y_Run_placeOf.desc).map (fun d => d.parameters.length) = some 4 := by decide +kernel
theorem d_Run_placeOf_0 : decode prog_6_method_9_code 0 = .ok (.iconst 0, 1) := by decide +kernel
theorem d_Run_placeOf_1 : decode prog_6_method_9_code 1 = .ok (.istore 5, 2) := by decide +kernel
theorem d_Run_placeOf_3 : decode prog_6_method_9_code 3 = .ok (.aload_n 0, 1) := by decide +kernel
theorem d_Run_placeOf_4 : decode prog_6_method_9_code 4 = .ok (.getfield 64, 3) := by decide +kernel
theorem d_Run_placeOf_7 : decode prog_6_method_9_code 7 = .ok (.istore 6, 2) := by decide +kernel
theorem d_Run_placeOf_9 : decode prog_6_method_9_code 9 = .ok (.iconst 0, 1) := by decide +kernel
theorem d_Run_placeOf_10 : decode prog_6_method_9_code 10 = .ok (.istore 7, 2) := by decide +kernel
theorem d_Run_placeOf_12 : decode prog_6_method_9_code 12 = .ok (.iload 7, 2) := by decide +kernel
theorem d_Run_placeOf_14 : decode prog_6_method_9_code 14 = .ok (.bipush 32, 2) := by decide +kernel
theorem d_Run_placeOf_16 : decode prog_6_method_9_code 16 = .ok (.if_icmp .ge 52, 3) := by decide +kernel
theorem d_Run_placeOf_19 : decode prog_6_method_9_code 19 = .ok (.iload 5, 2) := by decide +kernel
theorem d_Run_placeOf_21 : decode prog_6_method_9_code 21 = .ok (.iload 6, 2) := by decide +kernel
theorem d_Run_placeOf_23 : decode prog_6_method_9_code 23 = .ok (.if_icmp .ge 45, 3) := by decide +kernel
theorem d_Run_placeOf_26 : decode prog_6_method_9_code 26 = .ok (.iload 5, 2) := by decide +kernel
theorem d_Run_placeOf_28 : decode prog_6_method_9_code 28 = .ok (.iload 6, 2) := by decide +kernel
theorem d_Run_placeOf_30 : decode prog_6_method_9_code 30 = .ok (.iadd, 1) := by decide +kernel
theorem d_Run_placeOf_31 : decode prog_6_method_9_code 31 = .ok (.iconst 1, 1) := by decide +kernel
theorem d_Run_placeOf_32 : decode prog_6_method_9_code 32 = .ok (.ishr, 1) := by decide +kernel
theorem d_Run_placeOf_33 : decode prog_6_method_9_code 33 = .ok (.istore 8, 2) := by decide +kernel
theorem d_Run_placeOf_35 : decode prog_6_method_9_code 35 = .ok (.aload_n 0, 1) := by decide +kernel
theorem d_Run_placeOf_36 : decode prog_6_method_9_code 36 = .ok (.aload_n 1, 1) := by decide +kernel
theorem d_Run_placeOf_37 : decode prog_6_method_9_code 37 = .ok (.iload 8, 2) := by decide +kernel
theorem d_Run_placeOf_39 : decode prog_6_method_9_code 39 = .ok (.iload_n 2, 1) := by decide +kernel
theorem d_Run_placeOf_40 : decode prog_6_method_9_code 40 = .ok (.iload_n 3, 1) := by decide +kernel
theorem d_Run_placeOf_41 : decode prog_6_method_9_code 41 = .ok (.iload 4, 2) := by decide +kernel
theorem d_Run_placeOf_43 : decode prog_6_method_9_code 43 = .ok (.invokevirtual 100, 3) := by decide +kernel
theorem d_Run_placeOf_46 : decode prog_6_method_9_code 46 = .ok (.ifCond .eq 12, 3) := by decide +kernel
theorem d_Run_placeOf_49 : decode prog_6_method_9_code 49 = .ok (.iload 8, 2) := by decide +kernel
theorem d_Run_placeOf_51 : decode prog_6_method_9_code 51 = .ok (.iconst 1, 1) := by decide +kernel
theorem d_Run_placeOf_52 : decode prog_6_method_9_code 52 = .ok (.iadd, 1) := by decide +kernel
theorem d_Run_placeOf_53 : decode prog_6_method_9_code 53 = .ok (.istore 5, 2) := by decide +kernel
theorem d_Run_placeOf_55 : decode prog_6_method_9_code 55 = .ok (.goto 7, 3) := by decide +kernel
theorem d_Run_placeOf_58 : decode prog_6_method_9_code 58 = .ok (.iload 8, 2) := by decide +kernel
theorem d_Run_placeOf_60 : decode prog_6_method_9_code 60 = .ok (.istore 6, 2) := by decide +kernel
theorem d_Run_placeOf_62 : decode prog_6_method_9_code 62 = .ok (.iinc 7 1, 3) := by decide +kernel
theorem d_Run_placeOf_65 : decode prog_6_method_9_code 65 = .ok (.goto (-53), 3) := by decide +kernel
theorem d_Run_placeOf_68 : decode prog_6_method_9_code 68 = .ok (.iload 5, 2) := by decide +kernel
theorem d_Run_placeOf_70 : decode prog_6_method_9_code 70 = .ok (.ireturn, 1) := by decide +kernel
theorem kM_Run_100 : Cond.methodLink "FaultRules$Run" (100 : Nat) ({ cls := "FaultRules$Run", name := "ranksBefore", desc := "(LFaultRules$RuleSet;IIII)Z" } : Jvm.MethodName) ∈ xT := x_t3 rfl (i := 91) rfl
theorem kN_Run : Cond.initialized "FaultRules$Run" ∈ xT := x_t1 rfl (i := 5) rfl
theorem kI_Run_ranksBefore : Cond.instanceMethod ({ cls := "FaultRules$Run", name := "ranksBefore", desc := "(LFaultRules$RuleSet;IIII)Z" } : Jvm.MethodName) ∈ xT := x_t3 rfl (i := 93) rfl
theorem kS_224 : Cond.selects "FaultRules$Run" ({ cls := "FaultRules$Run", name := "ranksBefore", desc := "(LFaultRules$RuleSet;IIII)Z" } : Jvm.MethodName) ({ cls := "FaultRules$Run", name := "ranksBefore", desc := "(LFaultRules$RuleSet;IIII)Z" } : Jvm.MethodName) ∈ xT := x_tp rfl (i := 26) rfl
abbrev y_Run_makeRoom : MethodName := { cls := "FaultRules$Run", name := "makeRoom", desc := "([II)V" }
theorem kC_Run_makeRoom : Cond.code ({ cls := "FaultRules$Run", name := "makeRoom", desc := "([II)V" } : Jvm.MethodName) prog_6_method_8_code (3 : Nat) (Option.none : Option Jvm.ClassFile.FieldType) ∈ xT := x_t3 rfl (i := 98) rfl
theorem hd_Run_makeRoom : y_Run_makeRoom.cls ≠ "java/lang/invoke/MethodHandle" ∧ y_Run_makeRoom.cls ≠ "java/lang/invoke/VarHandle" ∧ (parseMethodDescriptor y_Run_makeRoom.desc).map (fun d => d.parameters.length) = some 2 := by decide +kernel
theorem d_Run_makeRoom_0 : decode prog_6_method_8_code 0 = .ok (.aload_n 1, 1) := by decide +kernel
theorem d_Run_makeRoom_1 : decode prog_6_method_8_code 1 = .ok (.iload_n 2, 1) := by decide +kernel
theorem d_Run_makeRoom_2 : decode prog_6_method_8_code 2 = .ok (.aload_n 1, 1) := by decide +kernel
theorem d_Run_makeRoom_3 : decode prog_6_method_8_code 3 = .ok (.iload_n 2, 1) := by decide +kernel
theorem d_Run_makeRoom_4 : decode prog_6_method_8_code 4 = .ok (.iconst 1, 1) := by decide +kernel
theorem d_Run_makeRoom_5 : decode prog_6_method_8_code 5 = .ok (.iadd, 1) := by decide +kernel
theorem d_Run_makeRoom_6 : decode prog_6_method_8_code 6 = .ok (.aload_n 0, 1) := by decide +kernel
theorem d_Run_makeRoom_7 : decode prog_6_method_8_code 7 = .ok (.getfield 64, 3) := by decide +kernel
theorem d_Run_makeRoom_10 : decode prog_6_method_8_code 10 = .ok (.iload_n 2, 1) := by decide +kernel
theorem d_Run_makeRoom_11 : decode prog_6_method_8_code 11 = .ok (.isub, 1) := by decide +kernel
theorem d_Run_makeRoom_12 : decode prog_6_method_8_code 12 = .ok (.invokestatic 94, 3) := by decide +kernel
theorem d_Run_makeRoom_15 : decode prog_6_method_8_code 15 = .ok (.return_, 1) := by decide +kernel
theorem kM_Run_94 : Cond.methodLink "FaultRules$Run" (94 : Nat) ({ cls := "java/lang/System", name := "arraycopy", desc := "(Ljava/lang/Object;ILjava/lang/Object;II)V" } : Jvm.MethodName) ∈ xT := x_t3 rfl (i := 99) rfl
abbrev y_Run_add : MethodName := { cls := "FaultRules$Run", name := "add", desc := "(LFaultRules$RuleSet;III)V" }
theorem kC_Run_add : Cond.code ({ cls := "FaultRules$Run", name := "add", desc := "(LFaultRules$RuleSet;III)V" } : Jvm.MethodName) prog_6_method_7_code (7 : Nat) (Option.none : Option Jvm.ClassFile.FieldType) ∈ xT := x_t3 rfl (i := 86) rfl
theorem hd_Run_add : y_Run_add.cls ≠ "java/lang/invoke/MethodHandle" ∧ y_Run_add.cls ≠ "java/lang/invoke/VarHandle" ∧ (parseMethodDescriptor y_Run_add.desc).map (fun d => d.parameters.length) = some 4 := by decide +kernel
theorem d_Run_add_0 : decode prog_6_method_7_code 0 = .ok (.aload_n 0, 1) := by decide +kernel
theorem d_Run_add_1 : decode prog_6_method_7_code 1 = .ok (.getfield 64, 3) := by decide +kernel
theorem d_Run_add_4 : decode prog_6_method_7_code 4 = .ok (.sipush 726, 3) := by decide +kernel
theorem d_Run_add_7 : decode prog_6_method_7_code 7 = .ok (.if_icmp .lt 4, 3) := by decide +kernel
theorem d_Run_add_10 : decode prog_6_method_7_code 10 = .ok (.return_, 1) := by decide +kernel
theorem d_Run_add_11 : decode prog_6_method_7_code 11 = .ok (.iload 4, 2) := by decide +kernel
theorem d_Run_add_13 : decode prog_6_method_7_code 13 = .ok (.iload_n 3, 1) := by decide +kernel
theorem d_Run_add_14 : decode prog_6_method_7_code 14 = .ok (.isub, 1) := by decide +kernel
theorem d_Run_add_15 : decode prog_6_method_7_code 15 = .ok (.iconst 1, 1) := by decide +kernel
theorem d_Run_add_16 : decode prog_6_method_7_code 16 = .ok (.iadd, 1) := by decide +kernel
theorem d_Run_add_17 : decode prog_6_method_7_code 17 = .ok (.aload_n 1, 1) := by decide +kernel
theorem d_Run_add_18 : decode prog_6_method_7_code 18 = .ok (.getfield 84, 3) := by decide +kernel
theorem d_Run_add_21 : decode prog_6_method_7_code 21 = .ok (.iload_n 2, 1) := by decide +kernel
theorem d_Run_add_22 : decode prog_6_method_7_code 22 = .ok (.iaload, 1) := by decide +kernel
theorem d_Run_add_23 : decode prog_6_method_7_code 23 = .ok (.imul, 1) := by decide +kernel
theorem d_Run_add_24 : decode prog_6_method_7_code 24 = .ok (.istore 5, 2) := by decide +kernel
theorem d_Run_add_26 : decode prog_6_method_7_code 26 = .ok (.aload_n 0, 1) := by decide +kernel
theorem d_Run_add_27 : decode prog_6_method_7_code 27 = .ok (.aload_n 1, 1) := by decide +kernel
theorem d_Run_add_28 : decode prog_6_method_7_code 28 = .ok (.iload_n 2, 1) := by decide +kernel
theorem d_Run_add_29 : decode prog_6_method_7_code 29 = .ok (.iload_n 3, 1) := by decide +kernel
theorem d_Run_add_30 : decode prog_6_method_7_code 30 = .ok (.iload 5, 2) := by decide +kernel
theorem d_Run_add_32 : decode prog_6_method_7_code 32 = .ok (.invokevirtual 87, 3) := by decide +kernel
theorem d_Run_add_35 : decode prog_6_method_7_code 35 = .ok (.istore 6, 2) := by decide +kernel
theorem d_Run_add_37 : decode prog_6_method_7_code 37 = .ok (.aload_n 0, 1) := by decide +kernel
theorem d_Run_add_38 : decode prog_6_method_7_code 38 = .ok (.aload_n 0, 1) := by decide +kernel
theorem d_Run_add_39 : decode prog_6_method_7_code 39 = .ok (.getfield 18, 3) := by decide +kernel
theorem d_Run_add_42 : decode prog_6_method_7_code 42 = .ok (.iload 6, 2) := by decide +kernel
theorem d_Run_add_44 : decode prog_6_method_7_code 44 = .ok (.invokevirtual 91, 3) := by decide +kernel
theorem d_Run_add_47 : decode prog_6_method_7_code 47 = .ok (.aload_n 0, 1) := by decide +kernel
theorem d_Run_add_48 : decode prog_6_method_7_code 48 = .ok (.aload_n 0, 1) := by decide +kernel
theorem d_Run_add_49 : decode prog_6_method_7_code 49 = .ok (.getfield 21, 3) := by decide +kernel
theorem d_Run_add_52 : decode prog_6_method_7_code 52 = .ok (.iload 6, 2) := by decide +kernel
theorem d_Run_add_54 : decode prog_6_method_7_code 54 = .ok (.invokevirtual 91, 3) := by decide +kernel
theorem d_Run_add_57 : decode prog_6_method_7_code 57 = .ok (.aload_n 0, 1) := by decide +kernel
theorem d_Run_add_58 : decode prog_6_method_7_code 58 = .ok (.aload_n 0, 1) := by decide +kernel
theorem d_Run_add_59 : decode prog_6_method_7_code 59 = .ok (.getfield 24, 3) := by decide +kernel
theorem d_Run_add_62 : decode prog_6_method_7_code 62 = .ok (.iload 6, 2) := by decide +kernel
theorem d_Run_add_64 : decode prog_6_method_7_code 64 = .ok (.invokevirtual 91, 3) := by decide +kernel
theorem d_Run_add_67 : decode prog_6_method_7_code 67 = .ok (.aload_n 0, 1) := by decide +kernel
theorem d_Run_add_68 : decode prog_6_method_7_code 68 = .ok (.aload_n 0, 1) := by decide +kernel
theorem d_Run_add_69 : decode prog_6_method_7_code 69 = .ok (.getfield 27, 3) := by decide +kernel
theorem d_Run_add_72 : decode prog_6_method_7_code 72 = .ok (.iload 6, 2) := by decide +kernel
theorem d_Run_add_74 : decode prog_6_method_7_code 74 = .ok (.invokevirtual 91, 3) := by decide +kernel
theorem d_Run_add_77 : decode prog_6_method_7_code 77 = .ok (.aload_n 0, 1) := by decide +kernel
theorem d_Run_add_78 : decode prog_6_method_7_code 78 = .ok (.getfield 18, 3) := by decide +kernel
theorem d_Run_add_81 : decode prog_6_method_7_code 81 = .ok (.iload 6, 2) := by decide +kernel
theorem d_Run_add_83 : decode prog_6_method_7_code 83 = .ok (.iload_n 2, 1) := by decide +kernel
theorem d_Run_add_84 : decode prog_6_method_7_code 84 = .ok (.iastore, 1) := by decide +kernel
theorem d_Run_add_85 : decode prog_6_method_7_code 85 = .ok (.aload_n 0, 1) := by decide +kernel
theorem d_Run_add_86 : decode prog_6_method_7_code 86 = .ok (.getfield 21, 3) := by decide +kernel
theorem d_Run_add_89 : decode prog_6_method_7_code 89 = .ok (.iload 6, 2) := by decide +kernel
theorem d_Run_add_91 : decode prog_6_method_7_code 91 = .ok (.iload_n 3, 1) := by decide +kernel
theorem d_Run_add_92 : decode prog_6_method_7_code 92 = .ok (.iastore, 1) := by decide +kernel
theorem d_Run_add_93 : decode prog_6_method_7_code 93 = .ok (.aload_n 0, 1) := by decide +kernel
theorem d_Run_add_94 : decode prog_6_method_7_code 94 = .ok (.getfield 24, 3) := by decide +kernel
theorem d_Run_add_97 : decode prog_6_method_7_code 97 = .ok (.iload 6, 2) := by decide +kernel
theorem d_Run_add_99 : decode prog_6_method_7_code 99 = .ok (.iload 4, 2) := by decide +kernel
theorem d_Run_add_101 : decode prog_6_method_7_code 101 = .ok (.iastore, 1) := by decide +kernel
theorem d_Run_add_102 : decode prog_6_method_7_code 102 = .ok (.aload_n 0, 1) := by decide +kernel
theorem d_Run_add_103 : decode prog_6_method_7_code 103 = .ok (.getfield 27, 3) := by decide +kernel
theorem d_Run_add_106 : decode prog_6_method_7_code 106 = .ok (.iload 6, 2) := by decide +kernel
theorem d_Run_add_108 : decode prog_6_method_7_code 108 = .ok (.iload 5, 2) := by decide +kernel
theorem d_Run_add_110 : decode prog_6_method_7_code 110 = .ok (.iastore, 1) := by decide +kernel
theorem d_Run_add_111 : decode prog_6_method_7_code 111 = .ok (.aload_n 0, 1) := by decide +kernel
theorem d_Run_add_112 : decode prog_6_method_7_code 112 = .ok (.dup, 1) := by decide +kernel
theorem d_Run_add_113 : decode prog_6_method_7_code 113 = .ok (.getfield 64, 3) := by decide +kernel
theorem d_Run_add_116 : decode prog_6_method_7_code 116 = .ok (.iconst 1, 1) := by decide +kernel
theorem d_Run_add_117 : decode prog_6_method_7_code 117 = .ok (.iadd, 1) := by decide +kernel
theorem d_Run_add_118 : decode prog_6_method_7_code 118 = .ok (.putfield 64, 3) := by decide +kernel
theorem d_Run_add_121 : decode prog_6_method_7_code 121 = .ok (.aload_n 0, 1) := by decide +kernel
theorem d_Run_add_122 : decode prog_6_method_7_code 122 = .ok (.dup, 1) := by decide +kernel
theorem d_Run_add_123 : decode prog_6_method_7_code 123 = .ok (.getfield 65, 3) := by decide +kernel
theorem d_Run_add_126 : decode prog_6_method_7_code 126 = .ok (.iload 5, 2) := by decide +kernel
theorem d_Run_add_128 : decode prog_6_method_7_code 128 = .ok (.iadd, 1) := by decide +kernel
theorem d_Run_add_129 : decode prog_6_method_7_code 129 = .ok (.putfield 65, 3) := by decide +kernel
theorem d_Run_add_132 : decode prog_6_method_7_code 132 = .ok (.aload_n 0, 1) := by decide +kernel
theorem d_Run_add_133 : decode prog_6_method_7_code 133 = .ok (.dup, 1) := by decide +kernel
theorem d_Run_add_134 : decode prog_6_method_7_code 134 = .ok (.getfield 68, 3) := by decide +kernel
theorem d_Run_add_137 : decode prog_6_method_7_code 137 = .ok (.iconst 1, 1) := by decide +kernel
theorem d_Run_add_138 : decode prog_6_method_7_code 138 = .ok (.iload_n 2, 1) := by decide +kernel
theorem d_Run_add_139 : decode prog_6_method_7_code 139 = .ok (.ishl, 1) := by decide +kernel
theorem d_Run_add_140 : decode prog_6_method_7_code 140 = .ok (.ior, 1) := by decide +kernel
theorem d_Run_add_141 : decode prog_6_method_7_code 141 = .ok (.putfield 68, 3) := by decide +kernel
theorem d_Run_add_144 : decode prog_6_method_7_code 144 = .ok (.return_, 1) := by decide +kernel
theorem kF_Run_84 : Cond.fieldLink "FaultRules$Run" (84 : Nat) "FaultRules$RuleSet" "costs" "[I" ∈ xT := x_t1 rfl (i := 157) rfl
theorem kF_Run_24 : Cond.fieldLink "FaultRules$Run" (24 : Nat) "FaultRules$Run" "ends" "[I" ∈ xT := x_t1 rfl (i := 108) rfl
theorem kM_Run_87 : Cond.methodLink "FaultRules$Run" (87 : Nat) ({ cls := "FaultRules$Run", name := "placeOf", desc := "(LFaultRules$RuleSet;III)I" } : Jvm.MethodName) ∈ xT := x_t3 rfl (i := 87) rfl
theorem kI_Run_placeOf : Cond.instanceMethod ({ cls := "FaultRules$Run", name := "placeOf", desc := "(LFaultRules$RuleSet;III)I" } : Jvm.MethodName) ∈ xT := x_t3 rfl (i := 89) rfl
theorem kS_232 : Cond.selects "FaultRules$Run" ({ cls := "FaultRules$Run", name := "placeOf", desc := "(LFaultRules$RuleSet;III)I" } : Jvm.MethodName) ({ cls := "FaultRules$Run", name := "placeOf", desc := "(LFaultRules$RuleSet;III)I" } : Jvm.MethodName) ∈ xT := x_tp rfl (i := 25) rfl
theorem kM_Run_91 : Cond.methodLink "FaultRules$Run" (91 : Nat) ({ cls := "FaultRules$Run", name := "makeRoom", desc := "([II)V" } : Jvm.MethodName) ∈ xT := x_t3 rfl (i := 95) rfl
theorem kI_Run_makeRoom : Cond.instanceMethod ({ cls := "FaultRules$Run", name := "makeRoom", desc := "([II)V" } : Jvm.MethodName) ∈ xT := x_t3 rfl (i := 97) rfl
theorem kS_235 : Cond.selects "FaultRules$Run" ({ cls := "FaultRules$Run", name := "makeRoom", desc := "([II)V" } : Jvm.MethodName) ({ cls := "FaultRules$Run", name := "makeRoom", desc := "([II)V" } : Jvm.MethodName) ∈ xT := x_tp rfl (i := 27) rfl
abbrev y_Run_end : MethodName := { cls := "FaultRules$Run", name := "end", desc := "(LFaultRules$RuleSet;II)V" }
theorem kC_Run_end : Cond.code ({ cls := "FaultRules$Run", name := "end", desc := "(LFaultRules$RuleSet;II)V" } : Jvm.MethodName) prog_6_method_6_code (5 : Nat) (Option.none : Option Jvm.ClassFile.FieldType) ∈ xT := x_t3 rfl (i := 82) rfl
theorem hd_Run_end : y_Run_end.cls ≠ "java/lang/invoke/MethodHandle" ∧ y_Run_end.cls ≠ "java/lang/invoke/VarHandle" ∧ (parseMethodDescriptor y_Run_end.desc).map (fun d => d.parameters.length) = some 3 := by decide +kernel
theorem d_Run_end_0 : decode prog_6_method_6_code 0 = .ok (.aload_n 0, 1) := by decide +kernel
theorem d_Run_end_1 : decode prog_6_method_6_code 1 = .ok (.getfield 15, 3) := by decide +kernel
theorem d_Run_end_4 : decode prog_6_method_6_code 4 = .ok (.iload_n 2, 1) := by decide +kernel
theorem d_Run_end_5 : decode prog_6_method_6_code 5 = .ok (.iaload, 1) := by decide +kernel
theorem d_Run_end_6 : decode prog_6_method_6_code 6 = .ok (.istore 4, 2) := by decide +kernel
theorem d_Run_end_8 : decode prog_6_method_6_code 8 = .ok (.aload_n 0, 1) := by decide +kernel
theorem d_Run_end_9 : decode prog_6_method_6_code 9 = .ok (.getfield 15, 3) := by decide +kernel
theorem d_Run_end_12 : decode prog_6_method_6_code 12 = .ok (.iload_n 2, 1) := by decide +kernel
theorem d_Run_end_13 : decode prog_6_method_6_code 13 = .ok (.iconst (-1), 1) := by decide +kernel
theorem d_Run_end_14 : decode prog_6_method_6_code 14 = .ok (.iastore, 1) := by decide +kernel
theorem d_Run_end_15 : decode prog_6_method_6_code 15 = .ok (.iload 4, 2) := by decide +kernel
theorem d_Run_end_17 : decode prog_6_method_6_code 17 = .ok (.iconst (-1), 1) := by decide +kernel
theorem d_Run_end_18 : decode prog_6_method_6_code 18 = .ok (.if_icmp .eq 27, 3) := by decide +kernel
theorem d_Run_end_21 : decode prog_6_method_6_code 21 = .ok (.iload_n 3, 1) := by decide +kernel
theorem d_Run_end_22 : decode prog_6_method_6_code 22 = .ok (.iload 4, 2) := by decide +kernel
theorem d_Run_end_24 : decode prog_6_method_6_code 24 = .ok (.isub, 1) := by decide +kernel
theorem d_Run_end_25 : decode prog_6_method_6_code 25 = .ok (.iconst 1, 1) := by decide +kernel
theorem d_Run_end_26 : decode prog_6_method_6_code 26 = .ok (.iadd, 1) := by decide +kernel
theorem d_Run_end_27 : decode prog_6_method_6_code 27 = .ok (.aload_n 1, 1) := by decide +kernel
theorem d_Run_end_28 : decode prog_6_method_6_code 28 = .ok (.getfield 77, 3) := by decide +kernel
theorem d_Run_end_31 : decode prog_6_method_6_code 31 = .ok (.iload_n 2, 1) := by decide +kernel
theorem d_Run_end_32 : decode prog_6_method_6_code 32 = .ok (.iaload, 1) := by decide +kernel
theorem d_Run_end_33 : decode prog_6_method_6_code 33 = .ok (.if_icmp .lt 12, 3) := by decide +kernel
theorem d_Run_end_36 : decode prog_6_method_6_code 36 = .ok (.aload_n 0, 1) := by decide +kernel
theorem d_Run_end_37 : decode prog_6_method_6_code 37 = .ok (.aload_n 1, 1) := by decide +kernel
theorem d_Run_end_38 : decode prog_6_method_6_code 38 = .ok (.iload_n 2, 1) := by decide +kernel
theorem d_Run_end_39 : decode prog_6_method_6_code 39 = .ok (.iload 4, 2) := by decide +kernel
theorem d_Run_end_41 : decode prog_6_method_6_code 41 = .ok (.iload_n 3, 1) := by decide +kernel
theorem d_Run_end_42 : decode prog_6_method_6_code 42 = .ok (.invokevirtual 80, 3) := by decide +kernel
theorem d_Run_end_45 : decode prog_6_method_6_code 45 = .ok (.return_, 1) := by decide +kernel
theorem kF_Run_77 : Cond.fieldLink "FaultRules$Run" (77 : Nat) "FaultRules$RuleSet" "spans" "[I" ∈ xT := x_t1 rfl (i := 154) rfl
theorem kM_Run_80 : Cond.methodLink "FaultRules$Run" (80 : Nat) ({ cls := "FaultRules$Run", name := "add", desc := "(LFaultRules$RuleSet;III)V" } : Jvm.MethodName) ∈ xT := x_t3 rfl (i := 83) rfl
theorem kI_Run_add : Cond.instanceMethod ({ cls := "FaultRules$Run", name := "add", desc := "(LFaultRules$RuleSet;III)V" } : Jvm.MethodName) ∈ xT := x_t3 rfl (i := 85) rfl
theorem kS_240 : Cond.selects "FaultRules$Run" ({ cls := "FaultRules$Run", name := "add", desc := "(LFaultRules$RuleSet;III)V" } : Jvm.MethodName) ({ cls := "FaultRules$Run", name := "add", desc := "(LFaultRules$RuleSet;III)V" } : Jvm.MethodName) ∈ xT := x_tp rfl (i := 24) rfl
abbrev y_Run_find : MethodName := { cls := "FaultRules$Run", name := "find", desc := "(LFaultRules$RuleSet;LFaultRules$Rows;II)V" }
theorem kC_Run_find : Cond.code ({ cls := "FaultRules$Run", name := "find", desc := "(LFaultRules$RuleSet;LFaultRules$Rows;II)V" } : Jvm.MethodName) prog_6_method_2_code (7 : Nat) (Option.none : Option Jvm.ClassFile.FieldType) ∈ xT := x_t3 rfl (i := 42) rfl
theorem hd_Run_find : y_Run_find.cls ≠ "java/lang/invoke/MethodHandle" ∧ y_Run_find.cls ≠ "java/lang/invoke/VarHandle" ∧ (parseMethodDescriptor y_Run_find.desc).map (fun d => d.parameters.length) = some 4 := by decide +kernel
theorem d_Run_find_0 : decode prog_6_method_2_code 0 = .ok (.aload_n 0, 1) := by decide +kernel
theorem d_Run_find_1 : decode prog_6_method_2_code 1 = .ok (.invokevirtual 30, 3) := by decide +kernel
theorem d_Run_find_4 : decode prog_6_method_2_code 4 = .ok (.aload_n 2, 1) := by decide +kernel
theorem d_Run_find_5 : decode prog_6_method_2_code 5 = .ok (.invokevirtual 33, 3) := by decide +kernel
theorem d_Run_find_8 : decode prog_6_method_2_code 8 = .ok (.iload_n 3, 1) := by decide +kernel
theorem d_Run_find_9 : decode prog_6_method_2_code 9 = .ok (.istore 5, 2) := by decide +kernel
theorem d_Run_find_11 : decode prog_6_method_2_code 11 = .ok (.iload 5, 2) := by decide +kernel
theorem d_Run_find_13 : decode prog_6_method_2_code 13 = .ok (.iload 4, 2) := by decide +kernel
theorem d_Run_find_15 : decode prog_6_method_2_code 15 = .ok (.if_icmp .gt 67, 3) := by decide +kernel
theorem d_Run_find_18 : decode prog_6_method_2_code 18 = .ok (.aload_n 2, 1) := by decide +kernel
theorem d_Run_find_19 : decode prog_6_method_2_code 19 = .ok (.iload 5, 2) := by decide +kernel
theorem d_Run_find_21 : decode prog_6_method_2_code 21 = .ok (.invokevirtual 38, 3) := by decide +kernel
theorem d_Run_find_24 : decode prog_6_method_2_code 24 = .ok (.iconst 0, 1) := by decide +kernel
theorem d_Run_find_25 : decode prog_6_method_2_code 25 = .ok (.istore 6, 2) := by decide +kernel
theorem d_Run_find_27 : decode prog_6_method_2_code 27 = .ok (.iload 6, 2) := by decide +kernel
theorem d_Run_find_29 : decode prog_6_method_2_code 29 = .ok (.aload_n 1, 1) := by decide +kernel
theorem d_Run_find_30 : decode prog_6_method_2_code 30 = .ok (.getfield 42, 3) := by decide +kernel
theorem d_Run_find_33 : decode prog_6_method_2_code 33 = .ok (.if_icmp .ge 43, 3) := by decide +kernel
theorem d_Run_find_36 : decode prog_6_method_2_code 36 = .ok (.aload_n 1, 1) := by decide +kernel
theorem d_Run_find_37 : decode prog_6_method_2_code 37 = .ok (.iload 6, 2) := by decide +kernel
theorem d_Run_find_39 : decode prog_6_method_2_code 39 = .ok (.aload_n 2, 1) := by decide +kernel
theorem d_Run_find_40 : decode prog_6_method_2_code 40 = .ok (.iload 5, 2) := by decide +kernel
theorem d_Run_find_42 : decode prog_6_method_2_code 42 = .ok (.invokevirtual 48, 3) := by decide +kernel
theorem d_Run_find_45 : decode prog_6_method_2_code 45 = .ok (.ifCond .eq 14, 3) := by decide +kernel
theorem d_Run_find_48 : decode prog_6_method_2_code 48 = .ok (.aload_n 0, 1) := by decide +kernel
theorem d_Run_find_49 : decode prog_6_method_2_code 49 = .ok (.iload 6, 2) := by decide +kernel
theorem d_Run_find_51 : decode prog_6_method_2_code 51 = .ok (.iload 5, 2) := by decide +kernel
theorem d_Run_find_53 : decode prog_6_method_2_code 53 = .ok (.invokevirtual 52, 3) := by decide +kernel
theorem d_Run_find_56 : decode prog_6_method_2_code 56 = .ok (.goto 14, 3) := by decide +kernel
theorem d_Run_find_59 : decode prog_6_method_2_code 59 = .ok (.aload_n 0, 1) := by decide +kernel
theorem d_Run_find_60 : decode prog_6_method_2_code 60 = .ok (.aload_n 1, 1) := by decide +kernel
theorem d_Run_find_61 : decode prog_6_method_2_code 61 = .ok (.iload 6, 2) := by decide +kernel
theorem d_Run_find_63 : decode prog_6_method_2_code 63 = .ok (.iload 5, 2) := by decide +kernel
theorem d_Run_find_65 : decode prog_6_method_2_code 65 = .ok (.iconst 1, 1) := by decide +kernel
theorem d_Run_find_66 : decode prog_6_method_2_code 66 = .ok (.isub, 1) := by decide +kernel
theorem d_Run_find_67 : decode prog_6_method_2_code 67 = .ok (.invokevirtual 56, 3) := by decide +kernel
theorem d_Run_find_70 : decode prog_6_method_2_code 70 = .ok (.iinc 6 1, 3) := by decide +kernel
theorem d_Run_find_73 : decode prog_6_method_2_code 73 = .ok (.goto (-46), 3) := by decide +kernel
theorem d_Run_find_76 : decode prog_6_method_2_code 76 = .ok (.iinc 5 1, 3) := by decide +kernel
theorem d_Run_find_79 : decode prog_6_method_2_code 79 = .ok (.goto (-68), 3) := by decide +kernel
theorem d_Run_find_82 : decode prog_6_method_2_code 82 = .ok (.iconst 0, 1) := by decide +kernel
theorem d_Run_find_83 : decode prog_6_method_2_code 83 = .ok (.istore 5, 2) := by decide +kernel
theorem d_Run_find_85 : decode prog_6_method_2_code 85 = .ok (.iload 5, 2) := by decide +kernel
theorem d_Run_find_87 : decode prog_6_method_2_code 87 = .ok (.aload_n 1, 1) := by decide +kernel
theorem d_Run_find_88 : decode prog_6_method_2_code 88 = .ok (.getfield 42, 3) := by decide +kernel
theorem d_Run_find_91 : decode prog_6_method_2_code 91 = .ok (.if_icmp .ge 18, 3) := by decide +kernel
theorem d_Run_find_94 : decode prog_6_method_2_code 94 = .ok (.aload_n 0, 1) := by decide +kernel
theorem d_Run_find_95 : decode prog_6_method_2_code 95 = .ok (.aload_n 1, 1) := by decide +kernel
theorem d_Run_find_96 : decode prog_6_method_2_code 96 = .ok (.iload 5, 2) := by decide +kernel
theorem d_Run_find_98 : decode prog_6_method_2_code 98 = .ok (.iload 4, 2) := by decide +kernel
theorem d_Run_find_100 : decode prog_6_method_2_code 100 = .ok (.invokevirtual 56, 3) := by decide +kernel
theorem d_Run_find_103 : decode prog_6_method_2_code 103 = .ok (.iinc 5 1, 3) := by decide +kernel
theorem d_Run_find_106 : decode prog_6_method_2_code 106 = .ok (.goto (-21), 3) := by decide +kernel
theorem d_Run_find_109 : decode prog_6_method_2_code 109 = .ok (.aload_n 0, 1) := by decide +kernel
theorem d_Run_find_110 : decode prog_6_method_2_code 110 = .ok (.iconst 1, 1) := by decide +kernel
theorem d_Run_find_111 : decode prog_6_method_2_code 111 = .ok (.putfield 60, 3) := by decide +kernel
theorem d_Run_find_114 : decode prog_6_method_2_code 114 = .ok (.return_, 1) := by decide +kernel
theorem kF_Run_42 : Cond.fieldLink "FaultRules$Run" (42 : Nat) "FaultRules$RuleSet" "count" "I" ∈ xT := x_t1 rfl (i := 172) rfl
theorem kF_Run_60 : Cond.fieldLink "FaultRules$Run" (60 : Nat) "FaultRules$Run" "isThere" "Z" ∈ xT := x_t1 rfl (i := 95) rfl
theorem kM_Run_30 : Cond.methodLink "FaultRules$Run" (30 : Nat) ({ cls := "FaultRules$Run", name := "clear", desc := "()V" } : Jvm.MethodName) ∈ xT := x_t3 rfl (i := 43) rfl
theorem kI_Run_clear : Cond.instanceMethod ({ cls := "FaultRules$Run", name := "clear", desc := "()V" } : Jvm.MethodName) ∈ xT := x_t3 rfl (i := 45) rfl
theorem kS_246 : Cond.selects "FaultRules$Run" ({ cls := "FaultRules$Run", name := "clear", desc := "()V" } : Jvm.MethodName) ({ cls := "FaultRules$Run", name := "clear", desc := "()V" } : Jvm.MethodName) ∈ xT := x_tp rfl (i := 20) rfl
theorem kM_Run_33 : Cond.methodLink "FaultRules$Run" (33 : Nat) ({ cls := "FaultRules$Rows", name := "rewind", desc := "()V" } : Jvm.MethodName) ∈ xT := x_t3 rfl (i := 48) rfl
theorem kI_Rows_rewind : Cond.instanceMethod ({ cls := "FaultRules$Rows", name := "rewind", desc := "()V" } : Jvm.MethodName) ∈ xT := x_t2 rfl (i := 227) rfl
theorem kS_249 : Cond.selects "FaultRules$Rows" ({ cls := "FaultRules$Rows", name := "rewind", desc := "()V" } : Jvm.MethodName) ({ cls := "FaultRules$Rows", name := "rewind", desc := "()V" } : Jvm.MethodName) ∈ xT := x_t2 rfl (i := 228) rfl
theorem kM_Run_38 : Cond.methodLink "FaultRules$Run" (38 : Nat) ({ cls := "FaultRules$Rows", name := "advance", desc := "(I)V" } : Jvm.MethodName) ∈ xT := x_t3 rfl (i := 49) rfl
theorem kI_Rows_advance : Cond.instanceMethod ({ cls := "FaultRules$Rows", name := "advance", desc := "(I)V" } : Jvm.MethodName) ∈ xT := x_t2 rfl (i := 234) rfl
theorem kS_252 : Cond.selects "FaultRules$Rows" ({ cls := "FaultRules$Rows", name := "advance", desc := "(I)V" } : Jvm.MethodName) ({ cls := "FaultRules$Rows", name := "advance", desc := "(I)V" } : Jvm.MethodName) ∈ xT := x_t2 rfl (i := 235) rfl
theorem kM_Run_48 : Cond.methodLink "FaultRules$Run" (48 : Nat) ({ cls := "FaultRules$RuleSet", name := "ruleHolds", desc := "(ILFaultRules$Rows;I)Z" } : Jvm.MethodName) ∈ xT := x_t3 rfl (i := 50) rfl
theorem kI_RuleSet_ruleHolds : Cond.instanceMethod ({ cls := "FaultRules$RuleSet", name := "ruleHolds", desc := "(ILFaultRules$Rows;I)Z" } : Jvm.MethodName) ∈ xT := x_t3 rfl (i := 51) rfl
theorem kS_255 : Cond.selects "FaultRules$RuleSet" ({ cls := "FaultRules$RuleSet", name := "ruleHolds", desc := "(ILFaultRules$Rows;I)Z" } : Jvm.MethodName) ({ cls := "FaultRules$RuleSet", name := "ruleHolds", desc := "(ILFaultRules$Rows;I)Z" } : Jvm.MethodName) ∈ xT := x_t3 rfl (i := 52) rfl
theorem kM_Run_56 : Cond.methodLink "FaultRules$Run" (56 : Nat) ({ cls := "FaultRules$Run", name := "end", desc := "(LFaultRules$RuleSet;II)V" } : Jvm.MethodName) ∈ xT := x_t3 rfl (i := 79) rfl
theorem kI_Run_end : Cond.instanceMethod ({ cls := "FaultRules$Run", name := "end", desc := "(LFaultRules$RuleSet;II)V" } : Jvm.MethodName) ∈ xT := x_t3 rfl (i := 81) rfl
theorem kS_258 : Cond.selects "FaultRules$Run" ({ cls := "FaultRules$Run", name := "end", desc := "(LFaultRules$RuleSet;II)V" } : Jvm.MethodName) ({ cls := "FaultRules$Run", name := "end", desc := "(LFaultRules$RuleSet;II)V" } : Jvm.MethodName) ∈ xT := x_tp rfl (i := 23) rfl
theorem kM_Run_52 : Cond.methodLink "FaultRules$Run" (52 : Nat) ({ cls := "FaultRules$Run", name := "goOn", desc := "(II)V" } : Jvm.MethodName) ∈ xT := x_t3 rfl (i := 75) rfl
theorem kI_Run_goOn : Cond.instanceMethod ({ cls := "FaultRules$Run", name := "goOn", desc := "(II)V" } : Jvm.MethodName) ∈ xT := x_t3 rfl (i := 77) rfl
theorem kS_261 : Cond.selects "FaultRules$Run" ({ cls := "FaultRules$Run", name := "goOn", desc := "(II)V" } : Jvm.MethodName) ({ cls := "FaultRules$Run", name := "goOn", desc := "(II)V" } : Jvm.MethodName) ∈ xT := x_tp rfl (i := 22) rfl
abbrev y_Run_part : MethodName := { cls := "FaultRules$Run", name := "part", desc := "(II)I" }
theorem kC_Run_part : Cond.code ({ cls := "FaultRules$Run", name := "part", desc := "(II)I" } : Jvm.MethodName) prog_6_method_3_code (3 : Nat) (Option.some Jvm.ClassFile.FieldType.int) ∈ xT := x_t3 rfl (i := 112) rfl
theorem hd_Run_part : y_Run_part.cls ≠ "java/lang/invoke/MethodHandle" ∧ y_Run_part.cls ≠ "java/lang/invoke/VarHandle" ∧ (parseMethodDescriptor y_Run_part.desc).map (fun d => d.parameters.length) = some 2 := by decide +kernel
theorem d_Run_part_0 : decode prog_6_method_3_code 0 = .ok (.iload_n 2, 1) := by decide +kernel
theorem d_Run_part_1 : decode prog_6_method_3_code 1 = .ok (.tableswitch 48 0 2 #[27, 34, 41], 27) := by decide +kernel
theorem d_Run_part_28 : decode prog_6_method_3_code 28 = .ok (.aload_n 0, 1) := by decide +kernel
theorem d_Run_part_29 : decode prog_6_method_3_code 29 = .ok (.getfield 18, 3) := by decide +kernel
theorem d_Run_part_32 : decode prog_6_method_3_code 32 = .ok (.iload_n 1, 1) := by decide +kernel
theorem d_Run_part_33 : decode prog_6_method_3_code 33 = .ok (.iaload, 1) := by decide +kernel
theorem d_Run_part_34 : decode prog_6_method_3_code 34 = .ok (.ireturn, 1) := by decide +kernel
theorem d_Run_part_35 : decode prog_6_method_3_code 35 = .ok (.aload_n 0, 1) := by decide +kernel
theorem d_Run_part_36 : decode prog_6_method_3_code 36 = .ok (.getfield 21, 3) := by decide +kernel
theorem d_Run_part_39 : decode prog_6_method_3_code 39 = .ok (.iload_n 1, 1) := by decide +kernel
theorem d_Run_part_40 : decode prog_6_method_3_code 40 = .ok (.iaload, 1) := by decide +kernel
theorem d_Run_part_41 : decode prog_6_method_3_code 41 = .ok (.ireturn, 1) := by decide +kernel
theorem d_Run_part_42 : decode prog_6_method_3_code 42 = .ok (.aload_n 0, 1) := by decide +kernel
theorem d_Run_part_43 : decode prog_6_method_3_code 43 = .ok (.getfield 24, 3) := by decide +kernel
theorem d_Run_part_46 : decode prog_6_method_3_code 46 = .ok (.iload_n 1, 1) := by decide +kernel
theorem d_Run_part_47 : decode prog_6_method_3_code 47 = .ok (.iaload, 1) := by decide +kernel
theorem d_Run_part_48 : decode prog_6_method_3_code 48 = .ok (.ireturn, 1) := by decide +kernel
theorem d_Run_part_49 : decode prog_6_method_3_code 49 = .ok (.aload_n 0, 1) := by decide +kernel
theorem d_Run_part_50 : decode prog_6_method_3_code 50 = .ok (.getfield 27, 3) := by decide +kernel
theorem d_Run_part_53 : decode prog_6_method_3_code 53 = .ok (.iload_n 1, 1) := by decide +kernel
theorem d_Run_part_54 : decode prog_6_method_3_code 54 = .ok (.iaload, 1) := by decide +kernel
theorem d_Run_part_55 : decode prog_6_method_3_code 55 = .ok (.ireturn, 1) := by decide +kernel
abbrev y_FaultRules_isMinute : MethodName := { cls := "FaultRules", name := "isMinute", desc := "(I)Z" }
theorem kC_FaultRules_isMinute : Cond.code ({ cls := "FaultRules", name := "isMinute", desc := "(I)Z" } : Jvm.MethodName) prog_1_method_18_code (1 : Nat) (Option.some Jvm.ClassFile.FieldType.boolean) ∈ xT := x_t2 rfl (i := 116) rfl
theorem hd_FaultRules_isMinute : y_FaultRules_isMinute.cls ≠ "java/lang/invoke/MethodHandle" ∧ y_FaultRules_isMinute.cls ≠ "java/lang/invoke/VarHandle" ∧ (parseMethodDescriptor y_FaultRules_isMinute.desc).map (fun d => d.parameters.length) = some 1 := by decide +kernel
theorem d_FaultRules_isMinute_0 : decode prog_1_method_18_code 0 = .ok (.iload_n 0, 1) := by decide +kernel
theorem d_FaultRules_isMinute_1 : decode prog_1_method_18_code 1 = .ok (.ifCond .lt 13, 3) := by decide +kernel
theorem d_FaultRules_isMinute_4 : decode prog_1_method_18_code 4 = .ok (.iload_n 0, 1) := by decide +kernel
theorem d_FaultRules_isMinute_5 : decode prog_1_method_18_code 5 = .ok (.ldc 202, 2) := by decide +kernel
theorem d_FaultRules_isMinute_7 : decode prog_1_method_18_code 7 = .ok (.if_icmp .gt 7, 3) := by decide +kernel
theorem d_FaultRules_isMinute_10 : decode prog_1_method_18_code 10 = .ok (.iconst 1, 1) := by decide +kernel
theorem d_FaultRules_isMinute_11 : decode prog_1_method_18_code 11 = .ok (.goto 4, 3) := by decide +kernel
theorem d_FaultRules_isMinute_14 : decode prog_1_method_18_code 14 = .ok (.iconst 0, 1) := by decide +kernel
theorem d_FaultRules_isMinute_15 : decode prog_1_method_18_code 15 = .ok (.ireturn, 1) := by decide +kernel
theorem kK_FaultRules_202 : Cond.constant "FaultRules" (202 : Nat) (100000 : Int32) ∈ xT := x_t2 rfl (i := 117) rfl
abbrev y_FaultRules_row : MethodName := { cls := "FaultRules", name := "row", desc := "(III)I" }
theorem kC_FaultRules_row : Cond.code ({ cls := "FaultRules", name := "row", desc := "(III)I" } : Jvm.MethodName) prog_1_method_2_code (4 : Nat) (Option.some Jvm.ClassFile.FieldType.int) ∈ xT := x_t2 rfl (i := 112) rfl
theorem hd_FaultRules_row : y_FaultRules_row.cls ≠ "java/lang/invoke/MethodHandle" ∧ y_FaultRules_row.cls ≠ "java/lang/invoke/VarHandle" ∧ (parseMethodDescriptor y_FaultRules_row.desc).map (fun d => d.parameters.length) = some 3 := by decide +kernel
theorem d_FaultRules_row_0 : decode prog_1_method_2_code 0 = .ok (.iload_n 1, 1) := by decide +kernel
theorem d_FaultRules_row_1 : decode prog_1_method_2_code 1 = .ok (.invokestatic 58, 3) := by decide +kernel
theorem d_FaultRules_row_4 : decode prog_1_method_2_code 4 = .ok (.ifCond .eq 22, 3) := by decide +kernel
theorem d_FaultRules_row_7 : decode prog_1_method_2_code 7 = .ok (.iload_n 2, 1) := by decide +kernel
theorem d_FaultRules_row_8 : decode prog_1_method_2_code 8 = .ok (.invokestatic 62, 3) := by decide +kernel
theorem d_FaultRules_row_11 : decode prog_1_method_2_code 11 = .ok (.ifCond .eq 15, 3) := by decide +kernel
theorem d_FaultRules_row_14 : decode prog_1_method_2_code 14 = .ok (.iload_n 3, 1) := by decide +kernel
theorem d_FaultRules_row_15 : decode prog_1_method_2_code 15 = .ok (.ldc 65, 2) := by decide +kernel
theorem d_FaultRules_row_17 : decode prog_1_method_2_code 17 = .ok (.if_icmp .lt 9, 3) := by decide +kernel
theorem d_FaultRules_row_20 : decode prog_1_method_2_code 20 = .ok (.iload_n 3, 1) := by decide +kernel
theorem d_FaultRules_row_21 : decode prog_1_method_2_code 21 = .ok (.ldc 66, 2) := by decide +kernel
theorem d_FaultRules_row_23 : decode prog_1_method_2_code 23 = .ok (.if_icmp .le 13, 3) := by decide +kernel
theorem d_FaultRules_row_26 : decode prog_1_method_2_code 26 = .ok (.new 67, 3) := by decide +kernel
theorem d_FaultRules_row_29 : decode prog_1_method_2_code 29 = .ok (.dup, 1) := by decide +kernel
theorem d_FaultRules_row_30 : decode prog_1_method_2_code 30 = .ok (.ldc 69, 2) := by decide +kernel
theorem d_FaultRules_row_32 : decode prog_1_method_2_code 32 = .ok (.invokespecial 71, 3) := by decide +kernel
theorem d_FaultRules_row_35 : decode prog_1_method_2_code 35 = .ok (.athrow, 1) := by decide +kernel
theorem d_FaultRules_row_36 : decode prog_1_method_2_code 36 = .ok (.aload_n 0, 1) := by decide +kernel
theorem d_FaultRules_row_37 : decode prog_1_method_2_code 37 = .ok (.getfield 12, 3) := by decide +kernel
theorem d_FaultRules_row_40 : decode prog_1_method_2_code 40 = .ok (.invokevirtual 74, 3) := by decide +kernel
theorem d_FaultRules_row_43 : decode prog_1_method_2_code 43 = .ok (.ifCond .ne 15, 3) := by decide +kernel
theorem d_FaultRules_row_46 : decode prog_1_method_2_code 46 = .ok (.aload_n 0, 1) := by decide +kernel
theorem d_FaultRules_row_47 : decode prog_1_method_2_code 47 = .ok (.getfield 12, 3) := by decide +kernel
theorem d_FaultRules_row_50 : decode prog_1_method_2_code 50 = .ok (.iload_n 1, 1) := by decide +kernel
theorem d_FaultRules_row_51 : decode prog_1_method_2_code 51 = .ok (.iload_n 2, 1) := by decide +kernel
theorem d_FaultRules_row_52 : decode prog_1_method_2_code 52 = .ok (.invokevirtual 78, 3) := by decide +kernel
theorem d_FaultRules_row_55 : decode prog_1_method_2_code 55 = .ok (.ifCond .ne 13, 3) := by decide +kernel
theorem d_FaultRules_row_58 : decode prog_1_method_2_code 58 = .ok (.new 82, 3) := by decide +kernel
theorem d_FaultRules_row_61 : decode prog_1_method_2_code 61 = .ok (.dup, 1) := by decide +kernel
theorem d_FaultRules_row_62 : decode prog_1_method_2_code 62 = .ok (.ldc 84, 2) := by decide +kernel
theorem d_FaultRules_row_64 : decode prog_1_method_2_code 64 = .ok (.invokespecial 86, 3) := by decide +kernel
theorem d_FaultRules_row_67 : decode prog_1_method_2_code 67 = .ok (.athrow, 1) := by decide +kernel
theorem d_FaultRules_row_68 : decode prog_1_method_2_code 68 = .ok (.aload_n 0, 1) := by decide +kernel
theorem d_FaultRules_row_69 : decode prog_1_method_2_code 69 = .ok (.getfield 12, 3) := by decide +kernel
theorem d_FaultRules_row_72 : decode prog_1_method_2_code 72 = .ok (.iload_n 1, 1) := by decide +kernel
theorem d_FaultRules_row_73 : decode prog_1_method_2_code 73 = .ok (.iload_n 2, 1) := by decide +kernel
theorem d_FaultRules_row_74 : decode prog_1_method_2_code 74 = .ok (.iload_n 3, 1) := by decide +kernel
theorem d_FaultRules_row_75 : decode prog_1_method_2_code 75 = .ok (.invokevirtual 87, 3) := by decide +kernel
theorem d_FaultRules_row_78 : decode prog_1_method_2_code 78 = .ok (.ireturn, 1) := by decide +kernel
theorem kK_FaultRules_65 : Cond.constant "FaultRules" (65 : Nat) (-1000000 : Int32) ∈ xT := x_t2 rfl (i := 118) rfl
theorem kK_FaultRules_66 : Cond.constant "FaultRules" (66 : Nat) (1000000 : Int32) ∈ xT := x_t2 rfl (i := 119) rfl
theorem kF_FaultRules_12 : Cond.fieldLink "FaultRules" (12 : Nat) "FaultRules" "rows" "LFaultRules$Rows;" ∈ xT := x_t1 rfl (i := 194) rfl
theorem kM_FaultRules_58 : Cond.methodLink "FaultRules" (58 : Nat) ({ cls := "FaultRules", name := "isPoint", desc := "(I)Z" } : Jvm.MethodName) ∈ xT := x_t2 rfl (i := 113) rfl
theorem kE_IAE : Cond.classLink "FaultRules" (67 : Nat) "java/lang/IllegalArgumentException" ∈ xT := x_t2 rfl (i := 120) rfl
theorem kN_IAE : Cond.initialized "java/lang/IllegalArgumentException" ∈ xT := x_t1 rfl (i := 12) rfl
theorem kO_IAE : Cond.instantiable "java/lang/IllegalArgumentException" (6 : Nat) ∈ xT := x_t2 rfl (i := 121) rfl
theorem kM_FaultRules_62 : Cond.methodLink "FaultRules" (62 : Nat) ({ cls := "FaultRules", name := "isMinute", desc := "(I)Z" } : Jvm.MethodName) ∈ xT := x_t2 rfl (i := 114) rfl
theorem kT_FaultRules_isMinute : Cond.static ({ cls := "FaultRules", name := "isMinute", desc := "(I)Z" } : Jvm.MethodName) ∈ xT := x_t2 rfl (i := 115) rfl
theorem kM_FaultRules_74 : Cond.methodLink "FaultRules" (74 : Nat) ({ cls := "FaultRules$Rows", name := "isFull", desc := "()Z" } : Jvm.MethodName) ∈ xT := x_t2 rfl (i := 187) rfl
theorem kI_Rows_isFull : Cond.instanceMethod ({ cls := "FaultRules$Rows", name := "isFull", desc := "()Z" } : Jvm.MethodName) ∈ xT := x_t2 rfl (i := 188) rfl
theorem kS_277 : Cond.selects "FaultRules$Rows" ({ cls := "FaultRules$Rows", name := "isFull", desc := "()Z" } : Jvm.MethodName) ({ cls := "FaultRules$Rows", name := "isFull", desc := "()Z" } : Jvm.MethodName) ∈ xT := x_t2 rfl (i := 189) rfl
theorem kE_ISE : Cond.classLink "FaultRules" (82 : Nat) "java/lang/IllegalStateException" ∈ xT := x_t2 rfl (i := 195) rfl
theorem kN_ISE : Cond.initialized "java/lang/IllegalStateException" ∈ xT := x_t1 rfl (i := 13) rfl
theorem kO_ISE : Cond.instantiable "java/lang/IllegalStateException" (6 : Nat) ∈ xT := x_t2 rfl (i := 196) rfl
theorem kM_FaultRules_78 : Cond.methodLink "FaultRules" (78 : Nat) ({ cls := "FaultRules$Rows", name := "isBehindLast", desc := "(II)Z" } : Jvm.MethodName) ∈ xT := x_t2 rfl (i := 191) rfl
theorem kI_Rows_isBehindLast : Cond.instanceMethod ({ cls := "FaultRules$Rows", name := "isBehindLast", desc := "(II)Z" } : Jvm.MethodName) ∈ xT := x_t2 rfl (i := 192) rfl
theorem kS_283 : Cond.selects "FaultRules$Rows" ({ cls := "FaultRules$Rows", name := "isBehindLast", desc := "(II)Z" } : Jvm.MethodName) ({ cls := "FaultRules$Rows", name := "isBehindLast", desc := "(II)Z" } : Jvm.MethodName) ∈ xT := x_t2 rfl (i := 193) rfl
theorem kM_FaultRules_87 : Cond.methodLink "FaultRules" (87 : Nat) ({ cls := "FaultRules$Rows", name := "add", desc := "(III)I" } : Jvm.MethodName) ∈ xT := x_t2 rfl (i := 211) rfl
theorem kI_Rows_add : Cond.instanceMethod ({ cls := "FaultRules$Rows", name := "add", desc := "(III)I" } : Jvm.MethodName) ∈ xT := x_t2 rfl (i := 212) rfl
theorem kS_286 : Cond.selects "FaultRules$Rows" ({ cls := "FaultRules$Rows", name := "add", desc := "(III)I" } : Jvm.MethodName) ({ cls := "FaultRules$Rows", name := "add", desc := "(III)I" } : Jvm.MethodName) ∈ xT := x_t2 rfl (i := 213) rfl
abbrev y_FaultRules_value : MethodName := { cls := "FaultRules", name := "value", desc := "(II)I" }
theorem kC_FaultRules_value : Cond.code ({ cls := "FaultRules", name := "value", desc := "(II)I" } : Jvm.MethodName) prog_1_method_3_code (3 : Nat) (Option.some Jvm.ClassFile.FieldType.int) ∈ xT := x_t2 rfl (i := 224) rfl
theorem hd_FaultRules_value : y_FaultRules_value.cls ≠ "java/lang/invoke/MethodHandle" ∧ y_FaultRules_value.cls ≠ "java/lang/invoke/VarHandle" ∧ (parseMethodDescriptor y_FaultRules_value.desc).map (fun d => d.parameters.length) = some 2 := by decide +kernel
theorem d_FaultRules_value_0 : decode prog_1_method_3_code 0 = .ok (.iload_n 1, 1) := by decide +kernel
theorem d_FaultRules_value_1 : decode prog_1_method_3_code 1 = .ok (.invokestatic 58, 3) := by decide +kernel
theorem d_FaultRules_value_4 : decode prog_1_method_3_code 4 = .ok (.ifCond .eq 10, 3) := by decide +kernel
theorem d_FaultRules_value_7 : decode prog_1_method_3_code 7 = .ok (.iload_n 2, 1) := by decide +kernel
theorem d_FaultRules_value_8 : decode prog_1_method_3_code 8 = .ok (.invokestatic 62, 3) := by decide +kernel
theorem d_FaultRules_value_11 : decode prog_1_method_3_code 11 = .ok (.ifCond .ne 13, 3) := by decide +kernel
theorem d_FaultRules_value_14 : decode prog_1_method_3_code 14 = .ok (.new 67, 3) := by decide +kernel
theorem d_FaultRules_value_17 : decode prog_1_method_3_code 17 = .ok (.dup, 1) := by decide +kernel
theorem d_FaultRules_value_18 : decode prog_1_method_3_code 18 = .ok (.ldc 91, 2) := by decide +kernel
theorem d_FaultRules_value_20 : decode prog_1_method_3_code 20 = .ok (.invokespecial 71, 3) := by decide +kernel
theorem d_FaultRules_value_23 : decode prog_1_method_3_code 23 = .ok (.athrow, 1) := by decide +kernel
theorem d_FaultRules_value_24 : decode prog_1_method_3_code 24 = .ok (.aload_n 0, 1) := by decide +kernel
theorem d_FaultRules_value_25 : decode prog_1_method_3_code 25 = .ok (.getfield 12, 3) := by decide +kernel
theorem d_FaultRules_value_28 : decode prog_1_method_3_code 28 = .ok (.invokevirtual 93, 3) := by decide +kernel
theorem d_FaultRules_value_31 : decode prog_1_method_3_code 31 = .ok (.aload_n 0, 1) := by decide +kernel
theorem d_FaultRules_value_32 : decode prog_1_method_3_code 32 = .ok (.getfield 12, 3) := by decide +kernel
theorem d_FaultRules_value_35 : decode prog_1_method_3_code 35 = .ok (.iload_n 2, 1) := by decide +kernel
theorem d_FaultRules_value_36 : decode prog_1_method_3_code 36 = .ok (.invokevirtual 96, 3) := by decide +kernel
theorem d_FaultRules_value_39 : decode prog_1_method_3_code 39 = .ok (.aload_n 0, 1) := by decide +kernel
theorem d_FaultRules_value_40 : decode prog_1_method_3_code 40 = .ok (.getfield 12, 3) := by decide +kernel
theorem d_FaultRules_value_43 : decode prog_1_method_3_code 43 = .ok (.iload_n 1, 1) := by decide +kernel
theorem d_FaultRules_value_44 : decode prog_1_method_3_code 44 = .ok (.invokevirtual 100, 3) := by decide +kernel
theorem d_FaultRules_value_47 : decode prog_1_method_3_code 47 = .ok (.ifCond .ne 13, 3) := by decide +kernel
theorem d_FaultRules_value_50 : decode prog_1_method_3_code 50 = .ok (.new 67, 3) := by decide +kernel
theorem d_FaultRules_value_53 : decode prog_1_method_3_code 53 = .ok (.dup, 1) := by decide +kernel
theorem d_FaultRules_value_54 : decode prog_1_method_3_code 54 = .ok (.ldc 103, 2) := by decide +kernel
theorem d_FaultRules_value_56 : decode prog_1_method_3_code 56 = .ok (.invokespecial 71, 3) := by decide +kernel
theorem d_FaultRules_value_59 : decode prog_1_method_3_code 59 = .ok (.athrow, 1) := by decide +kernel
theorem d_FaultRules_value_60 : decode prog_1_method_3_code 60 = .ok (.aload_n 0, 1) := by decide +kernel
theorem d_FaultRules_value_61 : decode prog_1_method_3_code 61 = .ok (.getfield 12, 3) := by decide +kernel
theorem d_FaultRules_value_64 : decode prog_1_method_3_code 64 = .ok (.iload_n 1, 1) := by decide +kernel
theorem d_FaultRules_value_65 : decode prog_1_method_3_code 65 = .ok (.invokevirtual 105, 3) := by decide +kernel
theorem d_FaultRules_value_68 : decode prog_1_method_3_code 68 = .ok (.ireturn, 1) := by decide +kernel
theorem kM_FaultRules_93 : Cond.methodLink "FaultRules" (93 : Nat) ({ cls := "FaultRules$Rows", name := "rewind", desc := "()V" } : Jvm.MethodName) ∈ xT := x_t2 rfl (i := 226) rfl
theorem kM_FaultRules_96 : Cond.methodLink "FaultRules" (96 : Nat) ({ cls := "FaultRules$Rows", name := "advance", desc := "(I)V" } : Jvm.MethodName) ∈ xT := x_t2 rfl (i := 233) rfl
theorem kM_FaultRules_100 : Cond.methodLink "FaultRules" (100 : Nat) ({ cls := "FaultRules$Rows", name := "has", desc := "(I)Z" } : Jvm.MethodName) ∈ xT := x_t2 rfl (i := 237) rfl
theorem kM_FaultRules_105 : Cond.methodLink "FaultRules" (105 : Nat) ({ cls := "FaultRules$Rows", name := "latestValue", desc := "(I)I" } : Jvm.MethodName) ∈ xT := x_t3 rfl (i := 2) rfl
abbrev y_FaultRules_say : MethodName := { cls := "FaultRules", name := "say", desc := "(J)I" }
theorem kC_FaultRules_say : Cond.code ({ cls := "FaultRules", name := "say", desc := "(J)I" } : Jvm.MethodName) prog_1_method_4_code (6 : Nat) (Option.some Jvm.ClassFile.FieldType.int) ∈ xT := x_t3 rfl (i := 12) rfl
theorem hd_FaultRules_say : y_FaultRules_say.cls ≠ "java/lang/invoke/MethodHandle" ∧ y_FaultRules_say.cls ≠ "java/lang/invoke/VarHandle" ∧ (parseMethodDescriptor y_FaultRules_say.desc).map (fun d => d.parameters.length) = some 1 := by decide +kernel
theorem d_FaultRules_say_0 : decode prog_1_method_4_code 0 = .ok (.iconst 0, 1) := by decide +kernel
theorem d_FaultRules_say_1 : decode prog_1_method_4_code 1 = .ok (.istore_n 3, 1) := by decide +kernel
theorem d_FaultRules_say_2 : decode prog_1_method_4_code 2 = .ok (.bipush 56, 2) := by decide +kernel
theorem d_FaultRules_say_4 : decode prog_1_method_4_code 4 = .ok (.istore 4, 2) := by decide +kernel
theorem d_FaultRules_say_6 : decode prog_1_method_4_code 6 = .ok (.iload 4, 2) := by decide +kernel
theorem d_FaultRules_say_8 : decode prog_1_method_4_code 8 = .ok (.ifCond .lt 62, 3) := by decide +kernel
theorem d_FaultRules_say_11 : decode prog_1_method_4_code 11 = .ok (.lload_n 1, 1) := by decide +kernel
theorem d_FaultRules_say_12 : decode prog_1_method_4_code 12 = .ok (.iload 4, 2) := by decide +kernel
theorem d_FaultRules_say_14 : decode prog_1_method_4_code 14 = .ok (.lushr, 1) := by decide +kernel
theorem d_FaultRules_say_15 : decode prog_1_method_4_code 15 = .ok (.l2i, 1) := by decide +kernel
theorem d_FaultRules_say_16 : decode prog_1_method_4_code 16 = .ok (.sipush 255, 3) := by decide +kernel
theorem d_FaultRules_say_19 : decode prog_1_method_4_code 19 = .ok (.iand, 1) := by decide +kernel
theorem d_FaultRules_say_20 : decode prog_1_method_4_code 20 = .ok (.istore 5, 2) := by decide +kernel
theorem d_FaultRules_say_22 : decode prog_1_method_4_code 22 = .ok (.iload 5, 2) := by decide +kernel
theorem d_FaultRules_say_24 : decode prog_1_method_4_code 24 = .ok (.ifCond .eq 27, 3) := by decide +kernel
theorem d_FaultRules_say_27 : decode prog_1_method_4_code 27 = .ok (.iload 5, 2) := by decide +kernel
theorem d_FaultRules_say_29 : decode prog_1_method_4_code 29 = .ok (.bipush 32, 2) := by decide +kernel
theorem d_FaultRules_say_31 : decode prog_1_method_4_code 31 = .ok (.if_icmp .lt 10, 3) := by decide +kernel
theorem d_FaultRules_say_34 : decode prog_1_method_4_code 34 = .ok (.iload 5, 2) := by decide +kernel
theorem d_FaultRules_say_36 : decode prog_1_method_4_code 36 = .ok (.bipush 126, 2) := by decide +kernel
theorem d_FaultRules_say_38 : decode prog_1_method_4_code 38 = .ok (.if_icmp .le 13, 3) := by decide +kernel
theorem d_FaultRules_say_41 : decode prog_1_method_4_code 41 = .ok (.new 67, 3) := by decide +kernel
theorem d_FaultRules_say_44 : decode prog_1_method_4_code 44 = .ok (.dup, 1) := by decide +kernel
theorem d_FaultRules_say_45 : decode prog_1_method_4_code 45 = .ok (.ldc 109, 2) := by decide +kernel
theorem d_FaultRules_say_47 : decode prog_1_method_4_code 47 = .ok (.invokespecial 71, 3) := by decide +kernel
theorem d_FaultRules_say_50 : decode prog_1_method_4_code 50 = .ok (.athrow, 1) := by decide +kernel
theorem d_FaultRules_say_51 : decode prog_1_method_4_code 51 = .ok (.iload_n 3, 1) := by decide +kernel
theorem d_FaultRules_say_52 : decode prog_1_method_4_code 52 = .ok (.iload 5, 2) := by decide +kernel
theorem d_FaultRules_say_54 : decode prog_1_method_4_code 54 = .ok (.ifCond .ne 7, 3) := by decide +kernel
theorem d_FaultRules_say_57 : decode prog_1_method_4_code 57 = .ok (.iconst 0, 1) := by decide +kernel
theorem d_FaultRules_say_58 : decode prog_1_method_4_code 58 = .ok (.goto 4, 3) := by decide +kernel
theorem d_FaultRules_say_61 : decode prog_1_method_4_code 61 = .ok (.iconst 1, 1) := by decide +kernel
theorem d_FaultRules_say_62 : decode prog_1_method_4_code 62 = .ok (.iadd, 1) := by decide +kernel
theorem d_FaultRules_say_63 : decode prog_1_method_4_code 63 = .ok (.istore_n 3, 1) := by decide +kernel
theorem d_FaultRules_say_64 : decode prog_1_method_4_code 64 = .ok (.iinc 4 (-8), 3) := by decide +kernel
theorem d_FaultRules_say_67 : decode prog_1_method_4_code 67 = .ok (.goto (-61), 3) := by decide +kernel
theorem d_FaultRules_say_70 : decode prog_1_method_4_code 70 = .ok (.iload_n 3, 1) := by decide +kernel
theorem d_FaultRules_say_71 : decode prog_1_method_4_code 71 = .ok (.sipush 1000, 3) := by decide +kernel
theorem d_FaultRules_say_74 : decode prog_1_method_4_code 74 = .ok (.aload_n 0, 1) := by decide +kernel
theorem d_FaultRules_say_75 : decode prog_1_method_4_code 75 = .ok (.getfield 19, 3) := by decide +kernel
theorem d_FaultRules_say_78 : decode prog_1_method_4_code 78 = .ok (.getfield 111, 3) := by decide +kernel
theorem d_FaultRules_say_81 : decode prog_1_method_4_code 81 = .ok (.isub, 1) := by decide +kernel
theorem d_FaultRules_say_82 : decode prog_1_method_4_code 82 = .ok (.if_icmp .le 13, 3) := by decide +kernel
theorem d_FaultRules_say_85 : decode prog_1_method_4_code 85 = .ok (.new 82, 3) := by decide +kernel
theorem d_FaultRules_say_88 : decode prog_1_method_4_code 88 = .ok (.dup, 1) := by decide +kernel
theorem d_FaultRules_say_89 : decode prog_1_method_4_code 89 = .ok (.ldc 115, 2) := by decide +kernel
theorem d_FaultRules_say_91 : decode prog_1_method_4_code 91 = .ok (.invokespecial 86, 3) := by decide +kernel
theorem d_FaultRules_say_94 : decode prog_1_method_4_code 94 = .ok (.athrow, 1) := by decide +kernel
theorem d_FaultRules_say_95 : decode prog_1_method_4_code 95 = .ok (.aload_n 0, 1) := by decide +kernel
theorem d_FaultRules_say_96 : decode prog_1_method_4_code 96 = .ok (.getfield 19, 3) := by decide +kernel
theorem d_FaultRules_say_99 : decode prog_1_method_4_code 99 = .ok (.lload_n 1, 1) := by decide +kernel
theorem d_FaultRules_say_100 : decode prog_1_method_4_code 100 = .ok (.invokevirtual 117, 3) := by decide +kernel
theorem d_FaultRules_say_103 : decode prog_1_method_4_code 103 = .ok (.aload_n 0, 1) := by decide +kernel
theorem d_FaultRules_say_104 : decode prog_1_method_4_code 104 = .ok (.getfield 19, 3) := by decide +kernel
theorem d_FaultRules_say_107 : decode prog_1_method_4_code 107 = .ok (.getfield 111, 3) := by decide +kernel
theorem d_FaultRules_say_110 : decode prog_1_method_4_code 110 = .ok (.ireturn, 1) := by decide +kernel
theorem kF_FaultRules_19 : Cond.fieldLink "FaultRules" (19 : Nat) "FaultRules" "text" "LFaultRules$Text;" ∈ xT := x_t1 rfl (i := 195) rfl
theorem kF_FaultRules_111 : Cond.fieldLink "FaultRules" (111 : Nat) "FaultRules$Text" "size" "I" ∈ xT := x_t1 rfl (i := 54) rfl
theorem kM_FaultRules_117 : Cond.methodLink "FaultRules" (117 : Nat) ({ cls := "FaultRules$Text", name := "append", desc := "(J)V" } : Jvm.MethodName) ∈ xT := x_t3 rfl (i := 15) rfl
theorem kI_Text_append : Cond.instanceMethod ({ cls := "FaultRules$Text", name := "append", desc := "(J)V" } : Jvm.MethodName) ∈ xT := x_t3 rfl (i := 16) rfl
theorem kS_297 : Cond.selects "FaultRules$Text" ({ cls := "FaultRules$Text", name := "append", desc := "(J)V" } : Jvm.MethodName) ({ cls := "FaultRules$Text", name := "append", desc := "(J)V" } : Jvm.MethodName) ∈ xT := x_t3 rfl (i := 17) rfl
abbrev y_FaultRules_trim : MethodName := { cls := "FaultRules", name := "trim", desc := "(I)I" }
theorem kC_FaultRules_trim : Cond.code ({ cls := "FaultRules", name := "trim", desc := "(I)I" } : Jvm.MethodName) prog_1_method_5_code (2 : Nat) (Option.some Jvm.ClassFile.FieldType.int) ∈ xT := x_t3 rfl (i := 25) rfl
theorem hd_FaultRules_trim : y_FaultRules_trim.cls ≠ "java/lang/invoke/MethodHandle" ∧ y_FaultRules_trim.cls ≠ "java/lang/invoke/VarHandle" ∧ (parseMethodDescriptor y_FaultRules_trim.desc).map (fun d => d.parameters.length) = some 1 := by decide +kernel
theorem d_FaultRules_trim_0 : decode prog_1_method_5_code 0 = .ok (.iload_n 1, 1) := by decide +kernel
theorem d_FaultRules_trim_1 : decode prog_1_method_5_code 1 = .ok (.ifCond .lt 14, 3) := by decide +kernel
theorem d_FaultRules_trim_4 : decode prog_1_method_5_code 4 = .ok (.iload_n 1, 1) := by decide +kernel
theorem d_FaultRules_trim_5 : decode prog_1_method_5_code 5 = .ok (.aload_n 0, 1) := by decide +kernel
theorem d_FaultRules_trim_6 : decode prog_1_method_5_code 6 = .ok (.getfield 19, 3) := by decide +kernel
theorem d_FaultRules_trim_9 : decode prog_1_method_5_code 9 = .ok (.getfield 111, 3) := by decide +kernel
theorem d_FaultRules_trim_12 : decode prog_1_method_5_code 12 = .ok (.if_icmp .le 13, 3) := by decide +kernel
theorem d_FaultRules_trim_15 : decode prog_1_method_5_code 15 = .ok (.new 67, 3) := by decide +kernel
theorem d_FaultRules_trim_18 : decode prog_1_method_5_code 18 = .ok (.dup, 1) := by decide +kernel
theorem d_FaultRules_trim_19 : decode prog_1_method_5_code 19 = .ok (.ldc 121, 2) := by decide +kernel
theorem d_FaultRules_trim_21 : decode prog_1_method_5_code 21 = .ok (.invokespecial 71, 3) := by decide +kernel
theorem d_FaultRules_trim_24 : decode prog_1_method_5_code 24 = .ok (.athrow, 1) := by decide +kernel
theorem d_FaultRules_trim_25 : decode prog_1_method_5_code 25 = .ok (.aload_n 0, 1) := by decide +kernel
theorem d_FaultRules_trim_26 : decode prog_1_method_5_code 26 = .ok (.getfield 19, 3) := by decide +kernel
theorem d_FaultRules_trim_29 : decode prog_1_method_5_code 29 = .ok (.dup, 1) := by decide +kernel
theorem d_FaultRules_trim_30 : decode prog_1_method_5_code 30 = .ok (.getfield 111, 3) := by decide +kernel
theorem d_FaultRules_trim_33 : decode prog_1_method_5_code 33 = .ok (.iload_n 1, 1) := by decide +kernel
theorem d_FaultRules_trim_34 : decode prog_1_method_5_code 34 = .ok (.isub, 1) := by decide +kernel
theorem d_FaultRules_trim_35 : decode prog_1_method_5_code 35 = .ok (.putfield 111, 3) := by decide +kernel
theorem d_FaultRules_trim_38 : decode prog_1_method_5_code 38 = .ok (.aload_n 0, 1) := by decide +kernel
theorem d_FaultRules_trim_39 : decode prog_1_method_5_code 39 = .ok (.getfield 19, 3) := by decide +kernel
theorem d_FaultRules_trim_42 : decode prog_1_method_5_code 42 = .ok (.getfield 111, 3) := by decide +kernel
theorem d_FaultRules_trim_45 : decode prog_1_method_5_code 45 = .ok (.ireturn, 1) := by decide +kernel
abbrev y_FaultRules_rules : MethodName := { cls := "FaultRules", name := "rules", desc := "()I" }
theorem kC_FaultRules_rules : Cond.code ({ cls := "FaultRules", name := "rules", desc := "()I" } : Jvm.MethodName) prog_1_method_6_code (3 : Nat) (Option.some Jvm.ClassFile.FieldType.int) ∈ xT := x_t1 rfl (i := 222) rfl
theorem hd_FaultRules_rules : y_FaultRules_rules.cls ≠ "java/lang/invoke/MethodHandle" ∧ y_FaultRules_rules.cls ≠ "java/lang/invoke/VarHandle" ∧ (parseMethodDescriptor y_FaultRules_rules.desc).map (fun d => d.parameters.length) = some 0 := by decide +kernel
theorem d_FaultRules_rules_0 : decode prog_1_method_6_code 0 = .ok (.aload_n 0, 1) := by decide +kernel
theorem d_FaultRules_rules_1 : decode prog_1_method_6_code 1 = .ok (.getfield 26, 3) := by decide +kernel
theorem d_FaultRules_rules_4 : decode prog_1_method_6_code 4 = .ok (.aload_n 0, 1) := by decide +kernel
theorem d_FaultRules_rules_5 : decode prog_1_method_6_code 5 = .ok (.getfield 19, 3) := by decide +kernel
theorem d_FaultRules_rules_8 : decode prog_1_method_6_code 8 = .ok (.aload_n 0, 1) := by decide +kernel
theorem d_FaultRules_rules_9 : decode prog_1_method_6_code 9 = .ok (.getfield 55, 3) := by decide +kernel
theorem d_FaultRules_rules_12 : decode prog_1_method_6_code 12 = .ok (.invokevirtual 123, 3) := by decide +kernel
theorem d_FaultRules_rules_15 : decode prog_1_method_6_code 15 = .ok (.istore_n 1, 1) := by decide +kernel
theorem d_FaultRules_rules_16 : decode prog_1_method_6_code 16 = .ok (.iload_n 1, 1) := by decide +kernel
theorem d_FaultRules_rules_17 : decode prog_1_method_6_code 17 = .ok (.ifCond .lt 37, 3) := by decide +kernel
theorem d_FaultRules_rules_20 : decode prog_1_method_6_code 20 = .ok (.aload_n 0, 1) := by decide +kernel
theorem d_FaultRules_rules_21 : decode prog_1_method_6_code 21 = .ok (.getfield 51, 3) := by decide +kernel
theorem d_FaultRules_rules_24 : decode prog_1_method_6_code 24 = .ok (.astore_n 2, 1) := by decide +kernel
theorem d_FaultRules_rules_25 : decode prog_1_method_6_code 25 = .ok (.aload_n 0, 1) := by decide +kernel
theorem d_FaultRules_rules_26 : decode prog_1_method_6_code 26 = .ok (.aload_n 0, 1) := by decide +kernel
theorem d_FaultRules_rules_27 : decode prog_1_method_6_code 27 = .ok (.getfield 55, 3) := by decide +kernel
theorem d_FaultRules_rules_30 : decode prog_1_method_6_code 30 = .ok (.putfield 51, 3) := by decide +kernel
theorem d_FaultRules_rules_33 : decode prog_1_method_6_code 33 = .ok (.aload_n 0, 1) := by decide +kernel
theorem d_FaultRules_rules_34 : decode prog_1_method_6_code 34 = .ok (.aload_n 2, 1) := by decide +kernel
theorem d_FaultRules_rules_35 : decode prog_1_method_6_code 35 = .ok (.putfield 55, 3) := by decide +kernel
theorem d_FaultRules_rules_38 : decode prog_1_method_6_code 38 = .ok (.aload_n 0, 1) := by decide +kernel
theorem d_FaultRules_rules_39 : decode prog_1_method_6_code 39 = .ok (.getfield 19, 3) := by decide +kernel
theorem d_FaultRules_rules_42 : decode prog_1_method_6_code 42 = .ok (.iconst 0, 1) := by decide +kernel
theorem d_FaultRules_rules_43 : decode prog_1_method_6_code 43 = .ok (.putfield 111, 3) := by decide +kernel
theorem d_FaultRules_rules_46 : decode prog_1_method_6_code 46 = .ok (.aload_n 0, 1) := by decide +kernel
theorem d_FaultRules_rules_47 : decode prog_1_method_6_code 47 = .ok (.getfield 33, 3) := by decide +kernel
theorem d_FaultRules_rules_50 : decode prog_1_method_6_code 50 = .ok (.iconst 0, 1) := by decide +kernel
theorem d_FaultRules_rules_51 : decode prog_1_method_6_code 51 = .ok (.putfield 127, 3) := by decide +kernel
theorem d_FaultRules_rules_54 : decode prog_1_method_6_code 54 = .ok (.iload_n 1, 1) := by decide +kernel
theorem d_FaultRules_rules_55 : decode prog_1_method_6_code 55 = .ok (.ireturn, 1) := by decide +kernel
theorem kF_FaultRules_26 : Cond.fieldLink "FaultRules" (26 : Nat) "FaultRules" "reader" "LFaultRules$Reader;" ∈ xT := x_t1 rfl (i := 196) rfl
theorem kF_FaultRules_55 : Cond.fieldLink "FaultRules" (55 : Nat) "FaultRules" "draft" "LFaultRules$RuleSet;" ∈ xT := x_t1 rfl (i := 201) rfl
theorem kF_FaultRules_51 : Cond.fieldLink "FaultRules" (51 : Nat) "FaultRules" "ruleSet" "LFaultRules$RuleSet;" ∈ xT := x_t1 rfl (i := 200) rfl
theorem kF_FaultRules_33 : Cond.fieldLink "FaultRules" (33 : Nat) "FaultRules" "found" "LFaultRules$Run;" ∈ xT := x_t1 rfl (i := 197) rfl
theorem kF_FaultRules_127 : Cond.fieldLink "FaultRules" (127 : Nat) "FaultRules$Run" "isThere" "Z" ∈ xT := x_t1 rfl (i := 96) rfl
theorem kM_FaultRules_123 : Cond.methodLink "FaultRules" (123 : Nat) ({ cls := "FaultRules$Reader", name := "read", desc := "(LFaultRules$Text;LFaultRules$RuleSet;)I" } : Jvm.MethodName) ∈ xT := x_t1 rfl (i := 223) rfl
theorem kI_Reader_read : Cond.instanceMethod ({ cls := "FaultRules$Reader", name := "read", desc := "(LFaultRules$Text;LFaultRules$RuleSet;)I" } : Jvm.MethodName) ∈ xT := x_t1 rfl (i := 224) rfl
theorem kS_307 : Cond.selects "FaultRules$Reader" ({ cls := "FaultRules$Reader", name := "read", desc := "(LFaultRules$Text;LFaultRules$RuleSet;)I" } : Jvm.MethodName) ({ cls := "FaultRules$Reader", name := "read", desc := "(LFaultRules$Text;LFaultRules$RuleSet;)I" } : Jvm.MethodName) ∈ xT := x_t1 rfl (i := 225) rfl
abbrev y_FaultRules_isStretch : MethodName := { cls := "FaultRules", name := "isStretch", desc := "(III)Z" }
theorem kC_FaultRules_isStretch : Cond.code ({ cls := "FaultRules", name := "isStretch", desc := "(III)Z" } : Jvm.MethodName) prog_1_method_19_code (3 : Nat) (Option.some Jvm.ClassFile.FieldType.boolean) ∈ xT := x_t3 rfl (i := 36) rfl
theorem hd_FaultRules_isStretch : y_FaultRules_isStretch.cls ≠ "java/lang/invoke/MethodHandle" ∧ y_FaultRules_isStretch.cls ≠ "java/lang/invoke/VarHandle" ∧ (parseMethodDescriptor y_FaultRules_isStretch.desc).map (fun d => d.parameters.length) = some 3 := by decide +kernel
theorem d_FaultRules_isStretch_0 : decode prog_1_method_19_code 0 = .ok (.iload_n 0, 1) := by decide +kernel
theorem d_FaultRules_isStretch_1 : decode prog_1_method_19_code 1 = .ok (.invokestatic 62, 3) := by decide +kernel
theorem d_FaultRules_isStretch_4 : decode prog_1_method_19_code 4 = .ok (.ifCond .eq 26, 3) := by decide +kernel
theorem d_FaultRules_isStretch_7 : decode prog_1_method_19_code 7 = .ok (.iload_n 1, 1) := by decide +kernel
theorem d_FaultRules_isStretch_8 : decode prog_1_method_19_code 8 = .ok (.invokestatic 62, 3) := by decide +kernel
theorem d_FaultRules_isStretch_11 : decode prog_1_method_19_code 11 = .ok (.ifCond .eq 19, 3) := by decide +kernel
theorem d_FaultRules_isStretch_14 : decode prog_1_method_19_code 14 = .ok (.iload_n 1, 1) := by decide +kernel
theorem d_FaultRules_isStretch_15 : decode prog_1_method_19_code 15 = .ok (.iload_n 0, 1) := by decide +kernel
theorem d_FaultRules_isStretch_16 : decode prog_1_method_19_code 16 = .ok (.if_icmp .lt 14, 3) := by decide +kernel
theorem d_FaultRules_isStretch_19 : decode prog_1_method_19_code 19 = .ok (.iload_n 1, 1) := by decide +kernel
theorem d_FaultRules_isStretch_20 : decode prog_1_method_19_code 20 = .ok (.iload_n 0, 1) := by decide +kernel
theorem d_FaultRules_isStretch_21 : decode prog_1_method_19_code 21 = .ok (.isub, 1) := by decide +kernel
theorem d_FaultRules_isStretch_22 : decode prog_1_method_19_code 22 = .ok (.iload_n 2, 1) := by decide +kernel
theorem d_FaultRules_isStretch_23 : decode prog_1_method_19_code 23 = .ok (.if_icmp .ge 7, 3) := by decide +kernel
theorem d_FaultRules_isStretch_26 : decode prog_1_method_19_code 26 = .ok (.iconst 1, 1) := by decide +kernel
theorem d_FaultRules_isStretch_27 : decode prog_1_method_19_code 27 = .ok (.goto 4, 3) := by decide +kernel
theorem d_FaultRules_isStretch_30 : decode prog_1_method_19_code 30 = .ok (.iconst 0, 1) := by decide +kernel
theorem d_FaultRules_isStretch_31 : decode prog_1_method_19_code 31 = .ok (.ireturn, 1) := by decide +kernel
abbrev y_FaultRules_run : MethodName := { cls := "FaultRules", name := "run", desc := "(II)I" }
theorem kC_FaultRules_run : Cond.code ({ cls := "FaultRules", name := "run", desc := "(II)I" } : Jvm.MethodName) prog_1_method_7_code (3 : Nat) (Option.some Jvm.ClassFile.FieldType.int) ∈ xT := x_t3 rfl (i := 33) rfl
theorem hd_FaultRules_run : y_FaultRules_run.cls ≠ "java/lang/invoke/MethodHandle" ∧ y_FaultRules_run.cls ≠ "java/lang/invoke/VarHandle" ∧ (parseMethodDescriptor y_FaultRules_run.desc).map (fun d => d.parameters.length) = some 2 := by decide +kernel
theorem d_FaultRules_run_0 : decode prog_1_method_7_code 0 = .ok (.iload_n 1, 1) := by decide +kernel
theorem d_FaultRules_run_1 : decode prog_1_method_7_code 1 = .ok (.iload_n 2, 1) := by decide +kernel
theorem d_FaultRules_run_2 : decode prog_1_method_7_code 2 = .ok (.sipush 2000, 3) := by decide +kernel
theorem d_FaultRules_run_5 : decode prog_1_method_7_code 5 = .ok (.invokestatic 131, 3) := by decide +kernel
theorem d_FaultRules_run_8 : decode prog_1_method_7_code 8 = .ok (.ifCond .ne 13, 3) := by decide +kernel
theorem d_FaultRules_run_11 : decode prog_1_method_7_code 11 = .ok (.new 67, 3) := by decide +kernel
theorem d_FaultRules_run_14 : decode prog_1_method_7_code 14 = .ok (.dup, 1) := by decide +kernel
theorem d_FaultRules_run_15 : decode prog_1_method_7_code 15 = .ok (.ldc 135, 2) := by decide +kernel
theorem d_FaultRules_run_17 : decode prog_1_method_7_code 17 = .ok (.invokespecial 71, 3) := by decide +kernel
theorem d_FaultRules_run_20 : decode prog_1_method_7_code 20 = .ok (.athrow, 1) := by decide +kernel
theorem d_FaultRules_run_21 : decode prog_1_method_7_code 21 = .ok (.aload_n 0, 1) := by decide +kernel
theorem d_FaultRules_run_22 : decode prog_1_method_7_code 22 = .ok (.getfield 51, 3) := by decide +kernel
theorem d_FaultRules_run_25 : decode prog_1_method_7_code 25 = .ok (.getfield 137, 3) := by decide +kernel
theorem d_FaultRules_run_28 : decode prog_1_method_7_code 28 = .ok (.ifCond .ne 13, 3) := by decide +kernel
theorem d_FaultRules_run_31 : decode prog_1_method_7_code 31 = .ok (.new 82, 3) := by decide +kernel
theorem d_FaultRules_run_34 : decode prog_1_method_7_code 34 = .ok (.dup, 1) := by decide +kernel
theorem d_FaultRules_run_35 : decode prog_1_method_7_code 35 = .ok (.ldc 140, 2) := by decide +kernel
theorem d_FaultRules_run_37 : decode prog_1_method_7_code 37 = .ok (.invokespecial 86, 3) := by decide +kernel
theorem d_FaultRules_run_40 : decode prog_1_method_7_code 40 = .ok (.athrow, 1) := by decide +kernel
theorem d_FaultRules_run_41 : decode prog_1_method_7_code 41 = .ok (.aload_n 0, 1) := by decide +kernel
theorem d_FaultRules_run_42 : decode prog_1_method_7_code 42 = .ok (.getfield 33, 3) := by decide +kernel
theorem d_FaultRules_run_45 : decode prog_1_method_7_code 45 = .ok (.aload_n 0, 1) := by decide +kernel
theorem d_FaultRules_run_46 : decode prog_1_method_7_code 46 = .ok (.getfield 51, 3) := by decide +kernel
theorem d_FaultRules_run_49 : decode prog_1_method_7_code 49 = .ok (.aload_n 0, 1) := by decide +kernel
theorem d_FaultRules_run_50 : decode prog_1_method_7_code 50 = .ok (.getfield 12, 3) := by decide +kernel
theorem d_FaultRules_run_53 : decode prog_1_method_7_code 53 = .ok (.iload_n 1, 1) := by decide +kernel
theorem d_FaultRules_run_54 : decode prog_1_method_7_code 54 = .ok (.iload_n 2, 1) := by decide +kernel
theorem d_FaultRules_run_55 : decode prog_1_method_7_code 55 = .ok (.invokevirtual 142, 3) := by decide +kernel
theorem d_FaultRules_run_58 : decode prog_1_method_7_code 58 = .ok (.aload_n 0, 1) := by decide +kernel
theorem d_FaultRules_run_59 : decode prog_1_method_7_code 59 = .ok (.getfield 33, 3) := by decide +kernel
theorem d_FaultRules_run_62 : decode prog_1_method_7_code 62 = .ok (.getfield 146, 3) := by decide +kernel
theorem d_FaultRules_run_65 : decode prog_1_method_7_code 65 = .ok (.ireturn, 1) := by decide +kernel
theorem kF_FaultRules_137 : Cond.fieldLink "FaultRules" (137 : Nat) "FaultRules$RuleSet" "count" "I" ∈ xT := x_t1 rfl (i := 173) rfl
theorem kF_FaultRules_146 : Cond.fieldLink "FaultRules" (146 : Nat) "FaultRules$Run" "count" "I" ∈ xT := x_t1 rfl (i := 98) rfl
theorem kM_FaultRules_131 : Cond.methodLink "FaultRules" (131 : Nat) ({ cls := "FaultRules", name := "isStretch", desc := "(III)Z" } : Jvm.MethodName) ∈ xT := x_t3 rfl (i := 34) rfl
theorem kT_FaultRules_isStretch : Cond.static ({ cls := "FaultRules", name := "isStretch", desc := "(III)Z" } : Jvm.MethodName) ∈ xT := x_t3 rfl (i := 35) rfl
theorem kM_FaultRules_142 : Cond.methodLink "FaultRules" (142 : Nat) ({ cls := "FaultRules$Run", name := "find", desc := "(LFaultRules$RuleSet;LFaultRules$Rows;II)V" } : Jvm.MethodName) ∈ xT := x_t3 rfl (i := 39) rfl
theorem kI_Run_find : Cond.instanceMethod ({ cls := "FaultRules$Run", name := "find", desc := "(LFaultRules$RuleSet;LFaultRules$Rows;II)V" } : Jvm.MethodName) ∈ xT := x_t3 rfl (i := 40) rfl
theorem kS_316 : Cond.selects "FaultRules$Run" ({ cls := "FaultRules$Run", name := "find", desc := "(LFaultRules$RuleSet;LFaultRules$Rows;II)V" } : Jvm.MethodName) ({ cls := "FaultRules$Run", name := "find", desc := "(LFaultRules$RuleSet;LFaultRules$Rows;II)V" } : Jvm.MethodName) ∈ xT := x_t3 rfl (i := 41) rfl
abbrev y_FaultRules_fault : MethodName := { cls := "FaultRules", name := "fault", desc := "(II)I" }
theorem kC_FaultRules_fault : Cond.code ({ cls := "FaultRules", name := "fault", desc := "(II)I" } : Jvm.MethodName) prog_1_method_8_code (3 : Nat) (Option.some Jvm.ClassFile.FieldType.int) ∈ xT := x_t3 rfl (i := 106) rfl
theorem hd_FaultRules_fault : y_FaultRules_fault.cls ≠ "java/lang/invoke/MethodHandle" ∧ y_FaultRules_fault.cls ≠ "java/lang/invoke/VarHandle" ∧ (parseMethodDescriptor y_FaultRules_fault.desc).map (fun d => d.parameters.length) = some 2 := by decide +kernel
theorem d_FaultRules_fault_0 : decode prog_1_method_8_code 0 = .ok (.iload_n 1, 1) := by decide +kernel
theorem d_FaultRules_fault_1 : decode prog_1_method_8_code 1 = .ok (.ifCond .lt 12, 3) := by decide +kernel
theorem d_FaultRules_fault_4 : decode prog_1_method_8_code 4 = .ok (.iload_n 2, 1) := by decide +kernel
theorem d_FaultRules_fault_5 : decode prog_1_method_8_code 5 = .ok (.ifCond .lt 8, 3) := by decide +kernel
theorem d_FaultRules_fault_8 : decode prog_1_method_8_code 8 = .ok (.iload_n 2, 1) := by decide +kernel
theorem d_FaultRules_fault_9 : decode prog_1_method_8_code 9 = .ok (.iconst 3, 1) := by decide +kernel
theorem d_FaultRules_fault_10 : decode prog_1_method_8_code 10 = .ok (.if_icmp .le 13, 3) := by decide +kernel
theorem d_FaultRules_fault_13 : decode prog_1_method_8_code 13 = .ok (.new 67, 3) := by decide +kernel
theorem d_FaultRules_fault_16 : decode prog_1_method_8_code 16 = .ok (.dup, 1) := by decide +kernel
theorem d_FaultRules_fault_17 : decode prog_1_method_8_code 17 = .ok (.ldc 147, 2) := by decide +kernel
theorem d_FaultRules_fault_19 : decode prog_1_method_8_code 19 = .ok (.invokespecial 71, 3) := by decide +kernel
theorem d_FaultRules_fault_22 : decode prog_1_method_8_code 22 = .ok (.athrow, 1) := by decide +kernel
theorem d_FaultRules_fault_23 : decode prog_1_method_8_code 23 = .ok (.aload_n 0, 1) := by decide +kernel
theorem d_FaultRules_fault_24 : decode prog_1_method_8_code 24 = .ok (.getfield 33, 3) := by decide +kernel
theorem d_FaultRules_fault_27 : decode prog_1_method_8_code 27 = .ok (.getfield 127, 3) := by decide +kernel
theorem d_FaultRules_fault_30 : decode prog_1_method_8_code 30 = .ok (.ifCond .ne 13, 3) := by decide +kernel
theorem d_FaultRules_fault_33 : decode prog_1_method_8_code 33 = .ok (.new 82, 3) := by decide +kernel
theorem d_FaultRules_fault_36 : decode prog_1_method_8_code 36 = .ok (.dup, 1) := by decide +kernel
theorem d_FaultRules_fault_37 : decode prog_1_method_8_code 37 = .ok (.ldc 149, 2) := by decide +kernel
theorem d_FaultRules_fault_39 : decode prog_1_method_8_code 39 = .ok (.invokespecial 86, 3) := by decide +kernel
theorem d_FaultRules_fault_42 : decode prog_1_method_8_code 42 = .ok (.athrow, 1) := by decide +kernel
theorem d_FaultRules_fault_43 : decode prog_1_method_8_code 43 = .ok (.iload_n 1, 1) := by decide +kernel
theorem d_FaultRules_fault_44 : decode prog_1_method_8_code 44 = .ok (.aload_n 0, 1) := by decide +kernel
theorem d_FaultRules_fault_45 : decode prog_1_method_8_code 45 = .ok (.getfield 33, 3) := by decide +kernel
theorem d_FaultRules_fault_48 : decode prog_1_method_8_code 48 = .ok (.getfield 146, 3) := by decide +kernel
theorem d_FaultRules_fault_51 : decode prog_1_method_8_code 51 = .ok (.if_icmp .ge 15, 3) := by decide +kernel
theorem d_FaultRules_fault_54 : decode prog_1_method_8_code 54 = .ok (.aload_n 0, 1) := by decide +kernel
theorem d_FaultRules_fault_55 : decode prog_1_method_8_code 55 = .ok (.getfield 33, 3) := by decide +kernel
theorem d_FaultRules_fault_58 : decode prog_1_method_8_code 58 = .ok (.iload_n 1, 1) := by decide +kernel
theorem d_FaultRules_fault_59 : decode prog_1_method_8_code 59 = .ok (.iload_n 2, 1) := by decide +kernel
theorem d_FaultRules_fault_60 : decode prog_1_method_8_code 60 = .ok (.invokevirtual 151, 3) := by decide +kernel
theorem d_FaultRules_fault_63 : decode prog_1_method_8_code 63 = .ok (.goto 4, 3) := by decide +kernel
theorem d_FaultRules_fault_66 : decode prog_1_method_8_code 66 = .ok (.iconst (-1), 1) := by decide +kernel
theorem d_FaultRules_fault_67 : decode prog_1_method_8_code 67 = .ok (.ireturn, 1) := by decide +kernel
theorem kM_FaultRules_151 : Cond.methodLink "FaultRules" (151 : Nat) ({ cls := "FaultRules$Run", name := "part", desc := "(II)I" } : Jvm.MethodName) ∈ xT := x_t3 rfl (i := 109) rfl
theorem kI_Run_part : Cond.instanceMethod ({ cls := "FaultRules$Run", name := "part", desc := "(II)I" } : Jvm.MethodName) ∈ xT := x_t3 rfl (i := 110) rfl
theorem kS_320 : Cond.selects "FaultRules$Run" ({ cls := "FaultRules$Run", name := "part", desc := "(II)I" } : Jvm.MethodName) ({ cls := "FaultRules$Run", name := "part", desc := "(II)I" } : Jvm.MethodName) ∈ xT := x_t3 rfl (i := 111) rfl
abbrev y_FaultRules_money : MethodName := { cls := "FaultRules", name := "money", desc := "()I" }
theorem kC_FaultRules_money : Cond.code ({ cls := "FaultRules", name := "money", desc := "()I" } : Jvm.MethodName) prog_1_method_9_code (1 : Nat) (Option.some Jvm.ClassFile.FieldType.int) ∈ xT := x_t3 rfl (i := 119) rfl
theorem hd_FaultRules_money : y_FaultRules_money.cls ≠ "java/lang/invoke/MethodHandle" ∧ y_FaultRules_money.cls ≠ "java/lang/invoke/VarHandle" ∧ (parseMethodDescriptor y_FaultRules_money.desc).map (fun d => d.parameters.length) = some 0 := by decide +kernel
theorem d_FaultRules_money_0 : decode prog_1_method_9_code 0 = .ok (.aload_n 0, 1) := by decide +kernel
theorem d_FaultRules_money_1 : decode prog_1_method_9_code 1 = .ok (.getfield 33, 3) := by decide +kernel
theorem d_FaultRules_money_4 : decode prog_1_method_9_code 4 = .ok (.getfield 127, 3) := by decide +kernel
theorem d_FaultRules_money_7 : decode prog_1_method_9_code 7 = .ok (.ifCond .ne 13, 3) := by decide +kernel
theorem d_FaultRules_money_10 : decode prog_1_method_9_code 10 = .ok (.new 82, 3) := by decide +kernel
theorem d_FaultRules_money_13 : decode prog_1_method_9_code 13 = .ok (.dup, 1) := by decide +kernel
theorem d_FaultRules_money_14 : decode prog_1_method_9_code 14 = .ok (.ldc 149, 2) := by decide +kernel
theorem d_FaultRules_money_16 : decode prog_1_method_9_code 16 = .ok (.invokespecial 86, 3) := by decide +kernel
theorem d_FaultRules_money_19 : decode prog_1_method_9_code 19 = .ok (.athrow, 1) := by decide +kernel
theorem d_FaultRules_money_20 : decode prog_1_method_9_code 20 = .ok (.aload_n 0, 1) := by decide +kernel
theorem d_FaultRules_money_21 : decode prog_1_method_9_code 21 = .ok (.getfield 33, 3) := by decide +kernel
theorem d_FaultRules_money_24 : decode prog_1_method_9_code 24 = .ok (.getfield 155, 3) := by decide +kernel
theorem d_FaultRules_money_27 : decode prog_1_method_9_code 27 = .ok (.ireturn, 1) := by decide +kernel
theorem kF_FaultRules_155 : Cond.fieldLink "FaultRules" (155 : Nat) "FaultRules$Run" "total" "I" ∈ xT := x_t1 rfl (i := 100) rfl
abbrev y_FaultRules_held : MethodName := { cls := "FaultRules", name := "held", desc := "(I)I" }
theorem kC_FaultRules_held : Cond.code ({ cls := "FaultRules", name := "held", desc := "(I)I" } : Jvm.MethodName) prog_1_method_10_code (2 : Nat) (Option.some Jvm.ClassFile.FieldType.int) ∈ xT := x_t3 rfl (i := 126) rfl
theorem hd_FaultRules_held : y_FaultRules_held.cls ≠ "java/lang/invoke/MethodHandle" ∧ y_FaultRules_held.cls ≠ "java/lang/invoke/VarHandle" ∧ (parseMethodDescriptor y_FaultRules_held.desc).map (fun d => d.parameters.length) = some 1 := by decide +kernel
theorem d_FaultRules_held_0 : decode prog_1_method_10_code 0 = .ok (.iload_n 1, 1) := by decide +kernel
theorem d_FaultRules_held_1 : decode prog_1_method_10_code 1 = .ok (.ifCond .lt 14, 3) := by decide +kernel
theorem d_FaultRules_held_4 : decode prog_1_method_10_code 4 = .ok (.iload_n 1, 1) := by decide +kernel
theorem d_FaultRules_held_5 : decode prog_1_method_10_code 5 = .ok (.aload_n 0, 1) := by decide +kernel
theorem d_FaultRules_held_6 : decode prog_1_method_10_code 6 = .ok (.getfield 51, 3) := by decide +kernel
theorem d_FaultRules_held_9 : decode prog_1_method_10_code 9 = .ok (.getfield 137, 3) := by decide +kernel
theorem d_FaultRules_held_12 : decode prog_1_method_10_code 12 = .ok (.if_icmp .lt 13, 3) := by decide +kernel
theorem d_FaultRules_held_15 : decode prog_1_method_10_code 15 = .ok (.new 67, 3) := by decide +kernel
theorem d_FaultRules_held_18 : decode prog_1_method_10_code 18 = .ok (.dup, 1) := by decide +kernel
theorem d_FaultRules_held_19 : decode prog_1_method_10_code 19 = .ok (.ldc 158, 2) := by decide +kernel
theorem d_FaultRules_held_21 : decode prog_1_method_10_code 21 = .ok (.invokespecial 71, 3) := by decide +kernel
theorem d_FaultRules_held_24 : decode prog_1_method_10_code 24 = .ok (.athrow, 1) := by decide +kernel
theorem d_FaultRules_held_25 : decode prog_1_method_10_code 25 = .ok (.aload_n 0, 1) := by decide +kernel
theorem d_FaultRules_held_26 : decode prog_1_method_10_code 26 = .ok (.getfield 33, 3) := by decide +kernel
theorem d_FaultRules_held_29 : decode prog_1_method_10_code 29 = .ok (.getfield 127, 3) := by decide +kernel
theorem d_FaultRules_held_32 : decode prog_1_method_10_code 32 = .ok (.ifCond .ne 13, 3) := by decide +kernel
theorem d_FaultRules_held_35 : decode prog_1_method_10_code 35 = .ok (.new 82, 3) := by decide +kernel
theorem d_FaultRules_held_38 : decode prog_1_method_10_code 38 = .ok (.dup, 1) := by decide +kernel
theorem d_FaultRules_held_39 : decode prog_1_method_10_code 39 = .ok (.ldc 149, 2) := by decide +kernel
theorem d_FaultRules_held_41 : decode prog_1_method_10_code 41 = .ok (.invokespecial 86, 3) := by decide +kernel
theorem d_FaultRules_held_44 : decode prog_1_method_10_code 44 = .ok (.athrow, 1) := by decide +kernel
theorem d_FaultRules_held_45 : decode prog_1_method_10_code 45 = .ok (.aload_n 0, 1) := by decide +kernel
theorem d_FaultRules_held_46 : decode prog_1_method_10_code 46 = .ok (.getfield 33, 3) := by decide +kernel
theorem d_FaultRules_held_49 : decode prog_1_method_10_code 49 = .ok (.getfield 160, 3) := by decide +kernel
theorem d_FaultRules_held_52 : decode prog_1_method_10_code 52 = .ok (.iload_n 1, 1) := by decide +kernel
theorem d_FaultRules_held_53 : decode prog_1_method_10_code 53 = .ok (.iaload, 1) := by decide +kernel
theorem d_FaultRules_held_54 : decode prog_1_method_10_code 54 = .ok (.ireturn, 1) := by decide +kernel
theorem kF_FaultRules_160 : Cond.fieldLink "FaultRules" (160 : Nat) "FaultRules$Run" "minutesHeld" "[I" ∈ xT := x_t1 rfl (i := 104) rfl
abbrev y_FaultRules_holds : MethodName := { cls := "FaultRules", name := "holds", desc := "(III)Z" }
theorem kC_FaultRules_holds : Cond.code ({ cls := "FaultRules", name := "holds", desc := "(III)Z" } : Jvm.MethodName) prog_1_method_11_code (4 : Nat) (Option.some Jvm.ClassFile.FieldType.boolean) ∈ xT := x_t3 rfl (i := 134) rfl
theorem hd_FaultRules_holds : y_FaultRules_holds.cls ≠ "java/lang/invoke/MethodHandle" ∧ y_FaultRules_holds.cls ≠ "java/lang/invoke/VarHandle" ∧ (parseMethodDescriptor y_FaultRules_holds.desc).map (fun d => d.parameters.length) = some 3 := by decide +kernel
theorem d_FaultRules_holds_0 : decode prog_1_method_11_code 0 = .ok (.iload_n 1, 1) := by decide +kernel
theorem d_FaultRules_holds_1 : decode prog_1_method_11_code 1 = .ok (.ifCond .lt 38, 3) := by decide +kernel
theorem d_FaultRules_holds_4 : decode prog_1_method_11_code 4 = .ok (.iload_n 1, 1) := by decide +kernel
theorem d_FaultRules_holds_5 : decode prog_1_method_11_code 5 = .ok (.aload_n 0, 1) := by decide +kernel
theorem d_FaultRules_holds_6 : decode prog_1_method_11_code 6 = .ok (.getfield 51, 3) := by decide +kernel
theorem d_FaultRules_holds_9 : decode prog_1_method_11_code 9 = .ok (.getfield 137, 3) := by decide +kernel
theorem d_FaultRules_holds_12 : decode prog_1_method_11_code 12 = .ok (.if_icmp .ge 27, 3) := by decide +kernel
theorem d_FaultRules_holds_15 : decode prog_1_method_11_code 15 = .ok (.iload_n 2, 1) := by decide +kernel
theorem d_FaultRules_holds_16 : decode prog_1_method_11_code 16 = .ok (.ifCond .lt 23, 3) := by decide +kernel
theorem d_FaultRules_holds_19 : decode prog_1_method_11_code 19 = .ok (.iload_n 2, 1) := by decide +kernel
theorem d_FaultRules_holds_20 : decode prog_1_method_11_code 20 = .ok (.aload_n 0, 1) := by decide +kernel
theorem d_FaultRules_holds_21 : decode prog_1_method_11_code 21 = .ok (.getfield 51, 3) := by decide +kernel
theorem d_FaultRules_holds_24 : decode prog_1_method_11_code 24 = .ok (.getfield 163, 3) := by decide +kernel
theorem d_FaultRules_holds_27 : decode prog_1_method_11_code 27 = .ok (.iload_n 1, 1) := by decide +kernel
theorem d_FaultRules_holds_28 : decode prog_1_method_11_code 28 = .ok (.iaload, 1) := by decide +kernel
theorem d_FaultRules_holds_29 : decode prog_1_method_11_code 29 = .ok (.if_icmp .ge 10, 3) := by decide +kernel
theorem d_FaultRules_holds_32 : decode prog_1_method_11_code 32 = .ok (.iload_n 3, 1) := by decide +kernel
theorem d_FaultRules_holds_33 : decode prog_1_method_11_code 33 = .ok (.invokestatic 62, 3) := by decide +kernel
theorem d_FaultRules_holds_36 : decode prog_1_method_11_code 36 = .ok (.ifCond .ne 13, 3) := by decide +kernel
theorem d_FaultRules_holds_39 : decode prog_1_method_11_code 39 = .ok (.new 67, 3) := by decide +kernel
theorem d_FaultRules_holds_42 : decode prog_1_method_11_code 42 = .ok (.dup, 1) := by decide +kernel
theorem d_FaultRules_holds_43 : decode prog_1_method_11_code 43 = .ok (.ldc 166, 2) := by decide +kernel
theorem d_FaultRules_holds_45 : decode prog_1_method_11_code 45 = .ok (.invokespecial 71, 3) := by decide +kernel
theorem d_FaultRules_holds_48 : decode prog_1_method_11_code 48 = .ok (.athrow, 1) := by decide +kernel
theorem d_FaultRules_holds_49 : decode prog_1_method_11_code 49 = .ok (.aload_n 0, 1) := by decide +kernel
theorem d_FaultRules_holds_50 : decode prog_1_method_11_code 50 = .ok (.getfield 12, 3) := by decide +kernel
theorem d_FaultRules_holds_53 : decode prog_1_method_11_code 53 = .ok (.invokevirtual 93, 3) := by decide +kernel
theorem d_FaultRules_holds_56 : decode prog_1_method_11_code 56 = .ok (.aload_n 0, 1) := by decide +kernel
theorem d_FaultRules_holds_57 : decode prog_1_method_11_code 57 = .ok (.getfield 12, 3) := by decide +kernel
theorem d_FaultRules_holds_60 : decode prog_1_method_11_code 60 = .ok (.iload_n 3, 1) := by decide +kernel
theorem d_FaultRules_holds_61 : decode prog_1_method_11_code 61 = .ok (.invokevirtual 96, 3) := by decide +kernel
theorem d_FaultRules_holds_64 : decode prog_1_method_11_code 64 = .ok (.aload_n 0, 1) := by decide +kernel
theorem d_FaultRules_holds_65 : decode prog_1_method_11_code 65 = .ok (.getfield 51, 3) := by decide +kernel
theorem d_FaultRules_holds_68 : decode prog_1_method_11_code 68 = .ok (.iload_n 1, 1) := by decide +kernel
theorem d_FaultRules_holds_69 : decode prog_1_method_11_code 69 = .ok (.bipush 6, 2) := by decide +kernel
theorem d_FaultRules_holds_71 : decode prog_1_method_11_code 71 = .ok (.imul, 1) := by decide +kernel
theorem d_FaultRules_holds_72 : decode prog_1_method_11_code 72 = .ok (.iload_n 2, 1) := by decide +kernel
theorem d_FaultRules_holds_73 : decode prog_1_method_11_code 73 = .ok (.iadd, 1) := by decide +kernel
theorem d_FaultRules_holds_74 : decode prog_1_method_11_code 74 = .ok (.aload_n 0, 1) := by decide +kernel
theorem d_FaultRules_holds_75 : decode prog_1_method_11_code 75 = .ok (.getfield 12, 3) := by decide +kernel
theorem d_FaultRules_holds_78 : decode prog_1_method_11_code 78 = .ok (.iload_n 3, 1) := by decide +kernel
theorem d_FaultRules_holds_79 : decode prog_1_method_11_code 79 = .ok (.invokevirtual 168, 3) := by decide +kernel
theorem d_FaultRules_holds_82 : decode prog_1_method_11_code 82 = .ok (.ireturn, 1) := by decide +kernel
theorem kF_FaultRules_163 : Cond.fieldLink "FaultRules" (163 : Nat) "FaultRules$RuleSet" "sizes" "[I" ∈ xT := x_t1 rfl (i := 161) rfl
theorem kM_FaultRules_168 : Cond.methodLink "FaultRules" (168 : Nat) ({ cls := "FaultRules$RuleSet", name := "testHolds", desc := "(ILFaultRules$Rows;I)Z" } : Jvm.MethodName) ∈ xT := x_t3 rfl (i := 136) rfl
abbrev y_FaultRules_commonDivisor : MethodName := { cls := "FaultRules", name := "commonDivisor", desc := "(JJ)J" }
theorem kC_FaultRules_commonDivisor : Cond.code ({ cls := "FaultRules", name := "commonDivisor", desc := "(JJ)J" } : Jvm.MethodName) prog_1_method_21_code (11 : Nat) (Option.some Jvm.ClassFile.FieldType.long) ∈ xT := x_t3 rfl (i := 161) rfl
theorem hd_FaultRules_commonDivisor : y_FaultRules_commonDivisor.cls ≠ "java/lang/invoke/MethodHandle" ∧ y_FaultRules_commonDivisor.cls ≠ "java/lang/invoke/VarHandle" ∧ (parseMethodDescriptor y_FaultRules_commonDivisor.desc).map (fun d => d.parameters.length) = some 2 := by decide +kernel
theorem d_FaultRules_commonDivisor_0 : decode prog_1_method_21_code 0 = .ok (.lload_n 0, 1) := by decide +kernel
theorem d_FaultRules_commonDivisor_1 : decode prog_1_method_21_code 1 = .ok (.lstore 4, 2) := by decide +kernel
theorem d_FaultRules_commonDivisor_3 : decode prog_1_method_21_code 3 = .ok (.lload_n 2, 1) := by decide +kernel
theorem d_FaultRules_commonDivisor_4 : decode prog_1_method_21_code 4 = .ok (.lstore 6, 2) := by decide +kernel
theorem d_FaultRules_commonDivisor_6 : decode prog_1_method_21_code 6 = .ok (.iconst 0, 1) := by decide +kernel
theorem d_FaultRules_commonDivisor_7 : decode prog_1_method_21_code 7 = .ok (.istore 8, 2) := by decide +kernel
theorem d_FaultRules_commonDivisor_9 : decode prog_1_method_21_code 9 = .ok (.iload 8, 2) := by decide +kernel
theorem d_FaultRules_commonDivisor_11 : decode prog_1_method_21_code 11 = .ok (.sipush 128, 3) := by decide +kernel
theorem d_FaultRules_commonDivisor_14 : decode prog_1_method_21_code 14 = .ok (.if_icmp .ge 31, 3) := by decide +kernel
theorem d_FaultRules_commonDivisor_17 : decode prog_1_method_21_code 17 = .ok (.lload 6, 2) := by decide +kernel
theorem d_FaultRules_commonDivisor_19 : decode prog_1_method_21_code 19 = .ok (.lconst 0, 1) := by decide +kernel
theorem d_FaultRules_commonDivisor_20 : decode prog_1_method_21_code 20 = .ok (.lcmp, 1) := by decide +kernel
theorem d_FaultRules_commonDivisor_21 : decode prog_1_method_21_code 21 = .ok (.ifCond .eq 24, 3) := by decide +kernel
theorem d_FaultRules_commonDivisor_24 : decode prog_1_method_21_code 24 = .ok (.lload 4, 2) := by decide +kernel
theorem d_FaultRules_commonDivisor_26 : decode prog_1_method_21_code 26 = .ok (.lload 6, 2) := by decide +kernel
theorem d_FaultRules_commonDivisor_28 : decode prog_1_method_21_code 28 = .ok (.lrem, 1) := by decide +kernel
theorem d_FaultRules_commonDivisor_29 : decode prog_1_method_21_code 29 = .ok (.lstore 9, 2) := by decide +kernel
theorem d_FaultRules_commonDivisor_31 : decode prog_1_method_21_code 31 = .ok (.lload 6, 2) := by decide +kernel
