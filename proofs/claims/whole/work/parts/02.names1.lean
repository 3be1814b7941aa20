theorem d_Text_kindOfSign_136 : decode prog_7_method_12_code 136 = .ok (.iconst 1, 1) := by decide +kernel
theorem d_Text_kindOfSign_137 : decode prog_7_method_12_code 137 = .ok (.ireturn, 1) := by decide +kernel
abbrev y_Text_readSign : MethodName := { cls := "FaultRules$Text", name := "readSign", desc := "(C)V" }
theorem kC_Text_readSign : Cond.code ({ cls := "FaultRules$Text", name := "readSign", desc := "(C)V" } : Jvm.MethodName) prog_7_method_10_code (3 : Nat) (Option.none : Option Jvm.ClassFile.FieldType) ∈ xT := x_t2 rfl (i := 36) rfl
theorem hd_Text_readSign : y_Text_readSign.cls ≠ "java/lang/invoke/MethodHandle" ∧ y_Text_readSign.cls ≠ "java/lang/invoke/VarHandle" ∧ (parseMethodDescriptor y_Text_readSign.desc).map (fun d => d.parameters.length) = some 1 := by decide +kernel
theorem d_Text_readSign_0 : decode prog_7_method_10_code 0 = .ok (.aload_n 0, 1) := by decide +kernel
theorem d_Text_readSign_1 : decode prog_7_method_10_code 1 = .ok (.dup, 1) := by decide +kernel
theorem d_Text_readSign_2 : decode prog_7_method_10_code 2 = .ok (.getfield 19, 3) := by decide +kernel
theorem d_Text_readSign_5 : decode prog_7_method_10_code 5 = .ok (.iconst 1, 1) := by decide +kernel
theorem d_Text_readSign_6 : decode prog_7_method_10_code 6 = .ok (.iadd, 1) := by decide +kernel
theorem d_Text_readSign_7 : decode prog_7_method_10_code 7 = .ok (.putfield 19, 3) := by decide +kernel
theorem d_Text_readSign_10 : decode prog_7_method_10_code 10 = .ok (.aload_n 0, 1) := by decide +kernel
theorem d_Text_readSign_11 : decode prog_7_method_10_code 11 = .ok (.aload_n 0, 1) := by decide +kernel
theorem d_Text_readSign_12 : decode prog_7_method_10_code 12 = .ok (.getfield 19, 3) := by decide +kernel
theorem d_Text_readSign_15 : decode prog_7_method_10_code 15 = .ok (.invokevirtual 25, 3) := by decide +kernel
theorem d_Text_readSign_18 : decode prog_7_method_10_code 18 = .ok (.bipush 61, 2) := by decide +kernel
theorem d_Text_readSign_20 : decode prog_7_method_10_code 20 = .ok (.if_icmp .ne 7, 3) := by decide +kernel
theorem d_Text_readSign_23 : decode prog_7_method_10_code 23 = .ok (.iconst 1, 1) := by decide +kernel
theorem d_Text_readSign_24 : decode prog_7_method_10_code 24 = .ok (.goto 4, 3) := by decide +kernel
theorem d_Text_readSign_27 : decode prog_7_method_10_code 27 = .ok (.iconst 0, 1) := by decide +kernel
theorem d_Text_readSign_28 : decode prog_7_method_10_code 28 = .ok (.istore_n 2, 1) := by decide +kernel
theorem d_Text_readSign_29 : decode prog_7_method_10_code 29 = .ok (.iload_n 2, 1) := by decide +kernel
theorem d_Text_readSign_30 : decode prog_7_method_10_code 30 = .ok (.ifCond .eq 45, 3) := by decide +kernel
theorem d_Text_readSign_33 : decode prog_7_method_10_code 33 = .ok (.iload_n 1, 1) := by decide +kernel
theorem d_Text_readSign_34 : decode prog_7_method_10_code 34 = .ok (.bipush 60, 2) := by decide +kernel
theorem d_Text_readSign_36 : decode prog_7_method_10_code 36 = .ok (.if_icmp .eq 9, 3) := by decide +kernel
theorem d_Text_readSign_39 : decode prog_7_method_10_code 39 = .ok (.iload_n 1, 1) := by decide +kernel
theorem d_Text_readSign_40 : decode prog_7_method_10_code 40 = .ok (.bipush 62, 2) := by decide +kernel
theorem d_Text_readSign_42 : decode prog_7_method_10_code 42 = .ok (.if_icmp .ne 33, 3) := by decide +kernel
theorem d_Text_readSign_45 : decode prog_7_method_10_code 45 = .ok (.aload_n 0, 1) := by decide +kernel
theorem d_Text_readSign_46 : decode prog_7_method_10_code 46 = .ok (.dup, 1) := by decide +kernel
theorem d_Text_readSign_47 : decode prog_7_method_10_code 47 = .ok (.getfield 19, 3) := by decide +kernel
theorem d_Text_readSign_50 : decode prog_7_method_10_code 50 = .ok (.iconst 1, 1) := by decide +kernel
theorem d_Text_readSign_51 : decode prog_7_method_10_code 51 = .ok (.iadd, 1) := by decide +kernel
theorem d_Text_readSign_52 : decode prog_7_method_10_code 52 = .ok (.putfield 19, 3) := by decide +kernel
theorem d_Text_readSign_55 : decode prog_7_method_10_code 55 = .ok (.aload_n 0, 1) := by decide +kernel
theorem d_Text_readSign_56 : decode prog_7_method_10_code 56 = .ok (.iload_n 1, 1) := by decide +kernel
theorem d_Text_readSign_57 : decode prog_7_method_10_code 57 = .ok (.bipush 60, 2) := by decide +kernel
theorem d_Text_readSign_59 : decode prog_7_method_10_code 59 = .ok (.if_icmp .ne 8, 3) := by decide +kernel
theorem d_Text_readSign_62 : decode prog_7_method_10_code 62 = .ok (.bipush 12, 2) := by decide +kernel
theorem d_Text_readSign_64 : decode prog_7_method_10_code 64 = .ok (.goto 5, 3) := by decide +kernel
theorem d_Text_readSign_67 : decode prog_7_method_10_code 67 = .ok (.bipush 14, 2) := by decide +kernel
theorem d_Text_readSign_69 : decode prog_7_method_10_code 69 = .ok (.putfield 29, 3) := by decide +kernel
theorem d_Text_readSign_72 : decode prog_7_method_10_code 72 = .ok (.goto 11, 3) := by decide +kernel
theorem d_Text_readSign_75 : decode prog_7_method_10_code 75 = .ok (.aload_n 0, 1) := by decide +kernel
theorem d_Text_readSign_76 : decode prog_7_method_10_code 76 = .ok (.iload_n 1, 1) := by decide +kernel
theorem d_Text_readSign_77 : decode prog_7_method_10_code 77 = .ok (.invokestatic 72, 3) := by decide +kernel
theorem d_Text_readSign_80 : decode prog_7_method_10_code 80 = .ok (.putfield 29, 3) := by decide +kernel
theorem d_Text_readSign_83 : decode prog_7_method_10_code 83 = .ok (.return_, 1) := by decide +kernel
theorem kM_Text_25 : Cond.methodLink "FaultRules$Text" (25 : Nat) ({ cls := "FaultRules$Text", name := "signAt", desc := "(I)C" } : Jvm.MethodName) ∈ xT := x_t1 rfl (i := 235) rfl
theorem kI_Text_signAt : Cond.instanceMethod ({ cls := "FaultRules$Text", name := "signAt", desc := "(I)C" } : Jvm.MethodName) ∈ xT := x_t1 rfl (i := 237) rfl
theorem kS_74 : Cond.selects "FaultRules$Text" ({ cls := "FaultRules$Text", name := "signAt", desc := "(I)C" } : Jvm.MethodName) ({ cls := "FaultRules$Text", name := "signAt", desc := "(I)C" } : Jvm.MethodName) ∈ xT := x_tp rfl (i := 0) rfl
theorem kM_Text_72 : Cond.methodLink "FaultRules$Text" (72 : Nat) ({ cls := "FaultRules$Text", name := "kindOfSign", desc := "(C)I" } : Jvm.MethodName) ∈ xT := x_t2 rfl (i := 37) rfl
theorem kT_Text_kindOfSign : Cond.static ({ cls := "FaultRules$Text", name := "kindOfSign", desc := "(C)I" } : Jvm.MethodName) ∈ xT := x_t2 rfl (i := 38) rfl
abbrev y_Text_readNext : MethodName := { cls := "FaultRules$Text", name := "readNext", desc := "()V" }
theorem kC_Text_readNext : Cond.code ({ cls := "FaultRules$Text", name := "readNext", desc := "()V" } : Jvm.MethodName) prog_7_method_4_code (2 : Nat) (Option.none : Option Jvm.ClassFile.FieldType) ∈ xT := x_t1 rfl (i := 234) rfl
theorem hd_Text_readNext : y_Text_readNext.cls ≠ "java/lang/invoke/MethodHandle" ∧ y_Text_readNext.cls ≠ "java/lang/invoke/VarHandle" ∧ (parseMethodDescriptor y_Text_readNext.desc).map (fun d => d.parameters.length) = some 0 := by decide +kernel
theorem d_Text_readNext_0 : decode prog_7_method_4_code 0 = .ok (.aload_n 0, 1) := by decide +kernel
theorem d_Text_readNext_1 : decode prog_7_method_4_code 1 = .ok (.getfield 19, 3) := by decide +kernel
theorem d_Text_readNext_4 : decode prog_7_method_4_code 4 = .ok (.aload_n 0, 1) := by decide +kernel
theorem d_Text_readNext_5 : decode prog_7_method_4_code 5 = .ok (.getfield 15, 3) := by decide +kernel
theorem d_Text_readNext_8 : decode prog_7_method_4_code 8 = .ok (.if_icmp .ge 30, 3) := by decide +kernel
theorem d_Text_readNext_11 : decode prog_7_method_4_code 11 = .ok (.aload_n 0, 1) := by decide +kernel
theorem d_Text_readNext_12 : decode prog_7_method_4_code 12 = .ok (.getfield 9, 3) := by decide +kernel
theorem d_Text_readNext_15 : decode prog_7_method_4_code 15 = .ok (.aload_n 0, 1) := by decide +kernel
theorem d_Text_readNext_16 : decode prog_7_method_4_code 16 = .ok (.getfield 19, 3) := by decide +kernel
theorem d_Text_readNext_19 : decode prog_7_method_4_code 19 = .ok (.caload, 1) := by decide +kernel
theorem d_Text_readNext_20 : decode prog_7_method_4_code 20 = .ok (.bipush 32, 2) := by decide +kernel
theorem d_Text_readNext_22 : decode prog_7_method_4_code 22 = .ok (.if_icmp .ne 16, 3) := by decide +kernel
theorem d_Text_readNext_25 : decode prog_7_method_4_code 25 = .ok (.aload_n 0, 1) := by decide +kernel
theorem d_Text_readNext_26 : decode prog_7_method_4_code 26 = .ok (.dup, 1) := by decide +kernel
theorem d_Text_readNext_27 : decode prog_7_method_4_code 27 = .ok (.getfield 19, 3) := by decide +kernel
theorem d_Text_readNext_30 : decode prog_7_method_4_code 30 = .ok (.iconst 1, 1) := by decide +kernel
theorem d_Text_readNext_31 : decode prog_7_method_4_code 31 = .ok (.iadd, 1) := by decide +kernel
theorem d_Text_readNext_32 : decode prog_7_method_4_code 32 = .ok (.putfield 19, 3) := by decide +kernel
theorem d_Text_readNext_35 : decode prog_7_method_4_code 35 = .ok (.goto (-35), 3) := by decide +kernel
theorem d_Text_readNext_38 : decode prog_7_method_4_code 38 = .ok (.aload_n 0, 1) := by decide +kernel
theorem d_Text_readNext_39 : decode prog_7_method_4_code 39 = .ok (.aload_n 0, 1) := by decide +kernel
theorem d_Text_readNext_40 : decode prog_7_method_4_code 40 = .ok (.getfield 19, 3) := by decide +kernel
theorem d_Text_readNext_43 : decode prog_7_method_4_code 43 = .ok (.invokevirtual 25, 3) := by decide +kernel
theorem d_Text_readNext_46 : decode prog_7_method_4_code 46 = .ok (.istore_n 1, 1) := by decide +kernel
theorem d_Text_readNext_47 : decode prog_7_method_4_code 47 = .ok (.aload_n 0, 1) := by decide +kernel
theorem d_Text_readNext_48 : decode prog_7_method_4_code 48 = .ok (.getfield 19, 3) := by decide +kernel
theorem d_Text_readNext_51 : decode prog_7_method_4_code 51 = .ok (.aload_n 0, 1) := by decide +kernel
theorem d_Text_readNext_52 : decode prog_7_method_4_code 52 = .ok (.getfield 15, 3) := by decide +kernel
theorem d_Text_readNext_55 : decode prog_7_method_4_code 55 = .ok (.if_icmp .lt 11, 3) := by decide +kernel
theorem d_Text_readNext_58 : decode prog_7_method_4_code 58 = .ok (.aload_n 0, 1) := by decide +kernel
theorem d_Text_readNext_59 : decode prog_7_method_4_code 59 = .ok (.iconst 0, 1) := by decide +kernel
theorem d_Text_readNext_60 : decode prog_7_method_4_code 60 = .ok (.putfield 29, 3) := by decide +kernel
theorem d_Text_readNext_63 : decode prog_7_method_4_code 63 = .ok (.goto 65, 3) := by decide +kernel
theorem d_Text_readNext_66 : decode prog_7_method_4_code 66 = .ok (.iload_n 1, 1) := by decide +kernel
theorem d_Text_readNext_67 : decode prog_7_method_4_code 67 = .ok (.bipush 112, 2) := by decide +kernel
theorem d_Text_readNext_69 : decode prog_7_method_4_code 69 = .ok (.if_icmp .ne 26, 3) := by decide +kernel
theorem d_Text_readNext_72 : decode prog_7_method_4_code 72 = .ok (.aload_n 0, 1) := by decide +kernel
theorem d_Text_readNext_73 : decode prog_7_method_4_code 73 = .ok (.aload_n 0, 1) := by decide +kernel
theorem d_Text_readNext_74 : decode prog_7_method_4_code 74 = .ok (.getfield 19, 3) := by decide +kernel
theorem d_Text_readNext_77 : decode prog_7_method_4_code 77 = .ok (.iconst 1, 1) := by decide +kernel
theorem d_Text_readNext_78 : decode prog_7_method_4_code 78 = .ok (.iadd, 1) := by decide +kernel
theorem d_Text_readNext_79 : decode prog_7_method_4_code 79 = .ok (.invokevirtual 25, 3) := by decide +kernel
theorem d_Text_readNext_82 : decode prog_7_method_4_code 82 = .ok (.invokestatic 32, 3) := by decide +kernel
theorem d_Text_readNext_85 : decode prog_7_method_4_code 85 = .ok (.ifCond .ne 10, 3) := by decide +kernel
theorem d_Text_readNext_88 : decode prog_7_method_4_code 88 = .ok (.aload_n 0, 1) := by decide +kernel
theorem d_Text_readNext_89 : decode prog_7_method_4_code 89 = .ok (.invokevirtual 36, 3) := by decide +kernel
theorem d_Text_readNext_92 : decode prog_7_method_4_code 92 = .ok (.goto 36, 3) := by decide +kernel
theorem d_Text_readNext_95 : decode prog_7_method_4_code 95 = .ok (.iload_n 1, 1) := by decide +kernel
theorem d_Text_readNext_96 : decode prog_7_method_4_code 96 = .ok (.invokestatic 32, 3) := by decide +kernel
theorem d_Text_readNext_99 : decode prog_7_method_4_code 99 = .ok (.ifCond .eq 10, 3) := by decide +kernel
theorem d_Text_readNext_102 : decode prog_7_method_4_code 102 = .ok (.aload_n 0, 1) := by decide +kernel
theorem d_Text_readNext_103 : decode prog_7_method_4_code 103 = .ok (.invokevirtual 39, 3) := by decide +kernel
theorem d_Text_readNext_106 : decode prog_7_method_4_code 106 = .ok (.goto 22, 3) := by decide +kernel
theorem d_Text_readNext_109 : decode prog_7_method_4_code 109 = .ok (.iload_n 1, 1) := by decide +kernel
theorem d_Text_readNext_110 : decode prog_7_method_4_code 110 = .ok (.invokestatic 42, 3) := by decide +kernel
theorem d_Text_readNext_113 : decode prog_7_method_4_code 113 = .ok (.ifCond .eq 10, 3) := by decide +kernel
theorem d_Text_readNext_116 : decode prog_7_method_4_code 116 = .ok (.aload_n 0, 1) := by decide +kernel
theorem d_Text_readNext_117 : decode prog_7_method_4_code 117 = .ok (.invokevirtual 45, 3) := by decide +kernel
theorem d_Text_readNext_120 : decode prog_7_method_4_code 120 = .ok (.goto 8, 3) := by decide +kernel
theorem d_Text_readNext_123 : decode prog_7_method_4_code 123 = .ok (.aload_n 0, 1) := by decide +kernel
theorem d_Text_readNext_124 : decode prog_7_method_4_code 124 = .ok (.iload_n 1, 1) := by decide +kernel
theorem d_Text_readNext_125 : decode prog_7_method_4_code 125 = .ok (.invokevirtual 48, 3) := by decide +kernel
theorem d_Text_readNext_128 : decode prog_7_method_4_code 128 = .ok (.return_, 1) := by decide +kernel
theorem kM_Text_48 : Cond.methodLink "FaultRules$Text" (48 : Nat) ({ cls := "FaultRules$Text", name := "readSign", desc := "(C)V" } : Jvm.MethodName) ∈ xT := x_t2 rfl (i := 33) rfl
theorem kI_Text_readSign : Cond.instanceMethod ({ cls := "FaultRules$Text", name := "readSign", desc := "(C)V" } : Jvm.MethodName) ∈ xT := x_t2 rfl (i := 35) rfl
theorem kS_80 : Cond.selects "FaultRules$Text" ({ cls := "FaultRules$Text", name := "readSign", desc := "(C)V" } : Jvm.MethodName) ({ cls := "FaultRules$Text", name := "readSign", desc := "(C)V" } : Jvm.MethodName) ∈ xT := x_tp rfl (i := 5) rfl
theorem kM_Text_45 : Cond.methodLink "FaultRules$Text" (45 : Nat) ({ cls := "FaultRules$Text", name := "readNumber", desc := "()V" } : Jvm.MethodName) ∈ xT := x_t2 rfl (i := 28) rfl
theorem kI_Text_readNumber : Cond.instanceMethod ({ cls := "FaultRules$Text", name := "readNumber", desc := "()V" } : Jvm.MethodName) ∈ xT := x_t2 rfl (i := 30) rfl
theorem kS_83 : Cond.selects "FaultRules$Text" ({ cls := "FaultRules$Text", name := "readNumber", desc := "()V" } : Jvm.MethodName) ({ cls := "FaultRules$Text", name := "readNumber", desc := "()V" } : Jvm.MethodName) ∈ xT := x_tp rfl (i := 4) rfl
theorem kM_Text_39 : Cond.methodLink "FaultRules$Text" (39 : Nat) ({ cls := "FaultRules$Text", name := "readLetters", desc := "()V" } : Jvm.MethodName) ∈ xT := x_t2 rfl (i := 16) rfl
theorem kI_Text_readLetters : Cond.instanceMethod ({ cls := "FaultRules$Text", name := "readLetters", desc := "()V" } : Jvm.MethodName) ∈ xT := x_t2 rfl (i := 18) rfl
theorem kS_86 : Cond.selects "FaultRules$Text" ({ cls := "FaultRules$Text", name := "readLetters", desc := "()V" } : Jvm.MethodName) ({ cls := "FaultRules$Text", name := "readLetters", desc := "()V" } : Jvm.MethodName) ∈ xT := x_tp rfl (i := 3) rfl
theorem kM_Text_36 : Cond.methodLink "FaultRules$Text" (36 : Nat) ({ cls := "FaultRules$Text", name := "readPoint", desc := "()V" } : Jvm.MethodName) ∈ xT := x_t2 rfl (i := 2) rfl
theorem kI_Text_readPoint : Cond.instanceMethod ({ cls := "FaultRules$Text", name := "readPoint", desc := "()V" } : Jvm.MethodName) ∈ xT := x_t2 rfl (i := 4) rfl
theorem kS_89 : Cond.selects "FaultRules$Text" ({ cls := "FaultRules$Text", name := "readPoint", desc := "()V" } : Jvm.MethodName) ({ cls := "FaultRules$Text", name := "readPoint", desc := "()V" } : Jvm.MethodName) ∈ xT := x_tp rfl (i := 1) rfl
abbrev y_Text_readFirst : MethodName := { cls := "FaultRules$Text", name := "readFirst", desc := "()V" }
theorem kC_Text_readFirst : Cond.code ({ cls := "FaultRules$Text", name := "readFirst", desc := "()V" } : Jvm.MethodName) prog_7_method_3_code (1 : Nat) (Option.none : Option Jvm.ClassFile.FieldType) ∈ xT := x_t1 rfl (i := 230) rfl
theorem hd_Text_readFirst : y_Text_readFirst.cls ≠ "java/lang/invoke/MethodHandle" ∧ y_Text_readFirst.cls ≠ "java/lang/invoke/VarHandle" ∧ (parseMethodDescriptor y_Text_readFirst.desc).map (fun d => d.parameters.length) = some 0 := by decide +kernel
theorem d_Text_readFirst_0 : decode prog_7_method_3_code 0 = .ok (.aload_n 0, 1) := by decide +kernel
theorem d_Text_readFirst_1 : decode prog_7_method_3_code 1 = .ok (.iconst 0, 1) := by decide +kernel
theorem d_Text_readFirst_2 : decode prog_7_method_3_code 2 = .ok (.putfield 19, 3) := by decide +kernel
theorem d_Text_readFirst_5 : decode prog_7_method_3_code 5 = .ok (.aload_n 0, 1) := by decide +kernel
theorem d_Text_readFirst_6 : decode prog_7_method_3_code 6 = .ok (.invokevirtual 22, 3) := by decide +kernel
theorem d_Text_readFirst_9 : decode prog_7_method_3_code 9 = .ok (.return_, 1) := by decide +kernel
theorem kM_Text_22 : Cond.methodLink "FaultRules$Text" (22 : Nat) ({ cls := "FaultRules$Text", name := "readNext", desc := "()V" } : Jvm.MethodName) ∈ xT := x_t1 rfl (i := 231) rfl
theorem kI_Text_readNext : Cond.instanceMethod ({ cls := "FaultRules$Text", name := "readNext", desc := "()V" } : Jvm.MethodName) ∈ xT := x_t1 rfl (i := 232) rfl
theorem kS_93 : Cond.selects "FaultRules$Text" ({ cls := "FaultRules$Text", name := "readNext", desc := "()V" } : Jvm.MethodName) ({ cls := "FaultRules$Text", name := "readNext", desc := "()V" } : Jvm.MethodName) ∈ xT := x_t1 rfl (i := 233) rfl
abbrev y_RuleSet_hasName : MethodName := { cls := "FaultRules$RuleSet", name := "hasName", desc := "(J)Z" }
theorem kC_RuleSet_hasName : Cond.code ({ cls := "FaultRules$RuleSet", name := "hasName", desc := "(J)Z" } : Jvm.MethodName) prog_5_method_2_code (4 : Nat) (Option.some Jvm.ClassFile.FieldType.boolean) ∈ xT := x_t2 rfl (i := 51) rfl
theorem hd_RuleSet_hasName : y_RuleSet_hasName.cls ≠ "java/lang/invoke/MethodHandle" ∧ y_RuleSet_hasName.cls ≠ "java/lang/invoke/VarHandle" ∧ (parseMethodDescriptor y_RuleSet_hasName.desc).map (fun d => d.parameters.length) = some 1 := by decide +kernel
theorem d_RuleSet_hasName_0 : decode prog_5_method_2_code 0 = .ok (.iconst 0, 1) := by decide +kernel
theorem d_RuleSet_hasName_1 : decode prog_5_method_2_code 1 = .ok (.istore_n 3, 1) := by decide +kernel
theorem d_RuleSet_hasName_2 : decode prog_5_method_2_code 2 = .ok (.iload_n 3, 1) := by decide +kernel
theorem d_RuleSet_hasName_3 : decode prog_5_method_2_code 3 = .ok (.aload_n 0, 1) := by decide +kernel
theorem d_RuleSet_hasName_4 : decode prog_5_method_2_code 4 = .ok (.getfield 37, 3) := by decide +kernel
theorem d_RuleSet_hasName_7 : decode prog_5_method_2_code 7 = .ok (.if_icmp .ge 22, 3) := by decide +kernel
theorem d_RuleSet_hasName_10 : decode prog_5_method_2_code 10 = .ok (.aload_n 0, 1) := by decide +kernel
theorem d_RuleSet_hasName_11 : decode prog_5_method_2_code 11 = .ok (.getfield 9, 3) := by decide +kernel
theorem d_RuleSet_hasName_14 : decode prog_5_method_2_code 14 = .ok (.iload_n 3, 1) := by decide +kernel
theorem d_RuleSet_hasName_15 : decode prog_5_method_2_code 15 = .ok (.laload, 1) := by decide +kernel
theorem d_RuleSet_hasName_16 : decode prog_5_method_2_code 16 = .ok (.lload_n 1, 1) := by decide +kernel
theorem d_RuleSet_hasName_17 : decode prog_5_method_2_code 17 = .ok (.lcmp, 1) := by decide +kernel
theorem d_RuleSet_hasName_18 : decode prog_5_method_2_code 18 = .ok (.ifCond .ne 5, 3) := by decide +kernel
theorem d_RuleSet_hasName_21 : decode prog_5_method_2_code 21 = .ok (.iconst 1, 1) := by decide +kernel
theorem d_RuleSet_hasName_22 : decode prog_5_method_2_code 22 = .ok (.ireturn, 1) := by decide +kernel
theorem d_RuleSet_hasName_23 : decode prog_5_method_2_code 23 = .ok (.iinc 3 1, 3) := by decide +kernel
theorem d_RuleSet_hasName_26 : decode prog_5_method_2_code 26 = .ok (.goto (-24), 3) := by decide +kernel
theorem d_RuleSet_hasName_29 : decode prog_5_method_2_code 29 = .ok (.iconst 0, 1) := by decide +kernel
theorem d_RuleSet_hasName_30 : decode prog_5_method_2_code 30 = .ok (.ireturn, 1) := by decide +kernel
theorem kF_RuleSet_37 : Cond.fieldLink "FaultRules$RuleSet" (37 : Nat) "FaultRules$RuleSet" "count" "I" ∈ xT := x_t1 rfl (i := 170) rfl
theorem kF_RuleSet_9 : Cond.fieldLink "FaultRules$RuleSet" (9 : Nat) "FaultRules$RuleSet" "names" "[J" ∈ xT := x_t1 rfl (i := 150) rfl
abbrev y_RuleSet_openTest : MethodName := { cls := "FaultRules$RuleSet", name := "openTest", desc := "()I" }
theorem kC_RuleSet_openTest : Cond.code ({ cls := "FaultRules$RuleSet", name := "openTest", desc := "()I" } : Jvm.MethodName) prog_5_method_3_code (1 : Nat) (Option.some Jvm.ClassFile.FieldType.int) ∈ xT := x_t2 rfl (i := 63) rfl
theorem hd_RuleSet_openTest : y_RuleSet_openTest.cls ≠ "java/lang/invoke/MethodHandle" ∧ y_RuleSet_openTest.cls ≠ "java/lang/invoke/VarHandle" ∧ (parseMethodDescriptor y_RuleSet_openTest.desc).map (fun d => d.parameters.length) = some 0 := by decide +kernel
theorem d_RuleSet_openTest_0 : decode prog_5_method_3_code 0 = .ok (.aload_n 0, 1) := by decide +kernel
theorem d_RuleSet_openTest_1 : decode prog_5_method_3_code 1 = .ok (.getfield 37, 3) := by decide +kernel
theorem d_RuleSet_openTest_4 : decode prog_5_method_3_code 4 = .ok (.bipush 6, 2) := by decide +kernel
theorem d_RuleSet_openTest_6 : decode prog_5_method_3_code 6 = .ok (.imul, 1) := by decide +kernel
theorem d_RuleSet_openTest_7 : decode prog_5_method_3_code 7 = .ok (.aload_n 0, 1) := by decide +kernel
theorem d_RuleSet_openTest_8 : decode prog_5_method_3_code 8 = .ok (.getfield 22, 3) := by decide +kernel
theorem d_RuleSet_openTest_11 : decode prog_5_method_3_code 11 = .ok (.aload_n 0, 1) := by decide +kernel
theorem d_RuleSet_openTest_12 : decode prog_5_method_3_code 12 = .ok (.getfield 37, 3) := by decide +kernel
theorem d_RuleSet_openTest_15 : decode prog_5_method_3_code 15 = .ok (.iaload, 1) := by decide +kernel
theorem d_RuleSet_openTest_16 : decode prog_5_method_3_code 16 = .ok (.iadd, 1) := by decide +kernel
theorem d_RuleSet_openTest_17 : decode prog_5_method_3_code 17 = .ok (.ireturn, 1) := by decide +kernel
theorem kF_RuleSet_22 : Cond.fieldLink "FaultRules$RuleSet" (22 : Nat) "FaultRules$RuleSet" "sizes" "[I" ∈ xT := x_t1 rfl (i := 159) rfl
abbrev y_RuleSet_relationHolds : MethodName := { cls := "FaultRules$RuleSet", name := "relationHolds", desc := "(ILFaultRules$Rows;)Z" }
theorem kC_RuleSet_relationHolds : Cond.code ({ cls := "FaultRules$RuleSet", name := "relationHolds", desc := "(ILFaultRules$Rows;)Z" } : Jvm.MethodName) prog_5_method_6_code (6 : Nat) (Option.some Jvm.ClassFile.FieldType.boolean) ∈ xT := x_t3 rfl (i := 73) rfl
theorem hd_RuleSet_relationHolds : y_RuleSet_relationHolds.cls ≠ "java/lang/invoke/MethodHandle" ∧ y_RuleSet_relationHolds.cls ≠ "java/lang/invoke/VarHandle" ∧ (parseMethodDescriptor y_RuleSet_relationHolds.desc).map (fun d => d.parameters.length) = some 2 := by decide +kernel
theorem d_RuleSet_relationHolds_0 : decode prog_5_method_6_code 0 = .ok (.aload_n 2, 1) := by decide +kernel
theorem d_RuleSet_relationHolds_1 : decode prog_5_method_6_code 1 = .ok (.aload_n 0, 1) := by decide +kernel
theorem d_RuleSet_relationHolds_2 : decode prog_5_method_6_code 2 = .ok (.getfield 28, 3) := by decide +kernel
theorem d_RuleSet_relationHolds_5 : decode prog_5_method_6_code 5 = .ok (.iload_n 1, 1) := by decide +kernel
theorem d_RuleSet_relationHolds_6 : decode prog_5_method_6_code 6 = .ok (.iaload, 1) := by decide +kernel
theorem d_RuleSet_relationHolds_7 : decode prog_5_method_6_code 7 = .ok (.invokevirtual 63, 3) := by decide +kernel
theorem d_RuleSet_relationHolds_10 : decode prog_5_method_6_code 10 = .ok (.istore_n 3, 1) := by decide +kernel
theorem d_RuleSet_relationHolds_11 : decode prog_5_method_6_code 11 = .ok (.aload_n 0, 1) := by decide +kernel
theorem d_RuleSet_relationHolds_12 : decode prog_5_method_6_code 12 = .ok (.getfield 31, 3) := by decide +kernel
theorem d_RuleSet_relationHolds_15 : decode prog_5_method_6_code 15 = .ok (.iload_n 1, 1) := by decide +kernel
theorem d_RuleSet_relationHolds_16 : decode prog_5_method_6_code 16 = .ok (.iaload, 1) := by decide +kernel
theorem d_RuleSet_relationHolds_17 : decode prog_5_method_6_code 17 = .ok (.istore 4, 2) := by decide +kernel
theorem d_RuleSet_relationHolds_19 : decode prog_5_method_6_code 19 = .ok (.iload 4, 2) := by decide +kernel
theorem d_RuleSet_relationHolds_21 : decode prog_5_method_6_code 21 = .ok (.iconst (-1), 1) := by decide +kernel
theorem d_RuleSet_relationHolds_22 : decode prog_5_method_6_code 22 = .ok (.if_icmp .eq 23, 3) := by decide +kernel
theorem d_RuleSet_relationHolds_25 : decode prog_5_method_6_code 25 = .ok (.aload_n 2, 1) := by decide +kernel
theorem d_RuleSet_relationHolds_26 : decode prog_5_method_6_code 26 = .ok (.iload 4, 2) := by decide +kernel
theorem d_RuleSet_relationHolds_28 : decode prog_5_method_6_code 28 = .ok (.invokevirtual 45, 3) := by decide +kernel
theorem d_RuleSet_relationHolds_31 : decode prog_5_method_6_code 31 = .ok (.ifCond .ne 5, 3) := by decide +kernel
theorem d_RuleSet_relationHolds_34 : decode prog_5_method_6_code 34 = .ok (.iconst 0, 1) := by decide +kernel
theorem d_RuleSet_relationHolds_35 : decode prog_5_method_6_code 35 = .ok (.ireturn, 1) := by decide +kernel
theorem d_RuleSet_relationHolds_36 : decode prog_5_method_6_code 36 = .ok (.iload_n 3, 1) := by decide +kernel
theorem d_RuleSet_relationHolds_37 : decode prog_5_method_6_code 37 = .ok (.aload_n 2, 1) := by decide +kernel
theorem d_RuleSet_relationHolds_38 : decode prog_5_method_6_code 38 = .ok (.iload 4, 2) := by decide +kernel
theorem d_RuleSet_relationHolds_40 : decode prog_5_method_6_code 40 = .ok (.invokevirtual 63, 3) := by decide +kernel
theorem d_RuleSet_relationHolds_43 : decode prog_5_method_6_code 43 = .ok (.isub, 1) := by decide +kernel
theorem d_RuleSet_relationHolds_44 : decode prog_5_method_6_code 44 = .ok (.istore_n 3, 1) := by decide +kernel
theorem d_RuleSet_relationHolds_45 : decode prog_5_method_6_code 45 = .ok (.aload_n 0, 1) := by decide +kernel
theorem d_RuleSet_relationHolds_46 : decode prog_5_method_6_code 46 = .ok (.getfield 34, 3) := by decide +kernel
theorem d_RuleSet_relationHolds_49 : decode prog_5_method_6_code 49 = .ok (.iload_n 1, 1) := by decide +kernel
theorem d_RuleSet_relationHolds_50 : decode prog_5_method_6_code 50 = .ok (.iaload, 1) := by decide +kernel
theorem d_RuleSet_relationHolds_51 : decode prog_5_method_6_code 51 = .ok (.istore 5, 2) := by decide +kernel
theorem d_RuleSet_relationHolds_53 : decode prog_5_method_6_code 53 = .ok (.aload_n 0, 1) := by decide +kernel
theorem d_RuleSet_relationHolds_54 : decode prog_5_method_6_code 54 = .ok (.getfield 25, 3) := by decide +kernel
theorem d_RuleSet_relationHolds_57 : decode prog_5_method_6_code 57 = .ok (.iload_n 1, 1) := by decide +kernel
theorem d_RuleSet_relationHolds_58 : decode prog_5_method_6_code 58 = .ok (.iaload, 1) := by decide +kernel
theorem d_RuleSet_relationHolds_59 : decode prog_5_method_6_code 59 = .ok (.tableswitch 93 11 15 #[33, 45, 57, 69, 81], 33) := by decide +kernel
theorem d_RuleSet_relationHolds_92 : decode prog_5_method_6_code 92 = .ok (.iload_n 3, 1) := by decide +kernel
theorem d_RuleSet_relationHolds_93 : decode prog_5_method_6_code 93 = .ok (.iload 5, 2) := by decide +kernel
theorem d_RuleSet_relationHolds_95 : decode prog_5_method_6_code 95 = .ok (.if_icmp .ge 7, 3) := by decide +kernel
theorem d_RuleSet_relationHolds_98 : decode prog_5_method_6_code 98 = .ok (.iconst 1, 1) := by decide +kernel
theorem d_RuleSet_relationHolds_99 : decode prog_5_method_6_code 99 = .ok (.goto 4, 3) := by decide +kernel
theorem d_RuleSet_relationHolds_102 : decode prog_5_method_6_code 102 = .ok (.iconst 0, 1) := by decide +kernel
theorem d_RuleSet_relationHolds_103 : decode prog_5_method_6_code 103 = .ok (.ireturn, 1) := by decide +kernel
theorem d_RuleSet_relationHolds_104 : decode prog_5_method_6_code 104 = .ok (.iload_n 3, 1) := by decide +kernel
theorem d_RuleSet_relationHolds_105 : decode prog_5_method_6_code 105 = .ok (.iload 5, 2) := by decide +kernel
theorem d_RuleSet_relationHolds_107 : decode prog_5_method_6_code 107 = .ok (.if_icmp .gt 7, 3) := by decide +kernel
theorem d_RuleSet_relationHolds_110 : decode prog_5_method_6_code 110 = .ok (.iconst 1, 1) := by decide +kernel
theorem d_RuleSet_relationHolds_111 : decode prog_5_method_6_code 111 = .ok (.goto 4, 3) := by decide +kernel
theorem d_RuleSet_relationHolds_114 : decode prog_5_method_6_code 114 = .ok (.iconst 0, 1) := by decide +kernel
theorem d_RuleSet_relationHolds_115 : decode prog_5_method_6_code 115 = .ok (.ireturn, 1) := by decide +kernel
theorem d_RuleSet_relationHolds_116 : decode prog_5_method_6_code 116 = .ok (.iload_n 3, 1) := by decide +kernel
theorem d_RuleSet_relationHolds_117 : decode prog_5_method_6_code 117 = .ok (.iload 5, 2) := by decide +kernel
theorem d_RuleSet_relationHolds_119 : decode prog_5_method_6_code 119 = .ok (.if_icmp .ne 7, 3) := by decide +kernel
theorem d_RuleSet_relationHolds_122 : decode prog_5_method_6_code 122 = .ok (.iconst 1, 1) := by decide +kernel
theorem d_RuleSet_relationHolds_123 : decode prog_5_method_6_code 123 = .ok (.goto 4, 3) := by decide +kernel
theorem d_RuleSet_relationHolds_126 : decode prog_5_method_6_code 126 = .ok (.iconst 0, 1) := by decide +kernel
theorem d_RuleSet_relationHolds_127 : decode prog_5_method_6_code 127 = .ok (.ireturn, 1) := by decide +kernel
theorem d_RuleSet_relationHolds_128 : decode prog_5_method_6_code 128 = .ok (.iload_n 3, 1) := by decide +kernel
theorem d_RuleSet_relationHolds_129 : decode prog_5_method_6_code 129 = .ok (.iload 5, 2) := by decide +kernel
theorem d_RuleSet_relationHolds_131 : decode prog_5_method_6_code 131 = .ok (.if_icmp .lt 7, 3) := by decide +kernel
theorem d_RuleSet_relationHolds_134 : decode prog_5_method_6_code 134 = .ok (.iconst 1, 1) := by decide +kernel
theorem d_RuleSet_relationHolds_135 : decode prog_5_method_6_code 135 = .ok (.goto 4, 3) := by decide +kernel
theorem d_RuleSet_relationHolds_138 : decode prog_5_method_6_code 138 = .ok (.iconst 0, 1) := by decide +kernel
theorem d_RuleSet_relationHolds_139 : decode prog_5_method_6_code 139 = .ok (.ireturn, 1) := by decide +kernel
theorem d_RuleSet_relationHolds_140 : decode prog_5_method_6_code 140 = .ok (.iload_n 3, 1) := by decide +kernel
theorem d_RuleSet_relationHolds_141 : decode prog_5_method_6_code 141 = .ok (.iload 5, 2) := by decide +kernel
theorem d_RuleSet_relationHolds_143 : decode prog_5_method_6_code 143 = .ok (.if_icmp .le 7, 3) := by decide +kernel
theorem d_RuleSet_relationHolds_146 : decode prog_5_method_6_code 146 = .ok (.iconst 1, 1) := by decide +kernel
theorem d_RuleSet_relationHolds_147 : decode prog_5_method_6_code 147 = .ok (.goto 4, 3) := by decide +kernel
theorem d_RuleSet_relationHolds_150 : decode prog_5_method_6_code 150 = .ok (.iconst 0, 1) := by decide +kernel
theorem d_RuleSet_relationHolds_151 : decode prog_5_method_6_code 151 = .ok (.ireturn, 1) := by decide +kernel
theorem d_RuleSet_relationHolds_152 : decode prog_5_method_6_code 152 = .ok (.iconst 0, 1) := by decide +kernel
theorem d_RuleSet_relationHolds_153 : decode prog_5_method_6_code 153 = .ok (.ireturn, 1) := by decide +kernel
theorem kF_RuleSet_28 : Cond.fieldLink "FaultRules$RuleSet" (28 : Nat) "FaultRules$RuleSet" "firsts" "[I" ∈ xT := x_t1 rfl (i := 164) rfl
theorem kF_RuleSet_31 : Cond.fieldLink "FaultRules$RuleSet" (31 : Nat) "FaultRules$RuleSet" "seconds" "[I" ∈ xT := x_t1 rfl (i := 166) rfl
theorem kF_RuleSet_34 : Cond.fieldLink "FaultRules$RuleSet" (34 : Nat) "FaultRules$RuleSet" "numbers" "[I" ∈ xT := x_t1 rfl (i := 168) rfl
theorem kF_RuleSet_25 : Cond.fieldLink "FaultRules$RuleSet" (25 : Nat) "FaultRules$RuleSet" "kinds" "[I" ∈ xT := x_t1 rfl (i := 162) rfl
theorem kM_RuleSet_63 : Cond.methodLink "FaultRules$RuleSet" (63 : Nat) ({ cls := "FaultRules$Rows", name := "latestValue", desc := "(I)I" } : Jvm.MethodName) ∈ xT := x_t3 rfl (i := 74) rfl
theorem kN_Rows : Cond.initialized "FaultRules$Rows" ∈ xT := x_t1 rfl (i := 2) rfl
theorem kI_Rows_latestValue : Cond.instanceMethod ({ cls := "FaultRules$Rows", name := "latestValue", desc := "(I)I" } : Jvm.MethodName) ∈ xT := x_t3 rfl (i := 3) rfl
theorem kS_107 : Cond.selects "FaultRules$Rows" ({ cls := "FaultRules$Rows", name := "latestValue", desc := "(I)I" } : Jvm.MethodName) ({ cls := "FaultRules$Rows", name := "latestValue", desc := "(I)I" } : Jvm.MethodName) ∈ xT := x_t3 rfl (i := 4) rfl
theorem kM_RuleSet_45 : Cond.methodLink "FaultRules$RuleSet" (45 : Nat) ({ cls := "FaultRules$Rows", name := "has", desc := "(I)Z" } : Jvm.MethodName) ∈ xT := x_t3 rfl (i := 58) rfl
theorem kI_Rows_has : Cond.instanceMethod ({ cls := "FaultRules$Rows", name := "has", desc := "(I)Z" } : Jvm.MethodName) ∈ xT := x_t2 rfl (i := 238) rfl
theorem kS_110 : Cond.selects "FaultRules$Rows" ({ cls := "FaultRules$Rows", name := "has", desc := "(I)Z" } : Jvm.MethodName) ({ cls := "FaultRules$Rows", name := "has", desc := "(I)Z" } : Jvm.MethodName) ∈ xT := x_t2 rfl (i := 239) rfl
abbrev y_RuleSet_testHolds : MethodName := { cls := "FaultRules$RuleSet", name := "testHolds", desc := "(ILFaultRules$Rows;I)Z" }
theorem kC_RuleSet_testHolds : Cond.code ({ cls := "FaultRules$RuleSet", name := "testHolds", desc := "(ILFaultRules$Rows;I)Z" } : Jvm.MethodName) prog_5_method_5_code (7 : Nat) (Option.some Jvm.ClassFile.FieldType.boolean) ∈ xT := x_t3 rfl (i := 57) rfl
theorem hd_RuleSet_testHolds : y_RuleSet_testHolds.cls ≠ "java/lang/invoke/MethodHandle" ∧ y_RuleSet_testHolds.cls ≠ "java/lang/invoke/VarHandle" ∧ (parseMethodDescriptor y_RuleSet_testHolds.desc).map (fun d => d.parameters.length) = some 3 := by decide +kernel
theorem d_RuleSet_testHolds_0 : decode prog_5_method_5_code 0 = .ok (.aload_n 0, 1) := by decide +kernel
theorem d_RuleSet_testHolds_1 : decode prog_5_method_5_code 1 = .ok (.getfield 28, 3) := by decide +kernel
theorem d_RuleSet_testHolds_4 : decode prog_5_method_5_code 4 = .ok (.iload_n 1, 1) := by decide +kernel
theorem d_RuleSet_testHolds_5 : decode prog_5_method_5_code 5 = .ok (.iaload, 1) := by decide +kernel
theorem d_RuleSet_testHolds_6 : decode prog_5_method_5_code 6 = .ok (.istore 4, 2) := by decide +kernel
theorem d_RuleSet_testHolds_8 : decode prog_5_method_5_code 8 = .ok (.aload_n 0, 1) := by decide +kernel
theorem d_RuleSet_testHolds_9 : decode prog_5_method_5_code 9 = .ok (.getfield 34, 3) := by decide +kernel
theorem d_RuleSet_testHolds_12 : decode prog_5_method_5_code 12 = .ok (.iload_n 1, 1) := by decide +kernel
theorem d_RuleSet_testHolds_13 : decode prog_5_method_5_code 13 = .ok (.iaload, 1) := by decide +kernel
theorem d_RuleSet_testHolds_14 : decode prog_5_method_5_code 14 = .ok (.istore 5, 2) := by decide +kernel
theorem d_RuleSet_testHolds_16 : decode prog_5_method_5_code 16 = .ok (.aload_n 2, 1) := by decide +kernel
theorem d_RuleSet_testHolds_17 : decode prog_5_method_5_code 17 = .ok (.iload 4, 2) := by decide +kernel
theorem d_RuleSet_testHolds_19 : decode prog_5_method_5_code 19 = .ok (.invokevirtual 45, 3) := by decide +kernel
theorem d_RuleSet_testHolds_22 : decode prog_5_method_5_code 22 = .ok (.istore 6, 2) := by decide +kernel
theorem d_RuleSet_testHolds_24 : decode prog_5_method_5_code 24 = .ok (.aload_n 0, 1) := by decide +kernel
theorem d_RuleSet_testHolds_25 : decode prog_5_method_5_code 25 = .ok (.getfield 25, 3) := by decide +kernel
theorem d_RuleSet_testHolds_28 : decode prog_5_method_5_code 28 = .ok (.iload_n 1, 1) := by decide +kernel
theorem d_RuleSet_testHolds_29 : decode prog_5_method_5_code 29 = .ok (.iaload, 1) := by decide +kernel
theorem d_RuleSet_testHolds_30 : decode prog_5_method_5_code 30 = .ok (.tableswitch 104 16 18 #[26, 49, 81], 26) := by decide +kernel
theorem d_RuleSet_testHolds_56 : decode prog_5_method_5_code 56 = .ok (.iload 6, 2) := by decide +kernel
theorem d_RuleSet_testHolds_58 : decode prog_5_method_5_code 58 = .ok (.ifCond .eq 19, 3) := by decide +kernel
theorem d_RuleSet_testHolds_61 : decode prog_5_method_5_code 61 = .ok (.aload_n 2, 1) := by decide +kernel
theorem d_RuleSet_testHolds_62 : decode prog_5_method_5_code 62 = .ok (.iload 4, 2) := by decide +kernel
theorem d_RuleSet_testHolds_64 : decode prog_5_method_5_code 64 = .ok (.iload_n 3, 1) := by decide +kernel
theorem d_RuleSet_testHolds_65 : decode prog_5_method_5_code 65 = .ok (.invokevirtual 51, 3) := by decide +kernel
theorem d_RuleSet_testHolds_68 : decode prog_5_method_5_code 68 = .ok (.iload 5, 2) := by decide +kernel
theorem d_RuleSet_testHolds_70 : decode prog_5_method_5_code 70 = .ok (.if_icmp .lt 7, 3) := by decide +kernel
theorem d_RuleSet_testHolds_73 : decode prog_5_method_5_code 73 = .ok (.iconst 1, 1) := by decide +kernel
theorem d_RuleSet_testHolds_74 : decode prog_5_method_5_code 74 = .ok (.goto 4, 3) := by decide +kernel
theorem d_RuleSet_testHolds_77 : decode prog_5_method_5_code 77 = .ok (.iconst 0, 1) := by decide +kernel
theorem d_RuleSet_testHolds_78 : decode prog_5_method_5_code 78 = .ok (.ireturn, 1) := by decide +kernel
theorem d_RuleSet_testHolds_79 : decode prog_5_method_5_code 79 = .ok (.iload 6, 2) := by decide +kernel
theorem d_RuleSet_testHolds_81 : decode prog_5_method_5_code 81 = .ok (.ifCond .eq 28, 3) := by decide +kernel
theorem d_RuleSet_testHolds_84 : decode prog_5_method_5_code 84 = .ok (.aload_n 2, 1) := by decide +kernel
theorem d_RuleSet_testHolds_85 : decode prog_5_method_5_code 85 = .ok (.iload 4, 2) := by decide +kernel
theorem d_RuleSet_testHolds_87 : decode prog_5_method_5_code 87 = .ok (.iload_n 3, 1) := by decide +kernel
theorem d_RuleSet_testHolds_88 : decode prog_5_method_5_code 88 = .ok (.invokevirtual 51, 3) := by decide +kernel
theorem d_RuleSet_testHolds_91 : decode prog_5_method_5_code 91 = .ok (.ifCond .ne 18, 3) := by decide +kernel
theorem d_RuleSet_testHolds_94 : decode prog_5_method_5_code 94 = .ok (.aload_n 2, 1) := by decide +kernel
theorem d_RuleSet_testHolds_95 : decode prog_5_method_5_code 95 = .ok (.iload 4, 2) := by decide +kernel
theorem d_RuleSet_testHolds_97 : decode prog_5_method_5_code 97 = .ok (.invokevirtual 55, 3) := by decide +kernel
theorem d_RuleSet_testHolds_100 : decode prog_5_method_5_code 100 = .ok (.iload 5, 2) := by decide +kernel
theorem d_RuleSet_testHolds_102 : decode prog_5_method_5_code 102 = .ok (.if_icmp .le 7, 3) := by decide +kernel
theorem d_RuleSet_testHolds_105 : decode prog_5_method_5_code 105 = .ok (.iconst 1, 1) := by decide +kernel
theorem d_RuleSet_testHolds_106 : decode prog_5_method_5_code 106 = .ok (.goto 4, 3) := by decide +kernel
theorem d_RuleSet_testHolds_109 : decode prog_5_method_5_code 109 = .ok (.iconst 0, 1) := by decide +kernel
theorem d_RuleSet_testHolds_110 : decode prog_5_method_5_code 110 = .ok (.ireturn, 1) := by decide +kernel
theorem d_RuleSet_testHolds_111 : decode prog_5_method_5_code 111 = .ok (.iload 6, 2) := by decide +kernel
theorem d_RuleSet_testHolds_113 : decode prog_5_method_5_code 113 = .ok (.ifCond .eq 15, 3) := by decide +kernel
theorem d_RuleSet_testHolds_116 : decode prog_5_method_5_code 116 = .ok (.aload_n 2, 1) := by decide +kernel
theorem d_RuleSet_testHolds_117 : decode prog_5_method_5_code 117 = .ok (.iload 4, 2) := by decide +kernel
theorem d_RuleSet_testHolds_119 : decode prog_5_method_5_code 119 = .ok (.iload_n 3, 1) := by decide +kernel
theorem d_RuleSet_testHolds_120 : decode prog_5_method_5_code 120 = .ok (.invokevirtual 51, 3) := by decide +kernel
theorem d_RuleSet_testHolds_123 : decode prog_5_method_5_code 123 = .ok (.iload 5, 2) := by decide +kernel
theorem d_RuleSet_testHolds_125 : decode prog_5_method_5_code 125 = .ok (.if_icmp .le 7, 3) := by decide +kernel
theorem d_RuleSet_testHolds_128 : decode prog_5_method_5_code 128 = .ok (.iconst 1, 1) := by decide +kernel
theorem d_RuleSet_testHolds_129 : decode prog_5_method_5_code 129 = .ok (.goto 4, 3) := by decide +kernel
theorem d_RuleSet_testHolds_132 : decode prog_5_method_5_code 132 = .ok (.iconst 0, 1) := by decide +kernel
theorem d_RuleSet_testHolds_133 : decode prog_5_method_5_code 133 = .ok (.ireturn, 1) := by decide +kernel
theorem d_RuleSet_testHolds_134 : decode prog_5_method_5_code 134 = .ok (.iload 6, 2) := by decide +kernel
theorem d_RuleSet_testHolds_136 : decode prog_5_method_5_code 136 = .ok (.ifCond .eq 16, 3) := by decide +kernel
theorem d_RuleSet_testHolds_139 : decode prog_5_method_5_code 139 = .ok (.aload_n 0, 1) := by decide +kernel
theorem d_RuleSet_testHolds_140 : decode prog_5_method_5_code 140 = .ok (.iload_n 1, 1) := by decide +kernel
theorem d_RuleSet_testHolds_141 : decode prog_5_method_5_code 141 = .ok (.aload_n 2, 1) := by decide +kernel
theorem d_RuleSet_testHolds_142 : decode prog_5_method_5_code 142 = .ok (.invokevirtual 59, 3) := by decide +kernel
theorem d_RuleSet_testHolds_145 : decode prog_5_method_5_code 145 = .ok (.ifCond .eq 7, 3) := by decide +kernel
theorem d_RuleSet_testHolds_148 : decode prog_5_method_5_code 148 = .ok (.iconst 1, 1) := by decide +kernel
theorem d_RuleSet_testHolds_149 : decode prog_5_method_5_code 149 = .ok (.goto 4, 3) := by decide +kernel
theorem d_RuleSet_testHolds_152 : decode prog_5_method_5_code 152 = .ok (.iconst 0, 1) := by decide +kernel
theorem d_RuleSet_testHolds_153 : decode prog_5_method_5_code 153 = .ok (.ireturn, 1) := by decide +kernel
theorem kM_RuleSet_51 : Cond.methodLink "FaultRules$RuleSet" (51 : Nat) ({ cls := "FaultRules$Rows", name := "age", desc := "(II)I" } : Jvm.MethodName) ∈ xT := x_t3 rfl (i := 59) rfl
theorem kI_Rows_age : Cond.instanceMethod ({ cls := "FaultRules$Rows", name := "age", desc := "(II)I" } : Jvm.MethodName) ∈ xT := x_t3 rfl (i := 60) rfl
theorem kS_114 : Cond.selects "FaultRules$Rows" ({ cls := "FaultRules$Rows", name := "age", desc := "(II)I" } : Jvm.MethodName) ({ cls := "FaultRules$Rows", name := "age", desc := "(II)I" } : Jvm.MethodName) ∈ xT := x_t3 rfl (i := 61) rfl
theorem kM_RuleSet_55 : Cond.methodLink "FaultRules$RuleSet" (55 : Nat) ({ cls := "FaultRules$Rows", name := "lastStep", desc := "(I)I" } : Jvm.MethodName) ∈ xT := x_t3 rfl (i := 63) rfl
theorem kI_Rows_lastStep : Cond.instanceMethod ({ cls := "FaultRules$Rows", name := "lastStep", desc := "(I)I" } : Jvm.MethodName) ∈ xT := x_t3 rfl (i := 64) rfl
theorem kS_117 : Cond.selects "FaultRules$Rows" ({ cls := "FaultRules$Rows", name := "lastStep", desc := "(I)I" } : Jvm.MethodName) ({ cls := "FaultRules$Rows", name := "lastStep", desc := "(I)I" } : Jvm.MethodName) ∈ xT := x_t3 rfl (i := 65) rfl
theorem kM_RuleSet_59 : Cond.methodLink "FaultRules$RuleSet" (59 : Nat) ({ cls := "FaultRules$RuleSet", name := "relationHolds", desc := "(ILFaultRules$Rows;)Z" } : Jvm.MethodName) ∈ xT := x_t3 rfl (i := 70) rfl
theorem kN_RuleSet : Cond.initialized "FaultRules$RuleSet" ∈ xT := x_t1 rfl (i := 7) rfl
theorem kI_RuleSet_relationHolds : Cond.instanceMethod ({ cls := "FaultRules$RuleSet", name := "relationHolds", desc := "(ILFaultRules$Rows;)Z" } : Jvm.MethodName) ∈ xT := x_t3 rfl (i := 72) rfl
theorem kS_121 : Cond.selects "FaultRules$RuleSet" ({ cls := "FaultRules$RuleSet", name := "relationHolds", desc := "(ILFaultRules$Rows;)Z" } : Jvm.MethodName) ({ cls := "FaultRules$RuleSet", name := "relationHolds", desc := "(ILFaultRules$Rows;)Z" } : Jvm.MethodName) ∈ xT := x_tp rfl (i := 21) rfl
abbrev y_RuleSet_ruleHolds : MethodName := { cls := "FaultRules$RuleSet", name := "ruleHolds", desc := "(ILFaultRules$Rows;I)Z" }
theorem kC_RuleSet_ruleHolds : Cond.code ({ cls := "FaultRules$RuleSet", name := "ruleHolds", desc := "(ILFaultRules$Rows;I)Z" } : Jvm.MethodName) prog_5_method_4_code (5 : Nat) (Option.some Jvm.ClassFile.FieldType.boolean) ∈ xT := x_t3 rfl (i := 53) rfl
theorem hd_RuleSet_ruleHolds : y_RuleSet_ruleHolds.cls ≠ "java/lang/invoke/MethodHandle" ∧ y_RuleSet_ruleHolds.cls ≠ "java/lang/invoke/VarHandle" ∧ (parseMethodDescriptor y_RuleSet_ruleHolds.desc).map (fun d => d.parameters.length) = some 3 := by decide +kernel
theorem d_RuleSet_ruleHolds_0 : decode prog_5_method_4_code 0 = .ok (.iconst 0, 1) := by decide +kernel
theorem d_RuleSet_ruleHolds_1 : decode prog_5_method_4_code 1 = .ok (.istore 4, 2) := by decide +kernel
theorem d_RuleSet_ruleHolds_3 : decode prog_5_method_4_code 3 = .ok (.iload 4, 2) := by decide +kernel
theorem d_RuleSet_ruleHolds_5 : decode prog_5_method_4_code 5 = .ok (.aload_n 0, 1) := by decide +kernel
theorem d_RuleSet_ruleHolds_6 : decode prog_5_method_4_code 6 = .ok (.getfield 22, 3) := by decide +kernel
theorem d_RuleSet_ruleHolds_9 : decode prog_5_method_4_code 9 = .ok (.iload_n 1, 1) := by decide +kernel
theorem d_RuleSet_ruleHolds_10 : decode prog_5_method_4_code 10 = .ok (.iaload, 1) := by decide +kernel
theorem d_RuleSet_ruleHolds_11 : decode prog_5_method_4_code 11 = .ok (.if_icmp .ge 27, 3) := by decide +kernel
theorem d_RuleSet_ruleHolds_14 : decode prog_5_method_4_code 14 = .ok (.aload_n 0, 1) := by decide +kernel
theorem d_RuleSet_ruleHolds_15 : decode prog_5_method_4_code 15 = .ok (.iload_n 1, 1) := by decide +kernel
theorem d_RuleSet_ruleHolds_16 : decode prog_5_method_4_code 16 = .ok (.bipush 6, 2) := by decide +kernel
theorem d_RuleSet_ruleHolds_18 : decode prog_5_method_4_code 18 = .ok (.imul, 1) := by decide +kernel
theorem d_RuleSet_ruleHolds_19 : decode prog_5_method_4_code 19 = .ok (.iload 4, 2) := by decide +kernel
theorem d_RuleSet_ruleHolds_21 : decode prog_5_method_4_code 21 = .ok (.iadd, 1) := by decide +kernel
theorem d_RuleSet_ruleHolds_22 : decode prog_5_method_4_code 22 = .ok (.aload_n 2, 1) := by decide +kernel
theorem d_RuleSet_ruleHolds_23 : decode prog_5_method_4_code 23 = .ok (.iload_n 3, 1) := by decide +kernel
theorem d_RuleSet_ruleHolds_24 : decode prog_5_method_4_code 24 = .ok (.invokevirtual 41, 3) := by decide +kernel
theorem d_RuleSet_ruleHolds_27 : decode prog_5_method_4_code 27 = .ok (.ifCond .ne 5, 3) := by decide +kernel
theorem d_RuleSet_ruleHolds_30 : decode prog_5_method_4_code 30 = .ok (.iconst 0, 1) := by decide +kernel
theorem d_RuleSet_ruleHolds_31 : decode prog_5_method_4_code 31 = .ok (.ireturn, 1) := by decide +kernel
theorem d_RuleSet_ruleHolds_32 : decode prog_5_method_4_code 32 = .ok (.iinc 4 1, 3) := by decide +kernel
theorem d_RuleSet_ruleHolds_35 : decode prog_5_method_4_code 35 = .ok (.goto (-32), 3) := by decide +kernel
theorem d_RuleSet_ruleHolds_38 : decode prog_5_method_4_code 38 = .ok (.iconst 1, 1) := by decide +kernel
theorem d_RuleSet_ruleHolds_39 : decode prog_5_method_4_code 39 = .ok (.ireturn, 1) := by decide +kernel
theorem kM_RuleSet_41 : Cond.methodLink "FaultRules$RuleSet" (41 : Nat) ({ cls := "FaultRules$RuleSet", name := "testHolds", desc := "(ILFaultRules$Rows;I)Z" } : Jvm.MethodName) ∈ xT := x_t3 rfl (i := 54) rfl
theorem kI_RuleSet_testHolds : Cond.instanceMethod ({ cls := "FaultRules$RuleSet", name := "testHolds", desc := "(ILFaultRules$Rows;I)Z" } : Jvm.MethodName) ∈ xT := x_t3 rfl (i := 55) rfl
theorem kS_125 : Cond.selects "FaultRules$RuleSet" ({ cls := "FaultRules$RuleSet", name := "testHolds", desc := "(ILFaultRules$Rows;I)Z" } : Jvm.MethodName) ({ cls := "FaultRules$RuleSet", name := "testHolds", desc := "(ILFaultRules$Rows;I)Z" } : Jvm.MethodName) ∈ xT := x_t3 rfl (i := 56) rfl
abbrev y_Reader_makeDue : MethodName := { cls := "FaultRules$Reader", name := "makeDue", desc := "(I)Z" }
theorem kC_Reader_makeDue : Cond.code ({ cls := "FaultRules$Reader", name := "makeDue", desc := "(I)Z" } : Jvm.MethodName) prog_3_method_4_code (2 : Nat) (Option.some Jvm.ClassFile.FieldType.boolean) ∈ xT := x_t2 rfl (i := 55) rfl
theorem hd_Reader_makeDue : y_Reader_makeDue.cls ≠ "java/lang/invoke/MethodHandle" ∧ y_Reader_makeDue.cls ≠ "java/lang/invoke/VarHandle" ∧ (parseMethodDescriptor y_Reader_makeDue.desc).map (fun d => d.parameters.length) = some 1 := by decide +kernel
theorem d_Reader_makeDue_0 : decode prog_3_method_4_code 0 = .ok (.aload_n 0, 1) := by decide +kernel
theorem d_Reader_makeDue_1 : decode prog_3_method_4_code 1 = .ok (.iload_n 1, 1) := by decide +kernel
theorem d_Reader_makeDue_2 : decode prog_3_method_4_code 2 = .ok (.putfield 11, 3) := by decide +kernel
theorem d_Reader_makeDue_5 : decode prog_3_method_4_code 5 = .ok (.iconst 1, 1) := by decide +kernel
theorem d_Reader_makeDue_6 : decode prog_3_method_4_code 6 = .ok (.ireturn, 1) := by decide +kernel
theorem kF_Reader_11 : Cond.fieldLink "FaultRules$Reader" (11 : Nat) "FaultRules$Reader" "due" "I" ∈ xT := x_t1 rfl (i := 82) rfl
abbrev y_Reader_takesSemicolon : MethodName := { cls := "FaultRules$Reader", name := "takesSemicolon", desc := "(LFaultRules$Text;LFaultRules$RuleSet;)Z" }
theorem kC_Reader_takesSemicolon : Cond.code ({ cls := "FaultRules$Reader", name := "takesSemicolon", desc := "(LFaultRules$Text;LFaultRules$RuleSet;)Z" } : Jvm.MethodName) prog_3_method_15_code (3 : Nat) (Option.some Jvm.ClassFile.FieldType.boolean) ∈ xT := x_t2 rfl (i := 102) rfl
theorem hd_Reader_takesSemicolon : y_Reader_takesSemicolon.cls ≠ "java/lang/invoke/MethodHandle" ∧ y_Reader_takesSemicolon.cls ≠ "java/lang/invoke/VarHandle" ∧ (parseMethodDescriptor y_Reader_takesSemicolon.desc).map (fun d => d.parameters.length) = some 2 := by decide +kernel
theorem d_Reader_takesSemicolon_0 : decode prog_3_method_15_code 0 = .ok (.aload_n 1, 1) := by decide +kernel
theorem d_Reader_takesSemicolon_1 : decode prog_3_method_15_code 1 = .ok (.getfield 25, 3) := by decide +kernel
theorem d_Reader_takesSemicolon_4 : decode prog_3_method_15_code 4 = .ok (.bipush 7, 2) := by decide +kernel
theorem d_Reader_takesSemicolon_6 : decode prog_3_method_15_code 6 = .ok (.if_icmp .eq 5, 3) := by decide +kernel
theorem d_Reader_takesSemicolon_9 : decode prog_3_method_15_code 9 = .ok (.iconst 0, 1) := by decide +kernel
theorem d_Reader_takesSemicolon_10 : decode prog_3_method_15_code 10 = .ok (.ireturn, 1) := by decide +kernel
theorem d_Reader_takesSemicolon_11 : decode prog_3_method_15_code 11 = .ok (.aload_n 2, 1) := by decide +kernel
theorem d_Reader_takesSemicolon_12 : decode prog_3_method_15_code 12 = .ok (.dup, 1) := by decide +kernel
theorem d_Reader_takesSemicolon_13 : decode prog_3_method_15_code 13 = .ok (.getfield 15, 3) := by decide +kernel
theorem d_Reader_takesSemicolon_16 : decode prog_3_method_15_code 16 = .ok (.iconst 1, 1) := by decide +kernel
theorem d_Reader_takesSemicolon_17 : decode prog_3_method_15_code 17 = .ok (.iadd, 1) := by decide +kernel
theorem d_Reader_takesSemicolon_18 : decode prog_3_method_15_code 18 = .ok (.putfield 15, 3) := by decide +kernel
theorem d_Reader_takesSemicolon_21 : decode prog_3_method_15_code 21 = .ok (.aload_n 0, 1) := by decide +kernel
theorem d_Reader_takesSemicolon_22 : decode prog_3_method_15_code 22 = .ok (.iconst 0, 1) := by decide +kernel
theorem d_Reader_takesSemicolon_23 : decode prog_3_method_15_code 23 = .ok (.invokevirtual 38, 3) := by decide +kernel
theorem d_Reader_takesSemicolon_26 : decode prog_3_method_15_code 26 = .ok (.ireturn, 1) := by decide +kernel
theorem kF_Reader_25 : Cond.fieldLink "FaultRules$Reader" (25 : Nat) "FaultRules$Text" "kind" "I" ∈ xT := x_t1 rfl (i := 56) rfl
theorem kF_Reader_15 : Cond.fieldLink "FaultRules$Reader" (15 : Nat) "FaultRules$RuleSet" "count" "I" ∈ xT := x_t1 rfl (i := 171) rfl
theorem kM_Reader_38 : Cond.methodLink "FaultRules$Reader" (38 : Nat) ({ cls := "FaultRules$Reader", name := "makeDue", desc := "(I)Z" } : Jvm.MethodName) ∈ xT := x_t2 rfl (i := 52) rfl
theorem kN_Reader : Cond.initialized "FaultRules$Reader" ∈ xT := x_t1 rfl (i := 4) rfl
theorem kI_Reader_makeDue : Cond.instanceMethod ({ cls := "FaultRules$Reader", name := "makeDue", desc := "(I)Z" } : Jvm.MethodName) ∈ xT := x_t2 rfl (i := 54) rfl
theorem kS_134 : Cond.selects "FaultRules$Reader" ({ cls := "FaultRules$Reader", name := "makeDue", desc := "(I)Z" } : Jvm.MethodName) ({ cls := "FaultRules$Reader", name := "makeDue", desc := "(I)Z" } : Jvm.MethodName) ∈ xT := x_tp rfl (i := 8) rfl
abbrev y_Reader_isRuleNumber : MethodName := { cls := "FaultRules$Reader", name := "isRuleNumber", desc := "(LFaultRules$Text;)Z" }
theorem kC_Reader_isRuleNumber : Cond.code ({ cls := "FaultRules$Reader", name := "isRuleNumber", desc := "(LFaultRules$Text;)Z" } : Jvm.MethodName) prog_3_method_16_code (1 : Nat) (Option.some Jvm.ClassFile.FieldType.boolean) ∈ xT := x_t2 rfl (i := 94) rfl
theorem hd_Reader_isRuleNumber : y_Reader_isRuleNumber.cls ≠ "java/lang/invoke/MethodHandle" ∧ y_Reader_isRuleNumber.cls ≠ "java/lang/invoke/VarHandle" ∧ (parseMethodDescriptor y_Reader_isRuleNumber.desc).map (fun d => d.parameters.length) = some 1 := by decide +kernel
theorem d_Reader_isRuleNumber_0 : decode prog_3_method_16_code 0 = .ok (.aload_n 0, 1) := by decide +kernel
theorem d_Reader_isRuleNumber_1 : decode prog_3_method_16_code 1 = .ok (.getfield 25, 3) := by decide +kernel
theorem d_Reader_isRuleNumber_4 : decode prog_3_method_16_code 4 = .ok (.iconst 3, 1) := by decide +kernel
theorem d_Reader_isRuleNumber_5 : decode prog_3_method_16_code 5 = .ok (.if_icmp .ne 25, 3) := by decide +kernel
theorem d_Reader_isRuleNumber_8 : decode prog_3_method_16_code 8 = .ok (.aload_n 0, 1) := by decide +kernel
theorem d_Reader_isRuleNumber_9 : decode prog_3_method_16_code 9 = .ok (.getfield 103, 3) := by decide +kernel
theorem d_Reader_isRuleNumber_12 : decode prog_3_method_16_code 12 = .ok (.iconst 1, 1) := by decide +kernel
theorem d_Reader_isRuleNumber_13 : decode prog_3_method_16_code 13 = .ok (.if_icmp .lt 17, 3) := by decide +kernel
theorem d_Reader_isRuleNumber_16 : decode prog_3_method_16_code 16 = .ok (.aload_n 0, 1) := by decide +kernel
theorem d_Reader_isRuleNumber_17 : decode prog_3_method_16_code 17 = .ok (.getfield 103, 3) := by decide +kernel
theorem d_Reader_isRuleNumber_20 : decode prog_3_method_16_code 20 = .ok (.sipush 9999, 3) := by decide +kernel
theorem d_Reader_isRuleNumber_23 : decode prog_3_method_16_code 23 = .ok (.if_icmp .gt 7, 3) := by decide +kernel
theorem d_Reader_isRuleNumber_26 : decode prog_3_method_16_code 26 = .ok (.iconst 1, 1) := by decide +kernel
theorem d_Reader_isRuleNumber_27 : decode prog_3_method_16_code 27 = .ok (.goto 4, 3) := by decide +kernel
theorem d_Reader_isRuleNumber_30 : decode prog_3_method_16_code 30 = .ok (.iconst 0, 1) := by decide +kernel
theorem d_Reader_isRuleNumber_31 : decode prog_3_method_16_code 31 = .ok (.ireturn, 1) := by decide +kernel
theorem kF_Reader_103 : Cond.fieldLink "FaultRules$Reader" (103 : Nat) "FaultRules$Text" "amount" "I" ∈ xT := x_t1 rfl (i := 59) rfl
abbrev y_Reader_takesCost : MethodName := { cls := "FaultRules$Reader", name := "takesCost", desc := "(LFaultRules$Text;LFaultRules$RuleSet;)Z" }
theorem kC_Reader_takesCost : Cond.code ({ cls := "FaultRules$Reader", name := "takesCost", desc := "(LFaultRules$Text;LFaultRules$RuleSet;)Z" } : Jvm.MethodName) prog_3_method_14_code (3 : Nat) (Option.some Jvm.ClassFile.FieldType.boolean) ∈ xT := x_t2 rfl (i := 98) rfl
theorem hd_Reader_takesCost : y_Reader_takesCost.cls ≠ "java/lang/invoke/MethodHandle" ∧ y_Reader_takesCost.cls ≠ "java/lang/invoke/VarHandle" ∧ (parseMethodDescriptor y_Reader_takesCost.desc).map (fun d => d.parameters.length) = some 2 := by decide +kernel
theorem d_Reader_takesCost_0 : decode prog_3_method_14_code 0 = .ok (.aload_n 2, 1) := by decide +kernel
theorem d_Reader_takesCost_1 : decode prog_3_method_14_code 1 = .ok (.getfield 119, 3) := by decide +kernel
theorem d_Reader_takesCost_4 : decode prog_3_method_14_code 4 = .ok (.aload_n 2, 1) := by decide +kernel
theorem d_Reader_takesCost_5 : decode prog_3_method_14_code 5 = .ok (.getfield 15, 3) := by decide +kernel
theorem d_Reader_takesCost_8 : decode prog_3_method_14_code 8 = .ok (.aload_n 1, 1) := by decide +kernel
theorem d_Reader_takesCost_9 : decode prog_3_method_14_code 9 = .ok (.getfield 103, 3) := by decide +kernel
theorem d_Reader_takesCost_12 : decode prog_3_method_14_code 12 = .ok (.iastore, 1) := by decide +kernel
theorem d_Reader_takesCost_13 : decode prog_3_method_14_code 13 = .ok (.aload_n 1, 1) := by decide +kernel
theorem d_Reader_takesCost_14 : decode prog_3_method_14_code 14 = .ok (.invokestatic 115, 3) := by decide +kernel
theorem d_Reader_takesCost_17 : decode prog_3_method_14_code 17 = .ok (.ifCond .eq 16, 3) := by decide +kernel
theorem d_Reader_takesCost_20 : decode prog_3_method_14_code 20 = .ok (.aload_n 0, 1) := by decide +kernel
theorem d_Reader_takesCost_21 : decode prog_3_method_14_code 21 = .ok (.bipush 13, 2) := by decide +kernel
theorem d_Reader_takesCost_23 : decode prog_3_method_14_code 23 = .ok (.invokevirtual 38, 3) := by decide +kernel
theorem d_Reader_takesCost_26 : decode prog_3_method_14_code 26 = .ok (.ifCond .eq 7, 3) := by decide +kernel
theorem d_Reader_takesCost_29 : decode prog_3_method_14_code 29 = .ok (.iconst 1, 1) := by decide +kernel
theorem d_Reader_takesCost_30 : decode prog_3_method_14_code 30 = .ok (.goto 4, 3) := by decide +kernel
theorem d_Reader_takesCost_33 : decode prog_3_method_14_code 33 = .ok (.iconst 0, 1) := by decide +kernel
theorem d_Reader_takesCost_34 : decode prog_3_method_14_code 34 = .ok (.ireturn, 1) := by decide +kernel
theorem kF_Reader_119 : Cond.fieldLink "FaultRules$Reader" (119 : Nat) "FaultRules$RuleSet" "costs" "[I" ∈ xT := x_t1 rfl (i := 158) rfl
theorem kM_Reader_115 : Cond.methodLink "FaultRules$Reader" (115 : Nat) ({ cls := "FaultRules$Reader", name := "isRuleNumber", desc := "(LFaultRules$Text;)Z" } : Jvm.MethodName) ∈ xT := x_t2 rfl (i := 92) rfl
theorem kT_Reader_isRuleNumber : Cond.static ({ cls := "FaultRules$Reader", name := "isRuleNumber", desc := "(LFaultRules$Text;)Z" } : Jvm.MethodName) ∈ xT := x_t2 rfl (i := 93) rfl
abbrev y_Reader_takesSpan : MethodName := { cls := "FaultRules$Reader", name := "takesSpan", desc := "(LFaultRules$Text;LFaultRules$RuleSet;)Z" }
theorem kC_Reader_takesSpan : Cond.code ({ cls := "FaultRules$Reader", name := "takesSpan", desc := "(LFaultRules$Text;LFaultRules$RuleSet;)Z" } : Jvm.MethodName) prog_3_method_13_code (3 : Nat) (Option.some Jvm.ClassFile.FieldType.boolean) ∈ xT := x_t2 rfl (i := 91) rfl
theorem hd_Reader_takesSpan : y_Reader_takesSpan.cls ≠ "java/lang/invoke/MethodHandle" ∧ y_Reader_takesSpan.cls ≠ "java/lang/invoke/VarHandle" ∧ (parseMethodDescriptor y_Reader_takesSpan.desc).map (fun d => d.parameters.length) = some 2 := by decide +kernel
theorem d_Reader_takesSpan_0 : decode prog_3_method_13_code 0 = .ok (.aload_n 2, 1) := by decide +kernel
theorem d_Reader_takesSpan_1 : decode prog_3_method_13_code 1 = .ok (.getfield 112, 3) := by decide +kernel
theorem d_Reader_takesSpan_4 : decode prog_3_method_13_code 4 = .ok (.aload_n 2, 1) := by decide +kernel
theorem d_Reader_takesSpan_5 : decode prog_3_method_13_code 5 = .ok (.getfield 15, 3) := by decide +kernel
theorem d_Reader_takesSpan_8 : decode prog_3_method_13_code 8 = .ok (.aload_n 1, 1) := by decide +kernel
theorem d_Reader_takesSpan_9 : decode prog_3_method_13_code 9 = .ok (.getfield 103, 3) := by decide +kernel
theorem d_Reader_takesSpan_12 : decode prog_3_method_13_code 12 = .ok (.iastore, 1) := by decide +kernel
theorem d_Reader_takesSpan_13 : decode prog_3_method_13_code 13 = .ok (.aload_n 1, 1) := by decide +kernel
theorem d_Reader_takesSpan_14 : decode prog_3_method_13_code 14 = .ok (.invokestatic 115, 3) := by decide +kernel
theorem d_Reader_takesSpan_17 : decode prog_3_method_13_code 17 = .ok (.ifCond .eq 16, 3) := by decide +kernel
theorem d_Reader_takesSpan_20 : decode prog_3_method_13_code 20 = .ok (.aload_n 0, 1) := by decide +kernel
theorem d_Reader_takesSpan_21 : decode prog_3_method_13_code 21 = .ok (.bipush 11, 2) := by decide +kernel
theorem d_Reader_takesSpan_23 : decode prog_3_method_13_code 23 = .ok (.invokevirtual 38, 3) := by decide +kernel
theorem d_Reader_takesSpan_26 : decode prog_3_method_13_code 26 = .ok (.ifCond .eq 7, 3) := by decide +kernel
theorem d_Reader_takesSpan_29 : decode prog_3_method_13_code 29 = .ok (.iconst 1, 1) := by decide +kernel
theorem d_Reader_takesSpan_30 : decode prog_3_method_13_code 30 = .ok (.goto 4, 3) := by decide +kernel
theorem d_Reader_takesSpan_33 : decode prog_3_method_13_code 33 = .ok (.iconst 0, 1) := by decide +kernel
theorem d_Reader_takesSpan_34 : decode prog_3_method_13_code 34 = .ok (.ireturn, 1) := by decide +kernel
theorem kF_Reader_112 : Cond.fieldLink "FaultRules$Reader" (112 : Nat) "FaultRules$RuleSet" "spans" "[I" ∈ xT := x_t1 rfl (i := 155) rfl
abbrev y_Reader_takesAndOrFor : MethodName := { cls := "FaultRules$Reader", name := "takesAndOrFor", desc := "(LFaultRules$Text;LFaultRules$RuleSet;)Z" }
theorem kC_Reader_takesAndOrFor : Cond.code ({ cls := "FaultRules$Reader", name := "takesAndOrFor", desc := "(LFaultRules$Text;LFaultRules$RuleSet;)Z" } : Jvm.MethodName) prog_3_method_12_code (3 : Nat) (Option.some Jvm.ClassFile.FieldType.boolean) ∈ xT := x_t2 rfl (i := 87) rfl
theorem hd_Reader_takesAndOrFor : y_Reader_takesAndOrFor.cls ≠ "java/lang/invoke/MethodHandle" ∧ y_Reader_takesAndOrFor.cls ≠ "java/lang/invoke/VarHandle" ∧ (parseMethodDescriptor y_Reader_takesAndOrFor.desc).map (fun d => d.parameters.length) = some 2 := by decide +kernel
theorem d_Reader_takesAndOrFor_0 : decode prog_3_method_12_code 0 = .ok (.aload_n 1, 1) := by decide +kernel
theorem d_Reader_takesAndOrFor_1 : decode prog_3_method_12_code 1 = .ok (.getfield 25, 3) := by decide +kernel
theorem d_Reader_takesAndOrFor_4 : decode prog_3_method_12_code 4 = .ok (.bipush 6, 2) := by decide +kernel
theorem d_Reader_takesAndOrFor_6 : decode prog_3_method_12_code 6 = .ok (.if_icmp .ne 31, 3) := by decide +kernel
theorem d_Reader_takesAndOrFor_9 : decode prog_3_method_12_code 9 = .ok (.aload_n 2, 1) := by decide +kernel
theorem d_Reader_takesAndOrFor_10 : decode prog_3_method_12_code 10 = .ok (.getfield 85, 3) := by decide +kernel
theorem d_Reader_takesAndOrFor_13 : decode prog_3_method_12_code 13 = .ok (.aload_n 2, 1) := by decide +kernel
theorem d_Reader_takesAndOrFor_14 : decode prog_3_method_12_code 14 = .ok (.getfield 15, 3) := by decide +kernel
theorem d_Reader_takesAndOrFor_17 : decode prog_3_method_12_code 17 = .ok (.iaload, 1) := by decide +kernel
theorem d_Reader_takesAndOrFor_18 : decode prog_3_method_12_code 18 = .ok (.bipush 6, 2) := by decide +kernel
theorem d_Reader_takesAndOrFor_20 : decode prog_3_method_12_code 20 = .ok (.if_icmp .ge 15, 3) := by decide +kernel
theorem d_Reader_takesAndOrFor_23 : decode prog_3_method_12_code 23 = .ok (.aload_n 0, 1) := by decide +kernel
theorem d_Reader_takesAndOrFor_24 : decode prog_3_method_12_code 24 = .ok (.iconst 2, 1) := by decide +kernel
theorem d_Reader_takesAndOrFor_25 : decode prog_3_method_12_code 25 = .ok (.invokevirtual 38, 3) := by decide +kernel
theorem d_Reader_takesAndOrFor_28 : decode prog_3_method_12_code 28 = .ok (.ifCond .eq 7, 3) := by decide +kernel
theorem d_Reader_takesAndOrFor_31 : decode prog_3_method_12_code 31 = .ok (.iconst 1, 1) := by decide +kernel
theorem d_Reader_takesAndOrFor_32 : decode prog_3_method_12_code 32 = .ok (.goto 4, 3) := by decide +kernel
theorem d_Reader_takesAndOrFor_35 : decode prog_3_method_12_code 35 = .ok (.iconst 0, 1) := by decide +kernel
theorem d_Reader_takesAndOrFor_36 : decode prog_3_method_12_code 36 = .ok (.ireturn, 1) := by decide +kernel
theorem d_Reader_takesAndOrFor_37 : decode prog_3_method_12_code 37 = .ok (.aload_n 1, 1) := by decide +kernel
theorem d_Reader_takesAndOrFor_38 : decode prog_3_method_12_code 38 = .ok (.getfield 25, 3) := by decide +kernel
theorem d_Reader_takesAndOrFor_41 : decode prog_3_method_12_code 41 = .ok (.bipush 9, 2) := by decide +kernel
theorem d_Reader_takesAndOrFor_43 : decode prog_3_method_12_code 43 = .ok (.if_icmp .ne 16, 3) := by decide +kernel
theorem d_Reader_takesAndOrFor_46 : decode prog_3_method_12_code 46 = .ok (.aload_n 0, 1) := by decide +kernel
theorem d_Reader_takesAndOrFor_47 : decode prog_3_method_12_code 47 = .ok (.bipush 10, 2) := by decide +kernel
theorem d_Reader_takesAndOrFor_49 : decode prog_3_method_12_code 49 = .ok (.invokevirtual 38, 3) := by decide +kernel
theorem d_Reader_takesAndOrFor_52 : decode prog_3_method_12_code 52 = .ok (.ifCond .eq 7, 3) := by decide +kernel
theorem d_Reader_takesAndOrFor_55 : decode prog_3_method_12_code 55 = .ok (.iconst 1, 1) := by decide +kernel
theorem d_Reader_takesAndOrFor_56 : decode prog_3_method_12_code 56 = .ok (.goto 4, 3) := by decide +kernel
theorem d_Reader_takesAndOrFor_59 : decode prog_3_method_12_code 59 = .ok (.iconst 0, 1) := by decide +kernel
theorem d_Reader_takesAndOrFor_60 : decode prog_3_method_12_code 60 = .ok (.ireturn, 1) := by decide +kernel
theorem kF_Reader_85 : Cond.fieldLink "FaultRules$Reader" (85 : Nat) "FaultRules$RuleSet" "sizes" "[I" ∈ xT := x_t1 rfl (i := 160) rfl
abbrev y_Reader_takesWatchedPoint : MethodName := { cls := "FaultRules$Reader", name := "takesWatchedPoint", desc := "(LFaultRules$Text;LFaultRules$RuleSet;)Z" }
theorem kC_Reader_takesWatchedPoint : Cond.code ({ cls := "FaultRules$Reader", name := "takesWatchedPoint", desc := "(LFaultRules$Text;LFaultRules$RuleSet;)Z" } : Jvm.MethodName) prog_3_method_10_code (3 : Nat) (Option.some Jvm.ClassFile.FieldType.boolean) ∈ xT := x_t2 rfl (i := 83) rfl
theorem hd_Reader_takesWatchedPoint : y_Reader_takesWatchedPoint.cls ≠ "java/lang/invoke/MethodHandle" ∧ y_Reader_takesWatchedPoint.cls ≠ "java/lang/invoke/VarHandle" ∧ (parseMethodDescriptor y_Reader_takesWatchedPoint.desc).map (fun d => d.parameters.length) = some 2 := by decide +kernel
theorem d_Reader_takesWatchedPoint_0 : decode prog_3_method_10_code 0 = .ok (.aload_n 2, 1) := by decide +kernel
theorem d_Reader_takesWatchedPoint_1 : decode prog_3_method_10_code 1 = .ok (.getfield 100, 3) := by decide +kernel
theorem d_Reader_takesWatchedPoint_4 : decode prog_3_method_10_code 4 = .ok (.aload_n 2, 1) := by decide +kernel
theorem d_Reader_takesWatchedPoint_5 : decode prog_3_method_10_code 5 = .ok (.invokevirtual 89, 3) := by decide +kernel
theorem d_Reader_takesWatchedPoint_8 : decode prog_3_method_10_code 8 = .ok (.aload_n 1, 1) := by decide +kernel
theorem d_Reader_takesWatchedPoint_9 : decode prog_3_method_10_code 9 = .ok (.getfield 103, 3) := by decide +kernel
theorem d_Reader_takesWatchedPoint_12 : decode prog_3_method_10_code 12 = .ok (.iastore, 1) := by decide +kernel
theorem d_Reader_takesWatchedPoint_13 : decode prog_3_method_10_code 13 = .ok (.aload_n 1, 1) := by decide +kernel
theorem d_Reader_takesWatchedPoint_14 : decode prog_3_method_10_code 14 = .ok (.getfield 25, 3) := by decide +kernel
theorem d_Reader_takesWatchedPoint_17 : decode prog_3_method_10_code 17 = .ok (.iconst 4, 1) := by decide +kernel
theorem d_Reader_takesWatchedPoint_18 : decode prog_3_method_10_code 18 = .ok (.if_icmp .ne 16, 3) := by decide +kernel
theorem d_Reader_takesWatchedPoint_21 : decode prog_3_method_10_code 21 = .ok (.aload_n 0, 1) := by decide +kernel
theorem d_Reader_takesWatchedPoint_22 : decode prog_3_method_10_code 22 = .ok (.bipush 7, 2) := by decide +kernel
theorem d_Reader_takesWatchedPoint_24 : decode prog_3_method_10_code 24 = .ok (.invokevirtual 38, 3) := by decide +kernel
theorem d_Reader_takesWatchedPoint_27 : decode prog_3_method_10_code 27 = .ok (.ifCond .eq 7, 3) := by decide +kernel
theorem d_Reader_takesWatchedPoint_30 : decode prog_3_method_10_code 30 = .ok (.iconst 1, 1) := by decide +kernel
theorem d_Reader_takesWatchedPoint_31 : decode prog_3_method_10_code 31 = .ok (.goto 4, 3) := by decide +kernel
theorem d_Reader_takesWatchedPoint_34 : decode prog_3_method_10_code 34 = .ok (.iconst 0, 1) := by decide +kernel
theorem d_Reader_takesWatchedPoint_35 : decode prog_3_method_10_code 35 = .ok (.ireturn, 1) := by decide +kernel
theorem kF_Reader_100 : Cond.fieldLink "FaultRules$Reader" (100 : Nat) "FaultRules$RuleSet" "firsts" "[I" ∈ xT := x_t1 rfl (i := 165) rfl
theorem kM_Reader_89 : Cond.methodLink "FaultRules$Reader" (89 : Nat) ({ cls := "FaultRules$RuleSet", name := "openTest", desc := "()I" } : Jvm.MethodName) ∈ xT := x_t2 rfl (i := 60) rfl
theorem kI_RuleSet_openTest : Cond.instanceMethod ({ cls := "FaultRules$RuleSet", name := "openTest", desc := "()I" } : Jvm.MethodName) ∈ xT := x_t2 rfl (i := 61) rfl
theorem kS_149 : Cond.selects "FaultRules$RuleSet" ({ cls := "FaultRules$RuleSet", name := "openTest", desc := "()I" } : Jvm.MethodName) ({ cls := "FaultRules$RuleSet", name := "openTest", desc := "()I" } : Jvm.MethodName) ∈ xT := x_t2 rfl (i := 62) rfl
abbrev y_Reader_takesNumber : MethodName := { cls := "FaultRules$Reader", name := "takesNumber", desc := "(LFaultRules$Text;LFaultRules$RuleSet;)Z" }
theorem kC_Reader_takesNumber : Cond.code ({ cls := "FaultRules$Reader", name := "takesNumber", desc := "(LFaultRules$Text;LFaultRules$RuleSet;)Z" } : Jvm.MethodName) prog_3_method_11_code (3 : Nat) (Option.some Jvm.ClassFile.FieldType.boolean) ∈ xT := x_t2 rfl (i := 79) rfl
theorem hd_Reader_takesNumber : y_Reader_takesNumber.cls ≠ "java/lang/invoke/MethodHandle" ∧ y_Reader_takesNumber.cls ≠ "java/lang/invoke/VarHandle" ∧ (parseMethodDescriptor y_Reader_takesNumber.desc).map (fun d => d.parameters.length) = some 2 := by decide +kernel
theorem d_Reader_takesNumber_0 : decode prog_3_method_11_code 0 = .ok (.aload_n 1, 1) := by decide +kernel
theorem d_Reader_takesNumber_1 : decode prog_3_method_11_code 1 = .ok (.getfield 25, 3) := by decide +kernel
theorem d_Reader_takesNumber_4 : decode prog_3_method_11_code 4 = .ok (.iconst 3, 1) := by decide +kernel
theorem d_Reader_takesNumber_5 : decode prog_3_method_11_code 5 = .ok (.if_icmp .eq 5, 3) := by decide +kernel
theorem d_Reader_takesNumber_8 : decode prog_3_method_11_code 8 = .ok (.iconst 0, 1) := by decide +kernel
theorem d_Reader_takesNumber_9 : decode prog_3_method_11_code 9 = .ok (.ireturn, 1) := by decide +kernel
theorem d_Reader_takesNumber_10 : decode prog_3_method_11_code 10 = .ok (.aload_n 2, 1) := by decide +kernel
theorem d_Reader_takesNumber_11 : decode prog_3_method_11_code 11 = .ok (.getfield 109, 3) := by decide +kernel
theorem d_Reader_takesNumber_14 : decode prog_3_method_11_code 14 = .ok (.aload_n 2, 1) := by decide +kernel
theorem d_Reader_takesNumber_15 : decode prog_3_method_11_code 15 = .ok (.invokevirtual 89, 3) := by decide +kernel
theorem d_Reader_takesNumber_18 : decode prog_3_method_11_code 18 = .ok (.aload_n 0, 1) := by decide +kernel
theorem d_Reader_takesNumber_19 : decode prog_3_method_11_code 19 = .ok (.getfield 93, 3) := by decide +kernel
theorem d_Reader_takesNumber_22 : decode prog_3_method_11_code 22 = .ok (.ifCond .eq 11, 3) := by decide +kernel
theorem d_Reader_takesNumber_25 : decode prog_3_method_11_code 25 = .ok (.aload_n 1, 1) := by decide +kernel
theorem d_Reader_takesNumber_26 : decode prog_3_method_11_code 26 = .ok (.getfield 103, 3) := by decide +kernel
theorem d_Reader_takesNumber_29 : decode prog_3_method_11_code 29 = .ok (.ineg, 1) := by decide +kernel
theorem d_Reader_takesNumber_30 : decode prog_3_method_11_code 30 = .ok (.goto 7, 3) := by decide +kernel
theorem d_Reader_takesNumber_33 : decode prog_3_method_11_code 33 = .ok (.aload_n 1, 1) := by decide +kernel
theorem d_Reader_takesNumber_34 : decode prog_3_method_11_code 34 = .ok (.getfield 103, 3) := by decide +kernel
theorem d_Reader_takesNumber_37 : decode prog_3_method_11_code 37 = .ok (.iastore, 1) := by decide +kernel
theorem d_Reader_takesNumber_38 : decode prog_3_method_11_code 38 = .ok (.aload_n 2, 1) := by decide +kernel
theorem d_Reader_takesNumber_39 : decode prog_3_method_11_code 39 = .ok (.getfield 85, 3) := by decide +kernel
theorem d_Reader_takesNumber_42 : decode prog_3_method_11_code 42 = .ok (.aload_n 2, 1) := by decide +kernel
theorem d_Reader_takesNumber_43 : decode prog_3_method_11_code 43 = .ok (.getfield 15, 3) := by decide +kernel
theorem d_Reader_takesNumber_46 : decode prog_3_method_11_code 46 = .ok (.dup2, 1) := by decide +kernel
theorem d_Reader_takesNumber_47 : decode prog_3_method_11_code 47 = .ok (.iaload, 1) := by decide +kernel
theorem d_Reader_takesNumber_48 : decode prog_3_method_11_code 48 = .ok (.iconst 1, 1) := by decide +kernel
theorem d_Reader_takesNumber_49 : decode prog_3_method_11_code 49 = .ok (.iadd, 1) := by decide +kernel
theorem d_Reader_takesNumber_50 : decode prog_3_method_11_code 50 = .ok (.iastore, 1) := by decide +kernel
theorem d_Reader_takesNumber_51 : decode prog_3_method_11_code 51 = .ok (.aload_n 0, 1) := by decide +kernel
theorem d_Reader_takesNumber_52 : decode prog_3_method_11_code 52 = .ok (.bipush 9, 2) := by decide +kernel
theorem d_Reader_takesNumber_54 : decode prog_3_method_11_code 54 = .ok (.invokevirtual 38, 3) := by decide +kernel
theorem d_Reader_takesNumber_57 : decode prog_3_method_11_code 57 = .ok (.ireturn, 1) := by decide +kernel
theorem kF_Reader_109 : Cond.fieldLink "FaultRules$Reader" (109 : Nat) "FaultRules$RuleSet" "numbers" "[I" ∈ xT := x_t1 rfl (i := 169) rfl
theorem kF_Reader_93 : Cond.fieldLink "FaultRules$Reader" (93 : Nat) "FaultRules$Reader" "isNegative" "Z" ∈ xT := x_t1 rfl (i := 83) rfl
abbrev y_Reader_takesMinus : MethodName := { cls := "FaultRules$Reader", name := "takesMinus", desc := "()Z" }
theorem kC_Reader_takesMinus : Cond.code ({ cls := "FaultRules$Reader", name := "takesMinus", desc := "()Z" } : Jvm.MethodName) prog_3_method_9_code (1 : Nat) (Option.some Jvm.ClassFile.FieldType.boolean) ∈ xT := x_t2 rfl (i := 75) rfl
theorem hd_Reader_takesMinus : y_Reader_takesMinus.cls ≠ "java/lang/invoke/MethodHandle" ∧ y_Reader_takesMinus.cls ≠ "java/lang/invoke/VarHandle" ∧ (parseMethodDescriptor y_Reader_takesMinus.desc).map (fun d => d.parameters.length) = some 0 := by decide +kernel
theorem d_Reader_takesMinus_0 : decode prog_3_method_9_code 0 = .ok (.aload_n 0, 1) := by decide +kernel
theorem d_Reader_takesMinus_1 : decode prog_3_method_9_code 1 = .ok (.iconst 1, 1) := by decide +kernel
theorem d_Reader_takesMinus_2 : decode prog_3_method_9_code 2 = .ok (.putfield 93, 3) := by decide +kernel
theorem d_Reader_takesMinus_5 : decode prog_3_method_9_code 5 = .ok (.aload_n 0, 1) := by decide +kernel
theorem d_Reader_takesMinus_6 : decode prog_3_method_9_code 6 = .ok (.bipush 7, 2) := by decide +kernel
theorem d_Reader_takesMinus_8 : decode prog_3_method_9_code 8 = .ok (.invokevirtual 38, 3) := by decide +kernel
theorem d_Reader_takesMinus_11 : decode prog_3_method_9_code 11 = .ok (.ireturn, 1) := by decide +kernel
abbrev y_Reader_takesRelation : MethodName := { cls := "FaultRules$Reader", name := "takesRelation", desc := "(LFaultRules$Text;LFaultRules$RuleSet;)Z" }
theorem kC_Reader_takesRelation : Cond.code ({ cls := "FaultRules$Reader", name := "takesRelation", desc := "(LFaultRules$Text;LFaultRules$RuleSet;)Z" } : Jvm.MethodName) prog_3_method_8_code (3 : Nat) (Option.some Jvm.ClassFile.FieldType.boolean) ∈ xT := x_t2 rfl (i := 67) rfl
theorem hd_Reader_takesRelation : y_Reader_takesRelation.cls ≠ "java/lang/invoke/MethodHandle" ∧ y_Reader_takesRelation.cls ≠ "java/lang/invoke/VarHandle" ∧ (parseMethodDescriptor y_Reader_takesRelation.desc).map (fun d => d.parameters.length) = some 2 := by decide +kernel
theorem d_Reader_takesRelation_0 : decode prog_3_method_8_code 0 = .ok (.aload_n 2, 1) := by decide +kernel
theorem d_Reader_takesRelation_1 : decode prog_3_method_8_code 1 = .ok (.getfield 106, 3) := by decide +kernel
theorem d_Reader_takesRelation_4 : decode prog_3_method_8_code 4 = .ok (.aload_n 2, 1) := by decide +kernel
theorem d_Reader_takesRelation_5 : decode prog_3_method_8_code 5 = .ok (.invokevirtual 89, 3) := by decide +kernel
theorem d_Reader_takesRelation_8 : decode prog_3_method_8_code 8 = .ok (.aload_n 1, 1) := by decide +kernel
theorem d_Reader_takesRelation_9 : decode prog_3_method_8_code 9 = .ok (.getfield 25, 3) := by decide +kernel
theorem d_Reader_takesRelation_12 : decode prog_3_method_8_code 12 = .ok (.iastore, 1) := by decide +kernel
theorem d_Reader_takesRelation_13 : decode prog_3_method_8_code 13 = .ok (.aload_n 1, 1) := by decide +kernel
theorem d_Reader_takesRelation_14 : decode prog_3_method_8_code 14 = .ok (.getfield 25, 3) := by decide +kernel
theorem d_Reader_takesRelation_17 : decode prog_3_method_8_code 17 = .ok (.bipush 11, 2) := by decide +kernel
theorem d_Reader_takesRelation_19 : decode prog_3_method_8_code 19 = .ok (.if_icmp .lt 25, 3) := by decide +kernel
theorem d_Reader_takesRelation_22 : decode prog_3_method_8_code 22 = .ok (.aload_n 1, 1) := by decide +kernel
theorem d_Reader_takesRelation_23 : decode prog_3_method_8_code 23 = .ok (.getfield 25, 3) := by decide +kernel
theorem d_Reader_takesRelation_26 : decode prog_3_method_8_code 26 = .ok (.bipush 15, 2) := by decide +kernel
theorem d_Reader_takesRelation_28 : decode prog_3_method_8_code 28 = .ok (.if_icmp .gt 16, 3) := by decide +kernel
theorem d_Reader_takesRelation_31 : decode prog_3_method_8_code 31 = .ok (.aload_n 0, 1) := by decide +kernel
theorem d_Reader_takesRelation_32 : decode prog_3_method_8_code 32 = .ok (.bipush 6, 2) := by decide +kernel
theorem d_Reader_takesRelation_34 : decode prog_3_method_8_code 34 = .ok (.invokevirtual 38, 3) := by decide +kernel
theorem d_Reader_takesRelation_37 : decode prog_3_method_8_code 37 = .ok (.ifCond .eq 7, 3) := by decide +kernel
theorem d_Reader_takesRelation_40 : decode prog_3_method_8_code 40 = .ok (.iconst 1, 1) := by decide +kernel
theorem d_Reader_takesRelation_41 : decode prog_3_method_8_code 41 = .ok (.goto 4, 3) := by decide +kernel
theorem d_Reader_takesRelation_44 : decode prog_3_method_8_code 44 = .ok (.iconst 0, 1) := by decide +kernel
theorem d_Reader_takesRelation_45 : decode prog_3_method_8_code 45 = .ok (.ireturn, 1) := by decide +kernel
theorem kF_Reader_106 : Cond.fieldLink "FaultRules$Reader" (106 : Nat) "FaultRules$RuleSet" "kinds" "[I" ∈ xT := x_t1 rfl (i := 163) rfl
abbrev y_Reader_takesSecondPoint : MethodName := { cls := "FaultRules$Reader", name := "takesSecondPoint", desc := "(LFaultRules$Text;LFaultRules$RuleSet;)Z" }
theorem kC_Reader_takesSecondPoint : Cond.code ({ cls := "FaultRules$Reader", name := "takesSecondPoint", desc := "(LFaultRules$Text;LFaultRules$RuleSet;)Z" } : Jvm.MethodName) prog_3_method_7_code (3 : Nat) (Option.some Jvm.ClassFile.FieldType.boolean) ∈ xT := x_t2 rfl (i := 71) rfl
theorem hd_Reader_takesSecondPoint : y_Reader_takesSecondPoint.cls ≠ "java/lang/invoke/MethodHandle" ∧ y_Reader_takesSecondPoint.cls ≠ "java/lang/invoke/VarHandle" ∧ (parseMethodDescriptor y_Reader_takesSecondPoint.desc).map (fun d => d.parameters.length) = some 2 := by decide +kernel
theorem d_Reader_takesSecondPoint_0 : decode prog_3_method_7_code 0 = .ok (.aload_n 2, 1) := by decide +kernel
theorem d_Reader_takesSecondPoint_1 : decode prog_3_method_7_code 1 = .ok (.getfield 97, 3) := by decide +kernel
theorem d_Reader_takesSecondPoint_4 : decode prog_3_method_7_code 4 = .ok (.aload_n 2, 1) := by decide +kernel
theorem d_Reader_takesSecondPoint_5 : decode prog_3_method_7_code 5 = .ok (.invokevirtual 89, 3) := by decide +kernel
theorem d_Reader_takesSecondPoint_8 : decode prog_3_method_7_code 8 = .ok (.aload_n 1, 1) := by decide +kernel
theorem d_Reader_takesSecondPoint_9 : decode prog_3_method_7_code 9 = .ok (.getfield 103, 3) := by decide +kernel
theorem d_Reader_takesSecondPoint_12 : decode prog_3_method_7_code 12 = .ok (.iastore, 1) := by decide +kernel
theorem d_Reader_takesSecondPoint_13 : decode prog_3_method_7_code 13 = .ok (.aload_n 1, 1) := by decide +kernel
theorem d_Reader_takesSecondPoint_14 : decode prog_3_method_7_code 14 = .ok (.getfield 25, 3) := by decide +kernel
theorem d_Reader_takesSecondPoint_17 : decode prog_3_method_7_code 17 = .ok (.iconst 4, 1) := by decide +kernel
theorem d_Reader_takesSecondPoint_18 : decode prog_3_method_7_code 18 = .ok (.if_icmp .ne 15, 3) := by decide +kernel
theorem d_Reader_takesSecondPoint_21 : decode prog_3_method_7_code 21 = .ok (.aload_n 0, 1) := by decide +kernel
theorem d_Reader_takesSecondPoint_22 : decode prog_3_method_7_code 22 = .ok (.iconst 5, 1) := by decide +kernel
theorem d_Reader_takesSecondPoint_23 : decode prog_3_method_7_code 23 = .ok (.invokevirtual 38, 3) := by decide +kernel
theorem d_Reader_takesSecondPoint_26 : decode prog_3_method_7_code 26 = .ok (.ifCond .eq 7, 3) := by decide +kernel
theorem d_Reader_takesSecondPoint_29 : decode prog_3_method_7_code 29 = .ok (.iconst 1, 1) := by decide +kernel
theorem d_Reader_takesSecondPoint_30 : decode prog_3_method_7_code 30 = .ok (.goto 4, 3) := by decide +kernel
theorem d_Reader_takesSecondPoint_33 : decode prog_3_method_7_code 33 = .ok (.iconst 0, 1) := by decide +kernel
theorem d_Reader_takesSecondPoint_34 : decode prog_3_method_7_code 34 = .ok (.ireturn, 1) := by decide +kernel
theorem kF_Reader_97 : Cond.fieldLink "FaultRules$Reader" (97 : Nat) "FaultRules$RuleSet" "seconds" "[I" ∈ xT := x_t1 rfl (i := 167) rfl
abbrev y_Reader_takesTest : MethodName := { cls := "FaultRules$Reader", name := "takesTest", desc := "(LFaultRules$Text;LFaultRules$RuleSet;)Z" }
theorem kC_Reader_takesTest : Cond.code ({ cls := "FaultRules$Reader", name := "takesTest", desc := "(LFaultRules$Text;LFaultRules$RuleSet;)Z" } : Jvm.MethodName) prog_3_method_6_code (5 : Nat) (Option.some Jvm.ClassFile.FieldType.boolean) ∈ xT := x_t2 rfl (i := 59) rfl
theorem hd_Reader_takesTest : y_Reader_takesTest.cls ≠ "java/lang/invoke/MethodHandle" ∧ y_Reader_takesTest.cls ≠ "java/lang/invoke/VarHandle" ∧ (parseMethodDescriptor y_Reader_takesTest.desc).map (fun d => d.parameters.length) = some 2 := by decide +kernel
theorem d_Reader_takesTest_0 : decode prog_3_method_6_code 0 = .ok (.aload_n 2, 1) := by decide +kernel
theorem d_Reader_takesTest_1 : decode prog_3_method_6_code 1 = .ok (.invokevirtual 89, 3) := by decide +kernel
theorem d_Reader_takesTest_4 : decode prog_3_method_6_code 4 = .ok (.istore_n 3, 1) := by decide +kernel
theorem d_Reader_takesTest_5 : decode prog_3_method_6_code 5 = .ok (.aload_n 0, 1) := by decide +kernel
theorem d_Reader_takesTest_6 : decode prog_3_method_6_code 6 = .ok (.iconst 0, 1) := by decide +kernel
theorem d_Reader_takesTest_7 : decode prog_3_method_6_code 7 = .ok (.putfield 93, 3) := by decide +kernel
theorem d_Reader_takesTest_10 : decode prog_3_method_6_code 10 = .ok (.aload_n 2, 1) := by decide +kernel
theorem d_Reader_takesTest_11 : decode prog_3_method_6_code 11 = .ok (.getfield 97, 3) := by decide +kernel
theorem d_Reader_takesTest_14 : decode prog_3_method_6_code 14 = .ok (.iload_n 3, 1) := by decide +kernel
theorem d_Reader_takesTest_15 : decode prog_3_method_6_code 15 = .ok (.iconst (-1), 1) := by decide +kernel
theorem d_Reader_takesTest_16 : decode prog_3_method_6_code 16 = .ok (.iastore, 1) := by decide +kernel
theorem d_Reader_takesTest_17 : decode prog_3_method_6_code 17 = .ok (.aload_n 1, 1) := by decide +kernel
theorem d_Reader_takesTest_18 : decode prog_3_method_6_code 18 = .ok (.getfield 25, 3) := by decide +kernel
theorem d_Reader_takesTest_21 : decode prog_3_method_6_code 21 = .ok (.iconst 4, 1) := by decide +kernel
theorem d_Reader_takesTest_22 : decode prog_3_method_6_code 22 = .ok (.if_icmp .ne 19, 3) := by decide +kernel
theorem d_Reader_takesTest_25 : decode prog_3_method_6_code 25 = .ok (.aload_n 2, 1) := by decide +kernel
theorem d_Reader_takesTest_26 : decode prog_3_method_6_code 26 = .ok (.getfield 100, 3) := by decide +kernel
theorem d_Reader_takesTest_29 : decode prog_3_method_6_code 29 = .ok (.iload_n 3, 1) := by decide +kernel
theorem d_Reader_takesTest_30 : decode prog_3_method_6_code 30 = .ok (.aload_n 1, 1) := by decide +kernel
theorem d_Reader_takesTest_31 : decode prog_3_method_6_code 31 = .ok (.getfield 103, 3) := by decide +kernel
theorem d_Reader_takesTest_34 : decode prog_3_method_6_code 34 = .ok (.iastore, 1) := by decide +kernel
theorem d_Reader_takesTest_35 : decode prog_3_method_6_code 35 = .ok (.aload_n 0, 1) := by decide +kernel
theorem d_Reader_takesTest_36 : decode prog_3_method_6_code 36 = .ok (.iconst 3, 1) := by decide +kernel
theorem d_Reader_takesTest_37 : decode prog_3_method_6_code 37 = .ok (.invokevirtual 38, 3) := by decide +kernel
theorem d_Reader_takesTest_40 : decode prog_3_method_6_code 40 = .ok (.ireturn, 1) := by decide +kernel
theorem d_Reader_takesTest_41 : decode prog_3_method_6_code 41 = .ok (.aload_n 2, 1) := by decide +kernel
theorem d_Reader_takesTest_42 : decode prog_3_method_6_code 42 = .ok (.getfield 106, 3) := by decide +kernel
theorem d_Reader_takesTest_45 : decode prog_3_method_6_code 45 = .ok (.iload_n 3, 1) := by decide +kernel
theorem d_Reader_takesTest_46 : decode prog_3_method_6_code 46 = .ok (.aload_n 1, 1) := by decide +kernel
theorem d_Reader_takesTest_47 : decode prog_3_method_6_code 47 = .ok (.getfield 25, 3) := by decide +kernel
theorem d_Reader_takesTest_50 : decode prog_3_method_6_code 50 = .ok (.iastore, 1) := by decide +kernel
theorem d_Reader_takesTest_51 : decode prog_3_method_6_code 51 = .ok (.aload_n 1, 1) := by decide +kernel
theorem d_Reader_takesTest_52 : decode prog_3_method_6_code 52 = .ok (.getfield 25, 3) := by decide +kernel
theorem d_Reader_takesTest_55 : decode prog_3_method_6_code 55 = .ok (.bipush 16, 2) := by decide +kernel
theorem d_Reader_takesTest_57 : decode prog_3_method_6_code 57 = .ok (.if_icmp .eq 21, 3) := by decide +kernel
theorem d_Reader_takesTest_60 : decode prog_3_method_6_code 60 = .ok (.aload_n 1, 1) := by decide +kernel
theorem d_Reader_takesTest_61 : decode prog_3_method_6_code 61 = .ok (.getfield 25, 3) := by decide +kernel
theorem d_Reader_takesTest_64 : decode prog_3_method_6_code 64 = .ok (.bipush 17, 2) := by decide +kernel
theorem d_Reader_takesTest_66 : decode prog_3_method_6_code 66 = .ok (.if_icmp .eq 12, 3) := by decide +kernel
theorem d_Reader_takesTest_69 : decode prog_3_method_6_code 69 = .ok (.aload_n 1, 1) := by decide +kernel
theorem d_Reader_takesTest_70 : decode prog_3_method_6_code 70 = .ok (.getfield 25, 3) := by decide +kernel
theorem d_Reader_takesTest_73 : decode prog_3_method_6_code 73 = .ok (.bipush 18, 2) := by decide +kernel
theorem d_Reader_takesTest_75 : decode prog_3_method_6_code 75 = .ok (.if_icmp .ne 7, 3) := by decide +kernel
theorem d_Reader_takesTest_78 : decode prog_3_method_6_code 78 = .ok (.iconst 1, 1) := by decide +kernel
theorem d_Reader_takesTest_79 : decode prog_3_method_6_code 79 = .ok (.goto 4, 3) := by decide +kernel
theorem d_Reader_takesTest_82 : decode prog_3_method_6_code 82 = .ok (.iconst 0, 1) := by decide +kernel
theorem d_Reader_takesTest_83 : decode prog_3_method_6_code 83 = .ok (.istore 4, 2) := by decide +kernel
theorem d_Reader_takesTest_85 : decode prog_3_method_6_code 85 = .ok (.iload 4, 2) := by decide +kernel
theorem d_Reader_takesTest_87 : decode prog_3_method_6_code 87 = .ok (.ifCond .eq 16, 3) := by decide +kernel
theorem d_Reader_takesTest_90 : decode prog_3_method_6_code 90 = .ok (.aload_n 0, 1) := by decide +kernel
theorem d_Reader_takesTest_91 : decode prog_3_method_6_code 91 = .ok (.bipush 8, 2) := by decide +kernel
theorem d_Reader_takesTest_93 : decode prog_3_method_6_code 93 = .ok (.invokevirtual 38, 3) := by decide +kernel
theorem d_Reader_takesTest_96 : decode prog_3_method_6_code 96 = .ok (.ifCond .eq 7, 3) := by decide +kernel
theorem d_Reader_takesTest_99 : decode prog_3_method_6_code 99 = .ok (.iconst 1, 1) := by decide +kernel
theorem d_Reader_takesTest_100 : decode prog_3_method_6_code 100 = .ok (.goto 4, 3) := by decide +kernel
theorem d_Reader_takesTest_103 : decode prog_3_method_6_code 103 = .ok (.iconst 0, 1) := by decide +kernel
theorem d_Reader_takesTest_104 : decode prog_3_method_6_code 104 = .ok (.ireturn, 1) := by decide +kernel
abbrev y_Reader_takesName : MethodName := { cls := "FaultRules$Reader", name := "takesName", desc := "(LFaultRules$Text;LFaultRules$RuleSet;)Z" }
theorem kC_Reader_takesName : Cond.code ({ cls := "FaultRules$Reader", name := "takesName", desc := "(LFaultRules$Text;LFaultRules$RuleSet;)Z" } : Jvm.MethodName) prog_3_method_5_code (3 : Nat) (Option.some Jvm.ClassFile.FieldType.boolean) ∈ xT := x_t2 rfl (i := 47) rfl
theorem hd_Reader_takesName : y_Reader_takesName.cls ≠ "java/lang/invoke/MethodHandle" ∧ y_Reader_takesName.cls ≠ "java/lang/invoke/VarHandle" ∧ (parseMethodDescriptor y_Reader_takesName.desc).map (fun d => d.parameters.length) = some 2 := by decide +kernel
theorem d_Reader_takesName_0 : decode prog_3_method_5_code 0 = .ok (.aload_n 1, 1) := by decide +kernel
theorem d_Reader_takesName_1 : decode prog_3_method_5_code 1 = .ok (.getfield 25, 3) := by decide +kernel
theorem d_Reader_takesName_4 : decode prog_3_method_5_code 4 = .ok (.iconst 2, 1) := by decide +kernel
theorem d_Reader_takesName_5 : decode prog_3_method_5_code 5 = .ok (.if_icmp .ne 23, 3) := by decide +kernel
theorem d_Reader_takesName_8 : decode prog_3_method_5_code 8 = .ok (.aload_n 2, 1) := by decide +kernel
theorem d_Reader_takesName_9 : decode prog_3_method_5_code 9 = .ok (.getfield 15, 3) := by decide +kernel
theorem d_Reader_takesName_12 : decode prog_3_method_5_code 12 = .ok (.bipush 6, 2) := by decide +kernel
theorem d_Reader_takesName_14 : decode prog_3_method_5_code 14 = .ok (.if_icmp .ge 14, 3) := by decide +kernel
theorem d_Reader_takesName_17 : decode prog_3_method_5_code 17 = .ok (.aload_n 2, 1) := by decide +kernel
theorem d_Reader_takesName_18 : decode prog_3_method_5_code 18 = .ok (.aload_n 1, 1) := by decide +kernel
theorem d_Reader_takesName_19 : decode prog_3_method_5_code 19 = .ok (.getfield 73, 3) := by decide +kernel
theorem d_Reader_takesName_22 : decode prog_3_method_5_code 22 = .ok (.invokevirtual 77, 3) := by decide +kernel
theorem d_Reader_takesName_25 : decode prog_3_method_5_code 25 = .ok (.ifCond .eq 5, 3) := by decide +kernel
theorem d_Reader_takesName_28 : decode prog_3_method_5_code 28 = .ok (.iconst 0, 1) := by decide +kernel
theorem d_Reader_takesName_29 : decode prog_3_method_5_code 29 = .ok (.ireturn, 1) := by decide +kernel
theorem d_Reader_takesName_30 : decode prog_3_method_5_code 30 = .ok (.aload_n 2, 1) := by decide +kernel
theorem d_Reader_takesName_31 : decode prog_3_method_5_code 31 = .ok (.getfield 81, 3) := by decide +kernel
theorem d_Reader_takesName_34 : decode prog_3_method_5_code 34 = .ok (.aload_n 2, 1) := by decide +kernel
theorem d_Reader_takesName_35 : decode prog_3_method_5_code 35 = .ok (.getfield 15, 3) := by decide +kernel
theorem d_Reader_takesName_38 : decode prog_3_method_5_code 38 = .ok (.aload_n 1, 1) := by decide +kernel
theorem d_Reader_takesName_39 : decode prog_3_method_5_code 39 = .ok (.getfield 73, 3) := by decide +kernel
theorem d_Reader_takesName_42 : decode prog_3_method_5_code 42 = .ok (.lastore, 1) := by decide +kernel
theorem d_Reader_takesName_43 : decode prog_3_method_5_code 43 = .ok (.aload_n 2, 1) := by decide +kernel
theorem d_Reader_takesName_44 : decode prog_3_method_5_code 44 = .ok (.getfield 85, 3) := by decide +kernel
theorem d_Reader_takesName_47 : decode prog_3_method_5_code 47 = .ok (.aload_n 2, 1) := by decide +kernel
theorem d_Reader_takesName_48 : decode prog_3_method_5_code 48 = .ok (.getfield 15, 3) := by decide +kernel
theorem d_Reader_takesName_51 : decode prog_3_method_5_code 51 = .ok (.iconst 0, 1) := by decide +kernel
theorem d_Reader_takesName_52 : decode prog_3_method_5_code 52 = .ok (.iastore, 1) := by decide +kernel
theorem d_Reader_takesName_53 : decode prog_3_method_5_code 53 = .ok (.aload_n 0, 1) := by decide +kernel
theorem d_Reader_takesName_54 : decode prog_3_method_5_code 54 = .ok (.iconst 1, 1) := by decide +kernel
theorem d_Reader_takesName_55 : decode prog_3_method_5_code 55 = .ok (.invokevirtual 38, 3) := by decide +kernel
theorem d_Reader_takesName_58 : decode prog_3_method_5_code 58 = .ok (.ireturn, 1) := by decide +kernel
theorem kF_Reader_73 : Cond.fieldLink "FaultRules$Reader" (73 : Nat) "FaultRules$Text" "letters" "J" ∈ xT := x_t1 rfl (i := 60) rfl
theorem kF_Reader_81 : Cond.fieldLink "FaultRules$Reader" (81 : Nat) "FaultRules$RuleSet" "names" "[J" ∈ xT := x_t1 rfl (i := 151) rfl
theorem kM_Reader_77 : Cond.methodLink "FaultRules$Reader" (77 : Nat) ({ cls := "FaultRules$RuleSet", name := "hasName", desc := "(J)Z" } : Jvm.MethodName) ∈ xT := x_t2 rfl (i := 48) rfl
theorem kI_RuleSet_hasName : Cond.instanceMethod ({ cls := "FaultRules$RuleSet", name := "hasName", desc := "(J)Z" } : Jvm.MethodName) ∈ xT := x_t2 rfl (i := 49) rfl
theorem kS_164 : Cond.selects "FaultRules$RuleSet" ({ cls := "FaultRules$RuleSet", name := "hasName", desc := "(J)Z" } : Jvm.MethodName) ({ cls := "FaultRules$RuleSet", name := "hasName", desc := "(J)Z" } : Jvm.MethodName) ∈ xT := x_t2 rfl (i := 50) rfl
abbrev y_Reader_takes : MethodName := { cls := "FaultRules$Reader", name := "takes", desc := "(LFaultRules$Text;LFaultRules$RuleSet;)Z" }
theorem kC_Reader_takes : Cond.code ({ cls := "FaultRules$Reader", name := "takes", desc := "(LFaultRules$Text;LFaultRules$RuleSet;)Z" } : Jvm.MethodName) prog_3_method_3_code (3 : Nat) (Option.some Jvm.ClassFile.FieldType.boolean) ∈ xT := x_t2 rfl (i := 43) rfl
theorem hd_Reader_takes : y_Reader_takes.cls ≠ "java/lang/invoke/MethodHandle" ∧ y_Reader_takes.cls ≠ "java/lang/invoke/VarHandle" ∧ (parseMethodDescriptor y_Reader_takes.desc).map (fun d => d.parameters.length) = some 2 := by decide +kernel
theorem d_Reader_takes_0 : decode prog_3_method_3_code 0 = .ok (.aload_n 0, 1) := by decide +kernel
theorem d_Reader_takes_1 : decode prog_3_method_3_code 1 = .ok (.getfield 11, 3) := by decide +kernel
theorem d_Reader_takes_4 : decode prog_3_method_3_code 4 = .ok (.tableswitch 235 0 13 #[72, 79, 101, 108, 132, 139, 146, 169, 176, 183, 190, 197, 221, 228], 72) := by decide +kernel
theorem d_Reader_takes_76 : decode prog_3_method_3_code 76 = .ok (.aload_n 0, 1) := by decide +kernel
theorem d_Reader_takes_77 : decode prog_3_method_3_code 77 = .ok (.aload_n 1, 1) := by decide +kernel
theorem d_Reader_takes_78 : decode prog_3_method_3_code 78 = .ok (.aload_n 2, 1) := by decide +kernel
theorem d_Reader_takes_79 : decode prog_3_method_3_code 79 = .ok (.invokevirtual 35, 3) := by decide +kernel
theorem d_Reader_takes_82 : decode prog_3_method_3_code 82 = .ok (.ireturn, 1) := by decide +kernel
theorem d_Reader_takes_83 : decode prog_3_method_3_code 83 = .ok (.aload_n 1, 1) := by decide +kernel
theorem d_Reader_takes_84 : decode prog_3_method_3_code 84 = .ok (.getfield 25, 3) := by decide +kernel
theorem d_Reader_takes_87 : decode prog_3_method_3_code 87 = .ok (.iconst 5, 1) := by decide +kernel
theorem d_Reader_takes_88 : decode prog_3_method_3_code 88 = .ok (.if_icmp .ne 15, 3) := by decide +kernel
theorem d_Reader_takes_91 : decode prog_3_method_3_code 91 = .ok (.aload_n 0, 1) := by decide +kernel
theorem d_Reader_takes_92 : decode prog_3_method_3_code 92 = .ok (.iconst 2, 1) := by decide +kernel
theorem d_Reader_takes_93 : decode prog_3_method_3_code 93 = .ok (.invokevirtual 38, 3) := by decide +kernel
theorem d_Reader_takes_96 : decode prog_3_method_3_code 96 = .ok (.ifCond .eq 7, 3) := by decide +kernel
theorem d_Reader_takes_99 : decode prog_3_method_3_code 99 = .ok (.iconst 1, 1) := by decide +kernel
theorem d_Reader_takes_100 : decode prog_3_method_3_code 100 = .ok (.goto 4, 3) := by decide +kernel
theorem d_Reader_takes_103 : decode prog_3_method_3_code 103 = .ok (.iconst 0, 1) := by decide +kernel
theorem d_Reader_takes_104 : decode prog_3_method_3_code 104 = .ok (.ireturn, 1) := by decide +kernel
theorem d_Reader_takes_105 : decode prog_3_method_3_code 105 = .ok (.aload_n 0, 1) := by decide +kernel
theorem d_Reader_takes_106 : decode prog_3_method_3_code 106 = .ok (.aload_n 1, 1) := by decide +kernel
theorem d_Reader_takes_107 : decode prog_3_method_3_code 107 = .ok (.aload_n 2, 1) := by decide +kernel
theorem d_Reader_takes_108 : decode prog_3_method_3_code 108 = .ok (.invokevirtual 42, 3) := by decide +kernel
theorem d_Reader_takes_111 : decode prog_3_method_3_code 111 = .ok (.ireturn, 1) := by decide +kernel
theorem d_Reader_takes_112 : decode prog_3_method_3_code 112 = .ok (.aload_n 1, 1) := by decide +kernel
theorem d_Reader_takes_113 : decode prog_3_method_3_code 113 = .ok (.getfield 25, 3) := by decide +kernel
theorem d_Reader_takes_116 : decode prog_3_method_3_code 116 = .ok (.bipush 8, 2) := by decide +kernel
theorem d_Reader_takes_118 : decode prog_3_method_3_code 118 = .ok (.if_icmp .ne 11, 3) := by decide +kernel
theorem d_Reader_takes_121 : decode prog_3_method_3_code 121 = .ok (.aload_n 0, 1) := by decide +kernel
theorem d_Reader_takes_122 : decode prog_3_method_3_code 122 = .ok (.iconst 4, 1) := by decide +kernel
theorem d_Reader_takes_123 : decode prog_3_method_3_code 123 = .ok (.invokevirtual 38, 3) := by decide +kernel
theorem d_Reader_takes_126 : decode prog_3_method_3_code 126 = .ok (.goto 9, 3) := by decide +kernel
theorem d_Reader_takes_129 : decode prog_3_method_3_code 129 = .ok (.aload_n 0, 1) := by decide +kernel
theorem d_Reader_takes_130 : decode prog_3_method_3_code 130 = .ok (.aload_n 1, 1) := by decide +kernel
theorem d_Reader_takes_131 : decode prog_3_method_3_code 131 = .ok (.aload_n 2, 1) := by decide +kernel
theorem d_Reader_takes_132 : decode prog_3_method_3_code 132 = .ok (.invokevirtual 45, 3) := by decide +kernel
theorem d_Reader_takes_135 : decode prog_3_method_3_code 135 = .ok (.ireturn, 1) := by decide +kernel
theorem d_Reader_takes_136 : decode prog_3_method_3_code 136 = .ok (.aload_n 0, 1) := by decide +kernel
theorem d_Reader_takes_137 : decode prog_3_method_3_code 137 = .ok (.aload_n 1, 1) := by decide +kernel
theorem d_Reader_takes_138 : decode prog_3_method_3_code 138 = .ok (.aload_n 2, 1) := by decide +kernel
theorem d_Reader_takes_139 : decode prog_3_method_3_code 139 = .ok (.invokevirtual 48, 3) := by decide +kernel
theorem d_Reader_takes_142 : decode prog_3_method_3_code 142 = .ok (.ireturn, 1) := by decide +kernel
theorem d_Reader_takes_143 : decode prog_3_method_3_code 143 = .ok (.aload_n 0, 1) := by decide +kernel
theorem d_Reader_takes_144 : decode prog_3_method_3_code 144 = .ok (.aload_n 1, 1) := by decide +kernel
theorem d_Reader_takes_145 : decode prog_3_method_3_code 145 = .ok (.aload_n 2, 1) := by decide +kernel
theorem d_Reader_takes_146 : decode prog_3_method_3_code 146 = .ok (.invokevirtual 45, 3) := by decide +kernel
theorem d_Reader_takes_149 : decode prog_3_method_3_code 149 = .ok (.ireturn, 1) := by decide +kernel
theorem d_Reader_takes_150 : decode prog_3_method_3_code 150 = .ok (.aload_n 1, 1) := by decide +kernel
theorem d_Reader_takes_151 : decode prog_3_method_3_code 151 = .ok (.getfield 25, 3) := by decide +kernel
theorem d_Reader_takes_154 : decode prog_3_method_3_code 154 = .ok (.bipush 8, 2) := by decide +kernel
theorem d_Reader_takes_156 : decode prog_3_method_3_code 156 = .ok (.if_icmp .ne 10, 3) := by decide +kernel
theorem d_Reader_takes_159 : decode prog_3_method_3_code 159 = .ok (.aload_n 0, 1) := by decide +kernel
theorem d_Reader_takes_160 : decode prog_3_method_3_code 160 = .ok (.invokevirtual 51, 3) := by decide +kernel
theorem d_Reader_takes_163 : decode prog_3_method_3_code 163 = .ok (.goto 9, 3) := by decide +kernel
theorem d_Reader_takes_166 : decode prog_3_method_3_code 166 = .ok (.aload_n 0, 1) := by decide +kernel
theorem d_Reader_takes_167 : decode prog_3_method_3_code 167 = .ok (.aload_n 1, 1) := by decide +kernel
theorem d_Reader_takes_168 : decode prog_3_method_3_code 168 = .ok (.aload_n 2, 1) := by decide +kernel
theorem d_Reader_takes_169 : decode prog_3_method_3_code 169 = .ok (.invokevirtual 55, 3) := by decide +kernel
theorem d_Reader_takes_172 : decode prog_3_method_3_code 172 = .ok (.ireturn, 1) := by decide +kernel
theorem d_Reader_takes_173 : decode prog_3_method_3_code 173 = .ok (.aload_n 0, 1) := by decide +kernel
theorem d_Reader_takes_174 : decode prog_3_method_3_code 174 = .ok (.aload_n 1, 1) := by decide +kernel
theorem d_Reader_takes_175 : decode prog_3_method_3_code 175 = .ok (.aload_n 2, 1) := by decide +kernel
theorem d_Reader_takes_176 : decode prog_3_method_3_code 176 = .ok (.invokevirtual 55, 3) := by decide +kernel
theorem d_Reader_takes_179 : decode prog_3_method_3_code 179 = .ok (.ireturn, 1) := by decide +kernel
theorem d_Reader_takes_180 : decode prog_3_method_3_code 180 = .ok (.aload_n 0, 1) := by decide +kernel
theorem d_Reader_takes_181 : decode prog_3_method_3_code 181 = .ok (.aload_n 1, 1) := by decide +kernel
theorem d_Reader_takes_182 : decode prog_3_method_3_code 182 = .ok (.aload_n 2, 1) := by decide +kernel
theorem d_Reader_takes_183 : decode prog_3_method_3_code 183 = .ok (.invokevirtual 58, 3) := by decide +kernel
theorem d_Reader_takes_186 : decode prog_3_method_3_code 186 = .ok (.ireturn, 1) := by decide +kernel
theorem d_Reader_takes_187 : decode prog_3_method_3_code 187 = .ok (.aload_n 0, 1) := by decide +kernel
theorem d_Reader_takes_188 : decode prog_3_method_3_code 188 = .ok (.aload_n 1, 1) := by decide +kernel
theorem d_Reader_takes_189 : decode prog_3_method_3_code 189 = .ok (.aload_n 2, 1) := by decide +kernel
theorem d_Reader_takes_190 : decode prog_3_method_3_code 190 = .ok (.invokevirtual 61, 3) := by decide +kernel
theorem d_Reader_takes_193 : decode prog_3_method_3_code 193 = .ok (.ireturn, 1) := by decide +kernel
theorem d_Reader_takes_194 : decode prog_3_method_3_code 194 = .ok (.aload_n 0, 1) := by decide +kernel
theorem d_Reader_takes_195 : decode prog_3_method_3_code 195 = .ok (.aload_n 1, 1) := by decide +kernel
theorem d_Reader_takes_196 : decode prog_3_method_3_code 196 = .ok (.aload_n 2, 1) := by decide +kernel
theorem d_Reader_takes_197 : decode prog_3_method_3_code 197 = .ok (.invokevirtual 64, 3) := by decide +kernel
theorem d_Reader_takes_200 : decode prog_3_method_3_code 200 = .ok (.ireturn, 1) := by decide +kernel
theorem d_Reader_takes_201 : decode prog_3_method_3_code 201 = .ok (.aload_n 1, 1) := by decide +kernel
theorem d_Reader_takes_202 : decode prog_3_method_3_code 202 = .ok (.getfield 25, 3) := by decide +kernel
theorem d_Reader_takes_205 : decode prog_3_method_3_code 205 = .ok (.bipush 10, 2) := by decide +kernel
theorem d_Reader_takes_207 : decode prog_3_method_3_code 207 = .ok (.if_icmp .ne 16, 3) := by decide +kernel
theorem d_Reader_takes_210 : decode prog_3_method_3_code 210 = .ok (.aload_n 0, 1) := by decide +kernel
theorem d_Reader_takes_211 : decode prog_3_method_3_code 211 = .ok (.bipush 12, 2) := by decide +kernel
theorem d_Reader_takes_213 : decode prog_3_method_3_code 213 = .ok (.invokevirtual 38, 3) := by decide +kernel
theorem d_Reader_takes_216 : decode prog_3_method_3_code 216 = .ok (.ifCond .eq 7, 3) := by decide +kernel
theorem d_Reader_takes_219 : decode prog_3_method_3_code 219 = .ok (.iconst 1, 1) := by decide +kernel
theorem d_Reader_takes_220 : decode prog_3_method_3_code 220 = .ok (.goto 4, 3) := by decide +kernel
theorem d_Reader_takes_223 : decode prog_3_method_3_code 223 = .ok (.iconst 0, 1) := by decide +kernel
theorem d_Reader_takes_224 : decode prog_3_method_3_code 224 = .ok (.ireturn, 1) := by decide +kernel
theorem d_Reader_takes_225 : decode prog_3_method_3_code 225 = .ok (.aload_n 0, 1) := by decide +kernel
theorem d_Reader_takes_226 : decode prog_3_method_3_code 226 = .ok (.aload_n 1, 1) := by decide +kernel
theorem d_Reader_takes_227 : decode prog_3_method_3_code 227 = .ok (.aload_n 2, 1) := by decide +kernel
theorem d_Reader_takes_228 : decode prog_3_method_3_code 228 = .ok (.invokevirtual 67, 3) := by decide +kernel
theorem d_Reader_takes_231 : decode prog_3_method_3_code 231 = .ok (.ireturn, 1) := by decide +kernel
theorem d_Reader_takes_232 : decode prog_3_method_3_code 232 = .ok (.aload_n 0, 1) := by decide +kernel
theorem d_Reader_takes_233 : decode prog_3_method_3_code 233 = .ok (.aload_n 1, 1) := by decide +kernel
theorem d_Reader_takes_234 : decode prog_3_method_3_code 234 = .ok (.aload_n 2, 1) := by decide +kernel
theorem d_Reader_takes_235 : decode prog_3_method_3_code 235 = .ok (.invokevirtual 70, 3) := by decide +kernel
theorem d_Reader_takes_238 : decode prog_3_method_3_code 238 = .ok (.ireturn, 1) := by decide +kernel
theorem d_Reader_takes_239 : decode prog_3_method_3_code 239 = .ok (.iconst 0, 1) := by decide +kernel
theorem d_Reader_takes_240 : decode prog_3_method_3_code 240 = .ok (.ireturn, 1) := by decide +kernel
theorem kM_Reader_35 : Cond.methodLink "FaultRules$Reader" (35 : Nat) ({ cls := "FaultRules$Reader", name := "takesName", desc := "(LFaultRules$Text;LFaultRules$RuleSet;)Z" } : Jvm.MethodName) ∈ xT := x_t2 rfl (i := 44) rfl
theorem kI_Reader_takesName : Cond.instanceMethod ({ cls := "FaultRules$Reader", name := "takesName", desc := "(LFaultRules$Text;LFaultRules$RuleSet;)Z" } : Jvm.MethodName) ∈ xT := x_t2 rfl (i := 46) rfl
theorem kS_168 : Cond.selects "FaultRules$Reader" ({ cls := "FaultRules$Reader", name := "takesName", desc := "(LFaultRules$Text;LFaultRules$RuleSet;)Z" } : Jvm.MethodName) ({ cls := "FaultRules$Reader", name := "takesName", desc := "(LFaultRules$Text;LFaultRules$RuleSet;)Z" } : Jvm.MethodName) ∈ xT := x_tp rfl (i := 7) rfl
theorem kM_Reader_42 : Cond.methodLink "FaultRules$Reader" (42 : Nat) ({ cls := "FaultRules$Reader", name := "takesTest", desc := "(LFaultRules$Text;LFaultRules$RuleSet;)Z" } : Jvm.MethodName) ∈ xT := x_t2 rfl (i := 56) rfl
theorem kI_Reader_takesTest : Cond.instanceMethod ({ cls := "FaultRules$Reader", name := "takesTest", desc := "(LFaultRules$Text;LFaultRules$RuleSet;)Z" } : Jvm.MethodName) ∈ xT := x_t2 rfl (i := 58) rfl
theorem kS_171 : Cond.selects "FaultRules$Reader" ({ cls := "FaultRules$Reader", name := "takesTest", desc := "(LFaultRules$Text;LFaultRules$RuleSet;)Z" } : Jvm.MethodName) ({ cls := "FaultRules$Reader", name := "takesTest", desc := "(LFaultRules$Text;LFaultRules$RuleSet;)Z" } : Jvm.MethodName) ∈ xT := x_tp rfl (i := 9) rfl
theorem kM_Reader_45 : Cond.methodLink "FaultRules$Reader" (45 : Nat) ({ cls := "FaultRules$Reader", name := "takesRelation", desc := "(LFaultRules$Text;LFaultRules$RuleSet;)Z" } : Jvm.MethodName) ∈ xT := x_t2 rfl (i := 64) rfl
theorem kI_Reader_takesRelation : Cond.instanceMethod ({ cls := "FaultRules$Reader", name := "takesRelation", desc := "(LFaultRules$Text;LFaultRules$RuleSet;)Z" } : Jvm.MethodName) ∈ xT := x_t2 rfl (i := 66) rfl
theorem kS_174 : Cond.selects "FaultRules$Reader" ({ cls := "FaultRules$Reader", name := "takesRelation", desc := "(LFaultRules$Text;LFaultRules$RuleSet;)Z" } : Jvm.MethodName) ({ cls := "FaultRules$Reader", name := "takesRelation", desc := "(LFaultRules$Text;LFaultRules$RuleSet;)Z" } : Jvm.MethodName) ∈ xT := x_tp rfl (i := 10) rfl
theorem kM_Reader_48 : Cond.methodLink "FaultRules$Reader" (48 : Nat) ({ cls := "FaultRules$Reader", name := "takesSecondPoint", desc := "(LFaultRules$Text;LFaultRules$RuleSet;)Z" } : Jvm.MethodName) ∈ xT := x_t2 rfl (i := 68) rfl
theorem kI_Reader_takesSecondPoint : Cond.instanceMethod ({ cls := "FaultRules$Reader", name := "takesSecondPoint", desc := "(LFaultRules$Text;LFaultRules$RuleSet;)Z" } : Jvm.MethodName) ∈ xT := x_t2 rfl (i := 70) rfl
theorem kS_177 : Cond.selects "FaultRules$Reader" ({ cls := "FaultRules$Reader", name := "takesSecondPoint", desc := "(LFaultRules$Text;LFaultRules$RuleSet;)Z" } : Jvm.MethodName) ({ cls := "FaultRules$Reader", name := "takesSecondPoint", desc := "(LFaultRules$Text;LFaultRules$RuleSet;)Z" } : Jvm.MethodName) ∈ xT := x_tp rfl (i := 11) rfl
theorem kM_Reader_55 : Cond.methodLink "FaultRules$Reader" (55 : Nat) ({ cls := "FaultRules$Reader", name := "takesNumber", desc := "(LFaultRules$Text;LFaultRules$RuleSet;)Z" } : Jvm.MethodName) ∈ xT := x_t2 rfl (i := 76) rfl
theorem kI_Reader_takesNumber : Cond.instanceMethod ({ cls := "FaultRules$Reader", name := "takesNumber", desc := "(LFaultRules$Text;LFaultRules$RuleSet;)Z" } : Jvm.MethodName) ∈ xT := x_t2 rfl (i := 78) rfl
theorem kS_180 : Cond.selects "FaultRules$Reader" ({ cls := "FaultRules$Reader", name := "takesNumber", desc := "(LFaultRules$Text;LFaultRules$RuleSet;)Z" } : Jvm.MethodName) ({ cls := "FaultRules$Reader", name := "takesNumber", desc := "(LFaultRules$Text;LFaultRules$RuleSet;)Z" } : Jvm.MethodName) ∈ xT := x_tp rfl (i := 13) rfl
theorem kM_Reader_51 : Cond.methodLink "FaultRules$Reader" (51 : Nat) ({ cls := "FaultRules$Reader", name := "takesMinus", desc := "()Z" } : Jvm.MethodName) ∈ xT := x_t2 rfl (i := 72) rfl
theorem kI_Reader_takesMinus : Cond.instanceMethod ({ cls := "FaultRules$Reader", name := "takesMinus", desc := "()Z" } : Jvm.MethodName) ∈ xT := x_t2 rfl (i := 74) rfl
theorem kS_183 : Cond.selects "FaultRules$Reader" ({ cls := "FaultRules$Reader", name := "takesMinus", desc := "()Z" } : Jvm.MethodName) ({ cls := "FaultRules$Reader", name := "takesMinus", desc := "()Z" } : Jvm.MethodName) ∈ xT := x_tp rfl (i := 12) rfl
theorem kM_Reader_58 : Cond.methodLink "FaultRules$Reader" (58 : Nat) ({ cls := "FaultRules$Reader", name := "takesWatchedPoint", desc := "(LFaultRules$Text;LFaultRules$RuleSet;)Z" } : Jvm.MethodName) ∈ xT := x_t2 rfl (i := 80) rfl
theorem kI_Reader_takesWatchedPoint : Cond.instanceMethod ({ cls := "FaultRules$Reader", name := "takesWatchedPoint", desc := "(LFaultRules$Text;LFaultRules$RuleSet;)Z" } : Jvm.MethodName) ∈ xT := x_t2 rfl (i := 82) rfl
theorem kS_186 : Cond.selects "FaultRules$Reader" ({ cls := "FaultRules$Reader", name := "takesWatchedPoint", desc := "(LFaultRules$Text;LFaultRules$RuleSet;)Z" } : Jvm.MethodName) ({ cls := "FaultRules$Reader", name := "takesWatchedPoint", desc := "(LFaultRules$Text;LFaultRules$RuleSet;)Z" } : Jvm.MethodName) ∈ xT := x_tp rfl (i := 14) rfl
theorem kM_Reader_61 : Cond.methodLink "FaultRules$Reader" (61 : Nat) ({ cls := "FaultRules$Reader", name := "takesAndOrFor", desc := "(LFaultRules$Text;LFaultRules$RuleSet;)Z" } : Jvm.MethodName) ∈ xT := x_t2 rfl (i := 84) rfl
theorem kI_Reader_takesAndOrFor : Cond.instanceMethod ({ cls := "FaultRules$Reader", name := "takesAndOrFor", desc := "(LFaultRules$Text;LFaultRules$RuleSet;)Z" } : Jvm.MethodName) ∈ xT := x_t2 rfl (i := 86) rfl
theorem kS_189 : Cond.selects "FaultRules$Reader" ({ cls := "FaultRules$Reader", name := "takesAndOrFor", desc := "(LFaultRules$Text;LFaultRules$RuleSet;)Z" } : Jvm.MethodName) ({ cls := "FaultRules$Reader", name := "takesAndOrFor", desc := "(LFaultRules$Text;LFaultRules$RuleSet;)Z" } : Jvm.MethodName) ∈ xT := x_tp rfl (i := 15) rfl
theorem kM_Reader_64 : Cond.methodLink "FaultRules$Reader" (64 : Nat) ({ cls := "FaultRules$Reader", name := "takesSpan", desc := "(LFaultRules$Text;LFaultRules$RuleSet;)Z" } : Jvm.MethodName) ∈ xT := x_t2 rfl (i := 88) rfl
theorem kI_Reader_takesSpan : Cond.instanceMethod ({ cls := "FaultRules$Reader", name := "takesSpan", desc := "(LFaultRules$Text;LFaultRules$RuleSet;)Z" } : Jvm.MethodName) ∈ xT := x_t2 rfl (i := 90) rfl
theorem kS_192 : Cond.selects "FaultRules$Reader" ({ cls := "FaultRules$Reader", name := "takesSpan", desc := "(LFaultRules$Text;LFaultRules$RuleSet;)Z" } : Jvm.MethodName) ({ cls := "FaultRules$Reader", name := "takesSpan", desc := "(LFaultRules$Text;LFaultRules$RuleSet;)Z" } : Jvm.MethodName) ∈ xT := x_tp rfl (i := 16) rfl
theorem kM_Reader_67 : Cond.methodLink "FaultRules$Reader" (67 : Nat) ({ cls := "FaultRules$Reader", name := "takesCost", desc := "(LFaultRules$Text;LFaultRules$RuleSet;)Z" } : Jvm.MethodName) ∈ xT := x_t2 rfl (i := 95) rfl
theorem kI_Reader_takesCost : Cond.instanceMethod ({ cls := "FaultRules$Reader", name := "takesCost", desc := "(LFaultRules$Text;LFaultRules$RuleSet;)Z" } : Jvm.MethodName) ∈ xT := x_t2 rfl (i := 97) rfl
theorem kS_195 : Cond.selects "FaultRules$Reader" ({ cls := "FaultRules$Reader", name := "takesCost", desc := "(LFaultRules$Text;LFaultRules$RuleSet;)Z" } : Jvm.MethodName) ({ cls := "FaultRules$Reader", name := "takesCost", desc := "(LFaultRules$Text;LFaultRules$RuleSet;)Z" } : Jvm.MethodName) ∈ xT := x_tp rfl (i := 17) rfl
theorem kM_Reader_70 : Cond.methodLink "FaultRules$Reader" (70 : Nat) ({ cls := "FaultRules$Reader", name := "takesSemicolon", desc := "(LFaultRules$Text;LFaultRules$RuleSet;)Z" } : Jvm.MethodName) ∈ xT := x_t2 rfl (i := 99) rfl
theorem kI_Reader_takesSemicolon : Cond.instanceMethod ({ cls := "FaultRules$Reader", name := "takesSemicolon", desc := "(LFaultRules$Text;LFaultRules$RuleSet;)Z" } : Jvm.MethodName) ∈ xT := x_t2 rfl (i := 101) rfl
theorem kS_198 : Cond.selects "FaultRules$Reader" ({ cls := "FaultRules$Reader", name := "takesSemicolon", desc := "(LFaultRules$Text;LFaultRules$RuleSet;)Z" } : Jvm.MethodName) ({ cls := "FaultRules$Reader", name := "takesSemicolon", desc := "(LFaultRules$Text;LFaultRules$RuleSet;)Z" } : Jvm.MethodName) ∈ xT := x_tp rfl (i := 18) rfl
abbrev y_Reader_read : MethodName := { cls := "FaultRules$Reader", name := "read", desc := "(LFaultRules$Text;LFaultRules$RuleSet;)I" }
theorem kC_Reader_read : Cond.code ({ cls := "FaultRules$Reader", name := "read", desc := "(LFaultRules$Text;LFaultRules$RuleSet;)I" } : Jvm.MethodName) prog_3_method_2_code (4 : Nat) (Option.some Jvm.ClassFile.FieldType.int) ∈ xT := x_t1 rfl (i := 226) rfl
theorem hd_Reader_read : y_Reader_read.cls ≠ "java/lang/invoke/MethodHandle" ∧ y_Reader_read.cls ≠ "java/lang/invoke/VarHandle" ∧ (parseMethodDescriptor y_Reader_read.desc).map (fun d => d.parameters.length) = some 2 := by decide +kernel
theorem d_Reader_read_0 : decode prog_3_method_2_code 0 = .ok (.iconst 0, 1) := by decide +kernel
theorem d_Reader_read_1 : decode prog_3_method_2_code 1 = .ok (.istore_n 3, 1) := by decide +kernel
theorem d_Reader_read_2 : decode prog_3_method_2_code 2 = .ok (.aload_n 0, 1) := by decide +kernel
theorem d_Reader_read_3 : decode prog_3_method_2_code 3 = .ok (.iconst 0, 1) := by decide +kernel
theorem d_Reader_read_4 : decode prog_3_method_2_code 4 = .ok (.putfield 11, 3) := by decide +kernel
theorem d_Reader_read_7 : decode prog_3_method_2_code 7 = .ok (.aload_n 2, 1) := by decide +kernel
theorem d_Reader_read_8 : decode prog_3_method_2_code 8 = .ok (.iconst 0, 1) := by decide +kernel
theorem d_Reader_read_9 : decode prog_3_method_2_code 9 = .ok (.putfield 15, 3) := by decide +kernel
theorem d_Reader_read_12 : decode prog_3_method_2_code 12 = .ok (.aload_n 1, 1) := by decide +kernel
theorem d_Reader_read_13 : decode prog_3_method_2_code 13 = .ok (.invokevirtual 20, 3) := by decide +kernel
theorem d_Reader_read_16 : decode prog_3_method_2_code 16 = .ok (.iload_n 3, 1) := by decide +kernel
theorem d_Reader_read_17 : decode prog_3_method_2_code 17 = .ok (.sipush 1000, 3) := by decide +kernel
theorem d_Reader_read_20 : decode prog_3_method_2_code 20 = .ok (.if_icmp .ge 29, 3) := by decide +kernel
theorem d_Reader_read_23 : decode prog_3_method_2_code 23 = .ok (.aload_n 1, 1) := by decide +kernel
theorem d_Reader_read_24 : decode prog_3_method_2_code 24 = .ok (.getfield 25, 3) := by decide +kernel
