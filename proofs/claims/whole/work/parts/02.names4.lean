theorem d_Model_digits_111 : decode prog_9_method_16_code 111 = .ok (.iload_n 3, 1) := by decide +kernel
theorem d_Model_digits_112 : decode prog_9_method_16_code 112 = .ok (.ireturn, 1) := by decide +kernel
theorem kK_Model_142 : Cond.constantLong "FaultRulesModel" (142 : Nat) (10 : Int64) ∈ xT := x_t4 rfl (i := 139) rfl
theorem kK_Model_144 : Cond.constantLong "FaultRulesModel" (144 : Nat) (48 : Int64) ∈ xT := x_t4 rfl (i := 140) rfl
theorem kK_Model_148 : Cond.constantLong "FaultRulesModel" (148 : Nat) (9999999 : Int64) ∈ xT := x_t4 rfl (i := 146) rfl
theorem kK_Model_146 : Cond.constantLong "FaultRulesModel" (146 : Nat) (-1 : Int64) ∈ xT := x_t4 rfl (i := 141) rfl
theorem kM_Model_139 : Cond.methodLink "FaultRulesModel" (139 : Nat) ({ cls := "FaultRulesModel", name := "isDigit", desc := "(I)Z" } : Jvm.MethodName) ∈ xT := x_t4 rfl (i := 136) rfl
theorem kT_Model_isDigit : Cond.static ({ cls := "FaultRulesModel", name := "isDigit", desc := "(I)Z" } : Jvm.MethodName) ∈ xT := x_t4 rfl (i := 137) rfl
abbrev y_Model_sign : MethodName := { cls := "FaultRulesModel", name := "sign", desc := "(I)I" }
theorem kC_Model_sign : Cond.code ({ cls := "FaultRulesModel", name := "sign", desc := "(I)I" } : Jvm.MethodName) prog_9_method_17_code (5 : Nat) (Option.some Jvm.ClassFile.FieldType.int) ∈ xT := x_t4 rfl (i := 154) rfl
theorem hd_Model_sign : y_Model_sign.cls ≠ "java/lang/invoke/MethodHandle" ∧ y_Model_sign.cls ≠ "java/lang/invoke/VarHandle" ∧ (parseMethodDescriptor y_Model_sign.desc).map (fun d => d.parameters.length) = some 1 := by decide +kernel
theorem d_Model_sign_0 : decode prog_9_method_17_code 0 = .ok (.aload_n 0, 1) := by decide +kernel
theorem d_Model_sign_1 : decode prog_9_method_17_code 1 = .ok (.iload_n 1, 1) := by decide +kernel
theorem d_Model_sign_2 : decode prog_9_method_17_code 2 = .ok (.invokevirtual 128, 3) := by decide +kernel
theorem d_Model_sign_5 : decode prog_9_method_17_code 5 = .ok (.istore_n 2, 1) := by decide +kernel
theorem d_Model_sign_6 : decode prog_9_method_17_code 6 = .ok (.iload_n 2, 1) := by decide +kernel
theorem d_Model_sign_7 : decode prog_9_method_17_code 7 = .ok (.bipush 60, 2) := by decide +kernel
theorem d_Model_sign_9 : decode prog_9_method_17_code 9 = .ok (.if_icmp .eq 9, 3) := by decide +kernel
theorem d_Model_sign_12 : decode prog_9_method_17_code 12 = .ok (.iload_n 2, 1) := by decide +kernel
theorem d_Model_sign_13 : decode prog_9_method_17_code 13 = .ok (.bipush 62, 2) := by decide +kernel
theorem d_Model_sign_15 : decode prog_9_method_17_code 15 = .ok (.if_icmp .ne 19, 3) := by decide +kernel
theorem d_Model_sign_18 : decode prog_9_method_17_code 18 = .ok (.aload_n 0, 1) := by decide +kernel
theorem d_Model_sign_19 : decode prog_9_method_17_code 19 = .ok (.iload_n 1, 1) := by decide +kernel
theorem d_Model_sign_20 : decode prog_9_method_17_code 20 = .ok (.iconst 1, 1) := by decide +kernel
theorem d_Model_sign_21 : decode prog_9_method_17_code 21 = .ok (.iadd, 1) := by decide +kernel
theorem d_Model_sign_22 : decode prog_9_method_17_code 22 = .ok (.invokevirtual 128, 3) := by decide +kernel
theorem d_Model_sign_25 : decode prog_9_method_17_code 25 = .ok (.bipush 61, 2) := by decide +kernel
theorem d_Model_sign_27 : decode prog_9_method_17_code 27 = .ok (.if_icmp .ne 7, 3) := by decide +kernel
theorem d_Model_sign_30 : decode prog_9_method_17_code 30 = .ok (.iconst 1, 1) := by decide +kernel
theorem d_Model_sign_31 : decode prog_9_method_17_code 31 = .ok (.goto 4, 3) := by decide +kernel
theorem d_Model_sign_34 : decode prog_9_method_17_code 34 = .ok (.iconst 0, 1) := by decide +kernel
theorem d_Model_sign_35 : decode prog_9_method_17_code 35 = .ok (.istore_n 3, 1) := by decide +kernel
theorem d_Model_sign_36 : decode prog_9_method_17_code 36 = .ok (.iload_n 2, 1) := by decide +kernel
theorem d_Model_sign_37 : decode prog_9_method_17_code 37 = .ok (.bipush 58, 2) := by decide +kernel
theorem d_Model_sign_39 : decode prog_9_method_17_code 39 = .ok (.if_icmp .eq 39, 3) := by decide +kernel
theorem d_Model_sign_42 : decode prog_9_method_17_code 42 = .ok (.iload_n 2, 1) := by decide +kernel
theorem d_Model_sign_43 : decode prog_9_method_17_code 43 = .ok (.bipush 38, 2) := by decide +kernel
theorem d_Model_sign_45 : decode prog_9_method_17_code 45 = .ok (.if_icmp .eq 33, 3) := by decide +kernel
theorem d_Model_sign_48 : decode prog_9_method_17_code 48 = .ok (.iload_n 2, 1) := by decide +kernel
theorem d_Model_sign_49 : decode prog_9_method_17_code 49 = .ok (.bipush 59, 2) := by decide +kernel
theorem d_Model_sign_51 : decode prog_9_method_17_code 51 = .ok (.if_icmp .eq 27, 3) := by decide +kernel
theorem d_Model_sign_54 : decode prog_9_method_17_code 54 = .ok (.iload_n 2, 1) := by decide +kernel
theorem d_Model_sign_55 : decode prog_9_method_17_code 55 = .ok (.bipush 45, 2) := by decide +kernel
theorem d_Model_sign_57 : decode prog_9_method_17_code 57 = .ok (.if_icmp .eq 21, 3) := by decide +kernel
theorem d_Model_sign_60 : decode prog_9_method_17_code 60 = .ok (.iload_n 2, 1) := by decide +kernel
theorem d_Model_sign_61 : decode prog_9_method_17_code 61 = .ok (.bipush 60, 2) := by decide +kernel
theorem d_Model_sign_63 : decode prog_9_method_17_code 63 = .ok (.if_icmp .eq 15, 3) := by decide +kernel
theorem d_Model_sign_66 : decode prog_9_method_17_code 66 = .ok (.iload_n 2, 1) := by decide +kernel
theorem d_Model_sign_67 : decode prog_9_method_17_code 67 = .ok (.bipush 61, 2) := by decide +kernel
theorem d_Model_sign_69 : decode prog_9_method_17_code 69 = .ok (.if_icmp .eq 9, 3) := by decide +kernel
theorem d_Model_sign_72 : decode prog_9_method_17_code 72 = .ok (.iload_n 2, 1) := by decide +kernel
theorem d_Model_sign_73 : decode prog_9_method_17_code 73 = .ok (.bipush 62, 2) := by decide +kernel
theorem d_Model_sign_75 : decode prog_9_method_17_code 75 = .ok (.if_icmp .ne 7, 3) := by decide +kernel
theorem d_Model_sign_78 : decode prog_9_method_17_code 78 = .ok (.iconst 1, 1) := by decide +kernel
theorem d_Model_sign_79 : decode prog_9_method_17_code 79 = .ok (.goto 4, 3) := by decide +kernel
theorem d_Model_sign_82 : decode prog_9_method_17_code 82 = .ok (.iconst 0, 1) := by decide +kernel
theorem d_Model_sign_83 : decode prog_9_method_17_code 83 = .ok (.istore 4, 2) := by decide +kernel
theorem d_Model_sign_85 : decode prog_9_method_17_code 85 = .ok (.aload_n 0, 1) := by decide +kernel
theorem d_Model_sign_86 : decode prog_9_method_17_code 86 = .ok (.iload 4, 2) := by decide +kernel
theorem d_Model_sign_88 : decode prog_9_method_17_code 88 = .ok (.ifCond .eq 7, 3) := by decide +kernel
theorem d_Model_sign_91 : decode prog_9_method_17_code 91 = .ok (.iconst 3, 1) := by decide +kernel
theorem d_Model_sign_92 : decode prog_9_method_17_code 92 = .ok (.goto 5, 3) := by decide +kernel
theorem d_Model_sign_95 : decode prog_9_method_17_code 95 = .ok (.bipush 9, 2) := by decide +kernel
theorem d_Model_sign_97 : decode prog_9_method_17_code 97 = .ok (.iload_n 3, 1) := by decide +kernel
theorem d_Model_sign_98 : decode prog_9_method_17_code 98 = .ok (.ifCond .eq 12, 3) := by decide +kernel
theorem d_Model_sign_101 : decode prog_9_method_17_code 101 = .ok (.iload_n 2, 1) := by decide +kernel
theorem d_Model_sign_102 : decode prog_9_method_17_code 102 = .ok (.i2l, 1) := by decide +kernel
theorem d_Model_sign_103 : decode prog_9_method_17_code 103 = .ok (.ldc2_w 150, 3) := by decide +kernel
theorem d_Model_sign_106 : decode prog_9_method_17_code 106 = .ok (.ladd, 1) := by decide +kernel
theorem d_Model_sign_107 : decode prog_9_method_17_code 107 = .ok (.goto 5, 3) := by decide +kernel
theorem d_Model_sign_110 : decode prog_9_method_17_code 110 = .ok (.iload_n 2, 1) := by decide +kernel
theorem d_Model_sign_111 : decode prog_9_method_17_code 111 = .ok (.i2l, 1) := by decide +kernel
theorem d_Model_sign_112 : decode prog_9_method_17_code 112 = .ok (.invokevirtual 135, 3) := by decide +kernel
theorem d_Model_sign_115 : decode prog_9_method_17_code 115 = .ok (.iload_n 1, 1) := by decide +kernel
theorem d_Model_sign_116 : decode prog_9_method_17_code 116 = .ok (.iload_n 3, 1) := by decide +kernel
theorem d_Model_sign_117 : decode prog_9_method_17_code 117 = .ok (.ifCond .eq 7, 3) := by decide +kernel
theorem d_Model_sign_120 : decode prog_9_method_17_code 120 = .ok (.iconst 2, 1) := by decide +kernel
theorem d_Model_sign_121 : decode prog_9_method_17_code 121 = .ok (.goto 4, 3) := by decide +kernel
theorem d_Model_sign_124 : decode prog_9_method_17_code 124 = .ok (.iconst 1, 1) := by decide +kernel
theorem d_Model_sign_125 : decode prog_9_method_17_code 125 = .ok (.iadd, 1) := by decide +kernel
theorem d_Model_sign_126 : decode prog_9_method_17_code 126 = .ok (.ireturn, 1) := by decide +kernel
theorem kK_Model_150 : Cond.constantLong "FaultRulesModel" (150 : Nat) (256 : Int64) ∈ xT := x_t4 rfl (i := 155) rfl
abbrev y_Model_cut : MethodName := { cls := "FaultRulesModel", name := "cut", desc := "()V" }
theorem kC_Model_cut : Cond.code ({ cls := "FaultRulesModel", name := "cut", desc := "()V" } : Jvm.MethodName) prog_9_method_18_code (3 : Nat) (Option.none : Option Jvm.ClassFile.FieldType) ∈ xT := x_t4 rfl (i := 124) rfl
theorem hd_Model_cut : y_Model_cut.cls ≠ "java/lang/invoke/MethodHandle" ∧ y_Model_cut.cls ≠ "java/lang/invoke/VarHandle" ∧ (parseMethodDescriptor y_Model_cut.desc).map (fun d => d.parameters.length) = some 0 := by decide +kernel
theorem d_Model_cut_0 : decode prog_9_method_18_code 0 = .ok (.aload_n 0, 1) := by decide +kernel
theorem d_Model_cut_1 : decode prog_9_method_18_code 1 = .ok (.iconst 0, 1) := by decide +kernel
theorem d_Model_cut_2 : decode prog_9_method_18_code 2 = .ok (.putfield 125, 3) := by decide +kernel
theorem d_Model_cut_5 : decode prog_9_method_18_code 5 = .ok (.iconst 0, 1) := by decide +kernel
theorem d_Model_cut_6 : decode prog_9_method_18_code 6 = .ok (.istore_n 1, 1) := by decide +kernel
theorem d_Model_cut_7 : decode prog_9_method_18_code 7 = .ok (.iload_n 1, 1) := by decide +kernel
theorem d_Model_cut_8 : decode prog_9_method_18_code 8 = .ok (.aload_n 0, 1) := by decide +kernel
theorem d_Model_cut_9 : decode prog_9_method_18_code 9 = .ok (.getfield 122, 3) := by decide +kernel
theorem d_Model_cut_12 : decode prog_9_method_18_code 12 = .ok (.if_icmp .ge 95, 3) := by decide +kernel
theorem d_Model_cut_15 : decode prog_9_method_18_code 15 = .ok (.aload_n 0, 1) := by decide +kernel
theorem d_Model_cut_16 : decode prog_9_method_18_code 16 = .ok (.getfield 19, 3) := by decide +kernel
theorem d_Model_cut_19 : decode prog_9_method_18_code 19 = .ok (.iload_n 1, 1) := by decide +kernel
theorem d_Model_cut_20 : decode prog_9_method_18_code 20 = .ok (.iaload, 1) := by decide +kernel
theorem d_Model_cut_21 : decode prog_9_method_18_code 21 = .ok (.istore_n 2, 1) := by decide +kernel
theorem d_Model_cut_22 : decode prog_9_method_18_code 22 = .ok (.iload_n 2, 1) := by decide +kernel
theorem d_Model_cut_23 : decode prog_9_method_18_code 23 = .ok (.bipush 32, 2) := by decide +kernel
theorem d_Model_cut_25 : decode prog_9_method_18_code 25 = .ok (.if_icmp .ne 9, 3) := by decide +kernel
theorem d_Model_cut_28 : decode prog_9_method_18_code 28 = .ok (.iinc 1 1, 3) := by decide +kernel
theorem d_Model_cut_31 : decode prog_9_method_18_code 31 = .ok (.goto 73, 3) := by decide +kernel
theorem d_Model_cut_34 : decode prog_9_method_18_code 34 = .ok (.iload_n 2, 1) := by decide +kernel
theorem d_Model_cut_35 : decode prog_9_method_18_code 35 = .ok (.bipush 112, 2) := by decide +kernel
theorem d_Model_cut_37 : decode prog_9_method_18_code 37 = .ok (.if_icmp .ne 28, 3) := by decide +kernel
theorem d_Model_cut_40 : decode prog_9_method_18_code 40 = .ok (.aload_n 0, 1) := by decide +kernel
theorem d_Model_cut_41 : decode prog_9_method_18_code 41 = .ok (.iload_n 1, 1) := by decide +kernel
theorem d_Model_cut_42 : decode prog_9_method_18_code 42 = .ok (.iconst 1, 1) := by decide +kernel
theorem d_Model_cut_43 : decode prog_9_method_18_code 43 = .ok (.iadd, 1) := by decide +kernel
theorem d_Model_cut_44 : decode prog_9_method_18_code 44 = .ok (.invokevirtual 128, 3) := by decide +kernel
theorem d_Model_cut_47 : decode prog_9_method_18_code 47 = .ok (.invokestatic 132, 3) := by decide +kernel
theorem d_Model_cut_50 : decode prog_9_method_18_code 50 = .ok (.ifCond .ne 15, 3) := by decide +kernel
theorem d_Model_cut_53 : decode prog_9_method_18_code 53 = .ok (.aload_n 0, 1) := by decide +kernel
theorem d_Model_cut_54 : decode prog_9_method_18_code 54 = .ok (.iload_n 1, 1) := by decide +kernel
theorem d_Model_cut_55 : decode prog_9_method_18_code 55 = .ok (.iconst 1, 1) := by decide +kernel
theorem d_Model_cut_56 : decode prog_9_method_18_code 56 = .ok (.iadd, 1) := by decide +kernel
theorem d_Model_cut_57 : decode prog_9_method_18_code 57 = .ok (.iconst 1, 1) := by decide +kernel
theorem d_Model_cut_58 : decode prog_9_method_18_code 58 = .ok (.invokevirtual 152, 3) := by decide +kernel
theorem d_Model_cut_61 : decode prog_9_method_18_code 61 = .ok (.istore_n 1, 1) := by decide +kernel
theorem d_Model_cut_62 : decode prog_9_method_18_code 62 = .ok (.goto 42, 3) := by decide +kernel
theorem d_Model_cut_65 : decode prog_9_method_18_code 65 = .ok (.iload_n 2, 1) := by decide +kernel
theorem d_Model_cut_66 : decode prog_9_method_18_code 66 = .ok (.invokestatic 132, 3) := by decide +kernel
theorem d_Model_cut_69 : decode prog_9_method_18_code 69 = .ok (.ifCond .eq 12, 3) := by decide +kernel
theorem d_Model_cut_72 : decode prog_9_method_18_code 72 = .ok (.aload_n 0, 1) := by decide +kernel
theorem d_Model_cut_73 : decode prog_9_method_18_code 73 = .ok (.iload_n 1, 1) := by decide +kernel
theorem d_Model_cut_74 : decode prog_9_method_18_code 74 = .ok (.invokevirtual 156, 3) := by decide +kernel
theorem d_Model_cut_77 : decode prog_9_method_18_code 77 = .ok (.istore_n 1, 1) := by decide +kernel
theorem d_Model_cut_78 : decode prog_9_method_18_code 78 = .ok (.goto 26, 3) := by decide +kernel
theorem d_Model_cut_81 : decode prog_9_method_18_code 81 = .ok (.iload_n 2, 1) := by decide +kernel
theorem d_Model_cut_82 : decode prog_9_method_18_code 82 = .ok (.invokestatic 139, 3) := by decide +kernel
theorem d_Model_cut_85 : decode prog_9_method_18_code 85 = .ok (.ifCond .eq 13, 3) := by decide +kernel
theorem d_Model_cut_88 : decode prog_9_method_18_code 88 = .ok (.aload_n 0, 1) := by decide +kernel
theorem d_Model_cut_89 : decode prog_9_method_18_code 89 = .ok (.iload_n 1, 1) := by decide +kernel
theorem d_Model_cut_90 : decode prog_9_method_18_code 90 = .ok (.iconst 0, 1) := by decide +kernel
theorem d_Model_cut_91 : decode prog_9_method_18_code 91 = .ok (.invokevirtual 152, 3) := by decide +kernel
theorem d_Model_cut_94 : decode prog_9_method_18_code 94 = .ok (.istore_n 1, 1) := by decide +kernel
theorem d_Model_cut_95 : decode prog_9_method_18_code 95 = .ok (.goto 9, 3) := by decide +kernel
theorem d_Model_cut_98 : decode prog_9_method_18_code 98 = .ok (.aload_n 0, 1) := by decide +kernel
theorem d_Model_cut_99 : decode prog_9_method_18_code 99 = .ok (.iload_n 1, 1) := by decide +kernel
theorem d_Model_cut_100 : decode prog_9_method_18_code 100 = .ok (.invokevirtual 159, 3) := by decide +kernel
theorem d_Model_cut_103 : decode prog_9_method_18_code 103 = .ok (.istore_n 1, 1) := by decide +kernel
theorem d_Model_cut_104 : decode prog_9_method_18_code 104 = .ok (.goto (-97), 3) := by decide +kernel
theorem d_Model_cut_107 : decode prog_9_method_18_code 107 = .ok (.return_, 1) := by decide +kernel
theorem kM_Model_159 : Cond.methodLink "FaultRulesModel" (159 : Nat) ({ cls := "FaultRulesModel", name := "sign", desc := "(I)I" } : Jvm.MethodName) ∈ xT := x_t4 rfl (i := 151) rfl
theorem kI_Model_sign : Cond.instanceMethod ({ cls := "FaultRulesModel", name := "sign", desc := "(I)I" } : Jvm.MethodName) ∈ xT := x_t4 rfl (i := 153) rfl
theorem kS_428 : Cond.selects "FaultRulesModel" ({ cls := "FaultRulesModel", name := "sign", desc := "(I)I" } : Jvm.MethodName) ({ cls := "FaultRulesModel", name := "sign", desc := "(I)I" } : Jvm.MethodName) ∈ xT := x_tp rfl (i := 36) rfl
theorem kM_Model_152 : Cond.methodLink "FaultRulesModel" (152 : Nat) ({ cls := "FaultRulesModel", name := "digits", desc := "(IZ)I" } : Jvm.MethodName) ∈ xT := x_t4 rfl (i := 132) rfl
theorem kI_Model_digits : Cond.instanceMethod ({ cls := "FaultRulesModel", name := "digits", desc := "(IZ)I" } : Jvm.MethodName) ∈ xT := x_t4 rfl (i := 134) rfl
theorem kS_431 : Cond.selects "FaultRulesModel" ({ cls := "FaultRulesModel", name := "digits", desc := "(IZ)I" } : Jvm.MethodName) ({ cls := "FaultRulesModel", name := "digits", desc := "(IZ)I" } : Jvm.MethodName) ∈ xT := x_tp rfl (i := 33) rfl
theorem kM_Model_156 : Cond.methodLink "FaultRulesModel" (156 : Nat) ({ cls := "FaultRulesModel", name := "letters", desc := "(I)I" } : Jvm.MethodName) ∈ xT := x_t4 rfl (i := 147) rfl
theorem kI_Model_letters : Cond.instanceMethod ({ cls := "FaultRulesModel", name := "letters", desc := "(I)I" } : Jvm.MethodName) ∈ xT := x_t4 rfl (i := 149) rfl
theorem kS_434 : Cond.selects "FaultRulesModel" ({ cls := "FaultRulesModel", name := "letters", desc := "(I)I" } : Jvm.MethodName) ({ cls := "FaultRulesModel", name := "letters", desc := "(I)I" } : Jvm.MethodName) ∈ xT := x_tp rfl (i := 35) rfl
abbrev y_Model_isAt : MethodName := { cls := "FaultRulesModel", name := "isAt", desc := "(IJ)Z" }
theorem kC_Model_isAt : Cond.code ({ cls := "FaultRulesModel", name := "isAt", desc := "(IJ)Z" } : Jvm.MethodName) prog_9_method_19_code (4 : Nat) (Option.some Jvm.ClassFile.FieldType.boolean) ∈ xT := x_t4 rfl (i := 168) rfl
theorem hd_Model_isAt : y_Model_isAt.cls ≠ "java/lang/invoke/MethodHandle" ∧ y_Model_isAt.cls ≠ "java/lang/invoke/VarHandle" ∧ (parseMethodDescriptor y_Model_isAt.desc).map (fun d => d.parameters.length) = some 2 := by decide +kernel
theorem d_Model_isAt_0 : decode prog_9_method_19_code 0 = .ok (.aload_n 0, 1) := by decide +kernel
theorem d_Model_isAt_1 : decode prog_9_method_19_code 1 = .ok (.getfield 162, 3) := by decide +kernel
theorem d_Model_isAt_4 : decode prog_9_method_19_code 4 = .ok (.aload_n 0, 1) := by decide +kernel
theorem d_Model_isAt_5 : decode prog_9_method_19_code 5 = .ok (.getfield 125, 3) := by decide +kernel
theorem d_Model_isAt_8 : decode prog_9_method_19_code 8 = .ok (.if_icmp .ge 34, 3) := by decide +kernel
theorem d_Model_isAt_11 : decode prog_9_method_19_code 11 = .ok (.aload_n 0, 1) := by decide +kernel
theorem d_Model_isAt_12 : decode prog_9_method_19_code 12 = .ok (.getfield 22, 3) := by decide +kernel
theorem d_Model_isAt_15 : decode prog_9_method_19_code 15 = .ok (.aload_n 0, 1) := by decide +kernel
theorem d_Model_isAt_16 : decode prog_9_method_19_code 16 = .ok (.getfield 162, 3) := by decide +kernel
theorem d_Model_isAt_19 : decode prog_9_method_19_code 19 = .ok (.iaload, 1) := by decide +kernel
theorem d_Model_isAt_20 : decode prog_9_method_19_code 20 = .ok (.iload_n 1, 1) := by decide +kernel
theorem d_Model_isAt_21 : decode prog_9_method_19_code 21 = .ok (.if_icmp .ne 21, 3) := by decide +kernel
theorem d_Model_isAt_24 : decode prog_9_method_19_code 24 = .ok (.aload_n 0, 1) := by decide +kernel
theorem d_Model_isAt_25 : decode prog_9_method_19_code 25 = .ok (.getfield 25, 3) := by decide +kernel
theorem d_Model_isAt_28 : decode prog_9_method_19_code 28 = .ok (.aload_n 0, 1) := by decide +kernel
theorem d_Model_isAt_29 : decode prog_9_method_19_code 29 = .ok (.getfield 162, 3) := by decide +kernel
theorem d_Model_isAt_32 : decode prog_9_method_19_code 32 = .ok (.laload, 1) := by decide +kernel
theorem d_Model_isAt_33 : decode prog_9_method_19_code 33 = .ok (.lload_n 2, 1) := by decide +kernel
theorem d_Model_isAt_34 : decode prog_9_method_19_code 34 = .ok (.lcmp, 1) := by decide +kernel
theorem d_Model_isAt_35 : decode prog_9_method_19_code 35 = .ok (.ifCond .ne 7, 3) := by decide +kernel
theorem d_Model_isAt_38 : decode prog_9_method_19_code 38 = .ok (.iconst 1, 1) := by decide +kernel
theorem d_Model_isAt_39 : decode prog_9_method_19_code 39 = .ok (.goto 4, 3) := by decide +kernel
theorem d_Model_isAt_42 : decode prog_9_method_19_code 42 = .ok (.iconst 0, 1) := by decide +kernel
theorem d_Model_isAt_43 : decode prog_9_method_19_code 43 = .ok (.ireturn, 1) := by decide +kernel
theorem kF_Model_162 : Cond.fieldLink "FaultRulesModel" (162 : Nat) "FaultRulesModel" "at" "I" ∈ xT := x_t3 rfl (i := 224) rfl
abbrev y_Model_passes : MethodName := { cls := "FaultRulesModel", name := "passes", desc := "(IJ)Z" }
theorem kC_Model_passes : Cond.code ({ cls := "FaultRulesModel", name := "passes", desc := "(IJ)Z" } : Jvm.MethodName) prog_9_method_20_code (5 : Nat) (Option.some Jvm.ClassFile.FieldType.boolean) ∈ xT := x_t4 rfl (i := 177) rfl
theorem hd_Model_passes : y_Model_passes.cls ≠ "java/lang/invoke/MethodHandle" ∧ y_Model_passes.cls ≠ "java/lang/invoke/VarHandle" ∧ (parseMethodDescriptor y_Model_passes.desc).map (fun d => d.parameters.length) = some 2 := by decide +kernel
theorem d_Model_passes_0 : decode prog_9_method_20_code 0 = .ok (.aload_n 0, 1) := by decide +kernel
theorem d_Model_passes_1 : decode prog_9_method_20_code 1 = .ok (.iload_n 1, 1) := by decide +kernel
theorem d_Model_passes_2 : decode prog_9_method_20_code 2 = .ok (.lload_n 2, 1) := by decide +kernel
theorem d_Model_passes_3 : decode prog_9_method_20_code 3 = .ok (.invokevirtual 165, 3) := by decide +kernel
theorem d_Model_passes_6 : decode prog_9_method_20_code 6 = .ok (.istore 4, 2) := by decide +kernel
theorem d_Model_passes_8 : decode prog_9_method_20_code 8 = .ok (.aload_n 0, 1) := by decide +kernel
theorem d_Model_passes_9 : decode prog_9_method_20_code 9 = .ok (.dup, 1) := by decide +kernel
theorem d_Model_passes_10 : decode prog_9_method_20_code 10 = .ok (.getfield 162, 3) := by decide +kernel
theorem d_Model_passes_13 : decode prog_9_method_20_code 13 = .ok (.iload 4, 2) := by decide +kernel
theorem d_Model_passes_15 : decode prog_9_method_20_code 15 = .ok (.ifCond .eq 7, 3) := by decide +kernel
theorem d_Model_passes_18 : decode prog_9_method_20_code 18 = .ok (.iconst 1, 1) := by decide +kernel
theorem d_Model_passes_19 : decode prog_9_method_20_code 19 = .ok (.goto 4, 3) := by decide +kernel
theorem d_Model_passes_22 : decode prog_9_method_20_code 22 = .ok (.iconst 0, 1) := by decide +kernel
theorem d_Model_passes_23 : decode prog_9_method_20_code 23 = .ok (.iadd, 1) := by decide +kernel
theorem d_Model_passes_24 : decode prog_9_method_20_code 24 = .ok (.putfield 162, 3) := by decide +kernel
theorem d_Model_passes_27 : decode prog_9_method_20_code 27 = .ok (.iload 4, 2) := by decide +kernel
theorem d_Model_passes_29 : decode prog_9_method_20_code 29 = .ok (.ireturn, 1) := by decide +kernel
theorem kM_Model_165 : Cond.methodLink "FaultRulesModel" (165 : Nat) ({ cls := "FaultRulesModel", name := "isAt", desc := "(IJ)Z" } : Jvm.MethodName) ∈ xT := x_t4 rfl (i := 165) rfl
theorem kI_Model_isAt : Cond.instanceMethod ({ cls := "FaultRulesModel", name := "isAt", desc := "(IJ)Z" } : Jvm.MethodName) ∈ xT := x_t4 rfl (i := 167) rfl
theorem kS_440 : Cond.selects "FaultRulesModel" ({ cls := "FaultRulesModel", name := "isAt", desc := "(IJ)Z" } : Jvm.MethodName) ({ cls := "FaultRulesModel", name := "isAt", desc := "(IJ)Z" } : Jvm.MethodName) ∈ xT := x_tp rfl (i := 39) rfl
abbrev y_Model_passesNumber : MethodName := { cls := "FaultRulesModel", name := "passesNumber", desc := "(JJ)Z" }
theorem kC_Model_passesNumber : Cond.code ({ cls := "FaultRulesModel", name := "passesNumber", desc := "(JJ)Z" } : Jvm.MethodName) prog_9_method_21_code (6 : Nat) (Option.some Jvm.ClassFile.FieldType.boolean) ∈ xT := x_t4 rfl (i := 197) rfl
theorem hd_Model_passesNumber : y_Model_passesNumber.cls ≠ "java/lang/invoke/MethodHandle" ∧ y_Model_passesNumber.cls ≠ "java/lang/invoke/VarHandle" ∧ (parseMethodDescriptor y_Model_passesNumber.desc).map (fun d => d.parameters.length) = some 2 := by decide +kernel
theorem d_Model_passesNumber_0 : decode prog_9_method_21_code 0 = .ok (.aload_n 0, 1) := by decide +kernel
theorem d_Model_passesNumber_1 : decode prog_9_method_21_code 1 = .ok (.getfield 162, 3) := by decide +kernel
theorem d_Model_passesNumber_4 : decode prog_9_method_21_code 4 = .ok (.aload_n 0, 1) := by decide +kernel
theorem d_Model_passesNumber_5 : decode prog_9_method_21_code 5 = .ok (.getfield 125, 3) := by decide +kernel
theorem d_Model_passesNumber_8 : decode prog_9_method_21_code 8 = .ok (.if_icmp .ge 37, 3) := by decide +kernel
theorem d_Model_passesNumber_11 : decode prog_9_method_21_code 11 = .ok (.aload_n 0, 1) := by decide +kernel
theorem d_Model_passesNumber_12 : decode prog_9_method_21_code 12 = .ok (.getfield 22, 3) := by decide +kernel
theorem d_Model_passesNumber_15 : decode prog_9_method_21_code 15 = .ok (.aload_n 0, 1) := by decide +kernel
theorem d_Model_passesNumber_16 : decode prog_9_method_21_code 16 = .ok (.getfield 162, 3) := by decide +kernel
theorem d_Model_passesNumber_19 : decode prog_9_method_21_code 19 = .ok (.iaload, 1) := by decide +kernel
theorem d_Model_passesNumber_20 : decode prog_9_method_21_code 20 = .ok (.iconst 1, 1) := by decide +kernel
theorem d_Model_passesNumber_21 : decode prog_9_method_21_code 21 = .ok (.if_icmp .ne 24, 3) := by decide +kernel
theorem d_Model_passesNumber_24 : decode prog_9_method_21_code 24 = .ok (.aload_n 0, 1) := by decide +kernel
theorem d_Model_passesNumber_25 : decode prog_9_method_21_code 25 = .ok (.getfield 25, 3) := by decide +kernel
theorem d_Model_passesNumber_28 : decode prog_9_method_21_code 28 = .ok (.aload_n 0, 1) := by decide +kernel
theorem d_Model_passesNumber_29 : decode prog_9_method_21_code 29 = .ok (.getfield 162, 3) := by decide +kernel
theorem d_Model_passesNumber_32 : decode prog_9_method_21_code 32 = .ok (.laload, 1) := by decide +kernel
theorem d_Model_passesNumber_33 : decode prog_9_method_21_code 33 = .ok (.lload_n 1, 1) := by decide +kernel
theorem d_Model_passesNumber_34 : decode prog_9_method_21_code 34 = .ok (.lload_n 3, 1) := by decide +kernel
theorem d_Model_passesNumber_35 : decode prog_9_method_21_code 35 = .ok (.invokestatic 92, 3) := by decide +kernel
theorem d_Model_passesNumber_38 : decode prog_9_method_21_code 38 = .ok (.ifCond .eq 7, 3) := by decide +kernel
theorem d_Model_passesNumber_41 : decode prog_9_method_21_code 41 = .ok (.iconst 1, 1) := by decide +kernel
theorem d_Model_passesNumber_42 : decode prog_9_method_21_code 42 = .ok (.goto 4, 3) := by decide +kernel
theorem d_Model_passesNumber_45 : decode prog_9_method_21_code 45 = .ok (.iconst 0, 1) := by decide +kernel
theorem d_Model_passesNumber_46 : decode prog_9_method_21_code 46 = .ok (.istore 5, 2) := by decide +kernel
theorem d_Model_passesNumber_48 : decode prog_9_method_21_code 48 = .ok (.aload_n 0, 1) := by decide +kernel
theorem d_Model_passesNumber_49 : decode prog_9_method_21_code 49 = .ok (.dup, 1) := by decide +kernel
theorem d_Model_passesNumber_50 : decode prog_9_method_21_code 50 = .ok (.getfield 162, 3) := by decide +kernel
theorem d_Model_passesNumber_53 : decode prog_9_method_21_code 53 = .ok (.iload 5, 2) := by decide +kernel
theorem d_Model_passesNumber_55 : decode prog_9_method_21_code 55 = .ok (.ifCond .eq 7, 3) := by decide +kernel
theorem d_Model_passesNumber_58 : decode prog_9_method_21_code 58 = .ok (.iconst 1, 1) := by decide +kernel
theorem d_Model_passesNumber_59 : decode prog_9_method_21_code 59 = .ok (.goto 4, 3) := by decide +kernel
theorem d_Model_passesNumber_62 : decode prog_9_method_21_code 62 = .ok (.iconst 0, 1) := by decide +kernel
theorem d_Model_passesNumber_63 : decode prog_9_method_21_code 63 = .ok (.iadd, 1) := by decide +kernel
theorem d_Model_passesNumber_64 : decode prog_9_method_21_code 64 = .ok (.putfield 162, 3) := by decide +kernel
theorem d_Model_passesNumber_67 : decode prog_9_method_21_code 67 = .ok (.iload 5, 2) := by decide +kernel
theorem d_Model_passesNumber_69 : decode prog_9_method_21_code 69 = .ok (.ireturn, 1) := by decide +kernel
abbrev y_Model_passesPoint : MethodName := { cls := "FaultRulesModel", name := "passesPoint", desc := "()Z" }
theorem kC_Model_passesPoint : Cond.code ({ cls := "FaultRulesModel", name := "passesPoint", desc := "()Z" } : Jvm.MethodName) prog_9_method_22_code (2 : Nat) (Option.some Jvm.ClassFile.FieldType.boolean) ∈ xT := x_t4 rfl (i := 189) rfl
theorem hd_Model_passesPoint : y_Model_passesPoint.cls ≠ "java/lang/invoke/MethodHandle" ∧ y_Model_passesPoint.cls ≠ "java/lang/invoke/VarHandle" ∧ (parseMethodDescriptor y_Model_passesPoint.desc).map (fun d => d.parameters.length) = some 0 := by decide +kernel
theorem d_Model_passesPoint_0 : decode prog_9_method_22_code 0 = .ok (.aload_n 0, 1) := by decide +kernel
theorem d_Model_passesPoint_1 : decode prog_9_method_22_code 1 = .ok (.getfield 162, 3) := by decide +kernel
theorem d_Model_passesPoint_4 : decode prog_9_method_22_code 4 = .ok (.aload_n 0, 1) := by decide +kernel
theorem d_Model_passesPoint_5 : decode prog_9_method_22_code 5 = .ok (.getfield 125, 3) := by decide +kernel
theorem d_Model_passesPoint_8 : decode prog_9_method_22_code 8 = .ok (.if_icmp .ge 39, 3) := by decide +kernel
theorem d_Model_passesPoint_11 : decode prog_9_method_22_code 11 = .ok (.aload_n 0, 1) := by decide +kernel
theorem d_Model_passesPoint_12 : decode prog_9_method_22_code 12 = .ok (.getfield 22, 3) := by decide +kernel
theorem d_Model_passesPoint_15 : decode prog_9_method_22_code 15 = .ok (.aload_n 0, 1) := by decide +kernel
theorem d_Model_passesPoint_16 : decode prog_9_method_22_code 16 = .ok (.getfield 162, 3) := by decide +kernel
theorem d_Model_passesPoint_19 : decode prog_9_method_22_code 19 = .ok (.iaload, 1) := by decide +kernel
theorem d_Model_passesPoint_20 : decode prog_9_method_22_code 20 = .ok (.iconst 2, 1) := by decide +kernel
theorem d_Model_passesPoint_21 : decode prog_9_method_22_code 21 = .ok (.if_icmp .ne 26, 3) := by decide +kernel
theorem d_Model_passesPoint_24 : decode prog_9_method_22_code 24 = .ok (.aload_n 0, 1) := by decide +kernel
theorem d_Model_passesPoint_25 : decode prog_9_method_22_code 25 = .ok (.getfield 25, 3) := by decide +kernel
theorem d_Model_passesPoint_28 : decode prog_9_method_22_code 28 = .ok (.aload_n 0, 1) := by decide +kernel
theorem d_Model_passesPoint_29 : decode prog_9_method_22_code 29 = .ok (.getfield 162, 3) := by decide +kernel
theorem d_Model_passesPoint_32 : decode prog_9_method_22_code 32 = .ok (.laload, 1) := by decide +kernel
theorem d_Model_passesPoint_33 : decode prog_9_method_22_code 33 = .ok (.lconst 0, 1) := by decide +kernel
theorem d_Model_passesPoint_34 : decode prog_9_method_22_code 34 = .ok (.ldc2_w 96, 3) := by decide +kernel
theorem d_Model_passesPoint_37 : decode prog_9_method_22_code 37 = .ok (.invokestatic 92, 3) := by decide +kernel
theorem d_Model_passesPoint_40 : decode prog_9_method_22_code 40 = .ok (.ifCond .eq 7, 3) := by decide +kernel
theorem d_Model_passesPoint_43 : decode prog_9_method_22_code 43 = .ok (.iconst 1, 1) := by decide +kernel
theorem d_Model_passesPoint_44 : decode prog_9_method_22_code 44 = .ok (.goto 4, 3) := by decide +kernel
theorem d_Model_passesPoint_47 : decode prog_9_method_22_code 47 = .ok (.iconst 0, 1) := by decide +kernel
theorem d_Model_passesPoint_48 : decode prog_9_method_22_code 48 = .ok (.istore_n 1, 1) := by decide +kernel
theorem d_Model_passesPoint_49 : decode prog_9_method_22_code 49 = .ok (.aload_n 0, 1) := by decide +kernel
theorem d_Model_passesPoint_50 : decode prog_9_method_22_code 50 = .ok (.dup, 1) := by decide +kernel
theorem d_Model_passesPoint_51 : decode prog_9_method_22_code 51 = .ok (.getfield 162, 3) := by decide +kernel
theorem d_Model_passesPoint_54 : decode prog_9_method_22_code 54 = .ok (.iload_n 1, 1) := by decide +kernel
theorem d_Model_passesPoint_55 : decode prog_9_method_22_code 55 = .ok (.ifCond .eq 7, 3) := by decide +kernel
theorem d_Model_passesPoint_58 : decode prog_9_method_22_code 58 = .ok (.iconst 1, 1) := by decide +kernel
theorem d_Model_passesPoint_59 : decode prog_9_method_22_code 59 = .ok (.goto 4, 3) := by decide +kernel
theorem d_Model_passesPoint_62 : decode prog_9_method_22_code 62 = .ok (.iconst 0, 1) := by decide +kernel
theorem d_Model_passesPoint_63 : decode prog_9_method_22_code 63 = .ok (.iadd, 1) := by decide +kernel
theorem d_Model_passesPoint_64 : decode prog_9_method_22_code 64 = .ok (.putfield 162, 3) := by decide +kernel
theorem d_Model_passesPoint_67 : decode prog_9_method_22_code 67 = .ok (.iload_n 1, 1) := by decide +kernel
theorem d_Model_passesPoint_68 : decode prog_9_method_22_code 68 = .ok (.ireturn, 1) := by decide +kernel
abbrev y_Model_said : MethodName := { cls := "FaultRulesModel", name := "said", desc := "()I" }
theorem kC_Model_said : Cond.code ({ cls := "FaultRulesModel", name := "said", desc := "()I" } : Jvm.MethodName) prog_9_method_23_code (1 : Nat) (Option.some Jvm.ClassFile.FieldType.int) ∈ xT := x_t4 rfl (i := 193) rfl
theorem hd_Model_said : y_Model_said.cls ≠ "java/lang/invoke/MethodHandle" ∧ y_Model_said.cls ≠ "java/lang/invoke/VarHandle" ∧ (parseMethodDescriptor y_Model_said.desc).map (fun d => d.parameters.length) = some 0 := by decide +kernel
theorem d_Model_said_0 : decode prog_9_method_23_code 0 = .ok (.aload_n 0, 1) := by decide +kernel
theorem d_Model_said_1 : decode prog_9_method_23_code 1 = .ok (.getfield 25, 3) := by decide +kernel
theorem d_Model_said_4 : decode prog_9_method_23_code 4 = .ok (.aload_n 0, 1) := by decide +kernel
theorem d_Model_said_5 : decode prog_9_method_23_code 5 = .ok (.getfield 162, 3) := by decide +kernel
theorem d_Model_said_8 : decode prog_9_method_23_code 8 = .ok (.iconst 1, 1) := by decide +kernel
theorem d_Model_said_9 : decode prog_9_method_23_code 9 = .ok (.isub, 1) := by decide +kernel
theorem d_Model_said_10 : decode prog_9_method_23_code 10 = .ok (.laload, 1) := by decide +kernel
theorem d_Model_said_11 : decode prog_9_method_23_code 11 = .ok (.l2i, 1) := by decide +kernel
theorem d_Model_said_12 : decode prog_9_method_23_code 12 = .ok (.ireturn, 1) := by decide +kernel
abbrev y_Model_passedRelation : MethodName := { cls := "FaultRulesModel", name := "passedRelation", desc := "()I" }
theorem kC_Model_passedRelation : Cond.code ({ cls := "FaultRulesModel", name := "passedRelation", desc := "()I" } : Jvm.MethodName) prog_9_method_24_code (1 : Nat) (Option.some Jvm.ClassFile.FieldType.int) ∈ xT := x_t4 rfl (i := 202) rfl
theorem hd_Model_passedRelation : y_Model_passedRelation.cls ≠ "java/lang/invoke/MethodHandle" ∧ y_Model_passedRelation.cls ≠ "java/lang/invoke/VarHandle" ∧ (parseMethodDescriptor y_Model_passedRelation.desc).map (fun d => d.parameters.length) = some 0 := by decide +kernel
theorem d_Model_passedRelation_0 : decode prog_9_method_24_code 0 = .ok (.aload_n 0, 1) := by decide +kernel
theorem d_Model_passedRelation_1 : decode prog_9_method_24_code 1 = .ok (.iconst 3, 1) := by decide +kernel
theorem d_Model_passedRelation_2 : decode prog_9_method_24_code 2 = .ok (.ldc2_w 169, 3) := by decide +kernel
theorem d_Model_passedRelation_5 : decode prog_9_method_24_code 5 = .ok (.invokevirtual 171, 3) := by decide +kernel
theorem d_Model_passedRelation_8 : decode prog_9_method_24_code 8 = .ok (.ifCond .eq 7, 3) := by decide +kernel
theorem d_Model_passedRelation_11 : decode prog_9_method_24_code 11 = .ok (.iconst 0, 1) := by decide +kernel
theorem d_Model_passedRelation_12 : decode prog_9_method_24_code 12 = .ok (.goto 64, 3) := by decide +kernel
theorem d_Model_passedRelation_15 : decode prog_9_method_24_code 15 = .ok (.aload_n 0, 1) := by decide +kernel
theorem d_Model_passedRelation_16 : decode prog_9_method_24_code 16 = .ok (.iconst 3, 1) := by decide +kernel
theorem d_Model_passedRelation_17 : decode prog_9_method_24_code 17 = .ok (.ldc2_w 174, 3) := by decide +kernel
theorem d_Model_passedRelation_20 : decode prog_9_method_24_code 20 = .ok (.invokevirtual 171, 3) := by decide +kernel
theorem d_Model_passedRelation_23 : decode prog_9_method_24_code 23 = .ok (.ifCond .eq 7, 3) := by decide +kernel
theorem d_Model_passedRelation_26 : decode prog_9_method_24_code 26 = .ok (.iconst 1, 1) := by decide +kernel
theorem d_Model_passedRelation_27 : decode prog_9_method_24_code 27 = .ok (.goto 49, 3) := by decide +kernel
theorem d_Model_passedRelation_30 : decode prog_9_method_24_code 30 = .ok (.aload_n 0, 1) := by decide +kernel
theorem d_Model_passedRelation_31 : decode prog_9_method_24_code 31 = .ok (.iconst 3, 1) := by decide +kernel
theorem d_Model_passedRelation_32 : decode prog_9_method_24_code 32 = .ok (.ldc2_w 176, 3) := by decide +kernel
theorem d_Model_passedRelation_35 : decode prog_9_method_24_code 35 = .ok (.invokevirtual 171, 3) := by decide +kernel
theorem d_Model_passedRelation_38 : decode prog_9_method_24_code 38 = .ok (.ifCond .eq 7, 3) := by decide +kernel
theorem d_Model_passedRelation_41 : decode prog_9_method_24_code 41 = .ok (.iconst 2, 1) := by decide +kernel
theorem d_Model_passedRelation_42 : decode prog_9_method_24_code 42 = .ok (.goto 34, 3) := by decide +kernel
theorem d_Model_passedRelation_45 : decode prog_9_method_24_code 45 = .ok (.aload_n 0, 1) := by decide +kernel
theorem d_Model_passedRelation_46 : decode prog_9_method_24_code 46 = .ok (.iconst 3, 1) := by decide +kernel
theorem d_Model_passedRelation_47 : decode prog_9_method_24_code 47 = .ok (.ldc2_w 178, 3) := by decide +kernel
theorem d_Model_passedRelation_50 : decode prog_9_method_24_code 50 = .ok (.invokevirtual 171, 3) := by decide +kernel
theorem d_Model_passedRelation_53 : decode prog_9_method_24_code 53 = .ok (.ifCond .eq 7, 3) := by decide +kernel
theorem d_Model_passedRelation_56 : decode prog_9_method_24_code 56 = .ok (.iconst 3, 1) := by decide +kernel
theorem d_Model_passedRelation_57 : decode prog_9_method_24_code 57 = .ok (.goto 19, 3) := by decide +kernel
theorem d_Model_passedRelation_60 : decode prog_9_method_24_code 60 = .ok (.aload_n 0, 1) := by decide +kernel
theorem d_Model_passedRelation_61 : decode prog_9_method_24_code 61 = .ok (.iconst 3, 1) := by decide +kernel
theorem d_Model_passedRelation_62 : decode prog_9_method_24_code 62 = .ok (.ldc2_w 180, 3) := by decide +kernel
theorem d_Model_passedRelation_65 : decode prog_9_method_24_code 65 = .ok (.invokevirtual 171, 3) := by decide +kernel
theorem d_Model_passedRelation_68 : decode prog_9_method_24_code 68 = .ok (.ifCond .eq 7, 3) := by decide +kernel
theorem d_Model_passedRelation_71 : decode prog_9_method_24_code 71 = .ok (.iconst 4, 1) := by decide +kernel
theorem d_Model_passedRelation_72 : decode prog_9_method_24_code 72 = .ok (.goto 4, 3) := by decide +kernel
theorem d_Model_passedRelation_75 : decode prog_9_method_24_code 75 = .ok (.iconst (-1), 1) := by decide +kernel
theorem d_Model_passedRelation_76 : decode prog_9_method_24_code 76 = .ok (.ireturn, 1) := by decide +kernel
theorem kK_Model_169 : Cond.constantLong "FaultRulesModel" (169 : Nat) (60 : Int64) ∈ xT := x_t4 rfl (i := 203) rfl
theorem kK_Model_174 : Cond.constantLong "FaultRulesModel" (174 : Nat) (316 : Int64) ∈ xT := x_t4 rfl (i := 204) rfl
theorem kK_Model_176 : Cond.constantLong "FaultRulesModel" (176 : Nat) (61 : Int64) ∈ xT := x_t4 rfl (i := 205) rfl
theorem kK_Model_178 : Cond.constantLong "FaultRulesModel" (178 : Nat) (318 : Int64) ∈ xT := x_t4 rfl (i := 206) rfl
theorem kK_Model_180 : Cond.constantLong "FaultRulesModel" (180 : Nat) (62 : Int64) ∈ xT := x_t4 rfl (i := 207) rfl
theorem kM_Model_171 : Cond.methodLink "FaultRulesModel" (171 : Nat) ({ cls := "FaultRulesModel", name := "passes", desc := "(IJ)Z" } : Jvm.MethodName) ∈ xT := x_t4 rfl (i := 174) rfl
theorem kI_Model_passes : Cond.instanceMethod ({ cls := "FaultRulesModel", name := "passes", desc := "(IJ)Z" } : Jvm.MethodName) ∈ xT := x_t4 rfl (i := 176) rfl
theorem kS_452 : Cond.selects "FaultRulesModel" ({ cls := "FaultRulesModel", name := "passes", desc := "(IJ)Z" } : Jvm.MethodName) ({ cls := "FaultRulesModel", name := "passes", desc := "(IJ)Z" } : Jvm.MethodName) ∈ xT := x_tp rfl (i := 40) rfl
abbrev y_Model_readsAge : MethodName := { cls := "FaultRulesModel", name := "readsAge", desc := "(II)Z" }
theorem kC_Model_readsAge : Cond.code ({ cls := "FaultRulesModel", name := "readsAge", desc := "(II)Z" } : Jvm.MethodName) prog_9_method_25_code (3 : Nat) (Option.some Jvm.ClassFile.FieldType.boolean) ∈ xT := x_t4 rfl (i := 185) rfl
theorem hd_Model_readsAge : y_Model_readsAge.cls ≠ "java/lang/invoke/MethodHandle" ∧ y_Model_readsAge.cls ≠ "java/lang/invoke/VarHandle" ∧ (parseMethodDescriptor y_Model_readsAge.desc).map (fun d => d.parameters.length) = some 2 := by decide +kernel
theorem d_Model_readsAge_0 : decode prog_9_method_25_code 0 = .ok (.aload_n 0, 1) := by decide +kernel
theorem d_Model_readsAge_1 : decode prog_9_method_25_code 1 = .ok (.getfield 41, 3) := by decide +kernel
theorem d_Model_readsAge_4 : decode prog_9_method_25_code 4 = .ok (.iload_n 1, 1) := by decide +kernel
theorem d_Model_readsAge_5 : decode prog_9_method_25_code 5 = .ok (.iload_n 2, 1) := by decide +kernel
theorem d_Model_readsAge_6 : decode prog_9_method_25_code 6 = .ok (.iastore, 1) := by decide +kernel
theorem d_Model_readsAge_7 : decode prog_9_method_25_code 7 = .ok (.aload_n 0, 1) := by decide +kernel
theorem d_Model_readsAge_8 : decode prog_9_method_25_code 8 = .ok (.invokevirtual 182, 3) := by decide +kernel
theorem d_Model_readsAge_11 : decode prog_9_method_25_code 11 = .ok (.ifCond .ne 5, 3) := by decide +kernel
theorem d_Model_readsAge_14 : decode prog_9_method_25_code 14 = .ok (.iconst 0, 1) := by decide +kernel
theorem d_Model_readsAge_15 : decode prog_9_method_25_code 15 = .ok (.ireturn, 1) := by decide +kernel
theorem d_Model_readsAge_16 : decode prog_9_method_25_code 16 = .ok (.aload_n 0, 1) := by decide +kernel
theorem d_Model_readsAge_17 : decode prog_9_method_25_code 17 = .ok (.getfield 44, 3) := by decide +kernel
theorem d_Model_readsAge_20 : decode prog_9_method_25_code 20 = .ok (.iload_n 1, 1) := by decide +kernel
theorem d_Model_readsAge_21 : decode prog_9_method_25_code 21 = .ok (.aload_n 0, 1) := by decide +kernel
theorem d_Model_readsAge_22 : decode prog_9_method_25_code 22 = .ok (.invokevirtual 186, 3) := by decide +kernel
theorem d_Model_readsAge_25 : decode prog_9_method_25_code 25 = .ok (.iastore, 1) := by decide +kernel
theorem d_Model_readsAge_26 : decode prog_9_method_25_code 26 = .ok (.aload_n 0, 1) := by decide +kernel
theorem d_Model_readsAge_27 : decode prog_9_method_25_code 27 = .ok (.lconst 0, 1) := by decide +kernel
theorem d_Model_readsAge_28 : decode prog_9_method_25_code 28 = .ok (.ldc2_w 110, 3) := by decide +kernel
theorem d_Model_readsAge_31 : decode prog_9_method_25_code 31 = .ok (.invokevirtual 190, 3) := by decide +kernel
theorem d_Model_readsAge_34 : decode prog_9_method_25_code 34 = .ok (.ifCond .ne 5, 3) := by decide +kernel
theorem d_Model_readsAge_37 : decode prog_9_method_25_code 37 = .ok (.iconst 0, 1) := by decide +kernel
theorem d_Model_readsAge_38 : decode prog_9_method_25_code 38 = .ok (.ireturn, 1) := by decide +kernel
theorem d_Model_readsAge_39 : decode prog_9_method_25_code 39 = .ok (.aload_n 0, 1) := by decide +kernel
theorem d_Model_readsAge_40 : decode prog_9_method_25_code 40 = .ok (.getfield 53, 3) := by decide +kernel
theorem d_Model_readsAge_43 : decode prog_9_method_25_code 43 = .ok (.iload_n 1, 1) := by decide +kernel
theorem d_Model_readsAge_44 : decode prog_9_method_25_code 44 = .ok (.aload_n 0, 1) := by decide +kernel
theorem d_Model_readsAge_45 : decode prog_9_method_25_code 45 = .ok (.invokevirtual 186, 3) := by decide +kernel
theorem d_Model_readsAge_48 : decode prog_9_method_25_code 48 = .ok (.iastore, 1) := by decide +kernel
theorem d_Model_readsAge_49 : decode prog_9_method_25_code 49 = .ok (.iconst 1, 1) := by decide +kernel
theorem d_Model_readsAge_50 : decode prog_9_method_25_code 50 = .ok (.ireturn, 1) := by decide +kernel
theorem kF_Model_41 : Cond.fieldLink "FaultRulesModel" (41 : Nat) "FaultRulesModel" "sorts" "[I" ∈ xT := x_t3 rfl (i := 229) rfl
theorem kF_Model_44 : Cond.fieldLink "FaultRulesModel" (44 : Nat) "FaultRulesModel" "firsts" "[I" ∈ xT := x_t3 rfl (i := 230) rfl
theorem kF_Model_53 : Cond.fieldLink "FaultRulesModel" (53 : Nat) "FaultRulesModel" "numbers" "[I" ∈ xT := x_t3 rfl (i := 233) rfl
theorem kM_Model_182 : Cond.methodLink "FaultRulesModel" (182 : Nat) ({ cls := "FaultRulesModel", name := "passesPoint", desc := "()Z" } : Jvm.MethodName) ∈ xT := x_t4 rfl (i := 186) rfl
theorem kI_Model_passesPoint : Cond.instanceMethod ({ cls := "FaultRulesModel", name := "passesPoint", desc := "()Z" } : Jvm.MethodName) ∈ xT := x_t4 rfl (i := 188) rfl
theorem kS_459 : Cond.selects "FaultRulesModel" ({ cls := "FaultRulesModel", name := "passesPoint", desc := "()Z" } : Jvm.MethodName) ({ cls := "FaultRulesModel", name := "passesPoint", desc := "()Z" } : Jvm.MethodName) ∈ xT := x_tp rfl (i := 43) rfl
theorem kM_Model_186 : Cond.methodLink "FaultRulesModel" (186 : Nat) ({ cls := "FaultRulesModel", name := "said", desc := "()I" } : Jvm.MethodName) ∈ xT := x_t4 rfl (i := 190) rfl
theorem kI_Model_said : Cond.instanceMethod ({ cls := "FaultRulesModel", name := "said", desc := "()I" } : Jvm.MethodName) ∈ xT := x_t4 rfl (i := 192) rfl
theorem kS_462 : Cond.selects "FaultRulesModel" ({ cls := "FaultRulesModel", name := "said", desc := "()I" } : Jvm.MethodName) ({ cls := "FaultRulesModel", name := "said", desc := "()I" } : Jvm.MethodName) ∈ xT := x_tp rfl (i := 44) rfl
theorem kM_Model_190 : Cond.methodLink "FaultRulesModel" (190 : Nat) ({ cls := "FaultRulesModel", name := "passesNumber", desc := "(JJ)Z" } : Jvm.MethodName) ∈ xT := x_t4 rfl (i := 194) rfl
theorem kI_Model_passesNumber : Cond.instanceMethod ({ cls := "FaultRulesModel", name := "passesNumber", desc := "(JJ)Z" } : Jvm.MethodName) ∈ xT := x_t4 rfl (i := 196) rfl
theorem kS_465 : Cond.selects "FaultRulesModel" ({ cls := "FaultRulesModel", name := "passesNumber", desc := "(JJ)Z" } : Jvm.MethodName) ({ cls := "FaultRulesModel", name := "passesNumber", desc := "(JJ)Z" } : Jvm.MethodName) ∈ xT := x_tp rfl (i := 45) rfl
abbrev y_Model_readsTest : MethodName := { cls := "FaultRulesModel", name := "readsTest", desc := "(I)Z" }
theorem kC_Model_readsTest : Cond.code ({ cls := "FaultRulesModel", name := "readsTest", desc := "(I)Z" } : Jvm.MethodName) prog_9_method_26_code (3 : Nat) (Option.some Jvm.ClassFile.FieldType.boolean) ∈ xT := x_t4 rfl (i := 181) rfl
theorem hd_Model_readsTest : y_Model_readsTest.cls ≠ "java/lang/invoke/MethodHandle" ∧ y_Model_readsTest.cls ≠ "java/lang/invoke/VarHandle" ∧ (parseMethodDescriptor y_Model_readsTest.desc).map (fun d => d.parameters.length) = some 1 := by decide +kernel
theorem d_Model_readsTest_0 : decode prog_9_method_26_code 0 = .ok (.aload_n 0, 1) := by decide +kernel
theorem d_Model_readsTest_1 : decode prog_9_method_26_code 1 = .ok (.iconst 0, 1) := by decide +kernel
theorem d_Model_readsTest_2 : decode prog_9_method_26_code 2 = .ok (.ldc2_w 194, 3) := by decide +kernel
theorem d_Model_readsTest_5 : decode prog_9_method_26_code 5 = .ok (.invokevirtual 171, 3) := by decide +kernel
theorem d_Model_readsTest_8 : decode prog_9_method_26_code 8 = .ok (.ifCond .eq 10, 3) := by decide +kernel
theorem d_Model_readsTest_11 : decode prog_9_method_26_code 11 = .ok (.aload_n 0, 1) := by decide +kernel
theorem d_Model_readsTest_12 : decode prog_9_method_26_code 12 = .ok (.iload_n 1, 1) := by decide +kernel
theorem d_Model_readsTest_13 : decode prog_9_method_26_code 13 = .ok (.iconst 2, 1) := by decide +kernel
theorem d_Model_readsTest_14 : decode prog_9_method_26_code 14 = .ok (.invokevirtual 196, 3) := by decide +kernel
theorem d_Model_readsTest_17 : decode prog_9_method_26_code 17 = .ok (.ireturn, 1) := by decide +kernel
theorem d_Model_readsTest_18 : decode prog_9_method_26_code 18 = .ok (.aload_n 0, 1) := by decide +kernel
theorem d_Model_readsTest_19 : decode prog_9_method_26_code 19 = .ok (.iconst 0, 1) := by decide +kernel
theorem d_Model_readsTest_20 : decode prog_9_method_26_code 20 = .ok (.ldc2_w 200, 3) := by decide +kernel
theorem d_Model_readsTest_23 : decode prog_9_method_26_code 23 = .ok (.invokevirtual 171, 3) := by decide +kernel
theorem d_Model_readsTest_26 : decode prog_9_method_26_code 26 = .ok (.ifCond .eq 10, 3) := by decide +kernel
theorem d_Model_readsTest_29 : decode prog_9_method_26_code 29 = .ok (.aload_n 0, 1) := by decide +kernel
theorem d_Model_readsTest_30 : decode prog_9_method_26_code 30 = .ok (.iload_n 1, 1) := by decide +kernel
theorem d_Model_readsTest_31 : decode prog_9_method_26_code 31 = .ok (.iconst 3, 1) := by decide +kernel
theorem d_Model_readsTest_32 : decode prog_9_method_26_code 32 = .ok (.invokevirtual 196, 3) := by decide +kernel
theorem d_Model_readsTest_35 : decode prog_9_method_26_code 35 = .ok (.ireturn, 1) := by decide +kernel
theorem d_Model_readsTest_36 : decode prog_9_method_26_code 36 = .ok (.aload_n 0, 1) := by decide +kernel
theorem d_Model_readsTest_37 : decode prog_9_method_26_code 37 = .ok (.iconst 0, 1) := by decide +kernel
theorem d_Model_readsTest_38 : decode prog_9_method_26_code 38 = .ok (.ldc2_w 202, 3) := by decide +kernel
theorem d_Model_readsTest_41 : decode prog_9_method_26_code 41 = .ok (.invokevirtual 171, 3) := by decide +kernel
theorem d_Model_readsTest_44 : decode prog_9_method_26_code 44 = .ok (.ifCond .eq 10, 3) := by decide +kernel
theorem d_Model_readsTest_47 : decode prog_9_method_26_code 47 = .ok (.aload_n 0, 1) := by decide +kernel
theorem d_Model_readsTest_48 : decode prog_9_method_26_code 48 = .ok (.iload_n 1, 1) := by decide +kernel
theorem d_Model_readsTest_49 : decode prog_9_method_26_code 49 = .ok (.iconst 4, 1) := by decide +kernel
theorem d_Model_readsTest_50 : decode prog_9_method_26_code 50 = .ok (.invokevirtual 196, 3) := by decide +kernel
theorem d_Model_readsTest_53 : decode prog_9_method_26_code 53 = .ok (.ireturn, 1) := by decide +kernel
theorem d_Model_readsTest_54 : decode prog_9_method_26_code 54 = .ok (.aload_n 0, 1) := by decide +kernel
theorem d_Model_readsTest_55 : decode prog_9_method_26_code 55 = .ok (.invokevirtual 182, 3) := by decide +kernel
theorem d_Model_readsTest_58 : decode prog_9_method_26_code 58 = .ok (.ifCond .ne 5, 3) := by decide +kernel
theorem d_Model_readsTest_61 : decode prog_9_method_26_code 61 = .ok (.iconst 0, 1) := by decide +kernel
theorem d_Model_readsTest_62 : decode prog_9_method_26_code 62 = .ok (.ireturn, 1) := by decide +kernel
theorem d_Model_readsTest_63 : decode prog_9_method_26_code 63 = .ok (.aload_n 0, 1) := by decide +kernel
theorem d_Model_readsTest_64 : decode prog_9_method_26_code 64 = .ok (.getfield 44, 3) := by decide +kernel
theorem d_Model_readsTest_67 : decode prog_9_method_26_code 67 = .ok (.iload_n 1, 1) := by decide +kernel
theorem d_Model_readsTest_68 : decode prog_9_method_26_code 68 = .ok (.aload_n 0, 1) := by decide +kernel
theorem d_Model_readsTest_69 : decode prog_9_method_26_code 69 = .ok (.invokevirtual 186, 3) := by decide +kernel
theorem d_Model_readsTest_72 : decode prog_9_method_26_code 72 = .ok (.iastore, 1) := by decide +kernel
theorem d_Model_readsTest_73 : decode prog_9_method_26_code 73 = .ok (.aload_n 0, 1) := by decide +kernel
theorem d_Model_readsTest_74 : decode prog_9_method_26_code 74 = .ok (.getfield 41, 3) := by decide +kernel
theorem d_Model_readsTest_77 : decode prog_9_method_26_code 77 = .ok (.iload_n 1, 1) := by decide +kernel
theorem d_Model_readsTest_78 : decode prog_9_method_26_code 78 = .ok (.iconst 0, 1) := by decide +kernel
theorem d_Model_readsTest_79 : decode prog_9_method_26_code 79 = .ok (.iastore, 1) := by decide +kernel
theorem d_Model_readsTest_80 : decode prog_9_method_26_code 80 = .ok (.aload_n 0, 1) := by decide +kernel
theorem d_Model_readsTest_81 : decode prog_9_method_26_code 81 = .ok (.iconst 3, 1) := by decide +kernel
theorem d_Model_readsTest_82 : decode prog_9_method_26_code 82 = .ok (.ldc2_w 204, 3) := by decide +kernel
theorem d_Model_readsTest_85 : decode prog_9_method_26_code 85 = .ok (.invokevirtual 171, 3) := by decide +kernel
theorem d_Model_readsTest_88 : decode prog_9_method_26_code 88 = .ok (.ifCond .eq 29, 3) := by decide +kernel
theorem d_Model_readsTest_91 : decode prog_9_method_26_code 91 = .ok (.aload_n 0, 1) := by decide +kernel
theorem d_Model_readsTest_92 : decode prog_9_method_26_code 92 = .ok (.getfield 41, 3) := by decide +kernel
theorem d_Model_readsTest_95 : decode prog_9_method_26_code 95 = .ok (.iload_n 1, 1) := by decide +kernel
theorem d_Model_readsTest_96 : decode prog_9_method_26_code 96 = .ok (.iconst 1, 1) := by decide +kernel
theorem d_Model_readsTest_97 : decode prog_9_method_26_code 97 = .ok (.iastore, 1) := by decide +kernel
theorem d_Model_readsTest_98 : decode prog_9_method_26_code 98 = .ok (.aload_n 0, 1) := by decide +kernel
theorem d_Model_readsTest_99 : decode prog_9_method_26_code 99 = .ok (.invokevirtual 182, 3) := by decide +kernel
theorem d_Model_readsTest_102 : decode prog_9_method_26_code 102 = .ok (.ifCond .ne 5, 3) := by decide +kernel
theorem d_Model_readsTest_105 : decode prog_9_method_26_code 105 = .ok (.iconst 0, 1) := by decide +kernel
theorem d_Model_readsTest_106 : decode prog_9_method_26_code 106 = .ok (.ireturn, 1) := by decide +kernel
theorem d_Model_readsTest_107 : decode prog_9_method_26_code 107 = .ok (.aload_n 0, 1) := by decide +kernel
theorem d_Model_readsTest_108 : decode prog_9_method_26_code 108 = .ok (.getfield 47, 3) := by decide +kernel
theorem d_Model_readsTest_111 : decode prog_9_method_26_code 111 = .ok (.iload_n 1, 1) := by decide +kernel
theorem d_Model_readsTest_112 : decode prog_9_method_26_code 112 = .ok (.aload_n 0, 1) := by decide +kernel
theorem d_Model_readsTest_113 : decode prog_9_method_26_code 113 = .ok (.invokevirtual 186, 3) := by decide +kernel
theorem d_Model_readsTest_116 : decode prog_9_method_26_code 116 = .ok (.iastore, 1) := by decide +kernel
theorem d_Model_readsTest_117 : decode prog_9_method_26_code 117 = .ok (.aload_n 0, 1) := by decide +kernel
theorem d_Model_readsTest_118 : decode prog_9_method_26_code 118 = .ok (.getfield 50, 3) := by decide +kernel
theorem d_Model_readsTest_121 : decode prog_9_method_26_code 121 = .ok (.iload_n 1, 1) := by decide +kernel
theorem d_Model_readsTest_122 : decode prog_9_method_26_code 122 = .ok (.aload_n 0, 1) := by decide +kernel
theorem d_Model_readsTest_123 : decode prog_9_method_26_code 123 = .ok (.invokevirtual 206, 3) := by decide +kernel
theorem d_Model_readsTest_126 : decode prog_9_method_26_code 126 = .ok (.iastore, 1) := by decide +kernel
theorem d_Model_readsTest_127 : decode prog_9_method_26_code 127 = .ok (.aload_n 0, 1) := by decide +kernel
theorem d_Model_readsTest_128 : decode prog_9_method_26_code 128 = .ok (.getfield 50, 3) := by decide +kernel
theorem d_Model_readsTest_131 : decode prog_9_method_26_code 131 = .ok (.iload_n 1, 1) := by decide +kernel
theorem d_Model_readsTest_132 : decode prog_9_method_26_code 132 = .ok (.iaload, 1) := by decide +kernel
theorem d_Model_readsTest_133 : decode prog_9_method_26_code 133 = .ok (.ifCond .ge 5, 3) := by decide +kernel
theorem d_Model_readsTest_136 : decode prog_9_method_26_code 136 = .ok (.iconst 0, 1) := by decide +kernel
theorem d_Model_readsTest_137 : decode prog_9_method_26_code 137 = .ok (.ireturn, 1) := by decide +kernel
theorem d_Model_readsTest_138 : decode prog_9_method_26_code 138 = .ok (.aload_n 0, 1) := by decide +kernel
theorem d_Model_readsTest_139 : decode prog_9_method_26_code 139 = .ok (.iconst 3, 1) := by decide +kernel
theorem d_Model_readsTest_140 : decode prog_9_method_26_code 140 = .ok (.ldc2_w 204, 3) := by decide +kernel
theorem d_Model_readsTest_143 : decode prog_9_method_26_code 143 = .ok (.invokevirtual 171, 3) := by decide +kernel
theorem d_Model_readsTest_146 : decode prog_9_method_26_code 146 = .ok (.istore_n 2, 1) := by decide +kernel
theorem d_Model_readsTest_147 : decode prog_9_method_26_code 147 = .ok (.aload_n 0, 1) := by decide +kernel
theorem d_Model_readsTest_148 : decode prog_9_method_26_code 148 = .ok (.lconst 0, 1) := by decide +kernel
theorem d_Model_readsTest_149 : decode prog_9_method_26_code 149 = .ok (.ldc2_w 110, 3) := by decide +kernel
theorem d_Model_readsTest_152 : decode prog_9_method_26_code 152 = .ok (.invokevirtual 190, 3) := by decide +kernel
theorem d_Model_readsTest_155 : decode prog_9_method_26_code 155 = .ok (.ifCond .ne 5, 3) := by decide +kernel
theorem d_Model_readsTest_158 : decode prog_9_method_26_code 158 = .ok (.iconst 0, 1) := by decide +kernel
theorem d_Model_readsTest_159 : decode prog_9_method_26_code 159 = .ok (.ireturn, 1) := by decide +kernel
theorem d_Model_readsTest_160 : decode prog_9_method_26_code 160 = .ok (.aload_n 0, 1) := by decide +kernel
theorem d_Model_readsTest_161 : decode prog_9_method_26_code 161 = .ok (.getfield 53, 3) := by decide +kernel
theorem d_Model_readsTest_164 : decode prog_9_method_26_code 164 = .ok (.iload_n 1, 1) := by decide +kernel
theorem d_Model_readsTest_165 : decode prog_9_method_26_code 165 = .ok (.iload_n 2, 1) := by decide +kernel
theorem d_Model_readsTest_166 : decode prog_9_method_26_code 166 = .ok (.ifCond .eq 11, 3) := by decide +kernel
theorem d_Model_readsTest_169 : decode prog_9_method_26_code 169 = .ok (.aload_n 0, 1) := by decide +kernel
theorem d_Model_readsTest_170 : decode prog_9_method_26_code 170 = .ok (.invokevirtual 186, 3) := by decide +kernel
theorem d_Model_readsTest_173 : decode prog_9_method_26_code 173 = .ok (.ineg, 1) := by decide +kernel
theorem d_Model_readsTest_174 : decode prog_9_method_26_code 174 = .ok (.goto 7, 3) := by decide +kernel
theorem d_Model_readsTest_177 : decode prog_9_method_26_code 177 = .ok (.aload_n 0, 1) := by decide +kernel
theorem d_Model_readsTest_178 : decode prog_9_method_26_code 178 = .ok (.invokevirtual 186, 3) := by decide +kernel
theorem d_Model_readsTest_181 : decode prog_9_method_26_code 181 = .ok (.iastore, 1) := by decide +kernel
theorem d_Model_readsTest_182 : decode prog_9_method_26_code 182 = .ok (.iconst 1, 1) := by decide +kernel
theorem d_Model_readsTest_183 : decode prog_9_method_26_code 183 = .ok (.ireturn, 1) := by decide +kernel
theorem kK_Model_194 : Cond.constantLong "FaultRulesModel" (194 : Nat) (8319403481517522944 : Int64) ∈ xT := x_t4 rfl (i := 170) rfl
theorem kK_Model_200 : Cond.constantLong "FaultRulesModel" (200 : Nat) (7671157868099272704 : Int64) ∈ xT := x_t4 rfl (i := 171) rfl
theorem kK_Model_202 : Cond.constantLong "FaultRulesModel" (202 : Nat) (8316297369816924160 : Int64) ∈ xT := x_t4 rfl (i := 172) rfl
theorem kK_Model_204 : Cond.constantLong "FaultRulesModel" (204 : Nat) (45 : Int64) ∈ xT := x_t4 rfl (i := 198) rfl
theorem kF_Model_50 : Cond.fieldLink "FaultRulesModel" (50 : Nat) "FaultRulesModel" "relations" "[I" ∈ xT := x_t3 rfl (i := 232) rfl
theorem kF_Model_47 : Cond.fieldLink "FaultRulesModel" (47 : Nat) "FaultRulesModel" "seconds" "[I" ∈ xT := x_t3 rfl (i := 231) rfl
theorem kM_Model_206 : Cond.methodLink "FaultRulesModel" (206 : Nat) ({ cls := "FaultRulesModel", name := "passedRelation", desc := "()I" } : Jvm.MethodName) ∈ xT := x_t4 rfl (i := 199) rfl
theorem kI_Model_passedRelation : Cond.instanceMethod ({ cls := "FaultRulesModel", name := "passedRelation", desc := "()I" } : Jvm.MethodName) ∈ xT := x_t4 rfl (i := 201) rfl
theorem kS_475 : Cond.selects "FaultRulesModel" ({ cls := "FaultRulesModel", name := "passedRelation", desc := "()I" } : Jvm.MethodName) ({ cls := "FaultRulesModel", name := "passedRelation", desc := "()I" } : Jvm.MethodName) ∈ xT := x_tp rfl (i := 46) rfl
theorem kM_Model_196 : Cond.methodLink "FaultRulesModel" (196 : Nat) ({ cls := "FaultRulesModel", name := "readsAge", desc := "(II)Z" } : Jvm.MethodName) ∈ xT := x_t4 rfl (i := 182) rfl
theorem kI_Model_readsAge : Cond.instanceMethod ({ cls := "FaultRulesModel", name := "readsAge", desc := "(II)Z" } : Jvm.MethodName) ∈ xT := x_t4 rfl (i := 184) rfl
theorem kS_478 : Cond.selects "FaultRulesModel" ({ cls := "FaultRulesModel", name := "readsAge", desc := "(II)Z" } : Jvm.MethodName) ({ cls := "FaultRulesModel", name := "readsAge", desc := "(II)Z" } : Jvm.MethodName) ∈ xT := x_tp rfl (i := 42) rfl
abbrev y_Model_readsName : MethodName := { cls := "FaultRulesModel", name := "readsName", desc := "(I)Z" }
theorem kC_Model_readsName : Cond.code ({ cls := "FaultRulesModel", name := "readsName", desc := "(I)Z" } : Jvm.MethodName) prog_9_method_27_code (3 : Nat) (Option.some Jvm.ClassFile.FieldType.boolean) ∈ xT := x_t4 rfl (i := 163) rfl
theorem hd_Model_readsName : y_Model_readsName.cls ≠ "java/lang/invoke/MethodHandle" ∧ y_Model_readsName.cls ≠ "java/lang/invoke/VarHandle" ∧ (parseMethodDescriptor y_Model_readsName.desc).map (fun d => d.parameters.length) = some 1 := by decide +kernel
theorem d_Model_readsName_0 : decode prog_9_method_27_code 0 = .ok (.aload_n 0, 1) := by decide +kernel
theorem d_Model_readsName_1 : decode prog_9_method_27_code 1 = .ok (.getfield 162, 3) := by decide +kernel
theorem d_Model_readsName_4 : decode prog_9_method_27_code 4 = .ok (.aload_n 0, 1) := by decide +kernel
theorem d_Model_readsName_5 : decode prog_9_method_27_code 5 = .ok (.getfield 125, 3) := by decide +kernel
theorem d_Model_readsName_8 : decode prog_9_method_27_code 8 = .ok (.if_icmp .ge 70, 3) := by decide +kernel
theorem d_Model_readsName_11 : decode prog_9_method_27_code 11 = .ok (.aload_n 0, 1) := by decide +kernel
theorem d_Model_readsName_12 : decode prog_9_method_27_code 12 = .ok (.getfield 22, 3) := by decide +kernel
theorem d_Model_readsName_15 : decode prog_9_method_27_code 15 = .ok (.aload_n 0, 1) := by decide +kernel
theorem d_Model_readsName_16 : decode prog_9_method_27_code 16 = .ok (.getfield 162, 3) := by decide +kernel
theorem d_Model_readsName_19 : decode prog_9_method_27_code 19 = .ok (.iaload, 1) := by decide +kernel
theorem d_Model_readsName_20 : decode prog_9_method_27_code 20 = .ok (.ifCond .ne 58, 3) := by decide +kernel
theorem d_Model_readsName_23 : decode prog_9_method_27_code 23 = .ok (.aload_n 0, 1) := by decide +kernel
theorem d_Model_readsName_24 : decode prog_9_method_27_code 24 = .ok (.iconst 0, 1) := by decide +kernel
theorem d_Model_readsName_25 : decode prog_9_method_27_code 25 = .ok (.ldc2_w 209, 3) := by decide +kernel
theorem d_Model_readsName_28 : decode prog_9_method_27_code 28 = .ok (.invokevirtual 165, 3) := by decide +kernel
theorem d_Model_readsName_31 : decode prog_9_method_27_code 31 = .ok (.ifCond .ne 47, 3) := by decide +kernel
theorem d_Model_readsName_34 : decode prog_9_method_27_code 34 = .ok (.aload_n 0, 1) := by decide +kernel
theorem d_Model_readsName_35 : decode prog_9_method_27_code 35 = .ok (.iconst 0, 1) := by decide +kernel
theorem d_Model_readsName_36 : decode prog_9_method_27_code 36 = .ok (.ldc2_w 211, 3) := by decide +kernel
theorem d_Model_readsName_39 : decode prog_9_method_27_code 39 = .ok (.invokevirtual 165, 3) := by decide +kernel
theorem d_Model_readsName_42 : decode prog_9_method_27_code 42 = .ok (.ifCond .ne 36, 3) := by decide +kernel
theorem d_Model_readsName_45 : decode prog_9_method_27_code 45 = .ok (.aload_n 0, 1) := by decide +kernel
theorem d_Model_readsName_46 : decode prog_9_method_27_code 46 = .ok (.iconst 0, 1) := by decide +kernel
theorem d_Model_readsName_47 : decode prog_9_method_27_code 47 = .ok (.ldc2_w 194, 3) := by decide +kernel
theorem d_Model_readsName_50 : decode prog_9_method_27_code 50 = .ok (.invokevirtual 165, 3) := by decide +kernel
theorem d_Model_readsName_53 : decode prog_9_method_27_code 53 = .ok (.ifCond .ne 25, 3) := by decide +kernel
theorem d_Model_readsName_56 : decode prog_9_method_27_code 56 = .ok (.aload_n 0, 1) := by decide +kernel
theorem d_Model_readsName_57 : decode prog_9_method_27_code 57 = .ok (.iconst 0, 1) := by decide +kernel
theorem d_Model_readsName_58 : decode prog_9_method_27_code 58 = .ok (.ldc2_w 200, 3) := by decide +kernel
theorem d_Model_readsName_61 : decode prog_9_method_27_code 61 = .ok (.invokevirtual 165, 3) := by decide +kernel
theorem d_Model_readsName_64 : decode prog_9_method_27_code 64 = .ok (.ifCond .ne 14, 3) := by decide +kernel
theorem d_Model_readsName_67 : decode prog_9_method_27_code 67 = .ok (.aload_n 0, 1) := by decide +kernel
theorem d_Model_readsName_68 : decode prog_9_method_27_code 68 = .ok (.iconst 0, 1) := by decide +kernel
theorem d_Model_readsName_69 : decode prog_9_method_27_code 69 = .ok (.ldc2_w 202, 3) := by decide +kernel
theorem d_Model_readsName_72 : decode prog_9_method_27_code 72 = .ok (.invokevirtual 165, 3) := by decide +kernel
theorem d_Model_readsName_75 : decode prog_9_method_27_code 75 = .ok (.ifCond .eq 5, 3) := by decide +kernel
theorem d_Model_readsName_78 : decode prog_9_method_27_code 78 = .ok (.iconst 0, 1) := by decide +kernel
theorem d_Model_readsName_79 : decode prog_9_method_27_code 79 = .ok (.ireturn, 1) := by decide +kernel
theorem d_Model_readsName_80 : decode prog_9_method_27_code 80 = .ok (.bipush 6, 2) := by decide +kernel
theorem d_Model_readsName_82 : decode prog_9_method_27_code 82 = .ok (.istore_n 2, 1) := by decide +kernel
theorem d_Model_readsName_83 : decode prog_9_method_27_code 83 = .ok (.iload_n 2, 1) := by decide +kernel
theorem d_Model_readsName_84 : decode prog_9_method_27_code 84 = .ok (.iload_n 1, 1) := by decide +kernel
theorem d_Model_readsName_85 : decode prog_9_method_27_code 85 = .ok (.if_icmp .ge 30, 3) := by decide +kernel
theorem d_Model_readsName_88 : decode prog_9_method_27_code 88 = .ok (.aload_n 0, 1) := by decide +kernel
theorem d_Model_readsName_89 : decode prog_9_method_27_code 89 = .ok (.getfield 29, 3) := by decide +kernel
theorem d_Model_readsName_92 : decode prog_9_method_27_code 92 = .ok (.iload_n 2, 1) := by decide +kernel
theorem d_Model_readsName_93 : decode prog_9_method_27_code 93 = .ok (.laload, 1) := by decide +kernel
theorem d_Model_readsName_94 : decode prog_9_method_27_code 94 = .ok (.aload_n 0, 1) := by decide +kernel
theorem d_Model_readsName_95 : decode prog_9_method_27_code 95 = .ok (.getfield 25, 3) := by decide +kernel
theorem d_Model_readsName_98 : decode prog_9_method_27_code 98 = .ok (.aload_n 0, 1) := by decide +kernel
theorem d_Model_readsName_99 : decode prog_9_method_27_code 99 = .ok (.getfield 162, 3) := by decide +kernel
theorem d_Model_readsName_102 : decode prog_9_method_27_code 102 = .ok (.laload, 1) := by decide +kernel
theorem d_Model_readsName_103 : decode prog_9_method_27_code 103 = .ok (.lcmp, 1) := by decide +kernel
theorem d_Model_readsName_104 : decode prog_9_method_27_code 104 = .ok (.ifCond .ne 5, 3) := by decide +kernel
theorem d_Model_readsName_107 : decode prog_9_method_27_code 107 = .ok (.iconst 0, 1) := by decide +kernel
theorem d_Model_readsName_108 : decode prog_9_method_27_code 108 = .ok (.ireturn, 1) := by decide +kernel
theorem d_Model_readsName_109 : decode prog_9_method_27_code 109 = .ok (.iinc 2 1, 3) := by decide +kernel
theorem d_Model_readsName_112 : decode prog_9_method_27_code 112 = .ok (.goto (-29), 3) := by decide +kernel
theorem d_Model_readsName_115 : decode prog_9_method_27_code 115 = .ok (.aload_n 0, 1) := by decide +kernel
theorem d_Model_readsName_116 : decode prog_9_method_27_code 116 = .ok (.getfield 29, 3) := by decide +kernel
theorem d_Model_readsName_119 : decode prog_9_method_27_code 119 = .ok (.iload_n 1, 1) := by decide +kernel
theorem d_Model_readsName_120 : decode prog_9_method_27_code 120 = .ok (.aload_n 0, 1) := by decide +kernel
theorem d_Model_readsName_121 : decode prog_9_method_27_code 121 = .ok (.getfield 25, 3) := by decide +kernel
theorem d_Model_readsName_124 : decode prog_9_method_27_code 124 = .ok (.aload_n 0, 1) := by decide +kernel
theorem d_Model_readsName_125 : decode prog_9_method_27_code 125 = .ok (.getfield 162, 3) := by decide +kernel
theorem d_Model_readsName_128 : decode prog_9_method_27_code 128 = .ok (.laload, 1) := by decide +kernel
theorem d_Model_readsName_129 : decode prog_9_method_27_code 129 = .ok (.lastore, 1) := by decide +kernel
theorem d_Model_readsName_130 : decode prog_9_method_27_code 130 = .ok (.aload_n 0, 1) := by decide +kernel
theorem d_Model_readsName_131 : decode prog_9_method_27_code 131 = .ok (.dup, 1) := by decide +kernel
theorem d_Model_readsName_132 : decode prog_9_method_27_code 132 = .ok (.getfield 162, 3) := by decide +kernel
theorem d_Model_readsName_135 : decode prog_9_method_27_code 135 = .ok (.iconst 1, 1) := by decide +kernel
theorem d_Model_readsName_136 : decode prog_9_method_27_code 136 = .ok (.iadd, 1) := by decide +kernel
theorem d_Model_readsName_137 : decode prog_9_method_27_code 137 = .ok (.putfield 162, 3) := by decide +kernel
theorem d_Model_readsName_140 : decode prog_9_method_27_code 140 = .ok (.iconst 1, 1) := by decide +kernel
theorem d_Model_readsName_141 : decode prog_9_method_27_code 141 = .ok (.ireturn, 1) := by decide +kernel
theorem kK_Model_209 : Cond.constantLong "FaultRulesModel" (209 : Nat) (7381243658609098752 : Int64) ∈ xT := x_t4 rfl (i := 164) rfl
theorem kK_Model_211 : Cond.constantLong "FaultRulesModel" (211 : Nat) (7165072476152528896 : Int64) ∈ xT := x_t4 rfl (i := 169) rfl
theorem kF_Model_29 : Cond.fieldLink "FaultRulesModel" (29 : Nat) "FaultRulesModel" "names" "[J" ∈ xT := x_t3 rfl (i := 225) rfl
abbrev y_Model_readsRule : MethodName := { cls := "FaultRulesModel", name := "readsRule", desc := "(I)Z" }
theorem kC_Model_readsRule : Cond.code ({ cls := "FaultRulesModel", name := "readsRule", desc := "(I)Z" } : Jvm.MethodName) prog_9_method_28_code (3 : Nat) (Option.some Jvm.ClassFile.FieldType.boolean) ∈ xT := x_t4 rfl (i := 159) rfl
theorem hd_Model_readsRule : y_Model_readsRule.cls ≠ "java/lang/invoke/MethodHandle" ∧ y_Model_readsRule.cls ≠ "java/lang/invoke/VarHandle" ∧ (parseMethodDescriptor y_Model_readsRule.desc).map (fun d => d.parameters.length) = some 1 := by decide +kernel
theorem d_Model_readsRule_0 : decode prog_9_method_28_code 0 = .ok (.aload_n 0, 1) := by decide +kernel
theorem d_Model_readsRule_1 : decode prog_9_method_28_code 1 = .ok (.iload_n 1, 1) := by decide +kernel
theorem d_Model_readsRule_2 : decode prog_9_method_28_code 2 = .ok (.invokevirtual 213, 3) := by decide +kernel
theorem d_Model_readsRule_5 : decode prog_9_method_28_code 5 = .ok (.ifCond .eq 14, 3) := by decide +kernel
theorem d_Model_readsRule_8 : decode prog_9_method_28_code 8 = .ok (.aload_n 0, 1) := by decide +kernel
theorem d_Model_readsRule_9 : decode prog_9_method_28_code 9 = .ok (.iconst 3, 1) := by decide +kernel
theorem d_Model_readsRule_10 : decode prog_9_method_28_code 10 = .ok (.ldc2_w 216, 3) := by decide +kernel
theorem d_Model_readsRule_13 : decode prog_9_method_28_code 13 = .ok (.invokevirtual 171, 3) := by decide +kernel
theorem d_Model_readsRule_16 : decode prog_9_method_28_code 16 = .ok (.ifCond .ne 5, 3) := by decide +kernel
theorem d_Model_readsRule_19 : decode prog_9_method_28_code 19 = .ok (.iconst 0, 1) := by decide +kernel
theorem d_Model_readsRule_20 : decode prog_9_method_28_code 20 = .ok (.ireturn, 1) := by decide +kernel
theorem d_Model_readsRule_21 : decode prog_9_method_28_code 21 = .ok (.aload_n 0, 1) := by decide +kernel
theorem d_Model_readsRule_22 : decode prog_9_method_28_code 22 = .ok (.getfield 32, 3) := by decide +kernel
theorem d_Model_readsRule_25 : decode prog_9_method_28_code 25 = .ok (.iload_n 1, 1) := by decide +kernel
theorem d_Model_readsRule_26 : decode prog_9_method_28_code 26 = .ok (.iconst 0, 1) := by decide +kernel
theorem d_Model_readsRule_27 : decode prog_9_method_28_code 27 = .ok (.iastore, 1) := by decide +kernel
theorem d_Model_readsRule_28 : decode prog_9_method_28_code 28 = .ok (.iconst 1, 1) := by decide +kernel
theorem d_Model_readsRule_29 : decode prog_9_method_28_code 29 = .ok (.istore_n 2, 1) := by decide +kernel
theorem d_Model_readsRule_30 : decode prog_9_method_28_code 30 = .ok (.iload_n 2, 1) := by decide +kernel
theorem d_Model_readsRule_31 : decode prog_9_method_28_code 31 = .ok (.ifCond .eq 64, 3) := by decide +kernel
theorem d_Model_readsRule_34 : decode prog_9_method_28_code 34 = .ok (.aload_n 0, 1) := by decide +kernel
theorem d_Model_readsRule_35 : decode prog_9_method_28_code 35 = .ok (.bipush 6, 2) := by decide +kernel
theorem d_Model_readsRule_37 : decode prog_9_method_28_code 37 = .ok (.iload_n 1, 1) := by decide +kernel
theorem d_Model_readsRule_38 : decode prog_9_method_28_code 38 = .ok (.imul, 1) := by decide +kernel
theorem d_Model_readsRule_39 : decode prog_9_method_28_code 39 = .ok (.aload_n 0, 1) := by decide +kernel
theorem d_Model_readsRule_40 : decode prog_9_method_28_code 40 = .ok (.getfield 32, 3) := by decide +kernel
theorem d_Model_readsRule_43 : decode prog_9_method_28_code 43 = .ok (.iload_n 1, 1) := by decide +kernel
theorem d_Model_readsRule_44 : decode prog_9_method_28_code 44 = .ok (.iaload, 1) := by decide +kernel
theorem d_Model_readsRule_45 : decode prog_9_method_28_code 45 = .ok (.iadd, 1) := by decide +kernel
theorem d_Model_readsRule_46 : decode prog_9_method_28_code 46 = .ok (.invokevirtual 218, 3) := by decide +kernel
theorem d_Model_readsRule_49 : decode prog_9_method_28_code 49 = .ok (.ifCond .ne 5, 3) := by decide +kernel
theorem d_Model_readsRule_52 : decode prog_9_method_28_code 52 = .ok (.iconst 0, 1) := by decide +kernel
theorem d_Model_readsRule_53 : decode prog_9_method_28_code 53 = .ok (.ireturn, 1) := by decide +kernel
theorem d_Model_readsRule_54 : decode prog_9_method_28_code 54 = .ok (.aload_n 0, 1) := by decide +kernel
theorem d_Model_readsRule_55 : decode prog_9_method_28_code 55 = .ok (.getfield 32, 3) := by decide +kernel
theorem d_Model_readsRule_58 : decode prog_9_method_28_code 58 = .ok (.iload_n 1, 1) := by decide +kernel
theorem d_Model_readsRule_59 : decode prog_9_method_28_code 59 = .ok (.dup2, 1) := by decide +kernel
theorem d_Model_readsRule_60 : decode prog_9_method_28_code 60 = .ok (.iaload, 1) := by decide +kernel
theorem d_Model_readsRule_61 : decode prog_9_method_28_code 61 = .ok (.iconst 1, 1) := by decide +kernel
theorem d_Model_readsRule_62 : decode prog_9_method_28_code 62 = .ok (.iadd, 1) := by decide +kernel
theorem d_Model_readsRule_63 : decode prog_9_method_28_code 63 = .ok (.iastore, 1) := by decide +kernel
theorem d_Model_readsRule_64 : decode prog_9_method_28_code 64 = .ok (.aload_n 0, 1) := by decide +kernel
theorem d_Model_readsRule_65 : decode prog_9_method_28_code 65 = .ok (.getfield 32, 3) := by decide +kernel
theorem d_Model_readsRule_68 : decode prog_9_method_28_code 68 = .ok (.iload_n 1, 1) := by decide +kernel
theorem d_Model_readsRule_69 : decode prog_9_method_28_code 69 = .ok (.iaload, 1) := by decide +kernel
theorem d_Model_readsRule_70 : decode prog_9_method_28_code 70 = .ok (.bipush 6, 2) := by decide +kernel
theorem d_Model_readsRule_72 : decode prog_9_method_28_code 72 = .ok (.if_icmp .ge 18, 3) := by decide +kernel
theorem d_Model_readsRule_75 : decode prog_9_method_28_code 75 = .ok (.aload_n 0, 1) := by decide +kernel
theorem d_Model_readsRule_76 : decode prog_9_method_28_code 76 = .ok (.iconst 3, 1) := by decide +kernel
theorem d_Model_readsRule_77 : decode prog_9_method_28_code 77 = .ok (.ldc2_w 221, 3) := by decide +kernel
theorem d_Model_readsRule_80 : decode prog_9_method_28_code 80 = .ok (.invokevirtual 171, 3) := by decide +kernel
theorem d_Model_readsRule_83 : decode prog_9_method_28_code 83 = .ok (.ifCond .eq 7, 3) := by decide +kernel
theorem d_Model_readsRule_86 : decode prog_9_method_28_code 86 = .ok (.iconst 1, 1) := by decide +kernel
theorem d_Model_readsRule_87 : decode prog_9_method_28_code 87 = .ok (.goto 4, 3) := by decide +kernel
theorem d_Model_readsRule_90 : decode prog_9_method_28_code 90 = .ok (.iconst 0, 1) := by decide +kernel
theorem d_Model_readsRule_91 : decode prog_9_method_28_code 91 = .ok (.istore_n 2, 1) := by decide +kernel
theorem d_Model_readsRule_92 : decode prog_9_method_28_code 92 = .ok (.goto (-62), 3) := by decide +kernel
theorem d_Model_readsRule_95 : decode prog_9_method_28_code 95 = .ok (.aload_n 0, 1) := by decide +kernel
theorem d_Model_readsRule_96 : decode prog_9_method_28_code 96 = .ok (.iconst 0, 1) := by decide +kernel
theorem d_Model_readsRule_97 : decode prog_9_method_28_code 97 = .ok (.ldc2_w 209, 3) := by decide +kernel
theorem d_Model_readsRule_100 : decode prog_9_method_28_code 100 = .ok (.invokevirtual 171, 3) := by decide +kernel
theorem d_Model_readsRule_103 : decode prog_9_method_28_code 103 = .ok (.ifCond .eq 14, 3) := by decide +kernel
theorem d_Model_readsRule_106 : decode prog_9_method_28_code 106 = .ok (.aload_n 0, 1) := by decide +kernel
theorem d_Model_readsRule_107 : decode prog_9_method_28_code 107 = .ok (.lconst 1, 1) := by decide +kernel
theorem d_Model_readsRule_108 : decode prog_9_method_28_code 108 = .ok (.ldc2_w 223, 3) := by decide +kernel
theorem d_Model_readsRule_111 : decode prog_9_method_28_code 111 = .ok (.invokevirtual 190, 3) := by decide +kernel
theorem d_Model_readsRule_114 : decode prog_9_method_28_code 114 = .ok (.ifCond .ne 5, 3) := by decide +kernel
theorem d_Model_readsRule_117 : decode prog_9_method_28_code 117 = .ok (.iconst 0, 1) := by decide +kernel
theorem d_Model_readsRule_118 : decode prog_9_method_28_code 118 = .ok (.ireturn, 1) := by decide +kernel
theorem d_Model_readsRule_119 : decode prog_9_method_28_code 119 = .ok (.aload_n 0, 1) := by decide +kernel
theorem d_Model_readsRule_120 : decode prog_9_method_28_code 120 = .ok (.getfield 35, 3) := by decide +kernel
theorem d_Model_readsRule_123 : decode prog_9_method_28_code 123 = .ok (.iload_n 1, 1) := by decide +kernel
theorem d_Model_readsRule_124 : decode prog_9_method_28_code 124 = .ok (.aload_n 0, 1) := by decide +kernel
theorem d_Model_readsRule_125 : decode prog_9_method_28_code 125 = .ok (.invokevirtual 186, 3) := by decide +kernel
theorem d_Model_readsRule_128 : decode prog_9_method_28_code 128 = .ok (.iastore, 1) := by decide +kernel
theorem d_Model_readsRule_129 : decode prog_9_method_28_code 129 = .ok (.aload_n 0, 1) := by decide +kernel
theorem d_Model_readsRule_130 : decode prog_9_method_28_code 130 = .ok (.iconst 0, 1) := by decide +kernel
theorem d_Model_readsRule_131 : decode prog_9_method_28_code 131 = .ok (.ldc2_w 211, 3) := by decide +kernel
theorem d_Model_readsRule_134 : decode prog_9_method_28_code 134 = .ok (.invokevirtual 171, 3) := by decide +kernel
theorem d_Model_readsRule_137 : decode prog_9_method_28_code 137 = .ok (.ifCond .eq 14, 3) := by decide +kernel
theorem d_Model_readsRule_140 : decode prog_9_method_28_code 140 = .ok (.aload_n 0, 1) := by decide +kernel
theorem d_Model_readsRule_141 : decode prog_9_method_28_code 141 = .ok (.lconst 1, 1) := by decide +kernel
theorem d_Model_readsRule_142 : decode prog_9_method_28_code 142 = .ok (.ldc2_w 223, 3) := by decide +kernel
theorem d_Model_readsRule_145 : decode prog_9_method_28_code 145 = .ok (.invokevirtual 190, 3) := by decide +kernel
theorem d_Model_readsRule_148 : decode prog_9_method_28_code 148 = .ok (.ifCond .ne 5, 3) := by decide +kernel
theorem d_Model_readsRule_151 : decode prog_9_method_28_code 151 = .ok (.iconst 0, 1) := by decide +kernel
theorem d_Model_readsRule_152 : decode prog_9_method_28_code 152 = .ok (.ireturn, 1) := by decide +kernel
theorem d_Model_readsRule_153 : decode prog_9_method_28_code 153 = .ok (.aload_n 0, 1) := by decide +kernel
theorem d_Model_readsRule_154 : decode prog_9_method_28_code 154 = .ok (.getfield 38, 3) := by decide +kernel
theorem d_Model_readsRule_157 : decode prog_9_method_28_code 157 = .ok (.iload_n 1, 1) := by decide +kernel
theorem d_Model_readsRule_158 : decode prog_9_method_28_code 158 = .ok (.aload_n 0, 1) := by decide +kernel
theorem d_Model_readsRule_159 : decode prog_9_method_28_code 159 = .ok (.invokevirtual 186, 3) := by decide +kernel
theorem d_Model_readsRule_162 : decode prog_9_method_28_code 162 = .ok (.iastore, 1) := by decide +kernel
theorem d_Model_readsRule_163 : decode prog_9_method_28_code 163 = .ok (.aload_n 0, 1) := by decide +kernel
theorem d_Model_readsRule_164 : decode prog_9_method_28_code 164 = .ok (.iconst 3, 1) := by decide +kernel
theorem d_Model_readsRule_165 : decode prog_9_method_28_code 165 = .ok (.ldc2_w 225, 3) := by decide +kernel
theorem d_Model_readsRule_168 : decode prog_9_method_28_code 168 = .ok (.invokevirtual 171, 3) := by decide +kernel
theorem d_Model_readsRule_171 : decode prog_9_method_28_code 171 = .ok (.ireturn, 1) := by decide +kernel
theorem kK_Model_216 : Cond.constantLong "FaultRulesModel" (216 : Nat) (58 : Int64) ∈ xT := x_t4 rfl (i := 173) rfl
theorem kF_Model_32 : Cond.fieldLink "FaultRulesModel" (32 : Nat) "FaultRulesModel" "testCounts" "[I" ∈ xT := x_t3 rfl (i := 226) rfl
theorem kK_Model_221 : Cond.constantLong "FaultRulesModel" (221 : Nat) (38 : Int64) ∈ xT := x_t4 rfl (i := 208) rfl
theorem kK_Model_223 : Cond.constantLong "FaultRulesModel" (223 : Nat) (9999 : Int64) ∈ xT := x_t4 rfl (i := 209) rfl
theorem kF_Model_35 : Cond.fieldLink "FaultRulesModel" (35 : Nat) "FaultRulesModel" "minutes" "[I" ∈ xT := x_t3 rfl (i := 227) rfl
theorem kF_Model_38 : Cond.fieldLink "FaultRulesModel" (38 : Nat) "FaultRulesModel" "costs" "[I" ∈ xT := x_t3 rfl (i := 228) rfl
theorem kK_Model_225 : Cond.constantLong "FaultRulesModel" (225 : Nat) (59 : Int64) ∈ xT := x_t4 rfl (i := 210) rfl
theorem kM_Model_213 : Cond.methodLink "FaultRulesModel" (213 : Nat) ({ cls := "FaultRulesModel", name := "readsName", desc := "(I)Z" } : Jvm.MethodName) ∈ xT := x_t4 rfl (i := 160) rfl
theorem kI_Model_readsName : Cond.instanceMethod ({ cls := "FaultRulesModel", name := "readsName", desc := "(I)Z" } : Jvm.MethodName) ∈ xT := x_t4 rfl (i := 162) rfl
theorem kS_493 : Cond.selects "FaultRulesModel" ({ cls := "FaultRulesModel", name := "readsName", desc := "(I)Z" } : Jvm.MethodName) ({ cls := "FaultRulesModel", name := "readsName", desc := "(I)Z" } : Jvm.MethodName) ∈ xT := x_tp rfl (i := 38) rfl
theorem kM_Model_218 : Cond.methodLink "FaultRulesModel" (218 : Nat) ({ cls := "FaultRulesModel", name := "readsTest", desc := "(I)Z" } : Jvm.MethodName) ∈ xT := x_t4 rfl (i := 178) rfl
theorem kI_Model_readsTest : Cond.instanceMethod ({ cls := "FaultRulesModel", name := "readsTest", desc := "(I)Z" } : Jvm.MethodName) ∈ xT := x_t4 rfl (i := 180) rfl
theorem kS_496 : Cond.selects "FaultRulesModel" ({ cls := "FaultRulesModel", name := "readsTest", desc := "(I)Z" } : Jvm.MethodName) ({ cls := "FaultRulesModel", name := "readsTest", desc := "(I)Z" } : Jvm.MethodName) ∈ xT := x_tp rfl (i := 41) rfl
abbrev y_Model_rules : MethodName := { cls := "FaultRulesModel", name := "rules", desc := "()I" }
theorem kC_Model_rules : Cond.code ({ cls := "FaultRulesModel", name := "rules", desc := "()I" } : Jvm.MethodName) prog_9_method_29_code (4 : Nat) (Option.some Jvm.ClassFile.FieldType.int) ∈ xT := x_t4 rfl (i := 120) rfl
theorem hd_Model_rules : y_Model_rules.cls ≠ "java/lang/invoke/MethodHandle" ∧ y_Model_rules.cls ≠ "java/lang/invoke/VarHandle" ∧ (parseMethodDescriptor y_Model_rules.desc).map (fun d => d.parameters.length) = some 0 := by decide +kernel
theorem d_Model_rules_0 : decode prog_9_method_29_code 0 = .ok (.aload_n 0, 1) := by decide +kernel
theorem d_Model_rules_1 : decode prog_9_method_29_code 1 = .ok (.iconst 0, 1) := by decide +kernel
theorem d_Model_rules_2 : decode prog_9_method_29_code 2 = .ok (.putfield 86, 3) := by decide +kernel
theorem d_Model_rules_5 : decode prog_9_method_29_code 5 = .ok (.aload_n 0, 1) := by decide +kernel
theorem d_Model_rules_6 : decode prog_9_method_29_code 6 = .ok (.invokevirtual 227, 3) := by decide +kernel
theorem d_Model_rules_9 : decode prog_9_method_29_code 9 = .ok (.aload_n 0, 1) := by decide +kernel
theorem d_Model_rules_10 : decode prog_9_method_29_code 10 = .ok (.iconst 0, 1) := by decide +kernel
theorem d_Model_rules_11 : decode prog_9_method_29_code 11 = .ok (.putfield 162, 3) := by decide +kernel
theorem d_Model_rules_14 : decode prog_9_method_29_code 14 = .ok (.iconst 0, 1) := by decide +kernel
theorem d_Model_rules_15 : decode prog_9_method_29_code 15 = .ok (.istore_n 1, 1) := by decide +kernel
theorem d_Model_rules_16 : decode prog_9_method_29_code 16 = .ok (.aload_n 0, 1) := by decide +kernel
theorem d_Model_rules_17 : decode prog_9_method_29_code 17 = .ok (.getfield 162, 3) := by decide +kernel
theorem d_Model_rules_20 : decode prog_9_method_29_code 20 = .ok (.aload_n 0, 1) := by decide +kernel
theorem d_Model_rules_21 : decode prog_9_method_29_code 21 = .ok (.getfield 125, 3) := by decide +kernel
theorem d_Model_rules_24 : decode prog_9_method_29_code 24 = .ok (.if_icmp .ge 33, 3) := by decide +kernel
theorem d_Model_rules_27 : decode prog_9_method_29_code 27 = .ok (.iload_n 1, 1) := by decide +kernel
theorem d_Model_rules_28 : decode prog_9_method_29_code 28 = .ok (.bipush 6, 2) := by decide +kernel
theorem d_Model_rules_30 : decode prog_9_method_29_code 30 = .ok (.if_icmp .eq 14, 3) := by decide +kernel
theorem d_Model_rules_33 : decode prog_9_method_29_code 33 = .ok (.aload_n 0, 1) := by decide +kernel
theorem d_Model_rules_34 : decode prog_9_method_29_code 34 = .ok (.bipush 6, 2) := by decide +kernel
theorem d_Model_rules_36 : decode prog_9_method_29_code 36 = .ok (.iload_n 1, 1) := by decide +kernel
theorem d_Model_rules_37 : decode prog_9_method_29_code 37 = .ok (.iadd, 1) := by decide +kernel
theorem d_Model_rules_38 : decode prog_9_method_29_code 38 = .ok (.invokevirtual 230, 3) := by decide +kernel
theorem d_Model_rules_41 : decode prog_9_method_29_code 41 = .ok (.ifCond .ne 10, 3) := by decide +kernel
theorem d_Model_rules_44 : decode prog_9_method_29_code 44 = .ok (.iconst (-1), 1) := by decide +kernel
theorem d_Model_rules_45 : decode prog_9_method_29_code 45 = .ok (.aload_n 0, 1) := by decide +kernel
theorem d_Model_rules_46 : decode prog_9_method_29_code 46 = .ok (.getfield 162, 3) := by decide +kernel
theorem d_Model_rules_49 : decode prog_9_method_29_code 49 = .ok (.isub, 1) := by decide +kernel
theorem d_Model_rules_50 : decode prog_9_method_29_code 50 = .ok (.ireturn, 1) := by decide +kernel
theorem d_Model_rules_51 : decode prog_9_method_29_code 51 = .ok (.iinc 1 1, 3) := by decide +kernel
theorem d_Model_rules_54 : decode prog_9_method_29_code 54 = .ok (.goto (-38), 3) := by decide +kernel
theorem d_Model_rules_57 : decode prog_9_method_29_code 57 = .ok (.iconst 0, 1) := by decide +kernel
theorem d_Model_rules_58 : decode prog_9_method_29_code 58 = .ok (.istore_n 2, 1) := by decide +kernel
theorem d_Model_rules_59 : decode prog_9_method_29_code 59 = .ok (.iload_n 2, 1) := by decide +kernel
theorem d_Model_rules_60 : decode prog_9_method_29_code 60 = .ok (.iload_n 1, 1) := by decide +kernel
theorem d_Model_rules_61 : decode prog_9_method_29_code 61 = .ok (.if_icmp .ge 166, 3) := by decide +kernel
theorem d_Model_rules_64 : decode prog_9_method_29_code 64 = .ok (.aload_n 0, 1) := by decide +kernel
theorem d_Model_rules_65 : decode prog_9_method_29_code 65 = .ok (.getfield 29, 3) := by decide +kernel
theorem d_Model_rules_68 : decode prog_9_method_29_code 68 = .ok (.iload_n 2, 1) := by decide +kernel
theorem d_Model_rules_69 : decode prog_9_method_29_code 69 = .ok (.aload_n 0, 1) := by decide +kernel
theorem d_Model_rules_70 : decode prog_9_method_29_code 70 = .ok (.getfield 29, 3) := by decide +kernel
theorem d_Model_rules_73 : decode prog_9_method_29_code 73 = .ok (.bipush 6, 2) := by decide +kernel
theorem d_Model_rules_75 : decode prog_9_method_29_code 75 = .ok (.iload_n 2, 1) := by decide +kernel
theorem d_Model_rules_76 : decode prog_9_method_29_code 76 = .ok (.iadd, 1) := by decide +kernel
theorem d_Model_rules_77 : decode prog_9_method_29_code 77 = .ok (.laload, 1) := by decide +kernel
theorem d_Model_rules_78 : decode prog_9_method_29_code 78 = .ok (.lastore, 1) := by decide +kernel
theorem d_Model_rules_79 : decode prog_9_method_29_code 79 = .ok (.aload_n 0, 1) := by decide +kernel
theorem d_Model_rules_80 : decode prog_9_method_29_code 80 = .ok (.getfield 32, 3) := by decide +kernel
theorem d_Model_rules_83 : decode prog_9_method_29_code 83 = .ok (.iload_n 2, 1) := by decide +kernel
theorem d_Model_rules_84 : decode prog_9_method_29_code 84 = .ok (.aload_n 0, 1) := by decide +kernel
theorem d_Model_rules_85 : decode prog_9_method_29_code 85 = .ok (.getfield 32, 3) := by decide +kernel
theorem d_Model_rules_88 : decode prog_9_method_29_code 88 = .ok (.bipush 6, 2) := by decide +kernel
theorem d_Model_rules_90 : decode prog_9_method_29_code 90 = .ok (.iload_n 2, 1) := by decide +kernel
theorem d_Model_rules_91 : decode prog_9_method_29_code 91 = .ok (.iadd, 1) := by decide +kernel
theorem d_Model_rules_92 : decode prog_9_method_29_code 92 = .ok (.iaload, 1) := by decide +kernel
theorem d_Model_rules_93 : decode prog_9_method_29_code 93 = .ok (.iastore, 1) := by decide +kernel
theorem d_Model_rules_94 : decode prog_9_method_29_code 94 = .ok (.aload_n 0, 1) := by decide +kernel
theorem d_Model_rules_95 : decode prog_9_method_29_code 95 = .ok (.getfield 35, 3) := by decide +kernel
theorem d_Model_rules_98 : decode prog_9_method_29_code 98 = .ok (.iload_n 2, 1) := by decide +kernel
theorem d_Model_rules_99 : decode prog_9_method_29_code 99 = .ok (.aload_n 0, 1) := by decide +kernel
theorem d_Model_rules_100 : decode prog_9_method_29_code 100 = .ok (.getfield 35, 3) := by decide +kernel
theorem d_Model_rules_103 : decode prog_9_method_29_code 103 = .ok (.bipush 6, 2) := by decide +kernel
theorem d_Model_rules_105 : decode prog_9_method_29_code 105 = .ok (.iload_n 2, 1) := by decide +kernel
theorem d_Model_rules_106 : decode prog_9_method_29_code 106 = .ok (.iadd, 1) := by decide +kernel
theorem d_Model_rules_107 : decode prog_9_method_29_code 107 = .ok (.iaload, 1) := by decide +kernel
theorem d_Model_rules_108 : decode prog_9_method_29_code 108 = .ok (.iastore, 1) := by decide +kernel
theorem d_Model_rules_109 : decode prog_9_method_29_code 109 = .ok (.aload_n 0, 1) := by decide +kernel
theorem d_Model_rules_110 : decode prog_9_method_29_code 110 = .ok (.getfield 38, 3) := by decide +kernel
theorem d_Model_rules_113 : decode prog_9_method_29_code 113 = .ok (.iload_n 2, 1) := by decide +kernel
theorem d_Model_rules_114 : decode prog_9_method_29_code 114 = .ok (.aload_n 0, 1) := by decide +kernel
theorem d_Model_rules_115 : decode prog_9_method_29_code 115 = .ok (.getfield 38, 3) := by decide +kernel
theorem d_Model_rules_118 : decode prog_9_method_29_code 118 = .ok (.bipush 6, 2) := by decide +kernel
theorem d_Model_rules_120 : decode prog_9_method_29_code 120 = .ok (.iload_n 2, 1) := by decide +kernel
theorem d_Model_rules_121 : decode prog_9_method_29_code 121 = .ok (.iadd, 1) := by decide +kernel
theorem d_Model_rules_122 : decode prog_9_method_29_code 122 = .ok (.iaload, 1) := by decide +kernel
theorem d_Model_rules_123 : decode prog_9_method_29_code 123 = .ok (.iastore, 1) := by decide +kernel
theorem d_Model_rules_124 : decode prog_9_method_29_code 124 = .ok (.bipush 6, 2) := by decide +kernel
theorem d_Model_rules_126 : decode prog_9_method_29_code 126 = .ok (.iload_n 2, 1) := by decide +kernel
theorem d_Model_rules_127 : decode prog_9_method_29_code 127 = .ok (.imul, 1) := by decide +kernel
theorem d_Model_rules_128 : decode prog_9_method_29_code 128 = .ok (.istore_n 3, 1) := by decide +kernel
theorem d_Model_rules_129 : decode prog_9_method_29_code 129 = .ok (.iload_n 3, 1) := by decide +kernel
theorem d_Model_rules_130 : decode prog_9_method_29_code 130 = .ok (.bipush 6, 2) := by decide +kernel
theorem d_Model_rules_132 : decode prog_9_method_29_code 132 = .ok (.iload_n 2, 1) := by decide +kernel
theorem d_Model_rules_133 : decode prog_9_method_29_code 133 = .ok (.imul, 1) := by decide +kernel
theorem d_Model_rules_134 : decode prog_9_method_29_code 134 = .ok (.bipush 6, 2) := by decide +kernel
theorem d_Model_rules_136 : decode prog_9_method_29_code 136 = .ok (.iadd, 1) := by decide +kernel
theorem d_Model_rules_137 : decode prog_9_method_29_code 137 = .ok (.if_icmp .ge 84, 3) := by decide +kernel
theorem d_Model_rules_140 : decode prog_9_method_29_code 140 = .ok (.aload_n 0, 1) := by decide +kernel
theorem d_Model_rules_141 : decode prog_9_method_29_code 141 = .ok (.getfield 41, 3) := by decide +kernel
theorem d_Model_rules_144 : decode prog_9_method_29_code 144 = .ok (.iload_n 3, 1) := by decide +kernel
theorem d_Model_rules_145 : decode prog_9_method_29_code 145 = .ok (.aload_n 0, 1) := by decide +kernel
theorem d_Model_rules_146 : decode prog_9_method_29_code 146 = .ok (.getfield 41, 3) := by decide +kernel
theorem d_Model_rules_149 : decode prog_9_method_29_code 149 = .ok (.bipush 36, 2) := by decide +kernel
theorem d_Model_rules_151 : decode prog_9_method_29_code 151 = .ok (.iload_n 3, 1) := by decide +kernel
theorem d_Model_rules_152 : decode prog_9_method_29_code 152 = .ok (.iadd, 1) := by decide +kernel
theorem d_Model_rules_153 : decode prog_9_method_29_code 153 = .ok (.iaload, 1) := by decide +kernel
theorem d_Model_rules_154 : decode prog_9_method_29_code 154 = .ok (.iastore, 1) := by decide +kernel
theorem d_Model_rules_155 : decode prog_9_method_29_code 155 = .ok (.aload_n 0, 1) := by decide +kernel
theorem d_Model_rules_156 : decode prog_9_method_29_code 156 = .ok (.getfield 44, 3) := by decide +kernel
theorem d_Model_rules_159 : decode prog_9_method_29_code 159 = .ok (.iload_n 3, 1) := by decide +kernel
theorem d_Model_rules_160 : decode prog_9_method_29_code 160 = .ok (.aload_n 0, 1) := by decide +kernel
theorem d_Model_rules_161 : decode prog_9_method_29_code 161 = .ok (.getfield 44, 3) := by decide +kernel
theorem d_Model_rules_164 : decode prog_9_method_29_code 164 = .ok (.bipush 36, 2) := by decide +kernel
theorem d_Model_rules_166 : decode prog_9_method_29_code 166 = .ok (.iload_n 3, 1) := by decide +kernel
theorem d_Model_rules_167 : decode prog_9_method_29_code 167 = .ok (.iadd, 1) := by decide +kernel
theorem d_Model_rules_168 : decode prog_9_method_29_code 168 = .ok (.iaload, 1) := by decide +kernel
theorem d_Model_rules_169 : decode prog_9_method_29_code 169 = .ok (.iastore, 1) := by decide +kernel
theorem d_Model_rules_170 : decode prog_9_method_29_code 170 = .ok (.aload_n 0, 1) := by decide +kernel
theorem d_Model_rules_171 : decode prog_9_method_29_code 171 = .ok (.getfield 47, 3) := by decide +kernel
theorem d_Model_rules_174 : decode prog_9_method_29_code 174 = .ok (.iload_n 3, 1) := by decide +kernel
theorem d_Model_rules_175 : decode prog_9_method_29_code 175 = .ok (.aload_n 0, 1) := by decide +kernel
theorem d_Model_rules_176 : decode prog_9_method_29_code 176 = .ok (.getfield 47, 3) := by decide +kernel
theorem d_Model_rules_179 : decode prog_9_method_29_code 179 = .ok (.bipush 36, 2) := by decide +kernel
theorem d_Model_rules_181 : decode prog_9_method_29_code 181 = .ok (.iload_n 3, 1) := by decide +kernel
theorem d_Model_rules_182 : decode prog_9_method_29_code 182 = .ok (.iadd, 1) := by decide +kernel
theorem d_Model_rules_183 : decode prog_9_method_29_code 183 = .ok (.iaload, 1) := by decide +kernel
theorem d_Model_rules_184 : decode prog_9_method_29_code 184 = .ok (.iastore, 1) := by decide +kernel
theorem d_Model_rules_185 : decode prog_9_method_29_code 185 = .ok (.aload_n 0, 1) := by decide +kernel
theorem d_Model_rules_186 : decode prog_9_method_29_code 186 = .ok (.getfield 50, 3) := by decide +kernel
theorem d_Model_rules_189 : decode prog_9_method_29_code 189 = .ok (.iload_n 3, 1) := by decide +kernel
theorem d_Model_rules_190 : decode prog_9_method_29_code 190 = .ok (.aload_n 0, 1) := by decide +kernel
theorem d_Model_rules_191 : decode prog_9_method_29_code 191 = .ok (.getfield 50, 3) := by decide +kernel
theorem d_Model_rules_194 : decode prog_9_method_29_code 194 = .ok (.bipush 36, 2) := by decide +kernel
theorem d_Model_rules_196 : decode prog_9_method_29_code 196 = .ok (.iload_n 3, 1) := by decide +kernel
theorem d_Model_rules_197 : decode prog_9_method_29_code 197 = .ok (.iadd, 1) := by decide +kernel
theorem d_Model_rules_198 : decode prog_9_method_29_code 198 = .ok (.iaload, 1) := by decide +kernel
theorem d_Model_rules_199 : decode prog_9_method_29_code 199 = .ok (.iastore, 1) := by decide +kernel
theorem d_Model_rules_200 : decode prog_9_method_29_code 200 = .ok (.aload_n 0, 1) := by decide +kernel
theorem d_Model_rules_201 : decode prog_9_method_29_code 201 = .ok (.getfield 53, 3) := by decide +kernel
theorem d_Model_rules_204 : decode prog_9_method_29_code 204 = .ok (.iload_n 3, 1) := by decide +kernel
theorem d_Model_rules_205 : decode prog_9_method_29_code 205 = .ok (.aload_n 0, 1) := by decide +kernel
theorem d_Model_rules_206 : decode prog_9_method_29_code 206 = .ok (.getfield 53, 3) := by decide +kernel
theorem d_Model_rules_209 : decode prog_9_method_29_code 209 = .ok (.bipush 36, 2) := by decide +kernel
theorem d_Model_rules_211 : decode prog_9_method_29_code 211 = .ok (.iload_n 3, 1) := by decide +kernel
theorem d_Model_rules_212 : decode prog_9_method_29_code 212 = .ok (.iadd, 1) := by decide +kernel
theorem d_Model_rules_213 : decode prog_9_method_29_code 213 = .ok (.iaload, 1) := by decide +kernel
theorem d_Model_rules_214 : decode prog_9_method_29_code 214 = .ok (.iastore, 1) := by decide +kernel
theorem d_Model_rules_215 : decode prog_9_method_29_code 215 = .ok (.iinc 3 1, 3) := by decide +kernel
theorem d_Model_rules_218 : decode prog_9_method_29_code 218 = .ok (.goto (-89), 3) := by decide +kernel
theorem d_Model_rules_221 : decode prog_9_method_29_code 221 = .ok (.iinc 2 1, 3) := by decide +kernel
theorem d_Model_rules_224 : decode prog_9_method_29_code 224 = .ok (.goto (-165), 3) := by decide +kernel
theorem d_Model_rules_227 : decode prog_9_method_29_code 227 = .ok (.aload_n 0, 1) := by decide +kernel
theorem d_Model_rules_228 : decode prog_9_method_29_code 228 = .ok (.iload_n 1, 1) := by decide +kernel
theorem d_Model_rules_229 : decode prog_9_method_29_code 229 = .ok (.putfield 233, 3) := by decide +kernel
theorem d_Model_rules_232 : decode prog_9_method_29_code 232 = .ok (.aload_n 0, 1) := by decide +kernel
theorem d_Model_rules_233 : decode prog_9_method_29_code 233 = .ok (.iconst 0, 1) := by decide +kernel
theorem d_Model_rules_234 : decode prog_9_method_29_code 234 = .ok (.putfield 236, 3) := by decide +kernel
theorem d_Model_rules_237 : decode prog_9_method_29_code 237 = .ok (.aload_n 0, 1) := by decide +kernel
theorem d_Model_rules_238 : decode prog_9_method_29_code 238 = .ok (.iconst 0, 1) := by decide +kernel
theorem d_Model_rules_239 : decode prog_9_method_29_code 239 = .ok (.putfield 122, 3) := by decide +kernel
theorem d_Model_rules_242 : decode prog_9_method_29_code 242 = .ok (.iload_n 1, 1) := by decide +kernel
theorem d_Model_rules_243 : decode prog_9_method_29_code 243 = .ok (.ireturn, 1) := by decide +kernel
theorem kF_Model_233 : Cond.fieldLink "FaultRulesModel" (233 : Nat) "FaultRulesModel" "ruleCount" "I" ∈ xT := x_t3 rfl (i := 234) rfl
theorem kF_Model_236 : Cond.fieldLink "FaultRulesModel" (236 : Nat) "FaultRulesModel" "ran" "Z" ∈ xT := x_t3 rfl (i := 237) rfl
theorem kM_Model_227 : Cond.methodLink "FaultRulesModel" (227 : Nat) ({ cls := "FaultRulesModel", name := "cut", desc := "()V" } : Jvm.MethodName) ∈ xT := x_t4 rfl (i := 121) rfl
theorem kI_Model_cut : Cond.instanceMethod ({ cls := "FaultRulesModel", name := "cut", desc := "()V" } : Jvm.MethodName) ∈ xT := x_t4 rfl (i := 123) rfl
theorem kS_502 : Cond.selects "FaultRulesModel" ({ cls := "FaultRulesModel", name := "cut", desc := "()V" } : Jvm.MethodName) ({ cls := "FaultRulesModel", name := "cut", desc := "()V" } : Jvm.MethodName) ∈ xT := x_tp rfl (i := 31) rfl
theorem kM_Model_230 : Cond.methodLink "FaultRulesModel" (230 : Nat) ({ cls := "FaultRulesModel", name := "readsRule", desc := "(I)Z" } : Jvm.MethodName) ∈ xT := x_t4 rfl (i := 156) rfl
theorem kI_Model_readsRule : Cond.instanceMethod ({ cls := "FaultRulesModel", name := "readsRule", desc := "(I)Z" } : Jvm.MethodName) ∈ xT := x_t4 rfl (i := 158) rfl
theorem kS_505 : Cond.selects "FaultRulesModel" ({ cls := "FaultRulesModel", name := "readsRule", desc := "(I)Z" } : Jvm.MethodName) ({ cls := "FaultRulesModel", name := "readsRule", desc := "(I)Z" } : Jvm.MethodName) ∈ xT := x_tp rfl (i := 37) rfl
abbrev y_Model_note : MethodName := { cls := "FaultRulesModel", name := "note", desc := "(I)V" }
theorem kC_Model_note : Cond.code ({ cls := "FaultRulesModel", name := "note", desc := "(I)V" } : Jvm.MethodName) prog_9_method_31_code (2 : Nat) (Option.none : Option Jvm.ClassFile.FieldType) ∈ xT := x_t4 rfl (i := 222) rfl
theorem hd_Model_note : y_Model_note.cls ≠ "java/lang/invoke/MethodHandle" ∧ y_Model_note.cls ≠ "java/lang/invoke/VarHandle" ∧ (parseMethodDescriptor y_Model_note.desc).map (fun d => d.parameters.length) = some 1 := by decide +kernel
theorem d_Model_note_0 : decode prog_9_method_31_code 0 = .ok (.aload_n 0, 1) := by decide +kernel
theorem d_Model_note_1 : decode prog_9_method_31_code 1 = .ok (.getfield 59, 3) := by decide +kernel
theorem d_Model_note_4 : decode prog_9_method_31_code 4 = .ok (.aload_n 0, 1) := by decide +kernel
theorem d_Model_note_5 : decode prog_9_method_31_code 5 = .ok (.getfield 7, 3) := by decide +kernel
theorem d_Model_note_8 : decode prog_9_method_31_code 8 = .ok (.iload_n 1, 1) := by decide +kernel
theorem d_Model_note_9 : decode prog_9_method_31_code 9 = .ok (.iaload, 1) := by decide +kernel
theorem d_Model_note_10 : decode prog_9_method_31_code 10 = .ok (.aload_n 0, 1) := by decide +kernel
theorem d_Model_note_11 : decode prog_9_method_31_code 11 = .ok (.getfield 56, 3) := by decide +kernel
theorem d_Model_note_14 : decode prog_9_method_31_code 14 = .ok (.aload_n 0, 1) := by decide +kernel
theorem d_Model_note_15 : decode prog_9_method_31_code 15 = .ok (.getfield 7, 3) := by decide +kernel
theorem d_Model_note_18 : decode prog_9_method_31_code 18 = .ok (.iload_n 1, 1) := by decide +kernel
theorem d_Model_note_19 : decode prog_9_method_31_code 19 = .ok (.iaload, 1) := by decide +kernel
theorem d_Model_note_20 : decode prog_9_method_31_code 20 = .ok (.iaload, 1) := by decide +kernel
theorem d_Model_note_21 : decode prog_9_method_31_code 21 = .ok (.iastore, 1) := by decide +kernel
theorem d_Model_note_22 : decode prog_9_method_31_code 22 = .ok (.aload_n 0, 1) := by decide +kernel
theorem d_Model_note_23 : decode prog_9_method_31_code 23 = .ok (.getfield 56, 3) := by decide +kernel
theorem d_Model_note_26 : decode prog_9_method_31_code 26 = .ok (.aload_n 0, 1) := by decide +kernel
theorem d_Model_note_27 : decode prog_9_method_31_code 27 = .ok (.getfield 7, 3) := by decide +kernel
theorem d_Model_note_30 : decode prog_9_method_31_code 30 = .ok (.iload_n 1, 1) := by decide +kernel
theorem d_Model_note_31 : decode prog_9_method_31_code 31 = .ok (.iaload, 1) := by decide +kernel
theorem d_Model_note_32 : decode prog_9_method_31_code 32 = .ok (.iload_n 1, 1) := by decide +kernel
theorem d_Model_note_33 : decode prog_9_method_31_code 33 = .ok (.iastore, 1) := by decide +kernel
theorem d_Model_note_34 : decode prog_9_method_31_code 34 = .ok (.return_, 1) := by decide +kernel
theorem kF_Model_59 : Cond.fieldLink "FaultRulesModel" (59 : Nat) "FaultRulesModel" "before" "[I" ∈ xT := x_t3 rfl (i := 236) rfl
theorem kF_Model_56 : Cond.fieldLink "FaultRulesModel" (56 : Nat) "FaultRulesModel" "last" "[I" ∈ xT := x_t3 rfl (i := 235) rfl
abbrev y_Model_stand : MethodName := { cls := "FaultRulesModel", name := "stand", desc := "(I)V" }
theorem kC_Model_stand : Cond.code ({ cls := "FaultRulesModel", name := "stand", desc := "(I)V" } : Jvm.MethodName) prog_9_method_30_code (3 : Nat) (Option.none : Option Jvm.ClassFile.FieldType) ∈ xT := x_t4 rfl (i := 218) rfl
theorem hd_Model_stand : y_Model_stand.cls ≠ "java/lang/invoke/MethodHandle" ∧ y_Model_stand.cls ≠ "java/lang/invoke/VarHandle" ∧ (parseMethodDescriptor y_Model_stand.desc).map (fun d => d.parameters.length) = some 1 := by decide +kernel
