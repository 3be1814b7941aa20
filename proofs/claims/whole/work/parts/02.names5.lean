theorem d_Model_stand_0 : decode prog_9_method_30_code 0 = .ok (.iconst 0, 1) := by decide +kernel
theorem d_Model_stand_1 : decode prog_9_method_30_code 1 = .ok (.istore_n 2, 1) := by decide +kernel
theorem d_Model_stand_2 : decode prog_9_method_30_code 2 = .ok (.iload_n 2, 1) := by decide +kernel
theorem d_Model_stand_3 : decode prog_9_method_30_code 3 = .ok (.bipush 16, 2) := by decide +kernel
theorem d_Model_stand_5 : decode prog_9_method_30_code 5 = .ok (.if_icmp .ge 23, 3) := by decide +kernel
theorem d_Model_stand_8 : decode prog_9_method_30_code 8 = .ok (.aload_n 0, 1) := by decide +kernel
theorem d_Model_stand_9 : decode prog_9_method_30_code 9 = .ok (.getfield 56, 3) := by decide +kernel
theorem d_Model_stand_12 : decode prog_9_method_30_code 12 = .ok (.iload_n 2, 1) := by decide +kernel
theorem d_Model_stand_13 : decode prog_9_method_30_code 13 = .ok (.iconst (-1), 1) := by decide +kernel
theorem d_Model_stand_14 : decode prog_9_method_30_code 14 = .ok (.iastore, 1) := by decide +kernel
theorem d_Model_stand_15 : decode prog_9_method_30_code 15 = .ok (.aload_n 0, 1) := by decide +kernel
theorem d_Model_stand_16 : decode prog_9_method_30_code 16 = .ok (.getfield 59, 3) := by decide +kernel
theorem d_Model_stand_19 : decode prog_9_method_30_code 19 = .ok (.iload_n 2, 1) := by decide +kernel
theorem d_Model_stand_20 : decode prog_9_method_30_code 20 = .ok (.iconst (-1), 1) := by decide +kernel
theorem d_Model_stand_21 : decode prog_9_method_30_code 21 = .ok (.iastore, 1) := by decide +kernel
theorem d_Model_stand_22 : decode prog_9_method_30_code 22 = .ok (.iinc 2 1, 3) := by decide +kernel
theorem d_Model_stand_25 : decode prog_9_method_30_code 25 = .ok (.goto (-23), 3) := by decide +kernel
theorem d_Model_stand_28 : decode prog_9_method_30_code 28 = .ok (.iconst 0, 1) := by decide +kernel
theorem d_Model_stand_29 : decode prog_9_method_30_code 29 = .ok (.istore_n 2, 1) := by decide +kernel
theorem d_Model_stand_30 : decode prog_9_method_30_code 30 = .ok (.iload_n 2, 1) := by decide +kernel
theorem d_Model_stand_31 : decode prog_9_method_30_code 31 = .ok (.aload_n 0, 1) := by decide +kernel
theorem d_Model_stand_32 : decode prog_9_method_30_code 32 = .ok (.getfield 98, 3) := by decide +kernel
theorem d_Model_stand_35 : decode prog_9_method_30_code 35 = .ok (.if_icmp .ge 24, 3) := by decide +kernel
theorem d_Model_stand_38 : decode prog_9_method_30_code 38 = .ok (.aload_n 0, 1) := by decide +kernel
theorem d_Model_stand_39 : decode prog_9_method_30_code 39 = .ok (.getfield 13, 3) := by decide +kernel
theorem d_Model_stand_42 : decode prog_9_method_30_code 42 = .ok (.iload_n 2, 1) := by decide +kernel
theorem d_Model_stand_43 : decode prog_9_method_30_code 43 = .ok (.iaload, 1) := by decide +kernel
theorem d_Model_stand_44 : decode prog_9_method_30_code 44 = .ok (.iload_n 1, 1) := by decide +kernel
theorem d_Model_stand_45 : decode prog_9_method_30_code 45 = .ok (.if_icmp .gt 8, 3) := by decide +kernel
theorem d_Model_stand_48 : decode prog_9_method_30_code 48 = .ok (.aload_n 0, 1) := by decide +kernel
theorem d_Model_stand_49 : decode prog_9_method_30_code 49 = .ok (.iload_n 2, 1) := by decide +kernel
theorem d_Model_stand_50 : decode prog_9_method_30_code 50 = .ok (.invokevirtual 240, 3) := by decide +kernel
theorem d_Model_stand_53 : decode prog_9_method_30_code 53 = .ok (.iinc 2 1, 3) := by decide +kernel
theorem d_Model_stand_56 : decode prog_9_method_30_code 56 = .ok (.goto (-26), 3) := by decide +kernel
theorem d_Model_stand_59 : decode prog_9_method_30_code 59 = .ok (.return_, 1) := by decide +kernel
theorem kM_Model_240 : Cond.methodLink "FaultRulesModel" (240 : Nat) ({ cls := "FaultRulesModel", name := "note", desc := "(I)V" } : Jvm.MethodName) ∈ xT := x_t4 rfl (i := 219) rfl
theorem kI_Model_note : Cond.instanceMethod ({ cls := "FaultRulesModel", name := "note", desc := "(I)V" } : Jvm.MethodName) ∈ xT := x_t4 rfl (i := 221) rfl
theorem kS_512 : Cond.selects "FaultRulesModel" ({ cls := "FaultRulesModel", name := "note", desc := "(I)V" } : Jvm.MethodName) ({ cls := "FaultRulesModel", name := "note", desc := "(I)V" } : Jvm.MethodName) ∈ xT := x_tp rfl (i := 48) rfl
abbrev y_Model_relates : MethodName := { cls := "FaultRulesModel", name := "relates", desc := "(III)Z" }
theorem kC_Model_relates : Cond.code ({ cls := "FaultRulesModel", name := "relates", desc := "(III)Z" } : Jvm.MethodName) prog_9_method_32_code (3 : Nat) (Option.some Jvm.ClassFile.FieldType.boolean) ∈ xT := x_t4 rfl (i := 229) rfl
theorem hd_Model_relates : y_Model_relates.cls ≠ "java/lang/invoke/MethodHandle" ∧ y_Model_relates.cls ≠ "java/lang/invoke/VarHandle" ∧ (parseMethodDescriptor y_Model_relates.desc).map (fun d => d.parameters.length) = some 3 := by decide +kernel
theorem d_Model_relates_0 : decode prog_9_method_32_code 0 = .ok (.iload_n 1, 1) := by decide +kernel
theorem d_Model_relates_1 : decode prog_9_method_32_code 1 = .ok (.ifCond .ne 16, 3) := by decide +kernel
theorem d_Model_relates_4 : decode prog_9_method_32_code 4 = .ok (.iload_n 0, 1) := by decide +kernel
theorem d_Model_relates_5 : decode prog_9_method_32_code 5 = .ok (.iload_n 2, 1) := by decide +kernel
theorem d_Model_relates_6 : decode prog_9_method_32_code 6 = .ok (.if_icmp .ge 7, 3) := by decide +kernel
theorem d_Model_relates_9 : decode prog_9_method_32_code 9 = .ok (.iconst 1, 1) := by decide +kernel
theorem d_Model_relates_10 : decode prog_9_method_32_code 10 = .ok (.goto 71, 3) := by decide +kernel
theorem d_Model_relates_13 : decode prog_9_method_32_code 13 = .ok (.iconst 0, 1) := by decide +kernel
theorem d_Model_relates_14 : decode prog_9_method_32_code 14 = .ok (.goto 67, 3) := by decide +kernel
theorem d_Model_relates_17 : decode prog_9_method_32_code 17 = .ok (.iload_n 1, 1) := by decide +kernel
theorem d_Model_relates_18 : decode prog_9_method_32_code 18 = .ok (.iconst 1, 1) := by decide +kernel
theorem d_Model_relates_19 : decode prog_9_method_32_code 19 = .ok (.if_icmp .ne 16, 3) := by decide +kernel
theorem d_Model_relates_22 : decode prog_9_method_32_code 22 = .ok (.iload_n 0, 1) := by decide +kernel
theorem d_Model_relates_23 : decode prog_9_method_32_code 23 = .ok (.iload_n 2, 1) := by decide +kernel
theorem d_Model_relates_24 : decode prog_9_method_32_code 24 = .ok (.if_icmp .gt 7, 3) := by decide +kernel
theorem d_Model_relates_27 : decode prog_9_method_32_code 27 = .ok (.iconst 1, 1) := by decide +kernel
theorem d_Model_relates_28 : decode prog_9_method_32_code 28 = .ok (.goto 53, 3) := by decide +kernel
theorem d_Model_relates_31 : decode prog_9_method_32_code 31 = .ok (.iconst 0, 1) := by decide +kernel
theorem d_Model_relates_32 : decode prog_9_method_32_code 32 = .ok (.goto 49, 3) := by decide +kernel
theorem d_Model_relates_35 : decode prog_9_method_32_code 35 = .ok (.iload_n 1, 1) := by decide +kernel
theorem d_Model_relates_36 : decode prog_9_method_32_code 36 = .ok (.iconst 2, 1) := by decide +kernel
theorem d_Model_relates_37 : decode prog_9_method_32_code 37 = .ok (.if_icmp .ne 16, 3) := by decide +kernel
theorem d_Model_relates_40 : decode prog_9_method_32_code 40 = .ok (.iload_n 0, 1) := by decide +kernel
theorem d_Model_relates_41 : decode prog_9_method_32_code 41 = .ok (.iload_n 2, 1) := by decide +kernel
theorem d_Model_relates_42 : decode prog_9_method_32_code 42 = .ok (.if_icmp .ne 7, 3) := by decide +kernel
theorem d_Model_relates_45 : decode prog_9_method_32_code 45 = .ok (.iconst 1, 1) := by decide +kernel
theorem d_Model_relates_46 : decode prog_9_method_32_code 46 = .ok (.goto 35, 3) := by decide +kernel
theorem d_Model_relates_49 : decode prog_9_method_32_code 49 = .ok (.iconst 0, 1) := by decide +kernel
theorem d_Model_relates_50 : decode prog_9_method_32_code 50 = .ok (.goto 31, 3) := by decide +kernel
theorem d_Model_relates_53 : decode prog_9_method_32_code 53 = .ok (.iload_n 1, 1) := by decide +kernel
theorem d_Model_relates_54 : decode prog_9_method_32_code 54 = .ok (.iconst 3, 1) := by decide +kernel
theorem d_Model_relates_55 : decode prog_9_method_32_code 55 = .ok (.if_icmp .ne 16, 3) := by decide +kernel
theorem d_Model_relates_58 : decode prog_9_method_32_code 58 = .ok (.iload_n 0, 1) := by decide +kernel
theorem d_Model_relates_59 : decode prog_9_method_32_code 59 = .ok (.iload_n 2, 1) := by decide +kernel
theorem d_Model_relates_60 : decode prog_9_method_32_code 60 = .ok (.if_icmp .lt 7, 3) := by decide +kernel
theorem d_Model_relates_63 : decode prog_9_method_32_code 63 = .ok (.iconst 1, 1) := by decide +kernel
theorem d_Model_relates_64 : decode prog_9_method_32_code 64 = .ok (.goto 17, 3) := by decide +kernel
theorem d_Model_relates_67 : decode prog_9_method_32_code 67 = .ok (.iconst 0, 1) := by decide +kernel
theorem d_Model_relates_68 : decode prog_9_method_32_code 68 = .ok (.goto 13, 3) := by decide +kernel
theorem d_Model_relates_71 : decode prog_9_method_32_code 71 = .ok (.iload_n 0, 1) := by decide +kernel
theorem d_Model_relates_72 : decode prog_9_method_32_code 72 = .ok (.iload_n 2, 1) := by decide +kernel
theorem d_Model_relates_73 : decode prog_9_method_32_code 73 = .ok (.if_icmp .le 7, 3) := by decide +kernel
theorem d_Model_relates_76 : decode prog_9_method_32_code 76 = .ok (.iconst 1, 1) := by decide +kernel
theorem d_Model_relates_77 : decode prog_9_method_32_code 77 = .ok (.goto 4, 3) := by decide +kernel
theorem d_Model_relates_80 : decode prog_9_method_32_code 80 = .ok (.iconst 0, 1) := by decide +kernel
theorem d_Model_relates_81 : decode prog_9_method_32_code 81 = .ok (.ireturn, 1) := by decide +kernel
abbrev y_Model_isSo : MethodName := { cls := "FaultRulesModel", name := "isSo", desc := "(II)Z" }
theorem kC_Model_isSo : Cond.code ({ cls := "FaultRulesModel", name := "isSo", desc := "(II)Z" } : Jvm.MethodName) prog_9_method_33_code (6 : Nat) (Option.some Jvm.ClassFile.FieldType.boolean) ∈ xT := x_t4 rfl (i := 226) rfl
theorem hd_Model_isSo : y_Model_isSo.cls ≠ "java/lang/invoke/MethodHandle" ∧ y_Model_isSo.cls ≠ "java/lang/invoke/VarHandle" ∧ (parseMethodDescriptor y_Model_isSo.desc).map (fun d => d.parameters.length) = some 2 := by decide +kernel
theorem d_Model_isSo_0 : decode prog_9_method_33_code 0 = .ok (.aload_n 0, 1) := by decide +kernel
theorem d_Model_isSo_1 : decode prog_9_method_33_code 1 = .ok (.getfield 56, 3) := by decide +kernel
theorem d_Model_isSo_4 : decode prog_9_method_33_code 4 = .ok (.aload_n 0, 1) := by decide +kernel
theorem d_Model_isSo_5 : decode prog_9_method_33_code 5 = .ok (.getfield 44, 3) := by decide +kernel
theorem d_Model_isSo_8 : decode prog_9_method_33_code 8 = .ok (.iload_n 1, 1) := by decide +kernel
theorem d_Model_isSo_9 : decode prog_9_method_33_code 9 = .ok (.iaload, 1) := by decide +kernel
theorem d_Model_isSo_10 : decode prog_9_method_33_code 10 = .ok (.iaload, 1) := by decide +kernel
theorem d_Model_isSo_11 : decode prog_9_method_33_code 11 = .ok (.istore_n 3, 1) := by decide +kernel
theorem d_Model_isSo_12 : decode prog_9_method_33_code 12 = .ok (.aload_n 0, 1) := by decide +kernel
theorem d_Model_isSo_13 : decode prog_9_method_33_code 13 = .ok (.getfield 41, 3) := by decide +kernel
theorem d_Model_isSo_16 : decode prog_9_method_33_code 16 = .ok (.iload_n 1, 1) := by decide +kernel
theorem d_Model_isSo_17 : decode prog_9_method_33_code 17 = .ok (.iaload, 1) := by decide +kernel
theorem d_Model_isSo_18 : decode prog_9_method_33_code 18 = .ok (.iconst 4, 1) := by decide +kernel
theorem d_Model_isSo_19 : decode prog_9_method_33_code 19 = .ok (.if_icmp .ne 30, 3) := by decide +kernel
theorem d_Model_isSo_22 : decode prog_9_method_33_code 22 = .ok (.iload_n 3, 1) := by decide +kernel
theorem d_Model_isSo_23 : decode prog_9_method_33_code 23 = .ok (.ifCond .lt 20, 3) := by decide +kernel
theorem d_Model_isSo_26 : decode prog_9_method_33_code 26 = .ok (.iload_n 2, 1) := by decide +kernel
theorem d_Model_isSo_27 : decode prog_9_method_33_code 27 = .ok (.aload_n 0, 1) := by decide +kernel
theorem d_Model_isSo_28 : decode prog_9_method_33_code 28 = .ok (.getfield 13, 3) := by decide +kernel
theorem d_Model_isSo_31 : decode prog_9_method_33_code 31 = .ok (.iload_n 3, 1) := by decide +kernel
theorem d_Model_isSo_32 : decode prog_9_method_33_code 32 = .ok (.iaload, 1) := by decide +kernel
theorem d_Model_isSo_33 : decode prog_9_method_33_code 33 = .ok (.isub, 1) := by decide +kernel
theorem d_Model_isSo_34 : decode prog_9_method_33_code 34 = .ok (.aload_n 0, 1) := by decide +kernel
theorem d_Model_isSo_35 : decode prog_9_method_33_code 35 = .ok (.getfield 53, 3) := by decide +kernel
theorem d_Model_isSo_38 : decode prog_9_method_33_code 38 = .ok (.iload_n 1, 1) := by decide +kernel
theorem d_Model_isSo_39 : decode prog_9_method_33_code 39 = .ok (.iaload, 1) := by decide +kernel
theorem d_Model_isSo_40 : decode prog_9_method_33_code 40 = .ok (.if_icmp .le 7, 3) := by decide +kernel
theorem d_Model_isSo_43 : decode prog_9_method_33_code 43 = .ok (.iconst 1, 1) := by decide +kernel
theorem d_Model_isSo_44 : decode prog_9_method_33_code 44 = .ok (.goto 4, 3) := by decide +kernel
theorem d_Model_isSo_47 : decode prog_9_method_33_code 47 = .ok (.iconst 0, 1) := by decide +kernel
theorem d_Model_isSo_48 : decode prog_9_method_33_code 48 = .ok (.ireturn, 1) := by decide +kernel
theorem d_Model_isSo_49 : decode prog_9_method_33_code 49 = .ok (.iload_n 3, 1) := by decide +kernel
theorem d_Model_isSo_50 : decode prog_9_method_33_code 50 = .ok (.ifCond .ge 5, 3) := by decide +kernel
theorem d_Model_isSo_53 : decode prog_9_method_33_code 53 = .ok (.iconst 0, 1) := by decide +kernel
theorem d_Model_isSo_54 : decode prog_9_method_33_code 54 = .ok (.ireturn, 1) := by decide +kernel
theorem d_Model_isSo_55 : decode prog_9_method_33_code 55 = .ok (.aload_n 0, 1) := by decide +kernel
theorem d_Model_isSo_56 : decode prog_9_method_33_code 56 = .ok (.getfield 41, 3) := by decide +kernel
theorem d_Model_isSo_59 : decode prog_9_method_33_code 59 = .ok (.iload_n 1, 1) := by decide +kernel
theorem d_Model_isSo_60 : decode prog_9_method_33_code 60 = .ok (.iaload, 1) := by decide +kernel
theorem d_Model_isSo_61 : decode prog_9_method_33_code 61 = .ok (.iconst 2, 1) := by decide +kernel
theorem d_Model_isSo_62 : decode prog_9_method_33_code 62 = .ok (.if_icmp .ne 26, 3) := by decide +kernel
theorem d_Model_isSo_65 : decode prog_9_method_33_code 65 = .ok (.iload_n 2, 1) := by decide +kernel
theorem d_Model_isSo_66 : decode prog_9_method_33_code 66 = .ok (.aload_n 0, 1) := by decide +kernel
theorem d_Model_isSo_67 : decode prog_9_method_33_code 67 = .ok (.getfield 13, 3) := by decide +kernel
theorem d_Model_isSo_70 : decode prog_9_method_33_code 70 = .ok (.iload_n 3, 1) := by decide +kernel
theorem d_Model_isSo_71 : decode prog_9_method_33_code 71 = .ok (.iaload, 1) := by decide +kernel
theorem d_Model_isSo_72 : decode prog_9_method_33_code 72 = .ok (.isub, 1) := by decide +kernel
theorem d_Model_isSo_73 : decode prog_9_method_33_code 73 = .ok (.aload_n 0, 1) := by decide +kernel
theorem d_Model_isSo_74 : decode prog_9_method_33_code 74 = .ok (.getfield 53, 3) := by decide +kernel
theorem d_Model_isSo_77 : decode prog_9_method_33_code 77 = .ok (.iload_n 1, 1) := by decide +kernel
theorem d_Model_isSo_78 : decode prog_9_method_33_code 78 = .ok (.iaload, 1) := by decide +kernel
theorem d_Model_isSo_79 : decode prog_9_method_33_code 79 = .ok (.if_icmp .lt 7, 3) := by decide +kernel
theorem d_Model_isSo_82 : decode prog_9_method_33_code 82 = .ok (.iconst 1, 1) := by decide +kernel
theorem d_Model_isSo_83 : decode prog_9_method_33_code 83 = .ok (.goto 4, 3) := by decide +kernel
theorem d_Model_isSo_86 : decode prog_9_method_33_code 86 = .ok (.iconst 0, 1) := by decide +kernel
theorem d_Model_isSo_87 : decode prog_9_method_33_code 87 = .ok (.ireturn, 1) := by decide +kernel
theorem d_Model_isSo_88 : decode prog_9_method_33_code 88 = .ok (.aload_n 0, 1) := by decide +kernel
theorem d_Model_isSo_89 : decode prog_9_method_33_code 89 = .ok (.getfield 41, 3) := by decide +kernel
theorem d_Model_isSo_92 : decode prog_9_method_33_code 92 = .ok (.iload_n 1, 1) := by decide +kernel
theorem d_Model_isSo_93 : decode prog_9_method_33_code 93 = .ok (.iaload, 1) := by decide +kernel
theorem d_Model_isSo_94 : decode prog_9_method_33_code 94 = .ok (.iconst 3, 1) := by decide +kernel
theorem d_Model_isSo_95 : decode prog_9_method_33_code 95 = .ok (.if_icmp .ne 78, 3) := by decide +kernel
theorem d_Model_isSo_98 : decode prog_9_method_33_code 98 = .ok (.aload_n 0, 1) := by decide +kernel
theorem d_Model_isSo_99 : decode prog_9_method_33_code 99 = .ok (.getfield 59, 3) := by decide +kernel
theorem d_Model_isSo_102 : decode prog_9_method_33_code 102 = .ok (.aload_n 0, 1) := by decide +kernel
theorem d_Model_isSo_103 : decode prog_9_method_33_code 103 = .ok (.getfield 44, 3) := by decide +kernel
theorem d_Model_isSo_106 : decode prog_9_method_33_code 106 = .ok (.iload_n 1, 1) := by decide +kernel
theorem d_Model_isSo_107 : decode prog_9_method_33_code 107 = .ok (.iaload, 1) := by decide +kernel
theorem d_Model_isSo_108 : decode prog_9_method_33_code 108 = .ok (.iaload, 1) := by decide +kernel
theorem d_Model_isSo_109 : decode prog_9_method_33_code 109 = .ok (.istore 4, 2) := by decide +kernel
theorem d_Model_isSo_111 : decode prog_9_method_33_code 111 = .ok (.iload 4, 2) := by decide +kernel
theorem d_Model_isSo_113 : decode prog_9_method_33_code 113 = .ok (.ifCond .lt 13, 3) := by decide +kernel
theorem d_Model_isSo_116 : decode prog_9_method_33_code 116 = .ok (.aload_n 0, 1) := by decide +kernel
theorem d_Model_isSo_117 : decode prog_9_method_33_code 117 = .ok (.getfield 13, 3) := by decide +kernel
theorem d_Model_isSo_120 : decode prog_9_method_33_code 120 = .ok (.iload_n 3, 1) := by decide +kernel
theorem d_Model_isSo_121 : decode prog_9_method_33_code 121 = .ok (.iaload, 1) := by decide +kernel
theorem d_Model_isSo_122 : decode prog_9_method_33_code 122 = .ok (.iload_n 2, 1) := by decide +kernel
theorem d_Model_isSo_123 : decode prog_9_method_33_code 123 = .ok (.if_icmp .eq 5, 3) := by decide +kernel
theorem d_Model_isSo_126 : decode prog_9_method_33_code 126 = .ok (.iconst 0, 1) := by decide +kernel
theorem d_Model_isSo_127 : decode prog_9_method_33_code 127 = .ok (.ireturn, 1) := by decide +kernel
theorem d_Model_isSo_128 : decode prog_9_method_33_code 128 = .ok (.aload_n 0, 1) := by decide +kernel
theorem d_Model_isSo_129 : decode prog_9_method_33_code 129 = .ok (.getfield 16, 3) := by decide +kernel
theorem d_Model_isSo_132 : decode prog_9_method_33_code 132 = .ok (.iload_n 3, 1) := by decide +kernel
theorem d_Model_isSo_133 : decode prog_9_method_33_code 133 = .ok (.iaload, 1) := by decide +kernel
theorem d_Model_isSo_134 : decode prog_9_method_33_code 134 = .ok (.aload_n 0, 1) := by decide +kernel
theorem d_Model_isSo_135 : decode prog_9_method_33_code 135 = .ok (.getfield 16, 3) := by decide +kernel
theorem d_Model_isSo_138 : decode prog_9_method_33_code 138 = .ok (.iload 4, 2) := by decide +kernel
theorem d_Model_isSo_140 : decode prog_9_method_33_code 140 = .ok (.iaload, 1) := by decide +kernel
theorem d_Model_isSo_141 : decode prog_9_method_33_code 141 = .ok (.isub, 1) := by decide +kernel
theorem d_Model_isSo_142 : decode prog_9_method_33_code 142 = .ok (.istore 5, 2) := by decide +kernel
theorem d_Model_isSo_144 : decode prog_9_method_33_code 144 = .ok (.iload 5, 2) := by decide +kernel
theorem d_Model_isSo_146 : decode prog_9_method_33_code 146 = .ok (.aload_n 0, 1) := by decide +kernel
theorem d_Model_isSo_147 : decode prog_9_method_33_code 147 = .ok (.getfield 53, 3) := by decide +kernel
theorem d_Model_isSo_150 : decode prog_9_method_33_code 150 = .ok (.iload_n 1, 1) := by decide +kernel
theorem d_Model_isSo_151 : decode prog_9_method_33_code 151 = .ok (.iaload, 1) := by decide +kernel
theorem d_Model_isSo_152 : decode prog_9_method_33_code 152 = .ok (.if_icmp .gt 15, 3) := by decide +kernel
theorem d_Model_isSo_155 : decode prog_9_method_33_code 155 = .ok (.iload 5, 2) := by decide +kernel
theorem d_Model_isSo_157 : decode prog_9_method_33_code 157 = .ok (.ineg, 1) := by decide +kernel
theorem d_Model_isSo_158 : decode prog_9_method_33_code 158 = .ok (.aload_n 0, 1) := by decide +kernel
theorem d_Model_isSo_159 : decode prog_9_method_33_code 159 = .ok (.getfield 53, 3) := by decide +kernel
theorem d_Model_isSo_162 : decode prog_9_method_33_code 162 = .ok (.iload_n 1, 1) := by decide +kernel
theorem d_Model_isSo_163 : decode prog_9_method_33_code 163 = .ok (.iaload, 1) := by decide +kernel
theorem d_Model_isSo_164 : decode prog_9_method_33_code 164 = .ok (.if_icmp .le 7, 3) := by decide +kernel
theorem d_Model_isSo_167 : decode prog_9_method_33_code 167 = .ok (.iconst 1, 1) := by decide +kernel
theorem d_Model_isSo_168 : decode prog_9_method_33_code 168 = .ok (.goto 4, 3) := by decide +kernel
theorem d_Model_isSo_171 : decode prog_9_method_33_code 171 = .ok (.iconst 0, 1) := by decide +kernel
theorem d_Model_isSo_172 : decode prog_9_method_33_code 172 = .ok (.ireturn, 1) := by decide +kernel
theorem d_Model_isSo_173 : decode prog_9_method_33_code 173 = .ok (.aload_n 0, 1) := by decide +kernel
theorem d_Model_isSo_174 : decode prog_9_method_33_code 174 = .ok (.getfield 16, 3) := by decide +kernel
theorem d_Model_isSo_177 : decode prog_9_method_33_code 177 = .ok (.iload_n 3, 1) := by decide +kernel
theorem d_Model_isSo_178 : decode prog_9_method_33_code 178 = .ok (.iaload, 1) := by decide +kernel
theorem d_Model_isSo_179 : decode prog_9_method_33_code 179 = .ok (.istore 4, 2) := by decide +kernel
theorem d_Model_isSo_181 : decode prog_9_method_33_code 181 = .ok (.aload_n 0, 1) := by decide +kernel
theorem d_Model_isSo_182 : decode prog_9_method_33_code 182 = .ok (.getfield 41, 3) := by decide +kernel
theorem d_Model_isSo_185 : decode prog_9_method_33_code 185 = .ok (.iload_n 1, 1) := by decide +kernel
theorem d_Model_isSo_186 : decode prog_9_method_33_code 186 = .ok (.iaload, 1) := by decide +kernel
theorem d_Model_isSo_187 : decode prog_9_method_33_code 187 = .ok (.iconst 1, 1) := by decide +kernel
theorem d_Model_isSo_188 : decode prog_9_method_33_code 188 = .ok (.if_icmp .ne 40, 3) := by decide +kernel
theorem d_Model_isSo_191 : decode prog_9_method_33_code 191 = .ok (.aload_n 0, 1) := by decide +kernel
theorem d_Model_isSo_192 : decode prog_9_method_33_code 192 = .ok (.getfield 56, 3) := by decide +kernel
theorem d_Model_isSo_195 : decode prog_9_method_33_code 195 = .ok (.aload_n 0, 1) := by decide +kernel
theorem d_Model_isSo_196 : decode prog_9_method_33_code 196 = .ok (.getfield 47, 3) := by decide +kernel
theorem d_Model_isSo_199 : decode prog_9_method_33_code 199 = .ok (.iload_n 1, 1) := by decide +kernel
theorem d_Model_isSo_200 : decode prog_9_method_33_code 200 = .ok (.iaload, 1) := by decide +kernel
theorem d_Model_isSo_201 : decode prog_9_method_33_code 201 = .ok (.iaload, 1) := by decide +kernel
theorem d_Model_isSo_202 : decode prog_9_method_33_code 202 = .ok (.ifCond .ge 5, 3) := by decide +kernel
theorem d_Model_isSo_205 : decode prog_9_method_33_code 205 = .ok (.iconst 0, 1) := by decide +kernel
theorem d_Model_isSo_206 : decode prog_9_method_33_code 206 = .ok (.ireturn, 1) := by decide +kernel
theorem d_Model_isSo_207 : decode prog_9_method_33_code 207 = .ok (.iload 4, 2) := by decide +kernel
theorem d_Model_isSo_209 : decode prog_9_method_33_code 209 = .ok (.aload_n 0, 1) := by decide +kernel
theorem d_Model_isSo_210 : decode prog_9_method_33_code 210 = .ok (.getfield 16, 3) := by decide +kernel
theorem d_Model_isSo_213 : decode prog_9_method_33_code 213 = .ok (.aload_n 0, 1) := by decide +kernel
theorem d_Model_isSo_214 : decode prog_9_method_33_code 214 = .ok (.getfield 56, 3) := by decide +kernel
theorem d_Model_isSo_217 : decode prog_9_method_33_code 217 = .ok (.aload_n 0, 1) := by decide +kernel
theorem d_Model_isSo_218 : decode prog_9_method_33_code 218 = .ok (.getfield 47, 3) := by decide +kernel
theorem d_Model_isSo_221 : decode prog_9_method_33_code 221 = .ok (.iload_n 1, 1) := by decide +kernel
theorem d_Model_isSo_222 : decode prog_9_method_33_code 222 = .ok (.iaload, 1) := by decide +kernel
theorem d_Model_isSo_223 : decode prog_9_method_33_code 223 = .ok (.iaload, 1) := by decide +kernel
theorem d_Model_isSo_224 : decode prog_9_method_33_code 224 = .ok (.iaload, 1) := by decide +kernel
theorem d_Model_isSo_225 : decode prog_9_method_33_code 225 = .ok (.isub, 1) := by decide +kernel
theorem d_Model_isSo_226 : decode prog_9_method_33_code 226 = .ok (.istore 4, 2) := by decide +kernel
theorem d_Model_isSo_228 : decode prog_9_method_33_code 228 = .ok (.iload 4, 2) := by decide +kernel
theorem d_Model_isSo_230 : decode prog_9_method_33_code 230 = .ok (.aload_n 0, 1) := by decide +kernel
theorem d_Model_isSo_231 : decode prog_9_method_33_code 231 = .ok (.getfield 50, 3) := by decide +kernel
theorem d_Model_isSo_234 : decode prog_9_method_33_code 234 = .ok (.iload_n 1, 1) := by decide +kernel
theorem d_Model_isSo_235 : decode prog_9_method_33_code 235 = .ok (.iaload, 1) := by decide +kernel
theorem d_Model_isSo_236 : decode prog_9_method_33_code 236 = .ok (.aload_n 0, 1) := by decide +kernel
theorem d_Model_isSo_237 : decode prog_9_method_33_code 237 = .ok (.getfield 53, 3) := by decide +kernel
theorem d_Model_isSo_240 : decode prog_9_method_33_code 240 = .ok (.iload_n 1, 1) := by decide +kernel
theorem d_Model_isSo_241 : decode prog_9_method_33_code 241 = .ok (.iaload, 1) := by decide +kernel
theorem d_Model_isSo_242 : decode prog_9_method_33_code 242 = .ok (.invokestatic 244, 3) := by decide +kernel
theorem d_Model_isSo_245 : decode prog_9_method_33_code 245 = .ok (.ireturn, 1) := by decide +kernel
theorem kM_Model_244 : Cond.methodLink "FaultRulesModel" (244 : Nat) ({ cls := "FaultRulesModel", name := "relates", desc := "(III)Z" } : Jvm.MethodName) ∈ xT := x_t4 rfl (i := 227) rfl
theorem kT_Model_relates : Cond.static ({ cls := "FaultRulesModel", name := "relates", desc := "(III)Z" } : Jvm.MethodName) ∈ xT := x_t4 rfl (i := 228) rfl
abbrev y_Model_areAll : MethodName := { cls := "FaultRulesModel", name := "areAll", desc := "(II)Z" }
theorem kC_Model_areAll : Cond.code ({ cls := "FaultRulesModel", name := "areAll", desc := "(II)Z" } : Jvm.MethodName) prog_9_method_34_code (5 : Nat) (Option.some Jvm.ClassFile.FieldType.boolean) ∈ xT := x_t4 rfl (i := 238) rfl
theorem hd_Model_areAll : y_Model_areAll.cls ≠ "java/lang/invoke/MethodHandle" ∧ y_Model_areAll.cls ≠ "java/lang/invoke/VarHandle" ∧ (parseMethodDescriptor y_Model_areAll.desc).map (fun d => d.parameters.length) = some 2 := by decide +kernel
theorem d_Model_areAll_0 : decode prog_9_method_34_code 0 = .ok (.iconst 1, 1) := by decide +kernel
theorem d_Model_areAll_1 : decode prog_9_method_34_code 1 = .ok (.istore_n 3, 1) := by decide +kernel
theorem d_Model_areAll_2 : decode prog_9_method_34_code 2 = .ok (.bipush 6, 2) := by decide +kernel
theorem d_Model_areAll_4 : decode prog_9_method_34_code 4 = .ok (.iload_n 1, 1) := by decide +kernel
theorem d_Model_areAll_5 : decode prog_9_method_34_code 5 = .ok (.imul, 1) := by decide +kernel
theorem d_Model_areAll_6 : decode prog_9_method_34_code 6 = .ok (.istore 4, 2) := by decide +kernel
theorem d_Model_areAll_8 : decode prog_9_method_34_code 8 = .ok (.iload 4, 2) := by decide +kernel
theorem d_Model_areAll_10 : decode prog_9_method_34_code 10 = .ok (.bipush 6, 2) := by decide +kernel
theorem d_Model_areAll_12 : decode prog_9_method_34_code 12 = .ok (.iload_n 1, 1) := by decide +kernel
theorem d_Model_areAll_13 : decode prog_9_method_34_code 13 = .ok (.imul, 1) := by decide +kernel
theorem d_Model_areAll_14 : decode prog_9_method_34_code 14 = .ok (.aload_n 0, 1) := by decide +kernel
theorem d_Model_areAll_15 : decode prog_9_method_34_code 15 = .ok (.getfield 32, 3) := by decide +kernel
theorem d_Model_areAll_18 : decode prog_9_method_34_code 18 = .ok (.iload_n 1, 1) := by decide +kernel
theorem d_Model_areAll_19 : decode prog_9_method_34_code 19 = .ok (.iaload, 1) := by decide +kernel
theorem d_Model_areAll_20 : decode prog_9_method_34_code 20 = .ok (.iadd, 1) := by decide +kernel
theorem d_Model_areAll_21 : decode prog_9_method_34_code 21 = .ok (.if_icmp .ge 29, 3) := by decide +kernel
theorem d_Model_areAll_24 : decode prog_9_method_34_code 24 = .ok (.iload_n 3, 1) := by decide +kernel
theorem d_Model_areAll_25 : decode prog_9_method_34_code 25 = .ok (.ifCond .eq 17, 3) := by decide +kernel
theorem d_Model_areAll_28 : decode prog_9_method_34_code 28 = .ok (.aload_n 0, 1) := by decide +kernel
theorem d_Model_areAll_29 : decode prog_9_method_34_code 29 = .ok (.iload 4, 2) := by decide +kernel
theorem d_Model_areAll_31 : decode prog_9_method_34_code 31 = .ok (.iload_n 2, 1) := by decide +kernel
theorem d_Model_areAll_32 : decode prog_9_method_34_code 32 = .ok (.invokevirtual 248, 3) := by decide +kernel
theorem d_Model_areAll_35 : decode prog_9_method_34_code 35 = .ok (.ifCond .eq 7, 3) := by decide +kernel
theorem d_Model_areAll_38 : decode prog_9_method_34_code 38 = .ok (.iconst 1, 1) := by decide +kernel
theorem d_Model_areAll_39 : decode prog_9_method_34_code 39 = .ok (.goto 4, 3) := by decide +kernel
theorem d_Model_areAll_42 : decode prog_9_method_34_code 42 = .ok (.iconst 0, 1) := by decide +kernel
theorem d_Model_areAll_43 : decode prog_9_method_34_code 43 = .ok (.istore_n 3, 1) := by decide +kernel
theorem d_Model_areAll_44 : decode prog_9_method_34_code 44 = .ok (.iinc 4 1, 3) := by decide +kernel
theorem d_Model_areAll_47 : decode prog_9_method_34_code 47 = .ok (.goto (-39), 3) := by decide +kernel
theorem d_Model_areAll_50 : decode prog_9_method_34_code 50 = .ok (.iload_n 3, 1) := by decide +kernel
theorem d_Model_areAll_51 : decode prog_9_method_34_code 51 = .ok (.ireturn, 1) := by decide +kernel
theorem kM_Model_248 : Cond.methodLink "FaultRulesModel" (248 : Nat) ({ cls := "FaultRulesModel", name := "isSo", desc := "(II)Z" } : Jvm.MethodName) ∈ xT := x_t4 rfl (i := 223) rfl
theorem kI_Model_isSo : Cond.instanceMethod ({ cls := "FaultRulesModel", name := "isSo", desc := "(II)Z" } : Jvm.MethodName) ∈ xT := x_t4 rfl (i := 225) rfl
theorem kS_520 : Cond.selects "FaultRulesModel" ({ cls := "FaultRulesModel", name := "isSo", desc := "(II)Z" } : Jvm.MethodName) ({ cls := "FaultRulesModel", name := "isSo", desc := "(II)Z" } : Jvm.MethodName) ∈ xT := x_tp rfl (i := 49) rfl
abbrev y_Model_holds : MethodName := { cls := "FaultRulesModel", name := "holds", desc := "(III)Z" }
theorem kC_Model_holds : Cond.code ({ cls := "FaultRulesModel", name := "holds", desc := "(III)Z" } : Jvm.MethodName) prog_9_method_35_code (4 : Nat) (Option.some Jvm.ClassFile.FieldType.boolean) ∈ xT := x_t4 rfl (i := 214) rfl
theorem hd_Model_holds : y_Model_holds.cls ≠ "java/lang/invoke/MethodHandle" ∧ y_Model_holds.cls ≠ "java/lang/invoke/VarHandle" ∧ (parseMethodDescriptor y_Model_holds.desc).map (fun d => d.parameters.length) = some 3 := by decide +kernel
theorem d_Model_holds_0 : decode prog_9_method_35_code 0 = .ok (.aload_n 0, 1) := by decide +kernel
theorem d_Model_holds_1 : decode prog_9_method_35_code 1 = .ok (.iload_n 1, 1) := by decide +kernel
theorem d_Model_holds_2 : decode prog_9_method_35_code 2 = .ok (.ifCond .lt 32, 3) := by decide +kernel
theorem d_Model_holds_5 : decode prog_9_method_35_code 5 = .ok (.iload_n 1, 1) := by decide +kernel
theorem d_Model_holds_6 : decode prog_9_method_35_code 6 = .ok (.aload_n 0, 1) := by decide +kernel
theorem d_Model_holds_7 : decode prog_9_method_35_code 7 = .ok (.getfield 233, 3) := by decide +kernel
theorem d_Model_holds_10 : decode prog_9_method_35_code 10 = .ok (.if_icmp .ge 24, 3) := by decide +kernel
theorem d_Model_holds_13 : decode prog_9_method_35_code 13 = .ok (.iload_n 2, 1) := by decide +kernel
theorem d_Model_holds_14 : decode prog_9_method_35_code 14 = .ok (.ifCond .lt 20, 3) := by decide +kernel
theorem d_Model_holds_17 : decode prog_9_method_35_code 17 = .ok (.iload_n 2, 1) := by decide +kernel
theorem d_Model_holds_18 : decode prog_9_method_35_code 18 = .ok (.aload_n 0, 1) := by decide +kernel
theorem d_Model_holds_19 : decode prog_9_method_35_code 19 = .ok (.getfield 32, 3) := by decide +kernel
theorem d_Model_holds_22 : decode prog_9_method_35_code 22 = .ok (.iload_n 1, 1) := by decide +kernel
theorem d_Model_holds_23 : decode prog_9_method_35_code 23 = .ok (.iaload, 1) := by decide +kernel
theorem d_Model_holds_24 : decode prog_9_method_35_code 24 = .ok (.if_icmp .ge 10, 3) := by decide +kernel
theorem d_Model_holds_27 : decode prog_9_method_35_code 27 = .ok (.iload_n 3, 1) := by decide +kernel
theorem d_Model_holds_28 : decode prog_9_method_35_code 28 = .ok (.invokestatic 105, 3) := by decide +kernel
theorem d_Model_holds_31 : decode prog_9_method_35_code 31 = .ok (.ifCond .ne 7, 3) := by decide +kernel
theorem d_Model_holds_34 : decode prog_9_method_35_code 34 = .ok (.iconst 1, 1) := by decide +kernel
theorem d_Model_holds_35 : decode prog_9_method_35_code 35 = .ok (.goto 4, 3) := by decide +kernel
theorem d_Model_holds_38 : decode prog_9_method_35_code 38 = .ok (.iconst 0, 1) := by decide +kernel
theorem d_Model_holds_39 : decode prog_9_method_35_code 39 = .ok (.putfield 86, 3) := by decide +kernel
theorem d_Model_holds_42 : decode prog_9_method_35_code 42 = .ok (.aload_n 0, 1) := by decide +kernel
theorem d_Model_holds_43 : decode prog_9_method_35_code 43 = .ok (.getfield 86, 3) := by decide +kernel
theorem d_Model_holds_46 : decode prog_9_method_35_code 46 = .ok (.ifCond .le 5, 3) := by decide +kernel
theorem d_Model_holds_49 : decode prog_9_method_35_code 49 = .ok (.iconst 0, 1) := by decide +kernel
theorem d_Model_holds_50 : decode prog_9_method_35_code 50 = .ok (.ireturn, 1) := by decide +kernel
theorem d_Model_holds_51 : decode prog_9_method_35_code 51 = .ok (.aload_n 0, 1) := by decide +kernel
theorem d_Model_holds_52 : decode prog_9_method_35_code 52 = .ok (.iload_n 3, 1) := by decide +kernel
theorem d_Model_holds_53 : decode prog_9_method_35_code 53 = .ok (.invokevirtual 251, 3) := by decide +kernel
theorem d_Model_holds_56 : decode prog_9_method_35_code 56 = .ok (.aload_n 0, 1) := by decide +kernel
theorem d_Model_holds_57 : decode prog_9_method_35_code 57 = .ok (.bipush 6, 2) := by decide +kernel
theorem d_Model_holds_59 : decode prog_9_method_35_code 59 = .ok (.iload_n 1, 1) := by decide +kernel
theorem d_Model_holds_60 : decode prog_9_method_35_code 60 = .ok (.imul, 1) := by decide +kernel
theorem d_Model_holds_61 : decode prog_9_method_35_code 61 = .ok (.iload_n 2, 1) := by decide +kernel
theorem d_Model_holds_62 : decode prog_9_method_35_code 62 = .ok (.iadd, 1) := by decide +kernel
theorem d_Model_holds_63 : decode prog_9_method_35_code 63 = .ok (.iload_n 3, 1) := by decide +kernel
theorem d_Model_holds_64 : decode prog_9_method_35_code 64 = .ok (.invokevirtual 248, 3) := by decide +kernel
theorem d_Model_holds_67 : decode prog_9_method_35_code 67 = .ok (.ireturn, 1) := by decide +kernel
theorem kM_Model_251 : Cond.methodLink "FaultRulesModel" (251 : Nat) ({ cls := "FaultRulesModel", name := "stand", desc := "(I)V" } : Jvm.MethodName) ∈ xT := x_t4 rfl (i := 215) rfl
theorem kI_Model_stand : Cond.instanceMethod ({ cls := "FaultRulesModel", name := "stand", desc := "(I)V" } : Jvm.MethodName) ∈ xT := x_t4 rfl (i := 217) rfl
theorem kS_524 : Cond.selects "FaultRulesModel" ({ cls := "FaultRulesModel", name := "stand", desc := "(I)V" } : Jvm.MethodName) ({ cls := "FaultRulesModel", name := "stand", desc := "(I)V" } : Jvm.MethodName) ∈ xT := x_tp rfl (i := 47) rfl
abbrev y_Model_span : MethodName := { cls := "FaultRulesModel", name := "span", desc := "(II)I" }
theorem kC_Model_span : Cond.code ({ cls := "FaultRulesModel", name := "span", desc := "(II)I" } : Jvm.MethodName) prog_9_method_36_code (2 : Nat) (Option.some Jvm.ClassFile.FieldType.int) ∈ xT := x_t5 rfl (i := 17) rfl
theorem hd_Model_span : y_Model_span.cls ≠ "java/lang/invoke/MethodHandle" ∧ y_Model_span.cls ≠ "java/lang/invoke/VarHandle" ∧ (parseMethodDescriptor y_Model_span.desc).map (fun d => d.parameters.length) = some 2 := by decide +kernel
theorem d_Model_span_0 : decode prog_9_method_36_code 0 = .ok (.iload_n 1, 1) := by decide +kernel
theorem d_Model_span_1 : decode prog_9_method_36_code 1 = .ok (.iload_n 0, 1) := by decide +kernel
theorem d_Model_span_2 : decode prog_9_method_36_code 2 = .ok (.isub, 1) := by decide +kernel
theorem d_Model_span_3 : decode prog_9_method_36_code 3 = .ok (.iconst 1, 1) := by decide +kernel
theorem d_Model_span_4 : decode prog_9_method_36_code 4 = .ok (.iadd, 1) := by decide +kernel
theorem d_Model_span_5 : decode prog_9_method_36_code 5 = .ok (.ireturn, 1) := by decide +kernel
abbrev y_Model_costOf : MethodName := { cls := "FaultRulesModel", name := "costOf", desc := "(I)I" }
theorem kC_Model_costOf : Cond.code ({ cls := "FaultRulesModel", name := "costOf", desc := "(I)I" } : Jvm.MethodName) prog_9_method_37_code (2 : Nat) (Option.some Jvm.ClassFile.FieldType.int) ∈ xT := x_t5 rfl (i := 14) rfl
theorem hd_Model_costOf : y_Model_costOf.cls ≠ "java/lang/invoke/MethodHandle" ∧ y_Model_costOf.cls ≠ "java/lang/invoke/VarHandle" ∧ (parseMethodDescriptor y_Model_costOf.desc).map (fun d => d.parameters.length) = some 1 := by decide +kernel
theorem d_Model_costOf_0 : decode prog_9_method_37_code 0 = .ok (.aload_n 0, 1) := by decide +kernel
theorem d_Model_costOf_1 : decode prog_9_method_37_code 1 = .ok (.getfield 71, 3) := by decide +kernel
theorem d_Model_costOf_4 : decode prog_9_method_37_code 4 = .ok (.iload_n 1, 1) := by decide +kernel
theorem d_Model_costOf_5 : decode prog_9_method_37_code 5 = .ok (.iaload, 1) := by decide +kernel
theorem d_Model_costOf_6 : decode prog_9_method_37_code 6 = .ok (.aload_n 0, 1) := by decide +kernel
theorem d_Model_costOf_7 : decode prog_9_method_37_code 7 = .ok (.getfield 74, 3) := by decide +kernel
theorem d_Model_costOf_10 : decode prog_9_method_37_code 10 = .ok (.iload_n 1, 1) := by decide +kernel
theorem d_Model_costOf_11 : decode prog_9_method_37_code 11 = .ok (.iaload, 1) := by decide +kernel
theorem d_Model_costOf_12 : decode prog_9_method_37_code 12 = .ok (.invokestatic 254, 3) := by decide +kernel
theorem d_Model_costOf_15 : decode prog_9_method_37_code 15 = .ok (.aload_n 0, 1) := by decide +kernel
theorem d_Model_costOf_16 : decode prog_9_method_37_code 16 = .ok (.getfield 38, 3) := by decide +kernel
theorem d_Model_costOf_19 : decode prog_9_method_37_code 19 = .ok (.aload_n 0, 1) := by decide +kernel
theorem d_Model_costOf_20 : decode prog_9_method_37_code 20 = .ok (.getfield 68, 3) := by decide +kernel
theorem d_Model_costOf_23 : decode prog_9_method_37_code 23 = .ok (.iload_n 1, 1) := by decide +kernel
theorem d_Model_costOf_24 : decode prog_9_method_37_code 24 = .ok (.iaload, 1) := by decide +kernel
theorem d_Model_costOf_25 : decode prog_9_method_37_code 25 = .ok (.iaload, 1) := by decide +kernel
theorem d_Model_costOf_26 : decode prog_9_method_37_code 26 = .ok (.imul, 1) := by decide +kernel
theorem d_Model_costOf_27 : decode prog_9_method_37_code 27 = .ok (.ireturn, 1) := by decide +kernel
theorem kF_Model_71 : Cond.fieldLink "FaultRulesModel" (71 : Nat) "FaultRulesModel" "faultBegin" "[I" ∈ xT := x_t4 rfl (i := 2) rfl
theorem kF_Model_74 : Cond.fieldLink "FaultRulesModel" (74 : Nat) "FaultRulesModel" "faultEnd" "[I" ∈ xT := x_t4 rfl (i := 3) rfl
theorem kF_Model_68 : Cond.fieldLink "FaultRulesModel" (68 : Nat) "FaultRulesModel" "faultRule" "[I" ∈ xT := x_t4 rfl (i := 1) rfl
theorem kM_Model_254 : Cond.methodLink "FaultRulesModel" (254 : Nat) ({ cls := "FaultRulesModel", name := "span", desc := "(II)I" } : Jvm.MethodName) ∈ xT := x_t5 rfl (i := 15) rfl
theorem kT_Model_span : Cond.static ({ cls := "FaultRulesModel", name := "span", desc := "(II)I" } : Jvm.MethodName) ∈ xT := x_t5 rfl (i := 16) rfl
abbrev y_Model_goesFirst : MethodName := { cls := "FaultRulesModel", name := "goesFirst", desc := "(II)Z" }
theorem kC_Model_goesFirst : Cond.code ({ cls := "FaultRulesModel", name := "goesFirst", desc := "(II)Z" } : Jvm.MethodName) prog_9_method_38_code (3 : Nat) (Option.some Jvm.ClassFile.FieldType.boolean) ∈ xT := x_t5 rfl (i := 10) rfl
theorem hd_Model_goesFirst : y_Model_goesFirst.cls ≠ "java/lang/invoke/MethodHandle" ∧ y_Model_goesFirst.cls ≠ "java/lang/invoke/VarHandle" ∧ (parseMethodDescriptor y_Model_goesFirst.desc).map (fun d => d.parameters.length) = some 2 := by decide +kernel
theorem d_Model_goesFirst_0 : decode prog_9_method_38_code 0 = .ok (.aload_n 0, 1) := by decide +kernel
theorem d_Model_goesFirst_1 : decode prog_9_method_38_code 1 = .ok (.iload_n 1, 1) := by decide +kernel
theorem d_Model_goesFirst_2 : decode prog_9_method_38_code 2 = .ok (.invokevirtual 257, 3) := by decide +kernel
theorem d_Model_goesFirst_5 : decode prog_9_method_38_code 5 = .ok (.aload_n 0, 1) := by decide +kernel
theorem d_Model_goesFirst_6 : decode prog_9_method_38_code 6 = .ok (.iload_n 2, 1) := by decide +kernel
theorem d_Model_goesFirst_7 : decode prog_9_method_38_code 7 = .ok (.invokevirtual 257, 3) := by decide +kernel
theorem d_Model_goesFirst_10 : decode prog_9_method_38_code 10 = .ok (.if_icmp .eq 22, 3) := by decide +kernel
theorem d_Model_goesFirst_13 : decode prog_9_method_38_code 13 = .ok (.aload_n 0, 1) := by decide +kernel
theorem d_Model_goesFirst_14 : decode prog_9_method_38_code 14 = .ok (.iload_n 1, 1) := by decide +kernel
theorem d_Model_goesFirst_15 : decode prog_9_method_38_code 15 = .ok (.invokevirtual 257, 3) := by decide +kernel
theorem d_Model_goesFirst_18 : decode prog_9_method_38_code 18 = .ok (.aload_n 0, 1) := by decide +kernel
theorem d_Model_goesFirst_19 : decode prog_9_method_38_code 19 = .ok (.iload_n 2, 1) := by decide +kernel
theorem d_Model_goesFirst_20 : decode prog_9_method_38_code 20 = .ok (.invokevirtual 257, 3) := by decide +kernel
theorem d_Model_goesFirst_23 : decode prog_9_method_38_code 23 = .ok (.if_icmp .le 7, 3) := by decide +kernel
theorem d_Model_goesFirst_26 : decode prog_9_method_38_code 26 = .ok (.iconst 1, 1) := by decide +kernel
theorem d_Model_goesFirst_27 : decode prog_9_method_38_code 27 = .ok (.goto 4, 3) := by decide +kernel
theorem d_Model_goesFirst_30 : decode prog_9_method_38_code 30 = .ok (.iconst 0, 1) := by decide +kernel
theorem d_Model_goesFirst_31 : decode prog_9_method_38_code 31 = .ok (.ireturn, 1) := by decide +kernel
theorem d_Model_goesFirst_32 : decode prog_9_method_38_code 32 = .ok (.aload_n 0, 1) := by decide +kernel
theorem d_Model_goesFirst_33 : decode prog_9_method_38_code 33 = .ok (.getfield 68, 3) := by decide +kernel
theorem d_Model_goesFirst_36 : decode prog_9_method_38_code 36 = .ok (.iload_n 1, 1) := by decide +kernel
theorem d_Model_goesFirst_37 : decode prog_9_method_38_code 37 = .ok (.iaload, 1) := by decide +kernel
theorem d_Model_goesFirst_38 : decode prog_9_method_38_code 38 = .ok (.aload_n 0, 1) := by decide +kernel
theorem d_Model_goesFirst_39 : decode prog_9_method_38_code 39 = .ok (.getfield 68, 3) := by decide +kernel
theorem d_Model_goesFirst_42 : decode prog_9_method_38_code 42 = .ok (.iload_n 2, 1) := by decide +kernel
theorem d_Model_goesFirst_43 : decode prog_9_method_38_code 43 = .ok (.iaload, 1) := by decide +kernel
theorem d_Model_goesFirst_44 : decode prog_9_method_38_code 44 = .ok (.if_icmp .eq 35, 3) := by decide +kernel
theorem d_Model_goesFirst_47 : decode prog_9_method_38_code 47 = .ok (.aload_n 0, 1) := by decide +kernel
theorem d_Model_goesFirst_48 : decode prog_9_method_38_code 48 = .ok (.getfield 29, 3) := by decide +kernel
theorem d_Model_goesFirst_51 : decode prog_9_method_38_code 51 = .ok (.aload_n 0, 1) := by decide +kernel
theorem d_Model_goesFirst_52 : decode prog_9_method_38_code 52 = .ok (.getfield 68, 3) := by decide +kernel
theorem d_Model_goesFirst_55 : decode prog_9_method_38_code 55 = .ok (.iload_n 1, 1) := by decide +kernel
theorem d_Model_goesFirst_56 : decode prog_9_method_38_code 56 = .ok (.iaload, 1) := by decide +kernel
theorem d_Model_goesFirst_57 : decode prog_9_method_38_code 57 = .ok (.laload, 1) := by decide +kernel
theorem d_Model_goesFirst_58 : decode prog_9_method_38_code 58 = .ok (.aload_n 0, 1) := by decide +kernel
theorem d_Model_goesFirst_59 : decode prog_9_method_38_code 59 = .ok (.getfield 29, 3) := by decide +kernel
theorem d_Model_goesFirst_62 : decode prog_9_method_38_code 62 = .ok (.aload_n 0, 1) := by decide +kernel
theorem d_Model_goesFirst_63 : decode prog_9_method_38_code 63 = .ok (.getfield 68, 3) := by decide +kernel
theorem d_Model_goesFirst_66 : decode prog_9_method_38_code 66 = .ok (.iload_n 2, 1) := by decide +kernel
theorem d_Model_goesFirst_67 : decode prog_9_method_38_code 67 = .ok (.iaload, 1) := by decide +kernel
theorem d_Model_goesFirst_68 : decode prog_9_method_38_code 68 = .ok (.laload, 1) := by decide +kernel
theorem d_Model_goesFirst_69 : decode prog_9_method_38_code 69 = .ok (.lcmp, 1) := by decide +kernel
theorem d_Model_goesFirst_70 : decode prog_9_method_38_code 70 = .ok (.ifCond .ge 7, 3) := by decide +kernel
theorem d_Model_goesFirst_73 : decode prog_9_method_38_code 73 = .ok (.iconst 1, 1) := by decide +kernel
theorem d_Model_goesFirst_74 : decode prog_9_method_38_code 74 = .ok (.goto 4, 3) := by decide +kernel
theorem d_Model_goesFirst_77 : decode prog_9_method_38_code 77 = .ok (.iconst 0, 1) := by decide +kernel
theorem d_Model_goesFirst_78 : decode prog_9_method_38_code 78 = .ok (.ireturn, 1) := by decide +kernel
theorem d_Model_goesFirst_79 : decode prog_9_method_38_code 79 = .ok (.aload_n 0, 1) := by decide +kernel
theorem d_Model_goesFirst_80 : decode prog_9_method_38_code 80 = .ok (.getfield 71, 3) := by decide +kernel
theorem d_Model_goesFirst_83 : decode prog_9_method_38_code 83 = .ok (.iload_n 1, 1) := by decide +kernel
theorem d_Model_goesFirst_84 : decode prog_9_method_38_code 84 = .ok (.iaload, 1) := by decide +kernel
theorem d_Model_goesFirst_85 : decode prog_9_method_38_code 85 = .ok (.aload_n 0, 1) := by decide +kernel
theorem d_Model_goesFirst_86 : decode prog_9_method_38_code 86 = .ok (.getfield 71, 3) := by decide +kernel
theorem d_Model_goesFirst_89 : decode prog_9_method_38_code 89 = .ok (.iload_n 2, 1) := by decide +kernel
theorem d_Model_goesFirst_90 : decode prog_9_method_38_code 90 = .ok (.iaload, 1) := by decide +kernel
theorem d_Model_goesFirst_91 : decode prog_9_method_38_code 91 = .ok (.if_icmp .ge 7, 3) := by decide +kernel
theorem d_Model_goesFirst_94 : decode prog_9_method_38_code 94 = .ok (.iconst 1, 1) := by decide +kernel
theorem d_Model_goesFirst_95 : decode prog_9_method_38_code 95 = .ok (.goto 4, 3) := by decide +kernel
theorem d_Model_goesFirst_98 : decode prog_9_method_38_code 98 = .ok (.iconst 0, 1) := by decide +kernel
theorem d_Model_goesFirst_99 : decode prog_9_method_38_code 99 = .ok (.ireturn, 1) := by decide +kernel
theorem kM_Model_257 : Cond.methodLink "FaultRulesModel" (257 : Nat) ({ cls := "FaultRulesModel", name := "costOf", desc := "(I)I" } : Jvm.MethodName) ∈ xT := x_t5 rfl (i := 11) rfl
theorem kI_Model_costOf : Cond.instanceMethod ({ cls := "FaultRulesModel", name := "costOf", desc := "(I)I" } : Jvm.MethodName) ∈ xT := x_t5 rfl (i := 13) rfl
theorem kS_535 : Cond.selects "FaultRulesModel" ({ cls := "FaultRulesModel", name := "costOf", desc := "(I)I" } : Jvm.MethodName) ({ cls := "FaultRulesModel", name := "costOf", desc := "(I)I" } : Jvm.MethodName) ∈ xT := x_tp rfl (i := 54) rfl
abbrev y_Model_rank : MethodName := { cls := "FaultRulesModel", name := "rank", desc := "()V" }
theorem kC_Model_rank : Cond.code ({ cls := "FaultRulesModel", name := "rank", desc := "()V" } : Jvm.MethodName) prog_9_method_39_code (3 : Nat) (Option.none : Option Jvm.ClassFile.FieldType) ∈ xT := x_t5 rfl (i := 6) rfl
theorem hd_Model_rank : y_Model_rank.cls ≠ "java/lang/invoke/MethodHandle" ∧ y_Model_rank.cls ≠ "java/lang/invoke/VarHandle" ∧ (parseMethodDescriptor y_Model_rank.desc).map (fun d => d.parameters.length) = some 0 := by decide +kernel
theorem d_Model_rank_0 : decode prog_9_method_39_code 0 = .ok (.iconst 0, 1) := by decide +kernel
theorem d_Model_rank_1 : decode prog_9_method_39_code 1 = .ok (.istore_n 1, 1) := by decide +kernel
theorem d_Model_rank_2 : decode prog_9_method_39_code 2 = .ok (.iload_n 1, 1) := by decide +kernel
theorem d_Model_rank_3 : decode prog_9_method_39_code 3 = .ok (.aload_n 0, 1) := by decide +kernel
theorem d_Model_rank_4 : decode prog_9_method_39_code 4 = .ok (.getfield 260, 3) := by decide +kernel
theorem d_Model_rank_7 : decode prog_9_method_39_code 7 = .ok (.if_icmp .ge 58, 3) := by decide +kernel
theorem d_Model_rank_10 : decode prog_9_method_39_code 10 = .ok (.iload_n 1, 1) := by decide +kernel
theorem d_Model_rank_11 : decode prog_9_method_39_code 11 = .ok (.istore_n 2, 1) := by decide +kernel
theorem d_Model_rank_12 : decode prog_9_method_39_code 12 = .ok (.iload_n 2, 1) := by decide +kernel
theorem d_Model_rank_13 : decode prog_9_method_39_code 13 = .ok (.ifCond .le 39, 3) := by decide +kernel
theorem d_Model_rank_16 : decode prog_9_method_39_code 16 = .ok (.aload_n 0, 1) := by decide +kernel
theorem d_Model_rank_17 : decode prog_9_method_39_code 17 = .ok (.iload_n 1, 1) := by decide +kernel
theorem d_Model_rank_18 : decode prog_9_method_39_code 18 = .ok (.aload_n 0, 1) := by decide +kernel
theorem d_Model_rank_19 : decode prog_9_method_39_code 19 = .ok (.getfield 77, 3) := by decide +kernel
theorem d_Model_rank_22 : decode prog_9_method_39_code 22 = .ok (.iload_n 2, 1) := by decide +kernel
theorem d_Model_rank_23 : decode prog_9_method_39_code 23 = .ok (.iconst 1, 1) := by decide +kernel
theorem d_Model_rank_24 : decode prog_9_method_39_code 24 = .ok (.isub, 1) := by decide +kernel
theorem d_Model_rank_25 : decode prog_9_method_39_code 25 = .ok (.iaload, 1) := by decide +kernel
theorem d_Model_rank_26 : decode prog_9_method_39_code 26 = .ok (.invokevirtual 263, 3) := by decide +kernel
theorem d_Model_rank_29 : decode prog_9_method_39_code 29 = .ok (.ifCond .eq 23, 3) := by decide +kernel
theorem d_Model_rank_32 : decode prog_9_method_39_code 32 = .ok (.aload_n 0, 1) := by decide +kernel
theorem d_Model_rank_33 : decode prog_9_method_39_code 33 = .ok (.getfield 77, 3) := by decide +kernel
theorem d_Model_rank_36 : decode prog_9_method_39_code 36 = .ok (.iload_n 2, 1) := by decide +kernel
theorem d_Model_rank_37 : decode prog_9_method_39_code 37 = .ok (.aload_n 0, 1) := by decide +kernel
theorem d_Model_rank_38 : decode prog_9_method_39_code 38 = .ok (.getfield 77, 3) := by decide +kernel
theorem d_Model_rank_41 : decode prog_9_method_39_code 41 = .ok (.iload_n 2, 1) := by decide +kernel
theorem d_Model_rank_42 : decode prog_9_method_39_code 42 = .ok (.iconst 1, 1) := by decide +kernel
theorem d_Model_rank_43 : decode prog_9_method_39_code 43 = .ok (.isub, 1) := by decide +kernel
theorem d_Model_rank_44 : decode prog_9_method_39_code 44 = .ok (.iaload, 1) := by decide +kernel
theorem d_Model_rank_45 : decode prog_9_method_39_code 45 = .ok (.iastore, 1) := by decide +kernel
theorem d_Model_rank_46 : decode prog_9_method_39_code 46 = .ok (.iinc 2 (-1), 3) := by decide +kernel
theorem d_Model_rank_49 : decode prog_9_method_39_code 49 = .ok (.goto (-37), 3) := by decide +kernel
theorem d_Model_rank_52 : decode prog_9_method_39_code 52 = .ok (.aload_n 0, 1) := by decide +kernel
theorem d_Model_rank_53 : decode prog_9_method_39_code 53 = .ok (.getfield 77, 3) := by decide +kernel
theorem d_Model_rank_56 : decode prog_9_method_39_code 56 = .ok (.iload_n 2, 1) := by decide +kernel
theorem d_Model_rank_57 : decode prog_9_method_39_code 57 = .ok (.iload_n 1, 1) := by decide +kernel
theorem d_Model_rank_58 : decode prog_9_method_39_code 58 = .ok (.iastore, 1) := by decide +kernel
theorem d_Model_rank_59 : decode prog_9_method_39_code 59 = .ok (.iinc 1 1, 3) := by decide +kernel
theorem d_Model_rank_62 : decode prog_9_method_39_code 62 = .ok (.goto (-60), 3) := by decide +kernel
theorem d_Model_rank_65 : decode prog_9_method_39_code 65 = .ok (.return_, 1) := by decide +kernel
theorem kF_Model_260 : Cond.fieldLink "FaultRulesModel" (260 : Nat) "FaultRulesModel" "faults" "I" ∈ xT := x_t4 rfl (i := 0) rfl
theorem kF_Model_77 : Cond.fieldLink "FaultRulesModel" (77 : Nat) "FaultRulesModel" "order" "[I" ∈ xT := x_t4 rfl (i := 4) rfl
theorem kM_Model_263 : Cond.methodLink "FaultRulesModel" (263 : Nat) ({ cls := "FaultRulesModel", name := "goesFirst", desc := "(II)Z" } : Jvm.MethodName) ∈ xT := x_t5 rfl (i := 7) rfl
theorem kI_Model_goesFirst : Cond.instanceMethod ({ cls := "FaultRulesModel", name := "goesFirst", desc := "(II)Z" } : Jvm.MethodName) ∈ xT := x_t5 rfl (i := 9) rfl
theorem kS_541 : Cond.selects "FaultRulesModel" ({ cls := "FaultRulesModel", name := "goesFirst", desc := "(II)Z" } : Jvm.MethodName) ({ cls := "FaultRulesModel", name := "goesFirst", desc := "(II)Z" } : Jvm.MethodName) ∈ xT := x_tp rfl (i := 53) rfl
abbrev y_Model_close : MethodName := { cls := "FaultRulesModel", name := "close", desc := "(II)V" }
theorem kC_Model_close : Cond.code ({ cls := "FaultRulesModel", name := "close", desc := "(II)V" } : Jvm.MethodName) prog_9_method_40_code (3 : Nat) (Option.none : Option Jvm.ClassFile.FieldType) ∈ xT := x_t5 rfl (i := 2) rfl
theorem hd_Model_close : y_Model_close.cls ≠ "java/lang/invoke/MethodHandle" ∧ y_Model_close.cls ≠ "java/lang/invoke/VarHandle" ∧ (parseMethodDescriptor y_Model_close.desc).map (fun d => d.parameters.length) = some 2 := by decide +kernel
theorem d_Model_close_0 : decode prog_9_method_40_code 0 = .ok (.aload_n 0, 1) := by decide +kernel
theorem d_Model_close_1 : decode prog_9_method_40_code 1 = .ok (.getfield 65, 3) := by decide +kernel
theorem d_Model_close_4 : decode prog_9_method_40_code 4 = .ok (.iload_n 1, 1) := by decide +kernel
theorem d_Model_close_5 : decode prog_9_method_40_code 5 = .ok (.iaload, 1) := by decide +kernel
theorem d_Model_close_6 : decode prog_9_method_40_code 6 = .ok (.aload_n 0, 1) := by decide +kernel
theorem d_Model_close_7 : decode prog_9_method_40_code 7 = .ok (.getfield 35, 3) := by decide +kernel
theorem d_Model_close_10 : decode prog_9_method_40_code 10 = .ok (.iload_n 1, 1) := by decide +kernel
theorem d_Model_close_11 : decode prog_9_method_40_code 11 = .ok (.iaload, 1) := by decide +kernel
theorem d_Model_close_12 : decode prog_9_method_40_code 12 = .ok (.if_icmp .lt 52, 3) := by decide +kernel
theorem d_Model_close_15 : decode prog_9_method_40_code 15 = .ok (.aload_n 0, 1) := by decide +kernel
theorem d_Model_close_16 : decode prog_9_method_40_code 16 = .ok (.getfield 68, 3) := by decide +kernel
theorem d_Model_close_19 : decode prog_9_method_40_code 19 = .ok (.aload_n 0, 1) := by decide +kernel
theorem d_Model_close_20 : decode prog_9_method_40_code 20 = .ok (.getfield 260, 3) := by decide +kernel
theorem d_Model_close_23 : decode prog_9_method_40_code 23 = .ok (.iload_n 1, 1) := by decide +kernel
theorem d_Model_close_24 : decode prog_9_method_40_code 24 = .ok (.iastore, 1) := by decide +kernel
theorem d_Model_close_25 : decode prog_9_method_40_code 25 = .ok (.aload_n 0, 1) := by decide +kernel
theorem d_Model_close_26 : decode prog_9_method_40_code 26 = .ok (.getfield 71, 3) := by decide +kernel
theorem d_Model_close_29 : decode prog_9_method_40_code 29 = .ok (.aload_n 0, 1) := by decide +kernel
theorem d_Model_close_30 : decode prog_9_method_40_code 30 = .ok (.getfield 260, 3) := by decide +kernel
theorem d_Model_close_33 : decode prog_9_method_40_code 33 = .ok (.iload_n 2, 1) := by decide +kernel
theorem d_Model_close_34 : decode prog_9_method_40_code 34 = .ok (.aload_n 0, 1) := by decide +kernel
theorem d_Model_close_35 : decode prog_9_method_40_code 35 = .ok (.getfield 65, 3) := by decide +kernel
theorem d_Model_close_38 : decode prog_9_method_40_code 38 = .ok (.iload_n 1, 1) := by decide +kernel
theorem d_Model_close_39 : decode prog_9_method_40_code 39 = .ok (.iaload, 1) := by decide +kernel
theorem d_Model_close_40 : decode prog_9_method_40_code 40 = .ok (.isub, 1) := by decide +kernel
theorem d_Model_close_41 : decode prog_9_method_40_code 41 = .ok (.iastore, 1) := by decide +kernel
theorem d_Model_close_42 : decode prog_9_method_40_code 42 = .ok (.aload_n 0, 1) := by decide +kernel
theorem d_Model_close_43 : decode prog_9_method_40_code 43 = .ok (.getfield 74, 3) := by decide +kernel
theorem d_Model_close_46 : decode prog_9_method_40_code 46 = .ok (.aload_n 0, 1) := by decide +kernel
theorem d_Model_close_47 : decode prog_9_method_40_code 47 = .ok (.getfield 260, 3) := by decide +kernel
theorem d_Model_close_50 : decode prog_9_method_40_code 50 = .ok (.iload_n 2, 1) := by decide +kernel
theorem d_Model_close_51 : decode prog_9_method_40_code 51 = .ok (.iconst 1, 1) := by decide +kernel
theorem d_Model_close_52 : decode prog_9_method_40_code 52 = .ok (.isub, 1) := by decide +kernel
theorem d_Model_close_53 : decode prog_9_method_40_code 53 = .ok (.iastore, 1) := by decide +kernel
theorem d_Model_close_54 : decode prog_9_method_40_code 54 = .ok (.aload_n 0, 1) := by decide +kernel
theorem d_Model_close_55 : decode prog_9_method_40_code 55 = .ok (.dup, 1) := by decide +kernel
theorem d_Model_close_56 : decode prog_9_method_40_code 56 = .ok (.getfield 260, 3) := by decide +kernel
theorem d_Model_close_59 : decode prog_9_method_40_code 59 = .ok (.iconst 1, 1) := by decide +kernel
theorem d_Model_close_60 : decode prog_9_method_40_code 60 = .ok (.iadd, 1) := by decide +kernel
theorem d_Model_close_61 : decode prog_9_method_40_code 61 = .ok (.putfield 260, 3) := by decide +kernel
theorem d_Model_close_64 : decode prog_9_method_40_code 64 = .ok (.aload_n 0, 1) := by decide +kernel
theorem d_Model_close_65 : decode prog_9_method_40_code 65 = .ok (.getfield 65, 3) := by decide +kernel
theorem d_Model_close_68 : decode prog_9_method_40_code 68 = .ok (.iload_n 1, 1) := by decide +kernel
theorem d_Model_close_69 : decode prog_9_method_40_code 69 = .ok (.iconst 0, 1) := by decide +kernel
theorem d_Model_close_70 : decode prog_9_method_40_code 70 = .ok (.iastore, 1) := by decide +kernel
theorem d_Model_close_71 : decode prog_9_method_40_code 71 = .ok (.return_, 1) := by decide +kernel
theorem kF_Model_65 : Cond.fieldLink "FaultRulesModel" (65 : Nat) "FaultRulesModel" "streaks" "[I" ∈ xT := x_t3 rfl (i := 239) rfl
abbrev y_Model_run : MethodName := { cls := "FaultRulesModel", name := "run", desc := "(II)I" }
theorem kC_Model_run : Cond.code ({ cls := "FaultRulesModel", name := "run", desc := "(II)I" } : Jvm.MethodName) prog_9_method_41_code (5 : Nat) (Option.some Jvm.ClassFile.FieldType.int) ∈ xT := x_t4 rfl (i := 233) rfl
theorem hd_Model_run : y_Model_run.cls ≠ "java/lang/invoke/MethodHandle" ∧ y_Model_run.cls ≠ "java/lang/invoke/VarHandle" ∧ (parseMethodDescriptor y_Model_run.desc).map (fun d => d.parameters.length) = some 2 := by decide +kernel
theorem d_Model_run_0 : decode prog_9_method_41_code 0 = .ok (.aload_n 0, 1) := by decide +kernel
theorem d_Model_run_1 : decode prog_9_method_41_code 1 = .ok (.iload_n 1, 1) := by decide +kernel
theorem d_Model_run_2 : decode prog_9_method_41_code 2 = .ok (.ifCond .lt 24, 3) := by decide +kernel
theorem d_Model_run_5 : decode prog_9_method_41_code 5 = .ok (.iload_n 2, 1) := by decide +kernel
theorem d_Model_run_6 : decode prog_9_method_41_code 6 = .ok (.iload_n 1, 1) := by decide +kernel
theorem d_Model_run_7 : decode prog_9_method_41_code 7 = .ok (.if_icmp .lt 19, 3) := by decide +kernel
theorem d_Model_run_10 : decode prog_9_method_41_code 10 = .ok (.iload_n 2, 1) := by decide +kernel
theorem d_Model_run_11 : decode prog_9_method_41_code 11 = .ok (.ldc_w 266, 3) := by decide +kernel
theorem d_Model_run_14 : decode prog_9_method_41_code 14 = .ok (.if_icmp .gt 12, 3) := by decide +kernel
theorem d_Model_run_17 : decode prog_9_method_41_code 17 = .ok (.iload_n 2, 1) := by decide +kernel
theorem d_Model_run_18 : decode prog_9_method_41_code 18 = .ok (.iload_n 1, 1) := by decide +kernel
theorem d_Model_run_19 : decode prog_9_method_41_code 19 = .ok (.isub, 1) := by decide +kernel
theorem d_Model_run_20 : decode prog_9_method_41_code 20 = .ok (.sipush 1999, 3) := by decide +kernel
theorem d_Model_run_23 : decode prog_9_method_41_code 23 = .ok (.if_icmp .le 7, 3) := by decide +kernel
theorem d_Model_run_26 : decode prog_9_method_41_code 26 = .ok (.iconst 1, 1) := by decide +kernel
theorem d_Model_run_27 : decode prog_9_method_41_code 27 = .ok (.goto 15, 3) := by decide +kernel
theorem d_Model_run_30 : decode prog_9_method_41_code 30 = .ok (.aload_n 0, 1) := by decide +kernel
theorem d_Model_run_31 : decode prog_9_method_41_code 31 = .ok (.getfield 233, 3) := by decide +kernel
theorem d_Model_run_34 : decode prog_9_method_41_code 34 = .ok (.ifCond .ne 7, 3) := by decide +kernel
theorem d_Model_run_37 : decode prog_9_method_41_code 37 = .ok (.iconst 2, 1) := by decide +kernel
theorem d_Model_run_38 : decode prog_9_method_41_code 38 = .ok (.goto 4, 3) := by decide +kernel
theorem d_Model_run_41 : decode prog_9_method_41_code 41 = .ok (.iconst 0, 1) := by decide +kernel
theorem d_Model_run_42 : decode prog_9_method_41_code 42 = .ok (.putfield 86, 3) := by decide +kernel
theorem d_Model_run_45 : decode prog_9_method_41_code 45 = .ok (.aload_n 0, 1) := by decide +kernel
theorem d_Model_run_46 : decode prog_9_method_41_code 46 = .ok (.getfield 86, 3) := by decide +kernel
theorem d_Model_run_49 : decode prog_9_method_41_code 49 = .ok (.ifCond .le 5, 3) := by decide +kernel
theorem d_Model_run_52 : decode prog_9_method_41_code 52 = .ok (.iconst 0, 1) := by decide +kernel
theorem d_Model_run_53 : decode prog_9_method_41_code 53 = .ok (.ireturn, 1) := by decide +kernel
theorem d_Model_run_54 : decode prog_9_method_41_code 54 = .ok (.aload_n 0, 1) := by decide +kernel
theorem d_Model_run_55 : decode prog_9_method_41_code 55 = .ok (.iconst 0, 1) := by decide +kernel
theorem d_Model_run_56 : decode prog_9_method_41_code 56 = .ok (.putfield 260, 3) := by decide +kernel
theorem d_Model_run_59 : decode prog_9_method_41_code 59 = .ok (.aload_n 0, 1) := by decide +kernel
theorem d_Model_run_60 : decode prog_9_method_41_code 60 = .ok (.iconst 1, 1) := by decide +kernel
theorem d_Model_run_61 : decode prog_9_method_41_code 61 = .ok (.putfield 236, 3) := by decide +kernel
theorem d_Model_run_64 : decode prog_9_method_41_code 64 = .ok (.iconst 0, 1) := by decide +kernel
theorem d_Model_run_65 : decode prog_9_method_41_code 65 = .ok (.istore_n 3, 1) := by decide +kernel
theorem d_Model_run_66 : decode prog_9_method_41_code 66 = .ok (.iload_n 3, 1) := by decide +kernel
theorem d_Model_run_67 : decode prog_9_method_41_code 67 = .ok (.bipush 6, 2) := by decide +kernel
theorem d_Model_run_69 : decode prog_9_method_41_code 69 = .ok (.if_icmp .ge 23, 3) := by decide +kernel
theorem d_Model_run_72 : decode prog_9_method_41_code 72 = .ok (.aload_n 0, 1) := by decide +kernel
theorem d_Model_run_73 : decode prog_9_method_41_code 73 = .ok (.getfield 62, 3) := by decide +kernel
theorem d_Model_run_76 : decode prog_9_method_41_code 76 = .ok (.iload_n 3, 1) := by decide +kernel
theorem d_Model_run_77 : decode prog_9_method_41_code 77 = .ok (.iconst 0, 1) := by decide +kernel
theorem d_Model_run_78 : decode prog_9_method_41_code 78 = .ok (.iastore, 1) := by decide +kernel
theorem d_Model_run_79 : decode prog_9_method_41_code 79 = .ok (.aload_n 0, 1) := by decide +kernel
theorem d_Model_run_80 : decode prog_9_method_41_code 80 = .ok (.getfield 65, 3) := by decide +kernel
theorem d_Model_run_83 : decode prog_9_method_41_code 83 = .ok (.iload_n 3, 1) := by decide +kernel
theorem d_Model_run_84 : decode prog_9_method_41_code 84 = .ok (.iconst 0, 1) := by decide +kernel
theorem d_Model_run_85 : decode prog_9_method_41_code 85 = .ok (.iastore, 1) := by decide +kernel
theorem d_Model_run_86 : decode prog_9_method_41_code 86 = .ok (.iinc 3 1, 3) := by decide +kernel
theorem d_Model_run_89 : decode prog_9_method_41_code 89 = .ok (.goto (-23), 3) := by decide +kernel
theorem d_Model_run_92 : decode prog_9_method_41_code 92 = .ok (.aload_n 0, 1) := by decide +kernel
theorem d_Model_run_93 : decode prog_9_method_41_code 93 = .ok (.iload_n 1, 1) := by decide +kernel
theorem d_Model_run_94 : decode prog_9_method_41_code 94 = .ok (.invokevirtual 251, 3) := by decide +kernel
theorem d_Model_run_97 : decode prog_9_method_41_code 97 = .ok (.iload_n 1, 1) := by decide +kernel
theorem d_Model_run_98 : decode prog_9_method_41_code 98 = .ok (.istore_n 3, 1) := by decide +kernel
theorem d_Model_run_99 : decode prog_9_method_41_code 99 = .ok (.iload_n 3, 1) := by decide +kernel
theorem d_Model_run_100 : decode prog_9_method_41_code 100 = .ok (.iload_n 2, 1) := by decide +kernel
theorem d_Model_run_101 : decode prog_9_method_41_code 101 = .ok (.if_icmp .gt 109, 3) := by decide +kernel
theorem d_Model_run_104 : decode prog_9_method_41_code 104 = .ok (.iconst 0, 1) := by decide +kernel
theorem d_Model_run_105 : decode prog_9_method_41_code 105 = .ok (.istore 4, 2) := by decide +kernel
theorem d_Model_run_107 : decode prog_9_method_41_code 107 = .ok (.iload 4, 2) := by decide +kernel
theorem d_Model_run_109 : decode prog_9_method_41_code 109 = .ok (.aload_n 0, 1) := by decide +kernel
theorem d_Model_run_110 : decode prog_9_method_41_code 110 = .ok (.getfield 98, 3) := by decide +kernel
theorem d_Model_run_113 : decode prog_9_method_41_code 113 = .ok (.if_icmp .ge 31, 3) := by decide +kernel
theorem d_Model_run_116 : decode prog_9_method_41_code 116 = .ok (.iload_n 3, 1) := by decide +kernel
theorem d_Model_run_117 : decode prog_9_method_41_code 117 = .ok (.iload_n 1, 1) := by decide +kernel
theorem d_Model_run_118 : decode prog_9_method_41_code 118 = .ok (.if_icmp .le 26, 3) := by decide +kernel
theorem d_Model_run_121 : decode prog_9_method_41_code 121 = .ok (.aload_n 0, 1) := by decide +kernel
theorem d_Model_run_122 : decode prog_9_method_41_code 122 = .ok (.getfield 13, 3) := by decide +kernel
theorem d_Model_run_125 : decode prog_9_method_41_code 125 = .ok (.iload 4, 2) := by decide +kernel
theorem d_Model_run_127 : decode prog_9_method_41_code 127 = .ok (.iaload, 1) := by decide +kernel
theorem d_Model_run_128 : decode prog_9_method_41_code 128 = .ok (.iload_n 3, 1) := by decide +kernel
theorem d_Model_run_129 : decode prog_9_method_41_code 129 = .ok (.if_icmp .ne 9, 3) := by decide +kernel
theorem d_Model_run_132 : decode prog_9_method_41_code 132 = .ok (.aload_n 0, 1) := by decide +kernel
theorem d_Model_run_133 : decode prog_9_method_41_code 133 = .ok (.iload 4, 2) := by decide +kernel
theorem d_Model_run_135 : decode prog_9_method_41_code 135 = .ok (.invokevirtual 240, 3) := by decide +kernel
theorem d_Model_run_138 : decode prog_9_method_41_code 138 = .ok (.iinc 4 1, 3) := by decide +kernel
theorem d_Model_run_141 : decode prog_9_method_41_code 141 = .ok (.goto (-34), 3) := by decide +kernel
theorem d_Model_run_144 : decode prog_9_method_41_code 144 = .ok (.iconst 0, 1) := by decide +kernel
theorem d_Model_run_145 : decode prog_9_method_41_code 145 = .ok (.istore 4, 2) := by decide +kernel
theorem d_Model_run_147 : decode prog_9_method_41_code 147 = .ok (.iload 4, 2) := by decide +kernel
theorem d_Model_run_149 : decode prog_9_method_41_code 149 = .ok (.aload_n 0, 1) := by decide +kernel
theorem d_Model_run_150 : decode prog_9_method_41_code 150 = .ok (.getfield 233, 3) := by decide +kernel
theorem d_Model_run_153 : decode prog_9_method_41_code 153 = .ok (.if_icmp .ge 51, 3) := by decide +kernel
theorem d_Model_run_156 : decode prog_9_method_41_code 156 = .ok (.aload_n 0, 1) := by decide +kernel
theorem d_Model_run_157 : decode prog_9_method_41_code 157 = .ok (.iload 4, 2) := by decide +kernel
theorem d_Model_run_159 : decode prog_9_method_41_code 159 = .ok (.iload_n 3, 1) := by decide +kernel
theorem d_Model_run_160 : decode prog_9_method_41_code 160 = .ok (.invokevirtual 267, 3) := by decide +kernel
theorem d_Model_run_163 : decode prog_9_method_41_code 163 = .ok (.ifCond .eq 28, 3) := by decide +kernel
theorem d_Model_run_166 : decode prog_9_method_41_code 166 = .ok (.aload_n 0, 1) := by decide +kernel
theorem d_Model_run_167 : decode prog_9_method_41_code 167 = .ok (.getfield 62, 3) := by decide +kernel
theorem d_Model_run_170 : decode prog_9_method_41_code 170 = .ok (.iload 4, 2) := by decide +kernel
theorem d_Model_run_172 : decode prog_9_method_41_code 172 = .ok (.dup2, 1) := by decide +kernel
theorem d_Model_run_173 : decode prog_9_method_41_code 173 = .ok (.iaload, 1) := by decide +kernel
theorem d_Model_run_174 : decode prog_9_method_41_code 174 = .ok (.iconst 1, 1) := by decide +kernel
theorem d_Model_run_175 : decode prog_9_method_41_code 175 = .ok (.iadd, 1) := by decide +kernel
theorem d_Model_run_176 : decode prog_9_method_41_code 176 = .ok (.iastore, 1) := by decide +kernel
theorem d_Model_run_177 : decode prog_9_method_41_code 177 = .ok (.aload_n 0, 1) := by decide +kernel
theorem d_Model_run_178 : decode prog_9_method_41_code 178 = .ok (.getfield 65, 3) := by decide +kernel
theorem d_Model_run_181 : decode prog_9_method_41_code 181 = .ok (.iload 4, 2) := by decide +kernel
theorem d_Model_run_183 : decode prog_9_method_41_code 183 = .ok (.dup2, 1) := by decide +kernel
theorem d_Model_run_184 : decode prog_9_method_41_code 184 = .ok (.iaload, 1) := by decide +kernel
theorem d_Model_run_185 : decode prog_9_method_41_code 185 = .ok (.iconst 1, 1) := by decide +kernel
theorem d_Model_run_186 : decode prog_9_method_41_code 186 = .ok (.iadd, 1) := by decide +kernel
theorem d_Model_run_187 : decode prog_9_method_41_code 187 = .ok (.iastore, 1) := by decide +kernel
theorem d_Model_run_188 : decode prog_9_method_41_code 188 = .ok (.goto 10, 3) := by decide +kernel
theorem d_Model_run_191 : decode prog_9_method_41_code 191 = .ok (.aload_n 0, 1) := by decide +kernel
theorem d_Model_run_192 : decode prog_9_method_41_code 192 = .ok (.iload 4, 2) := by decide +kernel
theorem d_Model_run_194 : decode prog_9_method_41_code 194 = .ok (.iload_n 3, 1) := by decide +kernel
theorem d_Model_run_195 : decode prog_9_method_41_code 195 = .ok (.invokevirtual 270, 3) := by decide +kernel
theorem d_Model_run_198 : decode prog_9_method_41_code 198 = .ok (.iinc 4 1, 3) := by decide +kernel
theorem d_Model_run_201 : decode prog_9_method_41_code 201 = .ok (.goto (-54), 3) := by decide +kernel
theorem d_Model_run_204 : decode prog_9_method_41_code 204 = .ok (.iinc 3 1, 3) := by decide +kernel
theorem d_Model_run_207 : decode prog_9_method_41_code 207 = .ok (.goto (-108), 3) := by decide +kernel
theorem d_Model_run_210 : decode prog_9_method_41_code 210 = .ok (.iconst 0, 1) := by decide +kernel
theorem d_Model_run_211 : decode prog_9_method_41_code 211 = .ok (.istore_n 3, 1) := by decide +kernel
theorem d_Model_run_212 : decode prog_9_method_41_code 212 = .ok (.iload_n 3, 1) := by decide +kernel
theorem d_Model_run_213 : decode prog_9_method_41_code 213 = .ok (.aload_n 0, 1) := by decide +kernel
theorem d_Model_run_214 : decode prog_9_method_41_code 214 = .ok (.getfield 233, 3) := by decide +kernel
theorem d_Model_run_217 : decode prog_9_method_41_code 217 = .ok (.if_icmp .ge 17, 3) := by decide +kernel
theorem d_Model_run_220 : decode prog_9_method_41_code 220 = .ok (.aload_n 0, 1) := by decide +kernel
theorem d_Model_run_221 : decode prog_9_method_41_code 221 = .ok (.iload_n 3, 1) := by decide +kernel
theorem d_Model_run_222 : decode prog_9_method_41_code 222 = .ok (.iload_n 2, 1) := by decide +kernel
theorem d_Model_run_223 : decode prog_9_method_41_code 223 = .ok (.iconst 1, 1) := by decide +kernel
theorem d_Model_run_224 : decode prog_9_method_41_code 224 = .ok (.iadd, 1) := by decide +kernel
theorem d_Model_run_225 : decode prog_9_method_41_code 225 = .ok (.invokevirtual 270, 3) := by decide +kernel
theorem d_Model_run_228 : decode prog_9_method_41_code 228 = .ok (.iinc 3 1, 3) := by decide +kernel
theorem d_Model_run_231 : decode prog_9_method_41_code 231 = .ok (.goto (-19), 3) := by decide +kernel
theorem d_Model_run_234 : decode prog_9_method_41_code 234 = .ok (.aload_n 0, 1) := by decide +kernel
theorem d_Model_run_235 : decode prog_9_method_41_code 235 = .ok (.invokevirtual 274, 3) := by decide +kernel
theorem d_Model_run_238 : decode prog_9_method_41_code 238 = .ok (.aload_n 0, 1) := by decide +kernel
theorem d_Model_run_239 : decode prog_9_method_41_code 239 = .ok (.getfield 260, 3) := by decide +kernel
theorem d_Model_run_242 : decode prog_9_method_41_code 242 = .ok (.ireturn, 1) := by decide +kernel
theorem kF_Model_62 : Cond.fieldLink "FaultRulesModel" (62 : Nat) "FaultRulesModel" "heldCounts" "[I" ∈ xT := x_t3 rfl (i := 238) rfl
theorem kK_Model_266 : Cond.constant "FaultRulesModel" (266 : Nat) (100000 : Int32) ∈ xT := x_t4 rfl (i := 234) rfl
theorem kM_Model_267 : Cond.methodLink "FaultRulesModel" (267 : Nat) ({ cls := "FaultRulesModel", name := "areAll", desc := "(II)Z" } : Jvm.MethodName) ∈ xT := x_t4 rfl (i := 235) rfl
theorem kI_Model_areAll : Cond.instanceMethod ({ cls := "FaultRulesModel", name := "areAll", desc := "(II)Z" } : Jvm.MethodName) ∈ xT := x_t4 rfl (i := 237) rfl
theorem kS_549 : Cond.selects "FaultRulesModel" ({ cls := "FaultRulesModel", name := "areAll", desc := "(II)Z" } : Jvm.MethodName) ({ cls := "FaultRulesModel", name := "areAll", desc := "(II)Z" } : Jvm.MethodName) ∈ xT := x_tp rfl (i := 50) rfl
theorem kM_Model_270 : Cond.methodLink "FaultRulesModel" (270 : Nat) ({ cls := "FaultRulesModel", name := "close", desc := "(II)V" } : Jvm.MethodName) ∈ xT := x_t4 rfl (i := 239) rfl
theorem kI_Model_close : Cond.instanceMethod ({ cls := "FaultRulesModel", name := "close", desc := "(II)V" } : Jvm.MethodName) ∈ xT := x_t5 rfl (i := 1) rfl
theorem kS_552 : Cond.selects "FaultRulesModel" ({ cls := "FaultRulesModel", name := "close", desc := "(II)V" } : Jvm.MethodName) ({ cls := "FaultRulesModel", name := "close", desc := "(II)V" } : Jvm.MethodName) ∈ xT := x_tp rfl (i := 51) rfl
theorem kM_Model_274 : Cond.methodLink "FaultRulesModel" (274 : Nat) ({ cls := "FaultRulesModel", name := "rank", desc := "()V" } : Jvm.MethodName) ∈ xT := x_t5 rfl (i := 3) rfl
theorem kI_Model_rank : Cond.instanceMethod ({ cls := "FaultRulesModel", name := "rank", desc := "()V" } : Jvm.MethodName) ∈ xT := x_t5 rfl (i := 5) rfl
theorem kS_555 : Cond.selects "FaultRulesModel" ({ cls := "FaultRulesModel", name := "rank", desc := "()V" } : Jvm.MethodName) ({ cls := "FaultRulesModel", name := "rank", desc := "()V" } : Jvm.MethodName) ∈ xT := x_tp rfl (i := 52) rfl
abbrev y_Model_fault : MethodName := { cls := "FaultRulesModel", name := "fault", desc := "(II)I" }
theorem kC_Model_fault : Cond.code ({ cls := "FaultRulesModel", name := "fault", desc := "(II)I" } : Jvm.MethodName) prog_9_method_42_code (4 : Nat) (Option.some Jvm.ClassFile.FieldType.int) ∈ xT := x_t5 rfl (i := 21) rfl
theorem hd_Model_fault : y_Model_fault.cls ≠ "java/lang/invoke/MethodHandle" ∧ y_Model_fault.cls ≠ "java/lang/invoke/VarHandle" ∧ (parseMethodDescriptor y_Model_fault.desc).map (fun d => d.parameters.length) = some 2 := by decide +kernel
theorem d_Model_fault_0 : decode prog_9_method_42_code 0 = .ok (.aload_n 0, 1) := by decide +kernel
theorem d_Model_fault_1 : decode prog_9_method_42_code 1 = .ok (.iload_n 1, 1) := by decide +kernel
theorem d_Model_fault_2 : decode prog_9_method_42_code 2 = .ok (.ifCond .lt 12, 3) := by decide +kernel
theorem d_Model_fault_5 : decode prog_9_method_42_code 5 = .ok (.iload_n 2, 1) := by decide +kernel
theorem d_Model_fault_6 : decode prog_9_method_42_code 6 = .ok (.ifCond .lt 8, 3) := by decide +kernel
theorem d_Model_fault_9 : decode prog_9_method_42_code 9 = .ok (.iload_n 2, 1) := by decide +kernel
theorem d_Model_fault_10 : decode prog_9_method_42_code 10 = .ok (.iconst 3, 1) := by decide +kernel
theorem d_Model_fault_11 : decode prog_9_method_42_code 11 = .ok (.if_icmp .le 7, 3) := by decide +kernel
theorem d_Model_fault_14 : decode prog_9_method_42_code 14 = .ok (.iconst 1, 1) := by decide +kernel
theorem d_Model_fault_15 : decode prog_9_method_42_code 15 = .ok (.goto 15, 3) := by decide +kernel
theorem d_Model_fault_18 : decode prog_9_method_42_code 18 = .ok (.aload_n 0, 1) := by decide +kernel
theorem d_Model_fault_19 : decode prog_9_method_42_code 19 = .ok (.getfield 236, 3) := by decide +kernel
theorem d_Model_fault_22 : decode prog_9_method_42_code 22 = .ok (.ifCond .ne 7, 3) := by decide +kernel
theorem d_Model_fault_25 : decode prog_9_method_42_code 25 = .ok (.iconst 2, 1) := by decide +kernel
theorem d_Model_fault_26 : decode prog_9_method_42_code 26 = .ok (.goto 4, 3) := by decide +kernel
theorem d_Model_fault_29 : decode prog_9_method_42_code 29 = .ok (.iconst 0, 1) := by decide +kernel
theorem d_Model_fault_30 : decode prog_9_method_42_code 30 = .ok (.putfield 86, 3) := by decide +kernel
theorem d_Model_fault_33 : decode prog_9_method_42_code 33 = .ok (.aload_n 0, 1) := by decide +kernel
theorem d_Model_fault_34 : decode prog_9_method_42_code 34 = .ok (.getfield 86, 3) := by decide +kernel
theorem d_Model_fault_37 : decode prog_9_method_42_code 37 = .ok (.ifCond .le 5, 3) := by decide +kernel
theorem d_Model_fault_40 : decode prog_9_method_42_code 40 = .ok (.iconst 0, 1) := by decide +kernel
theorem d_Model_fault_41 : decode prog_9_method_42_code 41 = .ok (.ireturn, 1) := by decide +kernel
theorem d_Model_fault_42 : decode prog_9_method_42_code 42 = .ok (.iload_n 1, 1) := by decide +kernel
theorem d_Model_fault_43 : decode prog_9_method_42_code 43 = .ok (.aload_n 0, 1) := by decide +kernel
theorem d_Model_fault_44 : decode prog_9_method_42_code 44 = .ok (.getfield 260, 3) := by decide +kernel
theorem d_Model_fault_47 : decode prog_9_method_42_code 47 = .ok (.if_icmp .lt 5, 3) := by decide +kernel
theorem d_Model_fault_50 : decode prog_9_method_42_code 50 = .ok (.iconst (-1), 1) := by decide +kernel
theorem d_Model_fault_51 : decode prog_9_method_42_code 51 = .ok (.ireturn, 1) := by decide +kernel
theorem d_Model_fault_52 : decode prog_9_method_42_code 52 = .ok (.aload_n 0, 1) := by decide +kernel
theorem d_Model_fault_53 : decode prog_9_method_42_code 53 = .ok (.getfield 77, 3) := by decide +kernel
theorem d_Model_fault_56 : decode prog_9_method_42_code 56 = .ok (.iload_n 1, 1) := by decide +kernel
theorem d_Model_fault_57 : decode prog_9_method_42_code 57 = .ok (.iaload, 1) := by decide +kernel
theorem d_Model_fault_58 : decode prog_9_method_42_code 58 = .ok (.istore_n 3, 1) := by decide +kernel
theorem d_Model_fault_59 : decode prog_9_method_42_code 59 = .ok (.iload_n 2, 1) := by decide +kernel
theorem d_Model_fault_60 : decode prog_9_method_42_code 60 = .ok (.ifCond .ne 12, 3) := by decide +kernel
theorem d_Model_fault_63 : decode prog_9_method_42_code 63 = .ok (.aload_n 0, 1) := by decide +kernel
theorem d_Model_fault_64 : decode prog_9_method_42_code 64 = .ok (.getfield 68, 3) := by decide +kernel
theorem d_Model_fault_67 : decode prog_9_method_42_code 67 = .ok (.iload_n 3, 1) := by decide +kernel
theorem d_Model_fault_68 : decode prog_9_method_42_code 68 = .ok (.iaload, 1) := by decide +kernel
theorem d_Model_fault_69 : decode prog_9_method_42_code 69 = .ok (.goto 36, 3) := by decide +kernel
theorem d_Model_fault_72 : decode prog_9_method_42_code 72 = .ok (.iload_n 2, 1) := by decide +kernel
theorem d_Model_fault_73 : decode prog_9_method_42_code 73 = .ok (.iconst 1, 1) := by decide +kernel
theorem d_Model_fault_74 : decode prog_9_method_42_code 74 = .ok (.if_icmp .ne 12, 3) := by decide +kernel
theorem d_Model_fault_77 : decode prog_9_method_42_code 77 = .ok (.aload_n 0, 1) := by decide +kernel
theorem d_Model_fault_78 : decode prog_9_method_42_code 78 = .ok (.getfield 71, 3) := by decide +kernel
theorem d_Model_fault_81 : decode prog_9_method_42_code 81 = .ok (.iload_n 3, 1) := by decide +kernel
theorem d_Model_fault_82 : decode prog_9_method_42_code 82 = .ok (.iaload, 1) := by decide +kernel
theorem d_Model_fault_83 : decode prog_9_method_42_code 83 = .ok (.goto 22, 3) := by decide +kernel
theorem d_Model_fault_86 : decode prog_9_method_42_code 86 = .ok (.iload_n 2, 1) := by decide +kernel
theorem d_Model_fault_87 : decode prog_9_method_42_code 87 = .ok (.iconst 2, 1) := by decide +kernel
theorem d_Model_fault_88 : decode prog_9_method_42_code 88 = .ok (.if_icmp .ne 12, 3) := by decide +kernel
theorem d_Model_fault_91 : decode prog_9_method_42_code 91 = .ok (.aload_n 0, 1) := by decide +kernel
theorem d_Model_fault_92 : decode prog_9_method_42_code 92 = .ok (.getfield 74, 3) := by decide +kernel
theorem d_Model_fault_95 : decode prog_9_method_42_code 95 = .ok (.iload_n 3, 1) := by decide +kernel
theorem d_Model_fault_96 : decode prog_9_method_42_code 96 = .ok (.iaload, 1) := by decide +kernel
theorem d_Model_fault_97 : decode prog_9_method_42_code 97 = .ok (.goto 8, 3) := by decide +kernel
theorem d_Model_fault_100 : decode prog_9_method_42_code 100 = .ok (.aload_n 0, 1) := by decide +kernel
theorem d_Model_fault_101 : decode prog_9_method_42_code 101 = .ok (.iload_n 3, 1) := by decide +kernel
theorem d_Model_fault_102 : decode prog_9_method_42_code 102 = .ok (.invokevirtual 257, 3) := by decide +kernel
theorem d_Model_fault_105 : decode prog_9_method_42_code 105 = .ok (.ireturn, 1) := by decide +kernel
abbrev y_Model_money : MethodName := { cls := "FaultRulesModel", name := "money", desc := "()I" }
theorem kC_Model_money : Cond.code ({ cls := "FaultRulesModel", name := "money", desc := "()I" } : Jvm.MethodName) prog_9_method_43_code (3 : Nat) (Option.some Jvm.ClassFile.FieldType.int) ∈ xT := x_t5 rfl (i := 25) rfl
theorem hd_Model_money : y_Model_money.cls ≠ "java/lang/invoke/MethodHandle" ∧ y_Model_money.cls ≠ "java/lang/invoke/VarHandle" ∧ (parseMethodDescriptor y_Model_money.desc).map (fun d => d.parameters.length) = some 0 := by decide +kernel
theorem d_Model_money_0 : decode prog_9_method_43_code 0 = .ok (.aload_n 0, 1) := by decide +kernel
theorem d_Model_money_1 : decode prog_9_method_43_code 1 = .ok (.aload_n 0, 1) := by decide +kernel
theorem d_Model_money_2 : decode prog_9_method_43_code 2 = .ok (.getfield 236, 3) := by decide +kernel
theorem d_Model_money_5 : decode prog_9_method_43_code 5 = .ok (.ifCond .eq 7, 3) := by decide +kernel
theorem d_Model_money_8 : decode prog_9_method_43_code 8 = .ok (.iconst 0, 1) := by decide +kernel
theorem d_Model_money_9 : decode prog_9_method_43_code 9 = .ok (.goto 4, 3) := by decide +kernel
theorem d_Model_money_12 : decode prog_9_method_43_code 12 = .ok (.iconst 1, 1) := by decide +kernel
theorem d_Model_money_13 : decode prog_9_method_43_code 13 = .ok (.putfield 86, 3) := by decide +kernel
theorem d_Model_money_16 : decode prog_9_method_43_code 16 = .ok (.iconst 0, 1) := by decide +kernel
theorem d_Model_money_17 : decode prog_9_method_43_code 17 = .ok (.istore_n 1, 1) := by decide +kernel
theorem d_Model_money_18 : decode prog_9_method_43_code 18 = .ok (.iconst 0, 1) := by decide +kernel
theorem d_Model_money_19 : decode prog_9_method_43_code 19 = .ok (.istore_n 2, 1) := by decide +kernel
theorem d_Model_money_20 : decode prog_9_method_43_code 20 = .ok (.iload_n 2, 1) := by decide +kernel
theorem d_Model_money_21 : decode prog_9_method_43_code 21 = .ok (.aload_n 0, 1) := by decide +kernel
theorem d_Model_money_22 : decode prog_9_method_43_code 22 = .ok (.getfield 260, 3) := by decide +kernel
theorem d_Model_money_25 : decode prog_9_method_43_code 25 = .ok (.if_icmp .ge 24, 3) := by decide +kernel
theorem d_Model_money_28 : decode prog_9_method_43_code 28 = .ok (.aload_n 0, 1) := by decide +kernel
theorem d_Model_money_29 : decode prog_9_method_43_code 29 = .ok (.getfield 236, 3) := by decide +kernel
theorem d_Model_money_32 : decode prog_9_method_43_code 32 = .ok (.ifCond .eq 17, 3) := by decide +kernel
theorem d_Model_money_35 : decode prog_9_method_43_code 35 = .ok (.iload_n 1, 1) := by decide +kernel
theorem d_Model_money_36 : decode prog_9_method_43_code 36 = .ok (.aload_n 0, 1) := by decide +kernel
theorem d_Model_money_37 : decode prog_9_method_43_code 37 = .ok (.iload_n 2, 1) := by decide +kernel
theorem d_Model_money_38 : decode prog_9_method_43_code 38 = .ok (.invokevirtual 257, 3) := by decide +kernel
theorem d_Model_money_41 : decode prog_9_method_43_code 41 = .ok (.iadd, 1) := by decide +kernel
theorem d_Model_money_42 : decode prog_9_method_43_code 42 = .ok (.istore_n 1, 1) := by decide +kernel
theorem d_Model_money_43 : decode prog_9_method_43_code 43 = .ok (.iinc 2 1, 3) := by decide +kernel
theorem d_Model_money_46 : decode prog_9_method_43_code 46 = .ok (.goto (-26), 3) := by decide +kernel
theorem d_Model_money_49 : decode prog_9_method_43_code 49 = .ok (.iload_n 1, 1) := by decide +kernel
theorem d_Model_money_50 : decode prog_9_method_43_code 50 = .ok (.ireturn, 1) := by decide +kernel
abbrev y_Model_held : MethodName := { cls := "FaultRulesModel", name := "held", desc := "(I)I" }
theorem kC_Model_held : Cond.code ({ cls := "FaultRulesModel", name := "held", desc := "(I)I" } : Jvm.MethodName) prog_9_method_44_code (2 : Nat) (Option.some Jvm.ClassFile.FieldType.int) ∈ xT := x_t5 rfl (i := 29) rfl
theorem hd_Model_held : y_Model_held.cls ≠ "java/lang/invoke/MethodHandle" ∧ y_Model_held.cls ≠ "java/lang/invoke/VarHandle" ∧ (parseMethodDescriptor y_Model_held.desc).map (fun d => d.parameters.length) = some 1 := by decide +kernel
theorem d_Model_held_0 : decode prog_9_method_44_code 0 = .ok (.aload_n 0, 1) := by decide +kernel
theorem d_Model_held_1 : decode prog_9_method_44_code 1 = .ok (.iload_n 1, 1) := by decide +kernel
theorem d_Model_held_2 : decode prog_9_method_44_code 2 = .ok (.ifCond .lt 11, 3) := by decide +kernel
theorem d_Model_held_5 : decode prog_9_method_44_code 5 = .ok (.iload_n 1, 1) := by decide +kernel
theorem d_Model_held_6 : decode prog_9_method_44_code 6 = .ok (.aload_n 0, 1) := by decide +kernel
theorem d_Model_held_7 : decode prog_9_method_44_code 7 = .ok (.getfield 233, 3) := by decide +kernel
theorem d_Model_held_10 : decode prog_9_method_44_code 10 = .ok (.if_icmp .lt 7, 3) := by decide +kernel
theorem d_Model_held_13 : decode prog_9_method_44_code 13 = .ok (.iconst 1, 1) := by decide +kernel
theorem d_Model_held_14 : decode prog_9_method_44_code 14 = .ok (.goto 15, 3) := by decide +kernel
theorem d_Model_held_17 : decode prog_9_method_44_code 17 = .ok (.aload_n 0, 1) := by decide +kernel
theorem d_Model_held_18 : decode prog_9_method_44_code 18 = .ok (.getfield 236, 3) := by decide +kernel
theorem d_Model_held_21 : decode prog_9_method_44_code 21 = .ok (.ifCond .ne 7, 3) := by decide +kernel
theorem d_Model_held_24 : decode prog_9_method_44_code 24 = .ok (.iconst 2, 1) := by decide +kernel
theorem d_Model_held_25 : decode prog_9_method_44_code 25 = .ok (.goto 4, 3) := by decide +kernel
theorem d_Model_held_28 : decode prog_9_method_44_code 28 = .ok (.iconst 0, 1) := by decide +kernel
theorem d_Model_held_29 : decode prog_9_method_44_code 29 = .ok (.putfield 86, 3) := by decide +kernel
theorem d_Model_held_32 : decode prog_9_method_44_code 32 = .ok (.aload_n 0, 1) := by decide +kernel
theorem d_Model_held_33 : decode prog_9_method_44_code 33 = .ok (.getfield 86, 3) := by decide +kernel
theorem d_Model_held_36 : decode prog_9_method_44_code 36 = .ok (.ifCond .le 7, 3) := by decide +kernel
theorem d_Model_held_39 : decode prog_9_method_44_code 39 = .ok (.iconst 0, 1) := by decide +kernel
theorem d_Model_held_40 : decode prog_9_method_44_code 40 = .ok (.goto 9, 3) := by decide +kernel
theorem d_Model_held_43 : decode prog_9_method_44_code 43 = .ok (.aload_n 0, 1) := by decide +kernel
theorem d_Model_held_44 : decode prog_9_method_44_code 44 = .ok (.getfield 62, 3) := by decide +kernel
theorem d_Model_held_47 : decode prog_9_method_44_code 47 = .ok (.iload_n 1, 1) := by decide +kernel
theorem d_Model_held_48 : decode prog_9_method_44_code 48 = .ok (.iaload, 1) := by decide +kernel
theorem d_Model_held_49 : decode prog_9_method_44_code 49 = .ok (.ireturn, 1) := by decide +kernel
abbrev y_Model_leftAt : MethodName := { cls := "FaultRulesModel", name := "leftAt", desc := "(I)I" }
theorem kC_Model_leftAt : Cond.code ({ cls := "FaultRulesModel", name := "leftAt", desc := "(I)I" } : Jvm.MethodName) prog_9_method_45_code (3 : Nat) (Option.some Jvm.ClassFile.FieldType.int) ∈ xT := x_t5 rfl (i := 37) rfl
theorem hd_Model_leftAt : y_Model_leftAt.cls ≠ "java/lang/invoke/MethodHandle" ∧ y_Model_leftAt.cls ≠ "java/lang/invoke/VarHandle" ∧ (parseMethodDescriptor y_Model_leftAt.desc).map (fun d => d.parameters.length) = some 1 := by decide +kernel
theorem d_Model_leftAt_0 : decode prog_9_method_45_code 0 = .ok (.iconst 0, 1) := by decide +kernel
theorem d_Model_leftAt_1 : decode prog_9_method_45_code 1 = .ok (.istore_n 2, 1) := by decide +kernel
theorem d_Model_leftAt_2 : decode prog_9_method_45_code 2 = .ok (.iload_n 2, 1) := by decide +kernel
theorem d_Model_leftAt_3 : decode prog_9_method_45_code 3 = .ok (.aload_n 0, 1) := by decide +kernel
theorem d_Model_leftAt_4 : decode prog_9_method_45_code 4 = .ok (.getfield 277, 3) := by decide +kernel
theorem d_Model_leftAt_7 : decode prog_9_method_45_code 7 = .ok (.if_icmp .ge 19, 3) := by decide +kernel
theorem d_Model_leftAt_10 : decode prog_9_method_45_code 10 = .ok (.aload_n 0, 1) := by decide +kernel
theorem d_Model_leftAt_11 : decode prog_9_method_45_code 11 = .ok (.getfield 80, 3) := by decide +kernel
theorem d_Model_leftAt_14 : decode prog_9_method_45_code 14 = .ok (.iload_n 2, 1) := by decide +kernel
theorem d_Model_leftAt_15 : decode prog_9_method_45_code 15 = .ok (.iaload, 1) := by decide +kernel
theorem d_Model_leftAt_16 : decode prog_9_method_45_code 16 = .ok (.iload_n 1, 1) := by decide +kernel
theorem d_Model_leftAt_17 : decode prog_9_method_45_code 17 = .ok (.if_icmp .eq 9, 3) := by decide +kernel
theorem d_Model_leftAt_20 : decode prog_9_method_45_code 20 = .ok (.iinc 2 1, 3) := by decide +kernel
theorem d_Model_leftAt_23 : decode prog_9_method_45_code 23 = .ok (.goto (-21), 3) := by decide +kernel
theorem d_Model_leftAt_26 : decode prog_9_method_45_code 26 = .ok (.iload_n 2, 1) := by decide +kernel
theorem d_Model_leftAt_27 : decode prog_9_method_45_code 27 = .ok (.ireturn, 1) := by decide +kernel
theorem kF_Model_277 : Cond.fieldLink "FaultRulesModel" (277 : Nat) "FaultRulesModel" "leftCount" "I" ∈ xT := x_t4 rfl (i := 6) rfl
theorem kF_Model_80 : Cond.fieldLink "FaultRulesModel" (80 : Nat) "FaultRulesModel" "left" "[I" ∈ xT := x_t4 rfl (i := 5) rfl
abbrev y_Model_leave : MethodName := { cls := "FaultRulesModel", name := "leave", desc := "(IZ)Z" }
theorem kC_Model_leave : Cond.code ({ cls := "FaultRulesModel", name := "leave", desc := "(IZ)Z" } : Jvm.MethodName) prog_9_method_46_code (5 : Nat) (Option.some Jvm.ClassFile.FieldType.boolean) ∈ xT := x_t5 rfl (i := 33) rfl
theorem hd_Model_leave : y_Model_leave.cls ≠ "java/lang/invoke/MethodHandle" ∧ y_Model_leave.cls ≠ "java/lang/invoke/VarHandle" ∧ (parseMethodDescriptor y_Model_leave.desc).map (fun d => d.parameters.length) = some 2 := by decide +kernel
theorem d_Model_leave_0 : decode prog_9_method_46_code 0 = .ok (.aload_n 0, 1) := by decide +kernel
theorem d_Model_leave_1 : decode prog_9_method_46_code 1 = .ok (.iload_n 1, 1) := by decide +kernel
theorem d_Model_leave_2 : decode prog_9_method_46_code 2 = .ok (.invokestatic 105, 3) := by decide +kernel
theorem d_Model_leave_5 : decode prog_9_method_46_code 5 = .ok (.ifCond .eq 7, 3) := by decide +kernel
theorem d_Model_leave_8 : decode prog_9_method_46_code 8 = .ok (.iconst 0, 1) := by decide +kernel
theorem d_Model_leave_9 : decode prog_9_method_46_code 9 = .ok (.goto 4, 3) := by decide +kernel
theorem d_Model_leave_12 : decode prog_9_method_46_code 12 = .ok (.iconst 1, 1) := by decide +kernel
theorem d_Model_leave_13 : decode prog_9_method_46_code 13 = .ok (.putfield 86, 3) := by decide +kernel
theorem d_Model_leave_16 : decode prog_9_method_46_code 16 = .ok (.aload_n 0, 1) := by decide +kernel
theorem d_Model_leave_17 : decode prog_9_method_46_code 17 = .ok (.getfield 86, 3) := by decide +kernel
theorem d_Model_leave_20 : decode prog_9_method_46_code 20 = .ok (.ifCond .le 5, 3) := by decide +kernel
theorem d_Model_leave_23 : decode prog_9_method_46_code 23 = .ok (.iconst 0, 1) := by decide +kernel
theorem d_Model_leave_24 : decode prog_9_method_46_code 24 = .ok (.ireturn, 1) := by decide +kernel
theorem d_Model_leave_25 : decode prog_9_method_46_code 25 = .ok (.aload_n 0, 1) := by decide +kernel
theorem d_Model_leave_26 : decode prog_9_method_46_code 26 = .ok (.iload_n 1, 1) := by decide +kernel
theorem d_Model_leave_27 : decode prog_9_method_46_code 27 = .ok (.invokevirtual 280, 3) := by decide +kernel
theorem d_Model_leave_30 : decode prog_9_method_46_code 30 = .ok (.istore_n 3, 1) := by decide +kernel
theorem d_Model_leave_31 : decode prog_9_method_46_code 31 = .ok (.iload_n 3, 1) := by decide +kernel
theorem d_Model_leave_32 : decode prog_9_method_46_code 32 = .ok (.aload_n 0, 1) := by decide +kernel
theorem d_Model_leave_33 : decode prog_9_method_46_code 33 = .ok (.getfield 277, 3) := by decide +kernel
theorem d_Model_leave_36 : decode prog_9_method_46_code 36 = .ok (.if_icmp .ge 7, 3) := by decide +kernel
theorem d_Model_leave_39 : decode prog_9_method_46_code 39 = .ok (.iconst 1, 1) := by decide +kernel
theorem d_Model_leave_40 : decode prog_9_method_46_code 40 = .ok (.goto 4, 3) := by decide +kernel
theorem d_Model_leave_43 : decode prog_9_method_46_code 43 = .ok (.iconst 0, 1) := by decide +kernel
theorem d_Model_leave_44 : decode prog_9_method_46_code 44 = .ok (.istore 4, 2) := by decide +kernel
theorem d_Model_leave_46 : decode prog_9_method_46_code 46 = .ok (.iload_n 2, 1) := by decide +kernel
theorem d_Model_leave_47 : decode prog_9_method_46_code 47 = .ok (.ifCond .eq 55, 3) := by decide +kernel
theorem d_Model_leave_50 : decode prog_9_method_46_code 50 = .ok (.iload 4, 2) := by decide +kernel
theorem d_Model_leave_52 : decode prog_9_method_46_code 52 = .ok (.ifCond .ne 50, 3) := by decide +kernel
theorem d_Model_leave_55 : decode prog_9_method_46_code 55 = .ok (.aload_n 0, 1) := by decide +kernel
theorem d_Model_leave_56 : decode prog_9_method_46_code 56 = .ok (.aload_n 0, 1) := by decide +kernel
theorem d_Model_leave_57 : decode prog_9_method_46_code 57 = .ok (.getfield 277, 3) := by decide +kernel
theorem d_Model_leave_60 : decode prog_9_method_46_code 60 = .ok (.bipush 100, 2) := by decide +kernel
theorem d_Model_leave_62 : decode prog_9_method_46_code 62 = .ok (.if_icmp .ne 7, 3) := by decide +kernel
theorem d_Model_leave_65 : decode prog_9_method_46_code 65 = .ok (.iconst 2, 1) := by decide +kernel
theorem d_Model_leave_66 : decode prog_9_method_46_code 66 = .ok (.goto 4, 3) := by decide +kernel
theorem d_Model_leave_69 : decode prog_9_method_46_code 69 = .ok (.iconst 0, 1) := by decide +kernel
theorem d_Model_leave_70 : decode prog_9_method_46_code 70 = .ok (.putfield 86, 3) := by decide +kernel
theorem d_Model_leave_73 : decode prog_9_method_46_code 73 = .ok (.aload_n 0, 1) := by decide +kernel
theorem d_Model_leave_74 : decode prog_9_method_46_code 74 = .ok (.getfield 86, 3) := by decide +kernel
theorem d_Model_leave_77 : decode prog_9_method_46_code 77 = .ok (.ifCond .le 5, 3) := by decide +kernel
theorem d_Model_leave_80 : decode prog_9_method_46_code 80 = .ok (.iconst 0, 1) := by decide +kernel
theorem d_Model_leave_81 : decode prog_9_method_46_code 81 = .ok (.ireturn, 1) := by decide +kernel
theorem d_Model_leave_82 : decode prog_9_method_46_code 82 = .ok (.aload_n 0, 1) := by decide +kernel
theorem d_Model_leave_83 : decode prog_9_method_46_code 83 = .ok (.getfield 80, 3) := by decide +kernel
theorem d_Model_leave_86 : decode prog_9_method_46_code 86 = .ok (.aload_n 0, 1) := by decide +kernel
theorem d_Model_leave_87 : decode prog_9_method_46_code 87 = .ok (.getfield 277, 3) := by decide +kernel
theorem d_Model_leave_90 : decode prog_9_method_46_code 90 = .ok (.iload_n 1, 1) := by decide +kernel
theorem d_Model_leave_91 : decode prog_9_method_46_code 91 = .ok (.iastore, 1) := by decide +kernel
theorem d_Model_leave_92 : decode prog_9_method_46_code 92 = .ok (.aload_n 0, 1) := by decide +kernel
theorem d_Model_leave_93 : decode prog_9_method_46_code 93 = .ok (.dup, 1) := by decide +kernel
theorem d_Model_leave_94 : decode prog_9_method_46_code 94 = .ok (.getfield 277, 3) := by decide +kernel
theorem d_Model_leave_97 : decode prog_9_method_46_code 97 = .ok (.iconst 1, 1) := by decide +kernel
theorem d_Model_leave_98 : decode prog_9_method_46_code 98 = .ok (.iadd, 1) := by decide +kernel
theorem d_Model_leave_99 : decode prog_9_method_46_code 99 = .ok (.putfield 277, 3) := by decide +kernel
theorem d_Model_leave_102 : decode prog_9_method_46_code 102 = .ok (.iload_n 2, 1) := by decide +kernel
theorem d_Model_leave_103 : decode prog_9_method_46_code 103 = .ok (.ifCond .ne 33, 3) := by decide +kernel
theorem d_Model_leave_106 : decode prog_9_method_46_code 106 = .ok (.iload 4, 2) := by decide +kernel
theorem d_Model_leave_108 : decode prog_9_method_46_code 108 = .ok (.ifCond .eq 28, 3) := by decide +kernel
theorem d_Model_leave_111 : decode prog_9_method_46_code 111 = .ok (.aload_n 0, 1) := by decide +kernel
theorem d_Model_leave_112 : decode prog_9_method_46_code 112 = .ok (.dup, 1) := by decide +kernel
theorem d_Model_leave_113 : decode prog_9_method_46_code 113 = .ok (.getfield 277, 3) := by decide +kernel
theorem d_Model_leave_116 : decode prog_9_method_46_code 116 = .ok (.iconst 1, 1) := by decide +kernel
theorem d_Model_leave_117 : decode prog_9_method_46_code 117 = .ok (.isub, 1) := by decide +kernel
theorem d_Model_leave_118 : decode prog_9_method_46_code 118 = .ok (.putfield 277, 3) := by decide +kernel
theorem d_Model_leave_121 : decode prog_9_method_46_code 121 = .ok (.aload_n 0, 1) := by decide +kernel
theorem d_Model_leave_122 : decode prog_9_method_46_code 122 = .ok (.getfield 80, 3) := by decide +kernel
theorem d_Model_leave_125 : decode prog_9_method_46_code 125 = .ok (.iload_n 3, 1) := by decide +kernel
theorem d_Model_leave_126 : decode prog_9_method_46_code 126 = .ok (.aload_n 0, 1) := by decide +kernel
theorem d_Model_leave_127 : decode prog_9_method_46_code 127 = .ok (.getfield 80, 3) := by decide +kernel
theorem d_Model_leave_130 : decode prog_9_method_46_code 130 = .ok (.aload_n 0, 1) := by decide +kernel
theorem d_Model_leave_131 : decode prog_9_method_46_code 131 = .ok (.getfield 277, 3) := by decide +kernel
theorem d_Model_leave_134 : decode prog_9_method_46_code 134 = .ok (.iaload, 1) := by decide +kernel
theorem d_Model_leave_135 : decode prog_9_method_46_code 135 = .ok (.iastore, 1) := by decide +kernel
theorem d_Model_leave_136 : decode prog_9_method_46_code 136 = .ok (.iload 4, 2) := by decide +kernel
theorem d_Model_leave_138 : decode prog_9_method_46_code 138 = .ok (.ireturn, 1) := by decide +kernel
theorem kM_Model_280 : Cond.methodLink "FaultRulesModel" (280 : Nat) ({ cls := "FaultRulesModel", name := "leftAt", desc := "(I)I" } : Jvm.MethodName) ∈ xT := x_t5 rfl (i := 34) rfl
theorem kI_Model_leftAt : Cond.instanceMethod ({ cls := "FaultRulesModel", name := "leftAt", desc := "(I)I" } : Jvm.MethodName) ∈ xT := x_t5 rfl (i := 36) rfl
theorem kS_565 : Cond.selects "FaultRulesModel" ({ cls := "FaultRulesModel", name := "leftAt", desc := "(I)I" } : Jvm.MethodName) ({ cls := "FaultRulesModel", name := "leftAt", desc := "(I)I" } : Jvm.MethodName) ∈ xT := x_tp rfl (i := 55) rfl
abbrev y_Model_common : MethodName := { cls := "FaultRulesModel", name := "common", desc := "(JJ)J" }
theorem kC_Model_common : Cond.code ({ cls := "FaultRulesModel", name := "common", desc := "(JJ)J" } : Jvm.MethodName) prog_9_method_47_code (10 : Nat) (Option.some Jvm.ClassFile.FieldType.long) ∈ xT := x_t5 rfl (i := 44) rfl
