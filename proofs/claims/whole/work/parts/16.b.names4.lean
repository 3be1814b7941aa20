theorem d_Law_law_988 : decode code 988 = .ok (.iconst 0, 1) := by decide +kernel
theorem d_Law_law_989 : decode code 989 = .ok (.laload, 1) := by decide +kernel
theorem d_Law_law_990 : decode code 990 = .ok (.iload 6, 2) := by decide +kernel
theorem d_Law_law_992 : decode code 992 = .ok (.i2l, 1) := by decide +kernel
theorem d_Law_law_993 : decode code 993 = .ok (.lcmp, 1) := by decide +kernel
theorem d_Law_law_994 : decode code 994 = .ok (.ifCond .eq 5, 3) := by decide +kernel
theorem d_Law_law_997 : decode code 997 = .ok (.iconst 0, 1) := by decide +kernel
theorem d_Law_law_998 : decode code 998 = .ok (.ireturn, 1) := by decide +kernel
theorem d_Law_law_999 : decode code 999 = .ok (.goto 47, 3) := by decide +kernel
theorem d_Law_law_1002 : decode code 1002 = .ok (.aload_n 1, 1) := by decide +kernel
theorem d_Law_law_1003 : decode code 1003 = .ok (.aload_n 3, 1) := by decide +kernel
theorem d_Law_law_1004 : decode code 1004 = .ok (.invokestatic 118, 3) := by decide +kernel
theorem d_Law_law_1007 : decode code 1007 = .ok (.istore 5, 2) := by decide +kernel
theorem d_Law_law_1009 : decode code 1009 = .ok (.aload_n 2, 1) := by decide +kernel
theorem d_Law_law_1010 : decode code 1010 = .ok (.invokevirtual 120, 3) := by decide +kernel
theorem d_Law_law_1013 : decode code 1013 = .ok (.istore 6, 2) := by decide +kernel
theorem d_Law_law_1015 : decode code 1015 = .ok (.aload_n 2, 1) := by decide +kernel
theorem d_Law_law_1016 : decode code 1016 = .ok (.invokevirtual 70, 3) := by decide +kernel
theorem d_Law_law_1019 : decode code 1019 = .ok (.iload 5, 2) := by decide +kernel
theorem d_Law_law_1021 : decode code 1021 = .ok (.if_icmp .eq 5, 3) := by decide +kernel
theorem d_Law_law_1024 : decode code 1024 = .ok (.iconst 0, 1) := by decide +kernel
theorem d_Law_law_1025 : decode code 1025 = .ok (.ireturn, 1) := by decide +kernel
theorem d_Law_law_1026 : decode code 1026 = .ok (.iload 5, 2) := by decide +kernel
theorem d_Law_law_1028 : decode code 1028 = .ok (.ifCond .ne 15, 3) := by decide +kernel
theorem d_Law_law_1031 : decode code 1031 = .ok (.aload_n 3, 1) := by decide +kernel
theorem d_Law_law_1032 : decode code 1032 = .ok (.iconst 0, 1) := by decide +kernel
theorem d_Law_law_1033 : decode code 1033 = .ok (.laload, 1) := by decide +kernel
theorem d_Law_law_1034 : decode code 1034 = .ok (.iload 6, 2) := by decide +kernel
theorem d_Law_law_1036 : decode code 1036 = .ok (.i2l, 1) := by decide +kernel
theorem d_Law_law_1037 : decode code 1037 = .ok (.lcmp, 1) := by decide +kernel
theorem d_Law_law_1038 : decode code 1038 = .ok (.ifCond .eq 5, 3) := by decide +kernel
theorem d_Law_law_1041 : decode code 1041 = .ok (.iconst 0, 1) := by decide +kernel
theorem d_Law_law_1042 : decode code 1042 = .ok (.ireturn, 1) := by decide +kernel
theorem d_Law_law_1043 : decode code 1043 = .ok (.goto 3, 3) := by decide +kernel
theorem d_Law_law_1046 : decode code 1046 = .ok (.iinc 4 6, 3) := by decide +kernel
theorem d_Law_law_1049 : decode code 1049 = .ok (.goto (-1026), 3) := by decide +kernel
theorem d_Law_law_1052 : decode code 1052 = .ok (.iconst 1, 1) := by decide +kernel
theorem d_Law_law_1053 : decode code 1053 = .ok (.ireturn, 1) := by decide +kernel
theorem kK_Law_77 : Cond.constantLong "FaultRulesLaw" (77 : Nat) (4294967295 : Int64) ∈ xT := x_t5 rfl (i := 53) rfl
theorem kM_Law_64 : Cond.methodLink "FaultRulesLaw" (64 : Nat) ({ cls := "FaultRulesLaw", name := "row", desc := "(LFaultRules;III[J)I" } : Jvm.MethodName) ∈ xT := x_t2 rfl (i := 104) rfl
theorem kN_Law : Cond.initialized "FaultRulesLaw" ∈ xT := x_t1 rfl (i := 0) rfl
theorem kT_Law_row : Cond.static ({ cls := "FaultRulesLaw", name := "row", desc := "(LFaultRules;III[J)I" } : Jvm.MethodName) ∈ xT := x_t2 rfl (i := 105) rfl
theorem kM_Law_69 : Cond.methodLink "FaultRulesLaw" (69 : Nat) ({ cls := "FaultRulesModel", name := "row", desc := "(III)I" } : Jvm.MethodName) ∈ xT := x_t4 rfl (i := 81) rfl
theorem kI_Model_row : Cond.instanceMethod ({ cls := "FaultRulesModel", name := "row", desc := "(III)I" } : Jvm.MethodName) ∈ xT := x_t4 rfl (i := 82) rfl
theorem kS_749 : Cond.selects "FaultRulesModel" ({ cls := "FaultRulesModel", name := "row", desc := "(III)I" } : Jvm.MethodName) ({ cls := "FaultRulesModel", name := "row", desc := "(III)I" } : Jvm.MethodName) ∈ xT := x_t4 rfl (i := 83) rfl
theorem kM_Law_70 : Cond.methodLink "FaultRulesLaw" (70 : Nat) ({ cls := "FaultRulesModel", name := "thrown", desc := "()I" } : Jvm.MethodName) ∈ xT := x_t4 rfl (i := 77) rfl
theorem kI_Model_thrown : Cond.instanceMethod ({ cls := "FaultRulesModel", name := "thrown", desc := "()I" } : Jvm.MethodName) ∈ xT := x_t4 rfl (i := 78) rfl
theorem kS_752 : Cond.selects "FaultRulesModel" ({ cls := "FaultRulesModel", name := "thrown", desc := "()I" } : Jvm.MethodName) ({ cls := "FaultRulesModel", name := "thrown", desc := "()I" } : Jvm.MethodName) ∈ xT := x_t4 rfl (i := 79) rfl
theorem kM_Law_73 : Cond.methodLink "FaultRulesLaw" (73 : Nat) ({ cls := "FaultRulesLaw", name := "value", desc := "(LFaultRules;II[J)I" } : Jvm.MethodName) ∈ xT := x_t2 rfl (i := 218) rfl
theorem kT_Law_value : Cond.static ({ cls := "FaultRulesLaw", name := "value", desc := "(LFaultRules;II[J)I" } : Jvm.MethodName) ∈ xT := x_t2 rfl (i := 219) rfl
theorem kM_Law_76 : Cond.methodLink "FaultRulesLaw" (76 : Nat) ({ cls := "FaultRulesModel", name := "value", desc := "(II)I" } : Jvm.MethodName) ∈ xT := x_t4 rfl (i := 98) rfl
theorem kI_Model_value : Cond.instanceMethod ({ cls := "FaultRulesModel", name := "value", desc := "(II)I" } : Jvm.MethodName) ∈ xT := x_t4 rfl (i := 99) rfl
theorem kS_757 : Cond.selects "FaultRulesModel" ({ cls := "FaultRulesModel", name := "value", desc := "(II)I" } : Jvm.MethodName) ({ cls := "FaultRulesModel", name := "value", desc := "(II)I" } : Jvm.MethodName) ∈ xT := x_t4 rfl (i := 100) rfl
theorem kM_Law_79 : Cond.methodLink "FaultRulesLaw" (79 : Nat) ({ cls := "FaultRulesLaw", name := "say", desc := "(LFaultRules;J[J)I" } : Jvm.MethodName) ∈ xT := x_t3 rfl (i := 6) rfl
theorem kT_Law_say : Cond.static ({ cls := "FaultRulesLaw", name := "say", desc := "(LFaultRules;J[J)I" } : Jvm.MethodName) ∈ xT := x_t3 rfl (i := 7) rfl
theorem kM_Law_82 : Cond.methodLink "FaultRulesLaw" (82 : Nat) ({ cls := "FaultRulesModel", name := "say", desc := "(J)I" } : Jvm.MethodName) ∈ xT := x_t4 rfl (i := 106) rfl
theorem kI_Model_say : Cond.instanceMethod ({ cls := "FaultRulesModel", name := "say", desc := "(J)I" } : Jvm.MethodName) ∈ xT := x_t4 rfl (i := 107) rfl
theorem kS_762 : Cond.selects "FaultRulesModel" ({ cls := "FaultRulesModel", name := "say", desc := "(J)I" } : Jvm.MethodName) ({ cls := "FaultRulesModel", name := "say", desc := "(J)I" } : Jvm.MethodName) ∈ xT := x_t4 rfl (i := 108) rfl
theorem kM_Law_83 : Cond.methodLink "FaultRulesLaw" (83 : Nat) ({ cls := "FaultRulesLaw", name := "trim", desc := "(LFaultRules;I[J)I" } : Jvm.MethodName) ∈ xT := x_t3 rfl (i := 19) rfl
theorem kT_Law_trim : Cond.static ({ cls := "FaultRulesLaw", name := "trim", desc := "(LFaultRules;I[J)I" } : Jvm.MethodName) ∈ xT := x_t3 rfl (i := 20) rfl
theorem kM_Law_86 : Cond.methodLink "FaultRulesLaw" (86 : Nat) ({ cls := "FaultRulesModel", name := "trim", desc := "(I)I" } : Jvm.MethodName) ∈ xT := x_t4 rfl (i := 113) rfl
theorem kI_Model_trim : Cond.instanceMethod ({ cls := "FaultRulesModel", name := "trim", desc := "(I)I" } : Jvm.MethodName) ∈ xT := x_t4 rfl (i := 114) rfl
theorem kS_767 : Cond.selects "FaultRulesModel" ({ cls := "FaultRulesModel", name := "trim", desc := "(I)I" } : Jvm.MethodName) ({ cls := "FaultRulesModel", name := "trim", desc := "(I)I" } : Jvm.MethodName) ∈ xT := x_t4 rfl (i := 115) rfl
theorem kM_Law_87 : Cond.methodLink "FaultRulesLaw" (87 : Nat) ({ cls := "FaultRules", name := "rules", desc := "()I" } : Jvm.MethodName) ∈ xT := x_t1 rfl (i := 219) rfl
theorem kI_FaultRules_rules : Cond.instanceMethod ({ cls := "FaultRules", name := "rules", desc := "()I" } : Jvm.MethodName) ∈ xT := x_t1 rfl (i := 220) rfl
theorem kS_770 : Cond.selects "FaultRules" ({ cls := "FaultRules", name := "rules", desc := "()I" } : Jvm.MethodName) ({ cls := "FaultRules", name := "rules", desc := "()I" } : Jvm.MethodName) ∈ xT := x_t1 rfl (i := 221) rfl
theorem kM_Law_90 : Cond.methodLink "FaultRulesLaw" (90 : Nat) ({ cls := "FaultRulesModel", name := "rules", desc := "()I" } : Jvm.MethodName) ∈ xT := x_t4 rfl (i := 117) rfl
theorem kI_Model_rules : Cond.instanceMethod ({ cls := "FaultRulesModel", name := "rules", desc := "()I" } : Jvm.MethodName) ∈ xT := x_t4 rfl (i := 118) rfl
theorem kS_773 : Cond.selects "FaultRulesModel" ({ cls := "FaultRulesModel", name := "rules", desc := "()I" } : Jvm.MethodName) ({ cls := "FaultRulesModel", name := "rules", desc := "()I" } : Jvm.MethodName) ∈ xT := x_t4 rfl (i := 119) rfl
theorem kM_Law_91 : Cond.methodLink "FaultRulesLaw" (91 : Nat) ({ cls := "FaultRulesLaw", name := "run", desc := "(LFaultRules;II[J)I" } : Jvm.MethodName) ∈ xT := x_t3 rfl (i := 27) rfl
theorem kT_Law_run : Cond.static ({ cls := "FaultRulesLaw", name := "run", desc := "(LFaultRules;II[J)I" } : Jvm.MethodName) ∈ xT := x_t3 rfl (i := 28) rfl
theorem kM_Law_93 : Cond.methodLink "FaultRulesLaw" (93 : Nat) ({ cls := "FaultRulesModel", name := "run", desc := "(II)I" } : Jvm.MethodName) ∈ xT := x_t4 rfl (i := 230) rfl
theorem kI_Model_run : Cond.instanceMethod ({ cls := "FaultRulesModel", name := "run", desc := "(II)I" } : Jvm.MethodName) ∈ xT := x_t4 rfl (i := 231) rfl
theorem kS_778 : Cond.selects "FaultRulesModel" ({ cls := "FaultRulesModel", name := "run", desc := "(II)I" } : Jvm.MethodName) ({ cls := "FaultRulesModel", name := "run", desc := "(II)I" } : Jvm.MethodName) ∈ xT := x_t4 rfl (i := 232) rfl
theorem kM_Law_94 : Cond.methodLink "FaultRulesLaw" (94 : Nat) ({ cls := "FaultRulesLaw", name := "fault", desc := "(LFaultRules;II[J)I" } : Jvm.MethodName) ∈ xT := x_t3 rfl (i := 100) rfl
theorem kT_Law_fault : Cond.static ({ cls := "FaultRulesLaw", name := "fault", desc := "(LFaultRules;II[J)I" } : Jvm.MethodName) ∈ xT := x_t3 rfl (i := 101) rfl
theorem kM_Law_96 : Cond.methodLink "FaultRulesLaw" (96 : Nat) ({ cls := "FaultRulesModel", name := "fault", desc := "(II)I" } : Jvm.MethodName) ∈ xT := x_t5 rfl (i := 18) rfl
theorem kI_Model_fault : Cond.instanceMethod ({ cls := "FaultRulesModel", name := "fault", desc := "(II)I" } : Jvm.MethodName) ∈ xT := x_t5 rfl (i := 19) rfl
theorem kS_783 : Cond.selects "FaultRulesModel" ({ cls := "FaultRulesModel", name := "fault", desc := "(II)I" } : Jvm.MethodName) ({ cls := "FaultRulesModel", name := "fault", desc := "(II)I" } : Jvm.MethodName) ∈ xT := x_t5 rfl (i := 20) rfl
theorem kM_Law_97 : Cond.methodLink "FaultRulesLaw" (97 : Nat) ({ cls := "FaultRulesLaw", name := "money", desc := "(LFaultRules;[J)I" } : Jvm.MethodName) ∈ xT := x_t3 rfl (i := 113) rfl
theorem kT_Law_money : Cond.static ({ cls := "FaultRulesLaw", name := "money", desc := "(LFaultRules;[J)I" } : Jvm.MethodName) ∈ xT := x_t3 rfl (i := 114) rfl
theorem kM_Law_100 : Cond.methodLink "FaultRulesLaw" (100 : Nat) ({ cls := "FaultRulesModel", name := "money", desc := "()I" } : Jvm.MethodName) ∈ xT := x_t5 rfl (i := 22) rfl
theorem kI_Model_money : Cond.instanceMethod ({ cls := "FaultRulesModel", name := "money", desc := "()I" } : Jvm.MethodName) ∈ xT := x_t5 rfl (i := 23) rfl
theorem kS_788 : Cond.selects "FaultRulesModel" ({ cls := "FaultRulesModel", name := "money", desc := "()I" } : Jvm.MethodName) ({ cls := "FaultRulesModel", name := "money", desc := "()I" } : Jvm.MethodName) ∈ xT := x_t5 rfl (i := 24) rfl
theorem kM_Law_101 : Cond.methodLink "FaultRulesLaw" (101 : Nat) ({ cls := "FaultRulesLaw", name := "held", desc := "(LFaultRules;I[J)I" } : Jvm.MethodName) ∈ xT := x_t3 rfl (i := 120) rfl
theorem kT_Law_held : Cond.static ({ cls := "FaultRulesLaw", name := "held", desc := "(LFaultRules;I[J)I" } : Jvm.MethodName) ∈ xT := x_t3 rfl (i := 121) rfl
theorem kM_Law_103 : Cond.methodLink "FaultRulesLaw" (103 : Nat) ({ cls := "FaultRulesModel", name := "held", desc := "(I)I" } : Jvm.MethodName) ∈ xT := x_t5 rfl (i := 26) rfl
theorem kI_Model_held : Cond.instanceMethod ({ cls := "FaultRulesModel", name := "held", desc := "(I)I" } : Jvm.MethodName) ∈ xT := x_t5 rfl (i := 27) rfl
theorem kS_793 : Cond.selects "FaultRulesModel" ({ cls := "FaultRulesModel", name := "held", desc := "(I)I" } : Jvm.MethodName) ({ cls := "FaultRulesModel", name := "held", desc := "(I)I" } : Jvm.MethodName) ∈ xT := x_t5 rfl (i := 28) rfl
theorem kM_Law_104 : Cond.methodLink "FaultRulesLaw" (104 : Nat) ({ cls := "FaultRulesLaw", name := "holds", desc := "(LFaultRules;III[J)I" } : Jvm.MethodName) ∈ xT := x_t3 rfl (i := 128) rfl
theorem kT_Law_holds : Cond.static ({ cls := "FaultRulesLaw", name := "holds", desc := "(LFaultRules;III[J)I" } : Jvm.MethodName) ∈ xT := x_t3 rfl (i := 129) rfl
theorem kM_Law_106 : Cond.methodLink "FaultRulesLaw" (106 : Nat) ({ cls := "FaultRulesModel", name := "holds", desc := "(III)Z" } : Jvm.MethodName) ∈ xT := x_t4 rfl (i := 211) rfl
theorem kI_Model_holds : Cond.instanceMethod ({ cls := "FaultRulesModel", name := "holds", desc := "(III)Z" } : Jvm.MethodName) ∈ xT := x_t4 rfl (i := 212) rfl
theorem kS_798 : Cond.selects "FaultRulesModel" ({ cls := "FaultRulesModel", name := "holds", desc := "(III)Z" } : Jvm.MethodName) ({ cls := "FaultRulesModel", name := "holds", desc := "(III)Z" } : Jvm.MethodName) ∈ xT := x_t4 rfl (i := 213) rfl
theorem kM_Law_107 : Cond.methodLink "FaultRulesLaw" (107 : Nat) ({ cls := "FaultRulesLaw", name := "line", desc := "(LFaultRules;IIIII[J)I" } : Jvm.MethodName) ∈ xT := x_t3 rfl (i := 137) rfl
theorem kT_Law_line : Cond.static ({ cls := "FaultRulesLaw", name := "line", desc := "(LFaultRules;IIIII[J)I" } : Jvm.MethodName) ∈ xT := x_t3 rfl (i := 138) rfl
theorem kM_Law_110 : Cond.methodLink "FaultRulesLaw" (110 : Nat) ({ cls := "FaultRulesModel", name := "line", desc := "(IIIII)J" } : Jvm.MethodName) ∈ xT := x_t5 rfl (i := 38) rfl
theorem kI_Model_line : Cond.instanceMethod ({ cls := "FaultRulesModel", name := "line", desc := "(IIIII)J" } : Jvm.MethodName) ∈ xT := x_t5 rfl (i := 39) rfl
theorem kS_803 : Cond.selects "FaultRulesModel" ({ cls := "FaultRulesModel", name := "line", desc := "(IIIII)J" } : Jvm.MethodName) ({ cls := "FaultRulesModel", name := "line", desc := "(IIIII)J" } : Jvm.MethodName) ∈ xT := x_t5 rfl (i := 40) rfl
theorem kM_Law_111 : Cond.methodLink "FaultRulesLaw" (111 : Nat) ({ cls := "FaultRulesLaw", name := "leave", desc := "(LFaultRules;IZ[J)I" } : Jvm.MethodName) ∈ xT := x_t3 rfl (i := 162) rfl
theorem kT_Law_leave : Cond.static ({ cls := "FaultRulesLaw", name := "leave", desc := "(LFaultRules;IZ[J)I" } : Jvm.MethodName) ∈ xT := x_t3 rfl (i := 163) rfl
theorem kM_Law_114 : Cond.methodLink "FaultRulesLaw" (114 : Nat) ({ cls := "FaultRulesModel", name := "leave", desc := "(IZ)Z" } : Jvm.MethodName) ∈ xT := x_t5 rfl (i := 30) rfl
theorem kI_Model_leave : Cond.instanceMethod ({ cls := "FaultRulesModel", name := "leave", desc := "(IZ)Z" } : Jvm.MethodName) ∈ xT := x_t5 rfl (i := 31) rfl
theorem kS_808 : Cond.selects "FaultRulesModel" ({ cls := "FaultRulesModel", name := "leave", desc := "(IZ)Z" } : Jvm.MethodName) ({ cls := "FaultRulesModel", name := "leave", desc := "(IZ)Z" } : Jvm.MethodName) ∈ xT := x_t5 rfl (i := 32) rfl
theorem kM_Law_115 : Cond.methodLink "FaultRulesLaw" (115 : Nat) ({ cls := "FaultRulesLaw", name := "cause", desc := "(LFaultRules;II[J)I" } : Jvm.MethodName) ∈ xT := x_t3 rfl (i := 183) rfl
theorem kT_Law_cause : Cond.static ({ cls := "FaultRulesLaw", name := "cause", desc := "(LFaultRules;II[J)I" } : Jvm.MethodName) ∈ xT := x_t3 rfl (i := 184) rfl
theorem kM_Law_117 : Cond.methodLink "FaultRulesLaw" (117 : Nat) ({ cls := "FaultRulesModel", name := "cause", desc := "(II)I" } : Jvm.MethodName) ∈ xT := x_t5 rfl (i := 45) rfl
theorem kI_Model_cause : Cond.instanceMethod ({ cls := "FaultRulesModel", name := "cause", desc := "(II)I" } : Jvm.MethodName) ∈ xT := x_t5 rfl (i := 46) rfl
theorem kS_813 : Cond.selects "FaultRulesModel" ({ cls := "FaultRulesModel", name := "cause", desc := "(II)I" } : Jvm.MethodName) ({ cls := "FaultRulesModel", name := "cause", desc := "(II)I" } : Jvm.MethodName) ∈ xT := x_t5 rfl (i := 47) rfl
theorem kM_Law_118 : Cond.methodLink "FaultRulesLaw" (118 : Nat) ({ cls := "FaultRulesLaw", name := "causes", desc := "(LFaultRules;[J)I" } : Jvm.MethodName) ∈ xT := x_t3 rfl (i := 191) rfl
theorem kT_Law_causes : Cond.static ({ cls := "FaultRulesLaw", name := "causes", desc := "(LFaultRules;[J)I" } : Jvm.MethodName) ∈ xT := x_t3 rfl (i := 192) rfl
theorem kM_Law_120 : Cond.methodLink "FaultRulesLaw" (120 : Nat) ({ cls := "FaultRulesModel", name := "causes", desc := "()I" } : Jvm.MethodName) ∈ xT := x_t5 rfl (i := 49) rfl
theorem kI_Model_causes : Cond.instanceMethod ({ cls := "FaultRulesModel", name := "causes", desc := "()I" } : Jvm.MethodName) ∈ xT := x_t5 rfl (i := 50) rfl
theorem kS_818 : Cond.selects "FaultRulesModel" ({ cls := "FaultRulesModel", name := "causes", desc := "()I" } : Jvm.MethodName) ({ cls := "FaultRulesModel", name := "causes", desc := "()I" } : Jvm.MethodName) ∈ xT := x_t5 rfl (i := 51) rfl

