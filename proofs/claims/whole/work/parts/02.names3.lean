theorem d_FaultRules_commonDivisor_33 : decode prog_1_method_21_code 33 = .ok (.lstore 4, 2) := by decide +kernel
theorem d_FaultRules_commonDivisor_35 : decode prog_1_method_21_code 35 = .ok (.lload 9, 2) := by decide +kernel
theorem d_FaultRules_commonDivisor_37 : decode prog_1_method_21_code 37 = .ok (.lstore 6, 2) := by decide +kernel
theorem d_FaultRules_commonDivisor_39 : decode prog_1_method_21_code 39 = .ok (.iinc 8 1, 3) := by decide +kernel
theorem d_FaultRules_commonDivisor_42 : decode prog_1_method_21_code 42 = .ok (.goto (-33), 3) := by decide +kernel
theorem d_FaultRules_commonDivisor_45 : decode prog_1_method_21_code 45 = .ok (.lload 4, 2) := by decide +kernel
theorem d_FaultRules_commonDivisor_47 : decode prog_1_method_21_code 47 = .ok (.lconst 0, 1) := by decide +kernel
theorem d_FaultRules_commonDivisor_48 : decode prog_1_method_21_code 48 = .ok (.lcmp, 1) := by decide +kernel
theorem d_FaultRules_commonDivisor_49 : decode prog_1_method_21_code 49 = .ok (.ifCond .ne 7, 3) := by decide +kernel
theorem d_FaultRules_commonDivisor_52 : decode prog_1_method_21_code 52 = .ok (.lconst 1, 1) := by decide +kernel
theorem d_FaultRules_commonDivisor_53 : decode prog_1_method_21_code 53 = .ok (.goto 5, 3) := by decide +kernel
theorem d_FaultRules_commonDivisor_56 : decode prog_1_method_21_code 56 = .ok (.lload 4, 2) := by decide +kernel
theorem d_FaultRules_commonDivisor_58 : decode prog_1_method_21_code 58 = .ok (.lreturn, 1) := by decide +kernel
abbrev y_FaultRules_lowest : MethodName := { cls := "FaultRules", name := "lowest", desc := "(JJI)J" }
theorem kC_FaultRules_lowest : Cond.code ({ cls := "FaultRules", name := "lowest", desc := "(JJI)J" } : Jvm.MethodName) prog_1_method_20_code (7 : Nat) (Option.some Jvm.ClassFile.FieldType.long) ∈ xT := x_t3 rfl (i := 155) rfl
theorem hd_FaultRules_lowest : y_FaultRules_lowest.cls ≠ "java/lang/invoke/MethodHandle" ∧ y_FaultRules_lowest.cls ≠ "java/lang/invoke/VarHandle" ∧ (parseMethodDescriptor y_FaultRules_lowest.desc).map (fun d => d.parameters.length) = some 3 := by decide +kernel
theorem d_FaultRules_lowest_0 : decode prog_1_method_20_code 0 = .ok (.lload_n 2, 1) := by decide +kernel
theorem d_FaultRules_lowest_1 : decode prog_1_method_20_code 1 = .ok (.lconst 0, 1) := by decide +kernel
theorem d_FaultRules_lowest_2 : decode prog_1_method_20_code 2 = .ok (.lcmp, 1) := by decide +kernel
theorem d_FaultRules_lowest_3 : decode prog_1_method_20_code 3 = .ok (.ifCond .gt 5, 3) := by decide +kernel
theorem d_FaultRules_lowest_6 : decode prog_1_method_20_code 6 = .ok (.lconst 0, 1) := by decide +kernel
theorem d_FaultRules_lowest_7 : decode prog_1_method_20_code 7 = .ok (.lreturn, 1) := by decide +kernel
theorem d_FaultRules_lowest_8 : decode prog_1_method_20_code 8 = .ok (.lload_n 2, 1) := by decide +kernel
theorem d_FaultRules_lowest_9 : decode prog_1_method_20_code 9 = .ok (.lload_n 0, 1) := by decide +kernel
theorem d_FaultRules_lowest_10 : decode prog_1_method_20_code 10 = .ok (.invokestatic 203, 3) := by decide +kernel
theorem d_FaultRules_lowest_13 : decode prog_1_method_20_code 13 = .ok (.invokestatic 209, 3) := by decide +kernel
theorem d_FaultRules_lowest_16 : decode prog_1_method_20_code 16 = .ok (.lstore 5, 2) := by decide +kernel
theorem d_FaultRules_lowest_18 : decode prog_1_method_20_code 18 = .ok (.iload 4, 2) := by decide +kernel
theorem d_FaultRules_lowest_20 : decode prog_1_method_20_code 20 = .ok (.ifCond .ne 7, 3) := by decide +kernel
theorem d_FaultRules_lowest_23 : decode prog_1_method_20_code 23 = .ok (.lload_n 0, 1) := by decide +kernel
theorem d_FaultRules_lowest_24 : decode prog_1_method_20_code 24 = .ok (.goto 4, 3) := by decide +kernel
theorem d_FaultRules_lowest_27 : decode prog_1_method_20_code 27 = .ok (.lload_n 2, 1) := by decide +kernel
theorem d_FaultRules_lowest_28 : decode prog_1_method_20_code 28 = .ok (.lload 5, 2) := by decide +kernel
theorem d_FaultRules_lowest_30 : decode prog_1_method_20_code 30 = .ok (.ldiv, 1) := by decide +kernel
theorem d_FaultRules_lowest_31 : decode prog_1_method_20_code 31 = .ok (.lreturn, 1) := by decide +kernel
theorem kM_FaultRules_203 : Cond.methodLink "FaultRules" (203 : Nat) ({ cls := "java/lang/Math", name := "abs", desc := "(J)J" } : Jvm.MethodName) ∈ xT := x_t3 rfl (i := 156) rfl
theorem kT_absJ : Cond.static ({ cls := "java/lang/Math", name := "abs", desc := "(J)J" } : Jvm.MethodName) ∈ xT := x_t3 rfl (i := 157) rfl
theorem kC_absJ : Cond.code ({ cls := "java/lang/Math", name := "abs", desc := "(J)J" } : Jvm.MethodName) prog_14_method_61_code (2 : Nat) (Option.some Jvm.ClassFile.FieldType.long) ∈ xT := x_t3 rfl (i := 158) rfl
theorem kM_FaultRules_209 : Cond.methodLink "FaultRules" (209 : Nat) ({ cls := "FaultRules", name := "commonDivisor", desc := "(JJ)J" } : Jvm.MethodName) ∈ xT := x_t3 rfl (i := 159) rfl
theorem kT_FaultRules_commonDivisor : Cond.static ({ cls := "FaultRules", name := "commonDivisor", desc := "(JJ)J" } : Jvm.MethodName) ∈ xT := x_t3 rfl (i := 160) rfl
abbrev y_FaultRules_line : MethodName := { cls := "FaultRules", name := "line", desc := "(IIIII)J" }
theorem kC_FaultRules_line : Cond.code ({ cls := "FaultRules", name := "line", desc := "(IIIII)J" } : Jvm.MethodName) prog_1_method_12_code (21 : Nat) (Option.some Jvm.ClassFile.FieldType.long) ∈ xT := x_t3 rfl (i := 143) rfl
theorem hd_FaultRules_line : y_FaultRules_line.cls ≠ "java/lang/invoke/MethodHandle" ∧ y_FaultRules_line.cls ≠ "java/lang/invoke/VarHandle" ∧ (parseMethodDescriptor y_FaultRules_line.desc).map (fun d => d.parameters.length) = some 5 := by decide +kernel
theorem d_FaultRules_line_0 : decode prog_1_method_12_code 0 = .ok (.iload_n 1, 1) := by decide +kernel
theorem d_FaultRules_line_1 : decode prog_1_method_12_code 1 = .ok (.invokestatic 58, 3) := by decide +kernel
theorem d_FaultRules_line_4 : decode prog_1_method_12_code 4 = .ok (.ifCond .eq 32, 3) := by decide +kernel
theorem d_FaultRules_line_7 : decode prog_1_method_12_code 7 = .ok (.iload_n 2, 1) := by decide +kernel
theorem d_FaultRules_line_8 : decode prog_1_method_12_code 8 = .ok (.invokestatic 58, 3) := by decide +kernel
theorem d_FaultRules_line_11 : decode prog_1_method_12_code 11 = .ok (.ifCond .eq 25, 3) := by decide +kernel
theorem d_FaultRules_line_14 : decode prog_1_method_12_code 14 = .ok (.iload_n 3, 1) := by decide +kernel
theorem d_FaultRules_line_15 : decode prog_1_method_12_code 15 = .ok (.iload 4, 2) := by decide +kernel
theorem d_FaultRules_line_17 : decode prog_1_method_12_code 17 = .ok (.bipush 60, 2) := by decide +kernel
theorem d_FaultRules_line_19 : decode prog_1_method_12_code 19 = .ok (.invokestatic 131, 3) := by decide +kernel
theorem d_FaultRules_line_22 : decode prog_1_method_12_code 22 = .ok (.ifCond .eq 14, 3) := by decide +kernel
theorem d_FaultRules_line_25 : decode prog_1_method_12_code 25 = .ok (.iload 5, 2) := by decide +kernel
theorem d_FaultRules_line_27 : decode prog_1_method_12_code 27 = .ok (.ifCond .lt 9, 3) := by decide +kernel
theorem d_FaultRules_line_30 : decode prog_1_method_12_code 30 = .ok (.iload 5, 2) := by decide +kernel
theorem d_FaultRules_line_32 : decode prog_1_method_12_code 32 = .ok (.iconst 2, 1) := by decide +kernel
theorem d_FaultRules_line_33 : decode prog_1_method_12_code 33 = .ok (.if_icmp .le 13, 3) := by decide +kernel
theorem d_FaultRules_line_36 : decode prog_1_method_12_code 36 = .ok (.new 67, 3) := by decide +kernel
theorem d_FaultRules_line_39 : decode prog_1_method_12_code 39 = .ok (.dup, 1) := by decide +kernel
theorem d_FaultRules_line_40 : decode prog_1_method_12_code 40 = .ok (.ldc 172, 2) := by decide +kernel
theorem d_FaultRules_line_42 : decode prog_1_method_12_code 42 = .ok (.invokespecial 71, 3) := by decide +kernel
theorem d_FaultRules_line_45 : decode prog_1_method_12_code 45 = .ok (.athrow, 1) := by decide +kernel
theorem d_FaultRules_line_46 : decode prog_1_method_12_code 46 = .ok (.lconst 0, 1) := by decide +kernel
theorem d_FaultRules_line_47 : decode prog_1_method_12_code 47 = .ok (.lstore 6, 2) := by decide +kernel
theorem d_FaultRules_line_49 : decode prog_1_method_12_code 49 = .ok (.lconst 0, 1) := by decide +kernel
theorem d_FaultRules_line_50 : decode prog_1_method_12_code 50 = .ok (.lstore 8, 2) := by decide +kernel
theorem d_FaultRules_line_52 : decode prog_1_method_12_code 52 = .ok (.lconst 0, 1) := by decide +kernel
theorem d_FaultRules_line_53 : decode prog_1_method_12_code 53 = .ok (.lstore 10, 2) := by decide +kernel
theorem d_FaultRules_line_55 : decode prog_1_method_12_code 55 = .ok (.lconst 0, 1) := by decide +kernel
theorem d_FaultRules_line_56 : decode prog_1_method_12_code 56 = .ok (.lstore 12, 2) := by decide +kernel
theorem d_FaultRules_line_58 : decode prog_1_method_12_code 58 = .ok (.lconst 0, 1) := by decide +kernel
theorem d_FaultRules_line_59 : decode prog_1_method_12_code 59 = .ok (.lstore 14, 2) := by decide +kernel
theorem d_FaultRules_line_61 : decode prog_1_method_12_code 61 = .ok (.aload_n 0, 1) := by decide +kernel
theorem d_FaultRules_line_62 : decode prog_1_method_12_code 62 = .ok (.getfield 12, 3) := by decide +kernel
theorem d_FaultRules_line_65 : decode prog_1_method_12_code 65 = .ok (.invokevirtual 93, 3) := by decide +kernel
theorem d_FaultRules_line_68 : decode prog_1_method_12_code 68 = .ok (.iload_n 3, 1) := by decide +kernel
theorem d_FaultRules_line_69 : decode prog_1_method_12_code 69 = .ok (.istore 16, 2) := by decide +kernel
theorem d_FaultRules_line_71 : decode prog_1_method_12_code 71 = .ok (.iload 16, 2) := by decide +kernel
theorem d_FaultRules_line_73 : decode prog_1_method_12_code 73 = .ok (.iload 4, 2) := by decide +kernel
theorem d_FaultRules_line_75 : decode prog_1_method_12_code 75 = .ok (.if_icmp .gt 114, 3) := by decide +kernel
theorem d_FaultRules_line_78 : decode prog_1_method_12_code 78 = .ok (.aload_n 0, 1) := by decide +kernel
theorem d_FaultRules_line_79 : decode prog_1_method_12_code 79 = .ok (.getfield 12, 3) := by decide +kernel
theorem d_FaultRules_line_82 : decode prog_1_method_12_code 82 = .ok (.iload 16, 2) := by decide +kernel
theorem d_FaultRules_line_84 : decode prog_1_method_12_code 84 = .ok (.invokevirtual 96, 3) := by decide +kernel
theorem d_FaultRules_line_87 : decode prog_1_method_12_code 87 = .ok (.aload_n 0, 1) := by decide +kernel
theorem d_FaultRules_line_88 : decode prog_1_method_12_code 88 = .ok (.getfield 12, 3) := by decide +kernel
theorem d_FaultRules_line_91 : decode prog_1_method_12_code 91 = .ok (.iload_n 1, 1) := by decide +kernel
theorem d_FaultRules_line_92 : decode prog_1_method_12_code 92 = .ok (.invokevirtual 100, 3) := by decide +kernel
theorem d_FaultRules_line_95 : decode prog_1_method_12_code 95 = .ok (.ifCond .eq 88, 3) := by decide +kernel
theorem d_FaultRules_line_98 : decode prog_1_method_12_code 98 = .ok (.aload_n 0, 1) := by decide +kernel
theorem d_FaultRules_line_99 : decode prog_1_method_12_code 99 = .ok (.getfield 12, 3) := by decide +kernel
theorem d_FaultRules_line_102 : decode prog_1_method_12_code 102 = .ok (.iload_n 2, 1) := by decide +kernel
theorem d_FaultRules_line_103 : decode prog_1_method_12_code 103 = .ok (.invokevirtual 100, 3) := by decide +kernel
theorem d_FaultRules_line_106 : decode prog_1_method_12_code 106 = .ok (.ifCond .eq 77, 3) := by decide +kernel
theorem d_FaultRules_line_109 : decode prog_1_method_12_code 109 = .ok (.aload_n 0, 1) := by decide +kernel
theorem d_FaultRules_line_110 : decode prog_1_method_12_code 110 = .ok (.getfield 40, 3) := by decide +kernel
theorem d_FaultRules_line_113 : decode prog_1_method_12_code 113 = .ok (.iload 16, 2) := by decide +kernel
theorem d_FaultRules_line_115 : decode prog_1_method_12_code 115 = .ok (.invokevirtual 174, 3) := by decide +kernel
theorem d_FaultRules_line_118 : decode prog_1_method_12_code 118 = .ok (.ifCond .ne 65, 3) := by decide +kernel
theorem d_FaultRules_line_121 : decode prog_1_method_12_code 121 = .ok (.aload_n 0, 1) := by decide +kernel
theorem d_FaultRules_line_122 : decode prog_1_method_12_code 122 = .ok (.getfield 12, 3) := by decide +kernel
theorem d_FaultRules_line_125 : decode prog_1_method_12_code 125 = .ok (.iload_n 2, 1) := by decide +kernel
theorem d_FaultRules_line_126 : decode prog_1_method_12_code 126 = .ok (.invokevirtual 105, 3) := by decide +kernel
theorem d_FaultRules_line_129 : decode prog_1_method_12_code 129 = .ok (.i2l, 1) := by decide +kernel
theorem d_FaultRules_line_130 : decode prog_1_method_12_code 130 = .ok (.lstore 17, 2) := by decide +kernel
theorem d_FaultRules_line_132 : decode prog_1_method_12_code 132 = .ok (.aload_n 0, 1) := by decide +kernel
theorem d_FaultRules_line_133 : decode prog_1_method_12_code 133 = .ok (.getfield 12, 3) := by decide +kernel
theorem d_FaultRules_line_136 : decode prog_1_method_12_code 136 = .ok (.iload_n 1, 1) := by decide +kernel
theorem d_FaultRules_line_137 : decode prog_1_method_12_code 137 = .ok (.invokevirtual 105, 3) := by decide +kernel
theorem d_FaultRules_line_140 : decode prog_1_method_12_code 140 = .ok (.i2l, 1) := by decide +kernel
theorem d_FaultRules_line_141 : decode prog_1_method_12_code 141 = .ok (.lstore 19, 2) := by decide +kernel
theorem d_FaultRules_line_143 : decode prog_1_method_12_code 143 = .ok (.lload 6, 2) := by decide +kernel
theorem d_FaultRules_line_145 : decode prog_1_method_12_code 145 = .ok (.lconst 1, 1) := by decide +kernel
theorem d_FaultRules_line_146 : decode prog_1_method_12_code 146 = .ok (.ladd, 1) := by decide +kernel
theorem d_FaultRules_line_147 : decode prog_1_method_12_code 147 = .ok (.lstore 6, 2) := by decide +kernel
theorem d_FaultRules_line_149 : decode prog_1_method_12_code 149 = .ok (.lload 8, 2) := by decide +kernel
theorem d_FaultRules_line_151 : decode prog_1_method_12_code 151 = .ok (.lload 17, 2) := by decide +kernel
theorem d_FaultRules_line_153 : decode prog_1_method_12_code 153 = .ok (.ladd, 1) := by decide +kernel
theorem d_FaultRules_line_154 : decode prog_1_method_12_code 154 = .ok (.lstore 8, 2) := by decide +kernel
theorem d_FaultRules_line_156 : decode prog_1_method_12_code 156 = .ok (.lload 10, 2) := by decide +kernel
theorem d_FaultRules_line_158 : decode prog_1_method_12_code 158 = .ok (.lload 19, 2) := by decide +kernel
theorem d_FaultRules_line_160 : decode prog_1_method_12_code 160 = .ok (.ladd, 1) := by decide +kernel
theorem d_FaultRules_line_161 : decode prog_1_method_12_code 161 = .ok (.lstore 10, 2) := by decide +kernel
theorem d_FaultRules_line_163 : decode prog_1_method_12_code 163 = .ok (.lload 12, 2) := by decide +kernel
theorem d_FaultRules_line_165 : decode prog_1_method_12_code 165 = .ok (.lload 17, 2) := by decide +kernel
theorem d_FaultRules_line_167 : decode prog_1_method_12_code 167 = .ok (.lload 17, 2) := by decide +kernel
theorem d_FaultRules_line_169 : decode prog_1_method_12_code 169 = .ok (.lmul, 1) := by decide +kernel
theorem d_FaultRules_line_170 : decode prog_1_method_12_code 170 = .ok (.ladd, 1) := by decide +kernel
theorem d_FaultRules_line_171 : decode prog_1_method_12_code 171 = .ok (.lstore 12, 2) := by decide +kernel
theorem d_FaultRules_line_173 : decode prog_1_method_12_code 173 = .ok (.lload 14, 2) := by decide +kernel
theorem d_FaultRules_line_175 : decode prog_1_method_12_code 175 = .ok (.lload 17, 2) := by decide +kernel
theorem d_FaultRules_line_177 : decode prog_1_method_12_code 177 = .ok (.lload 19, 2) := by decide +kernel
theorem d_FaultRules_line_179 : decode prog_1_method_12_code 179 = .ok (.lmul, 1) := by decide +kernel
theorem d_FaultRules_line_180 : decode prog_1_method_12_code 180 = .ok (.ladd, 1) := by decide +kernel
theorem d_FaultRules_line_181 : decode prog_1_method_12_code 181 = .ok (.lstore 14, 2) := by decide +kernel
theorem d_FaultRules_line_183 : decode prog_1_method_12_code 183 = .ok (.iinc 16 1, 3) := by decide +kernel
theorem d_FaultRules_line_186 : decode prog_1_method_12_code 186 = .ok (.goto (-115), 3) := by decide +kernel
theorem d_FaultRules_line_189 : decode prog_1_method_12_code 189 = .ok (.iload 5, 2) := by decide +kernel
theorem d_FaultRules_line_191 : decode prog_1_method_12_code 191 = .ok (.iconst 2, 1) := by decide +kernel
theorem d_FaultRules_line_192 : decode prog_1_method_12_code 192 = .ok (.if_icmp .ne 8, 3) := by decide +kernel
theorem d_FaultRules_line_195 : decode prog_1_method_12_code 195 = .ok (.lload 6, 2) := by decide +kernel
theorem d_FaultRules_line_197 : decode prog_1_method_12_code 197 = .ok (.goto 30, 3) := by decide +kernel
theorem d_FaultRules_line_200 : decode prog_1_method_12_code 200 = .ok (.lload 6, 2) := by decide +kernel
theorem d_FaultRules_line_202 : decode prog_1_method_12_code 202 = .ok (.lload 14, 2) := by decide +kernel
theorem d_FaultRules_line_204 : decode prog_1_method_12_code 204 = .ok (.lmul, 1) := by decide +kernel
theorem d_FaultRules_line_205 : decode prog_1_method_12_code 205 = .ok (.lload 8, 2) := by decide +kernel
theorem d_FaultRules_line_207 : decode prog_1_method_12_code 207 = .ok (.lload 10, 2) := by decide +kernel
theorem d_FaultRules_line_209 : decode prog_1_method_12_code 209 = .ok (.lmul, 1) := by decide +kernel
theorem d_FaultRules_line_210 : decode prog_1_method_12_code 210 = .ok (.lsub, 1) := by decide +kernel
theorem d_FaultRules_line_211 : decode prog_1_method_12_code 211 = .ok (.lload 6, 2) := by decide +kernel
theorem d_FaultRules_line_213 : decode prog_1_method_12_code 213 = .ok (.lload 12, 2) := by decide +kernel
theorem d_FaultRules_line_215 : decode prog_1_method_12_code 215 = .ok (.lmul, 1) := by decide +kernel
theorem d_FaultRules_line_216 : decode prog_1_method_12_code 216 = .ok (.lload 8, 2) := by decide +kernel
theorem d_FaultRules_line_218 : decode prog_1_method_12_code 218 = .ok (.lload 8, 2) := by decide +kernel
theorem d_FaultRules_line_220 : decode prog_1_method_12_code 220 = .ok (.lmul, 1) := by decide +kernel
theorem d_FaultRules_line_221 : decode prog_1_method_12_code 221 = .ok (.lsub, 1) := by decide +kernel
theorem d_FaultRules_line_222 : decode prog_1_method_12_code 222 = .ok (.iload 5, 2) := by decide +kernel
theorem d_FaultRules_line_224 : decode prog_1_method_12_code 224 = .ok (.invokestatic 175, 3) := by decide +kernel
theorem d_FaultRules_line_227 : decode prog_1_method_12_code 227 = .ok (.lreturn, 1) := by decide +kernel
theorem kF_FaultRules_40 : Cond.fieldLink "FaultRules" (40 : Nat) "FaultRules" "leftOut" "LFaultRules$LeftOut;" ∈ xT := x_t1 rfl (i := 198) rfl
theorem kM_FaultRules_174 : Cond.methodLink "FaultRules" (174 : Nat) ({ cls := "FaultRules$LeftOut", name := "has", desc := "(I)Z" } : Jvm.MethodName) ∈ xT := x_t3 rfl (i := 145) rfl
theorem kI_LeftOut_has : Cond.instanceMethod ({ cls := "FaultRules$LeftOut", name := "has", desc := "(I)Z" } : Jvm.MethodName) ∈ xT := x_t3 rfl (i := 146) rfl
theorem kS_339 : Cond.selects "FaultRules$LeftOut" ({ cls := "FaultRules$LeftOut", name := "has", desc := "(I)Z" } : Jvm.MethodName) ({ cls := "FaultRules$LeftOut", name := "has", desc := "(I)Z" } : Jvm.MethodName) ∈ xT := x_t3 rfl (i := 147) rfl
theorem kM_FaultRules_175 : Cond.methodLink "FaultRules" (175 : Nat) ({ cls := "FaultRules", name := "lowest", desc := "(JJI)J" } : Jvm.MethodName) ∈ xT := x_t3 rfl (i := 153) rfl
theorem kT_FaultRules_lowest : Cond.static ({ cls := "FaultRules", name := "lowest", desc := "(JJI)J" } : Jvm.MethodName) ∈ xT := x_t3 rfl (i := 154) rfl
abbrev y_FaultRules_leave : MethodName := { cls := "FaultRules", name := "leave", desc := "(IZ)Z" }
theorem kC_FaultRules_leave : Cond.code ({ cls := "FaultRules", name := "leave", desc := "(IZ)Z" } : Jvm.MethodName) prog_1_method_13_code (4 : Nat) (Option.some Jvm.ClassFile.FieldType.boolean) ∈ xT := x_t3 rfl (i := 168) rfl
theorem hd_FaultRules_leave : y_FaultRules_leave.cls ≠ "java/lang/invoke/MethodHandle" ∧ y_FaultRules_leave.cls ≠ "java/lang/invoke/VarHandle" ∧ (parseMethodDescriptor y_FaultRules_leave.desc).map (fun d => d.parameters.length) = some 2 := by decide +kernel
theorem d_FaultRules_leave_0 : decode prog_1_method_13_code 0 = .ok (.iload_n 1, 1) := by decide +kernel
theorem d_FaultRules_leave_1 : decode prog_1_method_13_code 1 = .ok (.invokestatic 62, 3) := by decide +kernel
theorem d_FaultRules_leave_4 : decode prog_1_method_13_code 4 = .ok (.ifCond .ne 13, 3) := by decide +kernel
theorem d_FaultRules_leave_7 : decode prog_1_method_13_code 7 = .ok (.new 67, 3) := by decide +kernel
theorem d_FaultRules_leave_10 : decode prog_1_method_13_code 10 = .ok (.dup, 1) := by decide +kernel
theorem d_FaultRules_leave_11 : decode prog_1_method_13_code 11 = .ok (.ldc 179, 2) := by decide +kernel
theorem d_FaultRules_leave_13 : decode prog_1_method_13_code 13 = .ok (.invokespecial 71, 3) := by decide +kernel
theorem d_FaultRules_leave_16 : decode prog_1_method_13_code 16 = .ok (.athrow, 1) := by decide +kernel
theorem d_FaultRules_leave_17 : decode prog_1_method_13_code 17 = .ok (.aload_n 0, 1) := by decide +kernel
theorem d_FaultRules_leave_18 : decode prog_1_method_13_code 18 = .ok (.getfield 40, 3) := by decide +kernel
theorem d_FaultRules_leave_21 : decode prog_1_method_13_code 21 = .ok (.iload_n 1, 1) := by decide +kernel
theorem d_FaultRules_leave_22 : decode prog_1_method_13_code 22 = .ok (.invokevirtual 174, 3) := by decide +kernel
theorem d_FaultRules_leave_25 : decode prog_1_method_13_code 25 = .ok (.istore_n 3, 1) := by decide +kernel
theorem d_FaultRules_leave_26 : decode prog_1_method_13_code 26 = .ok (.iload_n 2, 1) := by decide +kernel
theorem d_FaultRules_leave_27 : decode prog_1_method_13_code 27 = .ok (.ifCond .eq 27, 3) := by decide +kernel
theorem d_FaultRules_leave_30 : decode prog_1_method_13_code 30 = .ok (.iload_n 3, 1) := by decide +kernel
theorem d_FaultRules_leave_31 : decode prog_1_method_13_code 31 = .ok (.ifCond .ne 23, 3) := by decide +kernel
theorem d_FaultRules_leave_34 : decode prog_1_method_13_code 34 = .ok (.aload_n 0, 1) := by decide +kernel
theorem d_FaultRules_leave_35 : decode prog_1_method_13_code 35 = .ok (.getfield 40, 3) := by decide +kernel
theorem d_FaultRules_leave_38 : decode prog_1_method_13_code 38 = .ok (.invokevirtual 181, 3) := by decide +kernel
theorem d_FaultRules_leave_41 : decode prog_1_method_13_code 41 = .ok (.ifCond .eq 13, 3) := by decide +kernel
theorem d_FaultRules_leave_44 : decode prog_1_method_13_code 44 = .ok (.new 82, 3) := by decide +kernel
theorem d_FaultRules_leave_47 : decode prog_1_method_13_code 47 = .ok (.dup, 1) := by decide +kernel
theorem d_FaultRules_leave_48 : decode prog_1_method_13_code 48 = .ok (.ldc 182, 2) := by decide +kernel
theorem d_FaultRules_leave_50 : decode prog_1_method_13_code 50 = .ok (.invokespecial 86, 3) := by decide +kernel
theorem d_FaultRules_leave_53 : decode prog_1_method_13_code 53 = .ok (.athrow, 1) := by decide +kernel
theorem d_FaultRules_leave_54 : decode prog_1_method_13_code 54 = .ok (.iload_n 2, 1) := by decide +kernel
theorem d_FaultRules_leave_55 : decode prog_1_method_13_code 55 = .ok (.ifCond .eq 15, 3) := by decide +kernel
theorem d_FaultRules_leave_58 : decode prog_1_method_13_code 58 = .ok (.iload_n 3, 1) := by decide +kernel
theorem d_FaultRules_leave_59 : decode prog_1_method_13_code 59 = .ok (.ifCond .ne 11, 3) := by decide +kernel
theorem d_FaultRules_leave_62 : decode prog_1_method_13_code 62 = .ok (.aload_n 0, 1) := by decide +kernel
theorem d_FaultRules_leave_63 : decode prog_1_method_13_code 63 = .ok (.getfield 40, 3) := by decide +kernel
theorem d_FaultRules_leave_66 : decode prog_1_method_13_code 66 = .ok (.iload_n 1, 1) := by decide +kernel
theorem d_FaultRules_leave_67 : decode prog_1_method_13_code 67 = .ok (.invokevirtual 184, 3) := by decide +kernel
theorem d_FaultRules_leave_70 : decode prog_1_method_13_code 70 = .ok (.iload_n 2, 1) := by decide +kernel
theorem d_FaultRules_leave_71 : decode prog_1_method_13_code 71 = .ok (.ifCond .ne 15, 3) := by decide +kernel
theorem d_FaultRules_leave_74 : decode prog_1_method_13_code 74 = .ok (.iload_n 3, 1) := by decide +kernel
theorem d_FaultRules_leave_75 : decode prog_1_method_13_code 75 = .ok (.ifCond .eq 11, 3) := by decide +kernel
theorem d_FaultRules_leave_78 : decode prog_1_method_13_code 78 = .ok (.aload_n 0, 1) := by decide +kernel
theorem d_FaultRules_leave_79 : decode prog_1_method_13_code 79 = .ok (.getfield 40, 3) := by decide +kernel
theorem d_FaultRules_leave_82 : decode prog_1_method_13_code 82 = .ok (.iload_n 1, 1) := by decide +kernel
theorem d_FaultRules_leave_83 : decode prog_1_method_13_code 83 = .ok (.invokevirtual 186, 3) := by decide +kernel
theorem d_FaultRules_leave_86 : decode prog_1_method_13_code 86 = .ok (.iload_n 3, 1) := by decide +kernel
theorem d_FaultRules_leave_87 : decode prog_1_method_13_code 87 = .ok (.ireturn, 1) := by decide +kernel
theorem kM_FaultRules_186 : Cond.methodLink "FaultRules" (186 : Nat) ({ cls := "FaultRules$LeftOut", name := "remove", desc := "(I)V" } : Jvm.MethodName) ∈ xT := x_t3 rfl (i := 179) rfl
theorem kI_LeftOut_remove : Cond.instanceMethod ({ cls := "FaultRules$LeftOut", name := "remove", desc := "(I)V" } : Jvm.MethodName) ∈ xT := x_t3 rfl (i := 180) rfl
theorem kS_345 : Cond.selects "FaultRules$LeftOut" ({ cls := "FaultRules$LeftOut", name := "remove", desc := "(I)V" } : Jvm.MethodName) ({ cls := "FaultRules$LeftOut", name := "remove", desc := "(I)V" } : Jvm.MethodName) ∈ xT := x_t3 rfl (i := 181) rfl
theorem kM_FaultRules_184 : Cond.methodLink "FaultRules" (184 : Nat) ({ cls := "FaultRules$LeftOut", name := "add", desc := "(I)V" } : Jvm.MethodName) ∈ xT := x_t3 rfl (i := 175) rfl
theorem kI_LeftOut_add : Cond.instanceMethod ({ cls := "FaultRules$LeftOut", name := "add", desc := "(I)V" } : Jvm.MethodName) ∈ xT := x_t3 rfl (i := 176) rfl
theorem kS_348 : Cond.selects "FaultRules$LeftOut" ({ cls := "FaultRules$LeftOut", name := "add", desc := "(I)V" } : Jvm.MethodName) ({ cls := "FaultRules$LeftOut", name := "add", desc := "(I)V" } : Jvm.MethodName) ∈ xT := x_t3 rfl (i := 177) rfl
theorem kM_FaultRules_181 : Cond.methodLink "FaultRules" (181 : Nat) ({ cls := "FaultRules$LeftOut", name := "isFull", desc := "()Z" } : Jvm.MethodName) ∈ xT := x_t3 rfl (i := 170) rfl
theorem kI_LeftOut_isFull : Cond.instanceMethod ({ cls := "FaultRules$LeftOut", name := "isFull", desc := "()Z" } : Jvm.MethodName) ∈ xT := x_t3 rfl (i := 171) rfl
theorem kS_351 : Cond.selects "FaultRules$LeftOut" ({ cls := "FaultRules$LeftOut", name := "isFull", desc := "()Z" } : Jvm.MethodName) ({ cls := "FaultRules$LeftOut", name := "isFull", desc := "()Z" } : Jvm.MethodName) ∈ xT := x_t3 rfl (i := 172) rfl
abbrev y_FaultRules_cause : MethodName := { cls := "FaultRules", name := "cause", desc := "(II)I" }
theorem kC_FaultRules_cause : Cond.code ({ cls := "FaultRules", name := "cause", desc := "(II)I" } : Jvm.MethodName) prog_1_method_14_code (4 : Nat) (Option.some Jvm.ClassFile.FieldType.int) ∈ xT := x_t3 rfl (i := 189) rfl
theorem hd_FaultRules_cause : y_FaultRules_cause.cls ≠ "java/lang/invoke/MethodHandle" ∧ y_FaultRules_cause.cls ≠ "java/lang/invoke/VarHandle" ∧ (parseMethodDescriptor y_FaultRules_cause.desc).map (fun d => d.parameters.length) = some 2 := by decide +kernel
theorem d_FaultRules_cause_0 : decode prog_1_method_14_code 0 = .ok (.iload_n 1, 1) := by decide +kernel
theorem d_FaultRules_cause_1 : decode prog_1_method_14_code 1 = .ok (.ifCond .lt 19, 3) := by decide +kernel
theorem d_FaultRules_cause_4 : decode prog_1_method_14_code 4 = .ok (.iload_n 1, 1) := by decide +kernel
theorem d_FaultRules_cause_5 : decode prog_1_method_14_code 5 = .ok (.bipush 10, 2) := by decide +kernel
theorem d_FaultRules_cause_7 : decode prog_1_method_14_code 7 = .ok (.if_icmp .ge 13, 3) := by decide +kernel
theorem d_FaultRules_cause_10 : decode prog_1_method_14_code 10 = .ok (.iload_n 2, 1) := by decide +kernel
theorem d_FaultRules_cause_11 : decode prog_1_method_14_code 11 = .ok (.ifCond .lt 9, 3) := by decide +kernel
theorem d_FaultRules_cause_14 : decode prog_1_method_14_code 14 = .ok (.iload_n 2, 1) := by decide +kernel
theorem d_FaultRules_cause_15 : decode prog_1_method_14_code 15 = .ok (.bipush 63, 2) := by decide +kernel
theorem d_FaultRules_cause_17 : decode prog_1_method_14_code 17 = .ok (.if_icmp .le 13, 3) := by decide +kernel
theorem d_FaultRules_cause_20 : decode prog_1_method_14_code 20 = .ok (.new 67, 3) := by decide +kernel
theorem d_FaultRules_cause_23 : decode prog_1_method_14_code 23 = .ok (.dup, 1) := by decide +kernel
theorem d_FaultRules_cause_24 : decode prog_1_method_14_code 24 = .ok (.ldc 189, 2) := by decide +kernel
theorem d_FaultRules_cause_26 : decode prog_1_method_14_code 26 = .ok (.invokespecial 71, 3) := by decide +kernel
theorem d_FaultRules_cause_29 : decode prog_1_method_14_code 29 = .ok (.athrow, 1) := by decide +kernel
theorem d_FaultRules_cause_30 : decode prog_1_method_14_code 30 = .ok (.aload_n 0, 1) := by decide +kernel
theorem d_FaultRules_cause_31 : decode prog_1_method_14_code 31 = .ok (.getfield 44, 3) := by decide +kernel
theorem d_FaultRules_cause_34 : decode prog_1_method_14_code 34 = .ok (.iload_n 1, 1) := by decide +kernel
theorem d_FaultRules_cause_35 : decode prog_1_method_14_code 35 = .ok (.iaload, 1) := by decide +kernel
theorem d_FaultRules_cause_36 : decode prog_1_method_14_code 36 = .ok (.istore_n 3, 1) := by decide +kernel
theorem d_FaultRules_cause_37 : decode prog_1_method_14_code 37 = .ok (.aload_n 0, 1) := by decide +kernel
theorem d_FaultRules_cause_38 : decode prog_1_method_14_code 38 = .ok (.getfield 44, 3) := by decide +kernel
theorem d_FaultRules_cause_41 : decode prog_1_method_14_code 41 = .ok (.iload_n 1, 1) := by decide +kernel
theorem d_FaultRules_cause_42 : decode prog_1_method_14_code 42 = .ok (.iload_n 2, 1) := by decide +kernel
theorem d_FaultRules_cause_43 : decode prog_1_method_14_code 43 = .ok (.iastore, 1) := by decide +kernel
theorem d_FaultRules_cause_44 : decode prog_1_method_14_code 44 = .ok (.iload_n 3, 1) := by decide +kernel
theorem d_FaultRules_cause_45 : decode prog_1_method_14_code 45 = .ok (.ireturn, 1) := by decide +kernel
theorem kF_FaultRules_44 : Cond.fieldLink "FaultRules" (44 : Nat) "FaultRules" "brought" "[I" ∈ xT := x_t1 rfl (i := 199) rfl
abbrev y_java_lang_Integer_bitCount : MethodName := { cls := "java/lang/Integer", name := "bitCount", desc := "(I)I" }
theorem kC_java_lang_Integer_bitCount : Cond.code ({ cls := "java/lang/Integer", name := "bitCount", desc := "(I)I" } : Jvm.MethodName) prog_13_method_49_code (1 : Nat) (Option.some Jvm.ClassFile.FieldType.int) ∈ xT := x_t3 rfl (i := 200) rfl
theorem hd_java_lang_Integer_bitCount : y_java_lang_Integer_bitCount.cls ≠ "java/lang/invoke/MethodHandle" ∧ y_java_lang_Integer_bitCount.cls ≠ "java/lang/invoke/VarHandle" ∧ (parseMethodDescriptor y_java_lang_Integer_bitCount.desc).map (fun d => d.parameters.length) = some 1 := by decide +kernel
theorem d_java_lang_Integer_bitCount_0 : decode prog_13_method_49_code 0 = .ok (.iload_n 0, 1) := by decide +kernel
theorem d_java_lang_Integer_bitCount_1 : decode prog_13_method_49_code 1 = .ok (.iload_n 0, 1) := by decide +kernel
theorem d_java_lang_Integer_bitCount_2 : decode prog_13_method_49_code 2 = .ok (.iconst 1, 1) := by decide +kernel
theorem d_java_lang_Integer_bitCount_3 : decode prog_13_method_49_code 3 = .ok (.iushr, 1) := by decide +kernel
theorem d_java_lang_Integer_bitCount_4 : decode prog_13_method_49_code 4 = .ok (.ldc_w 265, 3) := by decide +kernel
theorem d_java_lang_Integer_bitCount_7 : decode prog_13_method_49_code 7 = .ok (.iand, 1) := by decide +kernel
theorem d_java_lang_Integer_bitCount_8 : decode prog_13_method_49_code 8 = .ok (.isub, 1) := by decide +kernel
theorem d_java_lang_Integer_bitCount_9 : decode prog_13_method_49_code 9 = .ok (.istore_n 0, 1) := by decide +kernel
theorem d_java_lang_Integer_bitCount_10 : decode prog_13_method_49_code 10 = .ok (.iload_n 0, 1) := by decide +kernel
theorem d_java_lang_Integer_bitCount_11 : decode prog_13_method_49_code 11 = .ok (.ldc_w 266, 3) := by decide +kernel
theorem d_java_lang_Integer_bitCount_14 : decode prog_13_method_49_code 14 = .ok (.iand, 1) := by decide +kernel
theorem d_java_lang_Integer_bitCount_15 : decode prog_13_method_49_code 15 = .ok (.iload_n 0, 1) := by decide +kernel
theorem d_java_lang_Integer_bitCount_16 : decode prog_13_method_49_code 16 = .ok (.iconst 2, 1) := by decide +kernel
theorem d_java_lang_Integer_bitCount_17 : decode prog_13_method_49_code 17 = .ok (.iushr, 1) := by decide +kernel
theorem d_java_lang_Integer_bitCount_18 : decode prog_13_method_49_code 18 = .ok (.ldc_w 266, 3) := by decide +kernel
theorem d_java_lang_Integer_bitCount_21 : decode prog_13_method_49_code 21 = .ok (.iand, 1) := by decide +kernel
theorem d_java_lang_Integer_bitCount_22 : decode prog_13_method_49_code 22 = .ok (.iadd, 1) := by decide +kernel
theorem d_java_lang_Integer_bitCount_23 : decode prog_13_method_49_code 23 = .ok (.istore_n 0, 1) := by decide +kernel
theorem d_java_lang_Integer_bitCount_24 : decode prog_13_method_49_code 24 = .ok (.iload_n 0, 1) := by decide +kernel
theorem d_java_lang_Integer_bitCount_25 : decode prog_13_method_49_code 25 = .ok (.iload_n 0, 1) := by decide +kernel
theorem d_java_lang_Integer_bitCount_26 : decode prog_13_method_49_code 26 = .ok (.iconst 4, 1) := by decide +kernel
theorem d_java_lang_Integer_bitCount_27 : decode prog_13_method_49_code 27 = .ok (.iushr, 1) := by decide +kernel
theorem d_java_lang_Integer_bitCount_28 : decode prog_13_method_49_code 28 = .ok (.iadd, 1) := by decide +kernel
theorem d_java_lang_Integer_bitCount_29 : decode prog_13_method_49_code 29 = .ok (.ldc_w 267, 3) := by decide +kernel
theorem d_java_lang_Integer_bitCount_32 : decode prog_13_method_49_code 32 = .ok (.iand, 1) := by decide +kernel
theorem d_java_lang_Integer_bitCount_33 : decode prog_13_method_49_code 33 = .ok (.istore_n 0, 1) := by decide +kernel
theorem d_java_lang_Integer_bitCount_34 : decode prog_13_method_49_code 34 = .ok (.iload_n 0, 1) := by decide +kernel
theorem d_java_lang_Integer_bitCount_35 : decode prog_13_method_49_code 35 = .ok (.iload_n 0, 1) := by decide +kernel
theorem d_java_lang_Integer_bitCount_36 : decode prog_13_method_49_code 36 = .ok (.bipush 8, 2) := by decide +kernel
theorem d_java_lang_Integer_bitCount_38 : decode prog_13_method_49_code 38 = .ok (.iushr, 1) := by decide +kernel
theorem d_java_lang_Integer_bitCount_39 : decode prog_13_method_49_code 39 = .ok (.iadd, 1) := by decide +kernel
theorem d_java_lang_Integer_bitCount_40 : decode prog_13_method_49_code 40 = .ok (.istore_n 0, 1) := by decide +kernel
theorem d_java_lang_Integer_bitCount_41 : decode prog_13_method_49_code 41 = .ok (.iload_n 0, 1) := by decide +kernel
theorem d_java_lang_Integer_bitCount_42 : decode prog_13_method_49_code 42 = .ok (.iload_n 0, 1) := by decide +kernel
theorem d_java_lang_Integer_bitCount_43 : decode prog_13_method_49_code 43 = .ok (.bipush 16, 2) := by decide +kernel
theorem d_java_lang_Integer_bitCount_45 : decode prog_13_method_49_code 45 = .ok (.iushr, 1) := by decide +kernel
theorem d_java_lang_Integer_bitCount_46 : decode prog_13_method_49_code 46 = .ok (.iadd, 1) := by decide +kernel
theorem d_java_lang_Integer_bitCount_47 : decode prog_13_method_49_code 47 = .ok (.istore_n 0, 1) := by decide +kernel
theorem d_java_lang_Integer_bitCount_48 : decode prog_13_method_49_code 48 = .ok (.iload_n 0, 1) := by decide +kernel
theorem d_java_lang_Integer_bitCount_49 : decode prog_13_method_49_code 49 = .ok (.bipush 63, 2) := by decide +kernel
theorem d_java_lang_Integer_bitCount_51 : decode prog_13_method_49_code 51 = .ok (.iand, 1) := by decide +kernel
theorem d_java_lang_Integer_bitCount_52 : decode prog_13_method_49_code 52 = .ok (.ireturn, 1) := by decide +kernel
theorem kK_java_lang_Integer_265 : Cond.constant "java/lang/Integer" (265 : Nat) (1431655765 : Int32) ∈ xT := x_t3 rfl (i := 201) rfl
theorem kK_java_lang_Integer_266 : Cond.constant "java/lang/Integer" (266 : Nat) (858993459 : Int32) ∈ xT := x_t3 rfl (i := 202) rfl
theorem kK_java_lang_Integer_267 : Cond.constant "java/lang/Integer" (267 : Nat) (252645135 : Int32) ∈ xT := x_t3 rfl (i := 203) rfl
abbrev y_FaultRules_broughtBy : MethodName := { cls := "FaultRules", name := "broughtBy", desc := "(I)I" }
theorem kC_FaultRules_broughtBy : Cond.code ({ cls := "FaultRules", name := "broughtBy", desc := "(I)I" } : Jvm.MethodName) prog_1_method_16_code (4 : Nat) (Option.some Jvm.ClassFile.FieldType.int) ∈ xT := x_t3 rfl (i := 207) rfl
theorem hd_FaultRules_broughtBy : y_FaultRules_broughtBy.cls ≠ "java/lang/invoke/MethodHandle" ∧ y_FaultRules_broughtBy.cls ≠ "java/lang/invoke/VarHandle" ∧ (parseMethodDescriptor y_FaultRules_broughtBy.desc).map (fun d => d.parameters.length) = some 1 := by decide +kernel
theorem d_FaultRules_broughtBy_0 : decode prog_1_method_16_code 0 = .ok (.iconst 0, 1) := by decide +kernel
theorem d_FaultRules_broughtBy_1 : decode prog_1_method_16_code 1 = .ok (.istore_n 2, 1) := by decide +kernel
theorem d_FaultRules_broughtBy_2 : decode prog_1_method_16_code 2 = .ok (.iconst 0, 1) := by decide +kernel
theorem d_FaultRules_broughtBy_3 : decode prog_1_method_16_code 3 = .ok (.istore_n 3, 1) := by decide +kernel
theorem d_FaultRules_broughtBy_4 : decode prog_1_method_16_code 4 = .ok (.iload_n 3, 1) := by decide +kernel
theorem d_FaultRules_broughtBy_5 : decode prog_1_method_16_code 5 = .ok (.bipush 10, 2) := by decide +kernel
theorem d_FaultRules_broughtBy_7 : decode prog_1_method_16_code 7 = .ok (.if_icmp .ge 27, 3) := by decide +kernel
theorem d_FaultRules_broughtBy_10 : decode prog_1_method_16_code 10 = .ok (.iload_n 1, 1) := by decide +kernel
theorem d_FaultRules_broughtBy_11 : decode prog_1_method_16_code 11 = .ok (.iload_n 3, 1) := by decide +kernel
theorem d_FaultRules_broughtBy_12 : decode prog_1_method_16_code 12 = .ok (.ishr, 1) := by decide +kernel
theorem d_FaultRules_broughtBy_13 : decode prog_1_method_16_code 13 = .ok (.iconst 1, 1) := by decide +kernel
theorem d_FaultRules_broughtBy_14 : decode prog_1_method_16_code 14 = .ok (.iand, 1) := by decide +kernel
theorem d_FaultRules_broughtBy_15 : decode prog_1_method_16_code 15 = .ok (.iconst 1, 1) := by decide +kernel
theorem d_FaultRules_broughtBy_16 : decode prog_1_method_16_code 16 = .ok (.if_icmp .ne 12, 3) := by decide +kernel
theorem d_FaultRules_broughtBy_19 : decode prog_1_method_16_code 19 = .ok (.iload_n 2, 1) := by decide +kernel
theorem d_FaultRules_broughtBy_20 : decode prog_1_method_16_code 20 = .ok (.aload_n 0, 1) := by decide +kernel
theorem d_FaultRules_broughtBy_21 : decode prog_1_method_16_code 21 = .ok (.getfield 44, 3) := by decide +kernel
theorem d_FaultRules_broughtBy_24 : decode prog_1_method_16_code 24 = .ok (.iload_n 3, 1) := by decide +kernel
theorem d_FaultRules_broughtBy_25 : decode prog_1_method_16_code 25 = .ok (.iaload, 1) := by decide +kernel
theorem d_FaultRules_broughtBy_26 : decode prog_1_method_16_code 26 = .ok (.ior, 1) := by decide +kernel
theorem d_FaultRules_broughtBy_27 : decode prog_1_method_16_code 27 = .ok (.istore_n 2, 1) := by decide +kernel
theorem d_FaultRules_broughtBy_28 : decode prog_1_method_16_code 28 = .ok (.iinc 3 1, 3) := by decide +kernel
theorem d_FaultRules_broughtBy_31 : decode prog_1_method_16_code 31 = .ok (.goto (-27), 3) := by decide +kernel
theorem d_FaultRules_broughtBy_34 : decode prog_1_method_16_code 34 = .ok (.iload_n 2, 1) := by decide +kernel
theorem d_FaultRules_broughtBy_35 : decode prog_1_method_16_code 35 = .ok (.ireturn, 1) := by decide +kernel
abbrev y_FaultRules_causes : MethodName := { cls := "FaultRules", name := "causes", desc := "()I" }
theorem kC_FaultRules_causes : Cond.code ({ cls := "FaultRules", name := "causes", desc := "()I" } : Jvm.MethodName) prog_1_method_15_code (5 : Nat) (Option.some Jvm.ClassFile.FieldType.int) ∈ xT := x_t3 rfl (i := 197) rfl
theorem hd_FaultRules_causes : y_FaultRules_causes.cls ≠ "java/lang/invoke/MethodHandle" ∧ y_FaultRules_causes.cls ≠ "java/lang/invoke/VarHandle" ∧ (parseMethodDescriptor y_FaultRules_causes.desc).map (fun d => d.parameters.length) = some 0 := by decide +kernel
theorem d_FaultRules_causes_0 : decode prog_1_method_15_code 0 = .ok (.aload_n 0, 1) := by decide +kernel
theorem d_FaultRules_causes_1 : decode prog_1_method_15_code 1 = .ok (.getfield 33, 3) := by decide +kernel
theorem d_FaultRules_causes_4 : decode prog_1_method_15_code 4 = .ok (.getfield 127, 3) := by decide +kernel
theorem d_FaultRules_causes_7 : decode prog_1_method_15_code 7 = .ok (.ifCond .ne 13, 3) := by decide +kernel
theorem d_FaultRules_causes_10 : decode prog_1_method_15_code 10 = .ok (.new 82, 3) := by decide +kernel
theorem d_FaultRules_causes_13 : decode prog_1_method_15_code 13 = .ok (.dup, 1) := by decide +kernel
theorem d_FaultRules_causes_14 : decode prog_1_method_15_code 14 = .ok (.ldc 149, 2) := by decide +kernel
theorem d_FaultRules_causes_16 : decode prog_1_method_15_code 16 = .ok (.invokespecial 86, 3) := by decide +kernel
theorem d_FaultRules_causes_19 : decode prog_1_method_15_code 19 = .ok (.athrow, 1) := by decide +kernel
theorem d_FaultRules_causes_20 : decode prog_1_method_15_code 20 = .ok (.iconst (-1), 1) := by decide +kernel
theorem d_FaultRules_causes_21 : decode prog_1_method_15_code 21 = .ok (.istore_n 1, 1) := by decide +kernel
theorem d_FaultRules_causes_22 : decode prog_1_method_15_code 22 = .ok (.bipush 11, 2) := by decide +kernel
theorem d_FaultRules_causes_24 : decode prog_1_method_15_code 24 = .ok (.istore_n 2, 1) := by decide +kernel
theorem d_FaultRules_causes_25 : decode prog_1_method_15_code 25 = .ok (.iconst 0, 1) := by decide +kernel
theorem d_FaultRules_causes_26 : decode prog_1_method_15_code 26 = .ok (.istore_n 3, 1) := by decide +kernel
theorem d_FaultRules_causes_27 : decode prog_1_method_15_code 27 = .ok (.iload_n 3, 1) := by decide +kernel
theorem d_FaultRules_causes_28 : decode prog_1_method_15_code 28 = .ok (.sipush 1024, 3) := by decide +kernel
theorem d_FaultRules_causes_31 : decode prog_1_method_15_code 31 = .ok (.if_icmp .ge 44, 3) := by decide +kernel
theorem d_FaultRules_causes_34 : decode prog_1_method_15_code 34 = .ok (.iload_n 3, 1) := by decide +kernel
theorem d_FaultRules_causes_35 : decode prog_1_method_15_code 35 = .ok (.invokestatic 191, 3) := by decide +kernel
theorem d_FaultRules_causes_38 : decode prog_1_method_15_code 38 = .ok (.istore 4, 2) := by decide +kernel
theorem d_FaultRules_causes_40 : decode prog_1_method_15_code 40 = .ok (.iload 4, 2) := by decide +kernel
theorem d_FaultRules_causes_42 : decode prog_1_method_15_code 42 = .ok (.iload_n 2, 1) := by decide +kernel
theorem d_FaultRules_causes_43 : decode prog_1_method_15_code 43 = .ok (.if_icmp .ge 26, 3) := by decide +kernel
theorem d_FaultRules_causes_46 : decode prog_1_method_15_code 46 = .ok (.aload_n 0, 1) := by decide +kernel
theorem d_FaultRules_causes_47 : decode prog_1_method_15_code 47 = .ok (.getfield 33, 3) := by decide +kernel
theorem d_FaultRules_causes_50 : decode prog_1_method_15_code 50 = .ok (.getfield 196, 3) := by decide +kernel
theorem d_FaultRules_causes_53 : decode prog_1_method_15_code 53 = .ok (.aload_n 0, 1) := by decide +kernel
theorem d_FaultRules_causes_54 : decode prog_1_method_15_code 54 = .ok (.iload_n 3, 1) := by decide +kernel
theorem d_FaultRules_causes_55 : decode prog_1_method_15_code 55 = .ok (.invokevirtual 199, 3) := by decide +kernel
theorem d_FaultRules_causes_58 : decode prog_1_method_15_code 58 = .ok (.iconst (-1), 1) := by decide +kernel
theorem d_FaultRules_causes_59 : decode prog_1_method_15_code 59 = .ok (.ixor, 1) := by decide +kernel
theorem d_FaultRules_causes_60 : decode prog_1_method_15_code 60 = .ok (.iand, 1) := by decide +kernel
theorem d_FaultRules_causes_61 : decode prog_1_method_15_code 61 = .ok (.ifCond .ne 8, 3) := by decide +kernel
theorem d_FaultRules_causes_64 : decode prog_1_method_15_code 64 = .ok (.iload_n 3, 1) := by decide +kernel
theorem d_FaultRules_causes_65 : decode prog_1_method_15_code 65 = .ok (.istore_n 1, 1) := by decide +kernel
theorem d_FaultRules_causes_66 : decode prog_1_method_15_code 66 = .ok (.iload 4, 2) := by decide +kernel
theorem d_FaultRules_causes_68 : decode prog_1_method_15_code 68 = .ok (.istore_n 2, 1) := by decide +kernel
theorem d_FaultRules_causes_69 : decode prog_1_method_15_code 69 = .ok (.iinc 3 1, 3) := by decide +kernel
theorem d_FaultRules_causes_72 : decode prog_1_method_15_code 72 = .ok (.goto (-45), 3) := by decide +kernel
theorem d_FaultRules_causes_75 : decode prog_1_method_15_code 75 = .ok (.iload_n 1, 1) := by decide +kernel
theorem d_FaultRules_causes_76 : decode prog_1_method_15_code 76 = .ok (.ireturn, 1) := by decide +kernel
theorem kF_FaultRules_196 : Cond.fieldLink "FaultRules" (196 : Nat) "FaultRules$Run" "faultyRules" "I" ∈ xT := x_t1 rfl (i := 102) rfl
theorem kM_FaultRules_191 : Cond.methodLink "FaultRules" (191 : Nat) ({ cls := "java/lang/Integer", name := "bitCount", desc := "(I)I" } : Jvm.MethodName) ∈ xT := x_t3 rfl (i := 198) rfl
theorem kN_java_lang_Integer : Cond.initialized "java/lang/Integer" ∈ xT := x_t1 rfl (i := 17) rfl
theorem kT_java_lang_Integer_bitCount : Cond.static ({ cls := "java/lang/Integer", name := "bitCount", desc := "(I)I" } : Jvm.MethodName) ∈ xT := x_t3 rfl (i := 199) rfl
theorem kM_FaultRules_199 : Cond.methodLink "FaultRules" (199 : Nat) ({ cls := "FaultRules", name := "broughtBy", desc := "(I)I" } : Jvm.MethodName) ∈ xT := x_t3 rfl (i := 204) rfl
theorem kI_FaultRules_broughtBy : Cond.instanceMethod ({ cls := "FaultRules", name := "broughtBy", desc := "(I)I" } : Jvm.MethodName) ∈ xT := x_t3 rfl (i := 206) rfl
theorem kS_366 : Cond.selects "FaultRules" ({ cls := "FaultRules", name := "broughtBy", desc := "(I)I" } : Jvm.MethodName) ({ cls := "FaultRules", name := "broughtBy", desc := "(I)I" } : Jvm.MethodName) ∈ xT := x_tp rfl (i := 29) rfl
abbrev y_Model_thrown : MethodName := { cls := "FaultRulesModel", name := "thrown", desc := "()I" }
theorem kC_Model_thrown : Cond.code ({ cls := "FaultRulesModel", name := "thrown", desc := "()I" } : Jvm.MethodName) prog_9_method_2_code (1 : Nat) (Option.some Jvm.ClassFile.FieldType.int) ∈ xT := x_t4 rfl (i := 80) rfl
theorem hd_Model_thrown : y_Model_thrown.cls ≠ "java/lang/invoke/MethodHandle" ∧ y_Model_thrown.cls ≠ "java/lang/invoke/VarHandle" ∧ (parseMethodDescriptor y_Model_thrown.desc).map (fun d => d.parameters.length) = some 0 := by decide +kernel
theorem d_Model_thrown_0 : decode prog_9_method_2_code 0 = .ok (.aload_n 0, 1) := by decide +kernel
theorem d_Model_thrown_1 : decode prog_9_method_2_code 1 = .ok (.getfield 86, 3) := by decide +kernel
theorem d_Model_thrown_4 : decode prog_9_method_2_code 4 = .ok (.ireturn, 1) := by decide +kernel
theorem kF_Model_86 : Cond.fieldLink "FaultRulesModel" (86 : Nat) "FaultRulesModel" "thrown" "I" ∈ xT := x_t3 rfl (i := 214) rfl
abbrev y_Model_isIn : MethodName := { cls := "FaultRulesModel", name := "isIn", desc := "(JJJ)Z" }
theorem kC_Model_isIn : Cond.code ({ cls := "FaultRulesModel", name := "isIn", desc := "(JJJ)Z" } : Jvm.MethodName) prog_9_method_3_code (6 : Nat) (Option.some Jvm.ClassFile.FieldType.boolean) ∈ xT := x_t4 rfl (i := 91) rfl
theorem hd_Model_isIn : y_Model_isIn.cls ≠ "java/lang/invoke/MethodHandle" ∧ y_Model_isIn.cls ≠ "java/lang/invoke/VarHandle" ∧ (parseMethodDescriptor y_Model_isIn.desc).map (fun d => d.parameters.length) = some 3 := by decide +kernel
theorem d_Model_isIn_0 : decode prog_9_method_3_code 0 = .ok (.lload_n 0, 1) := by decide +kernel
theorem d_Model_isIn_1 : decode prog_9_method_3_code 1 = .ok (.lload_n 2, 1) := by decide +kernel
theorem d_Model_isIn_2 : decode prog_9_method_3_code 2 = .ok (.lcmp, 1) := by decide +kernel
theorem d_Model_isIn_3 : decode prog_9_method_3_code 3 = .ok (.ifCond .lt 14, 3) := by decide +kernel
theorem d_Model_isIn_6 : decode prog_9_method_3_code 6 = .ok (.lload_n 0, 1) := by decide +kernel
theorem d_Model_isIn_7 : decode prog_9_method_3_code 7 = .ok (.lload 4, 2) := by decide +kernel
theorem d_Model_isIn_9 : decode prog_9_method_3_code 9 = .ok (.lcmp, 1) := by decide +kernel
theorem d_Model_isIn_10 : decode prog_9_method_3_code 10 = .ok (.ifCond .gt 7, 3) := by decide +kernel
theorem d_Model_isIn_13 : decode prog_9_method_3_code 13 = .ok (.iconst 1, 1) := by decide +kernel
theorem d_Model_isIn_14 : decode prog_9_method_3_code 14 = .ok (.goto 4, 3) := by decide +kernel
theorem d_Model_isIn_17 : decode prog_9_method_3_code 17 = .ok (.iconst 0, 1) := by decide +kernel
theorem d_Model_isIn_18 : decode prog_9_method_3_code 18 = .ok (.ireturn, 1) := by decide +kernel
abbrev y_Model_isMinute : MethodName := { cls := "FaultRulesModel", name := "isMinute", desc := "(I)Z" }
theorem kC_Model_isMinute : Cond.code ({ cls := "FaultRulesModel", name := "isMinute", desc := "(I)Z" } : Jvm.MethodName) prog_9_method_4_code (1 : Nat) (Option.some Jvm.ClassFile.FieldType.boolean) ∈ xT := x_t4 rfl (i := 94) rfl
theorem hd_Model_isMinute : y_Model_isMinute.cls ≠ "java/lang/invoke/MethodHandle" ∧ y_Model_isMinute.cls ≠ "java/lang/invoke/VarHandle" ∧ (parseMethodDescriptor y_Model_isMinute.desc).map (fun d => d.parameters.length) = some 1 := by decide +kernel
theorem d_Model_isMinute_0 : decode prog_9_method_4_code 0 = .ok (.iload_n 0, 1) := by decide +kernel
theorem d_Model_isMinute_1 : decode prog_9_method_4_code 1 = .ok (.i2l, 1) := by decide +kernel
theorem d_Model_isMinute_2 : decode prog_9_method_4_code 2 = .ok (.lconst 0, 1) := by decide +kernel
theorem d_Model_isMinute_3 : decode prog_9_method_4_code 3 = .ok (.ldc2_w 90, 3) := by decide +kernel
theorem d_Model_isMinute_6 : decode prog_9_method_4_code 6 = .ok (.invokestatic 92, 3) := by decide +kernel
theorem d_Model_isMinute_9 : decode prog_9_method_4_code 9 = .ok (.ireturn, 1) := by decide +kernel
theorem kK_Model_90 : Cond.constantLong "FaultRulesModel" (90 : Nat) (100000 : Int64) ∈ xT := x_t4 rfl (i := 95) rfl
theorem kM_Model_92 : Cond.methodLink "FaultRulesModel" (92 : Nat) ({ cls := "FaultRulesModel", name := "isIn", desc := "(JJJ)Z" } : Jvm.MethodName) ∈ xT := x_t4 rfl (i := 89) rfl
theorem kN_Model : Cond.initialized "FaultRulesModel" ∈ xT := x_t1 rfl (i := 8) rfl
theorem kT_Model_isIn : Cond.static ({ cls := "FaultRulesModel", name := "isIn", desc := "(JJJ)Z" } : Jvm.MethodName) ∈ xT := x_t4 rfl (i := 90) rfl
abbrev y_Model_isPoint : MethodName := { cls := "FaultRulesModel", name := "isPoint", desc := "(I)Z" }
theorem kC_Model_isPoint : Cond.code ({ cls := "FaultRulesModel", name := "isPoint", desc := "(I)Z" } : Jvm.MethodName) prog_9_method_5_code (1 : Nat) (Option.some Jvm.ClassFile.FieldType.boolean) ∈ xT := x_t4 rfl (i := 87) rfl
theorem hd_Model_isPoint : y_Model_isPoint.cls ≠ "java/lang/invoke/MethodHandle" ∧ y_Model_isPoint.cls ≠ "java/lang/invoke/VarHandle" ∧ (parseMethodDescriptor y_Model_isPoint.desc).map (fun d => d.parameters.length) = some 1 := by decide +kernel
theorem d_Model_isPoint_0 : decode prog_9_method_5_code 0 = .ok (.iload_n 0, 1) := by decide +kernel
theorem d_Model_isPoint_1 : decode prog_9_method_5_code 1 = .ok (.i2l, 1) := by decide +kernel
theorem d_Model_isPoint_2 : decode prog_9_method_5_code 2 = .ok (.lconst 0, 1) := by decide +kernel
theorem d_Model_isPoint_3 : decode prog_9_method_5_code 3 = .ok (.ldc2_w 96, 3) := by decide +kernel
theorem d_Model_isPoint_6 : decode prog_9_method_5_code 6 = .ok (.invokestatic 92, 3) := by decide +kernel
theorem d_Model_isPoint_9 : decode prog_9_method_5_code 9 = .ok (.ireturn, 1) := by decide +kernel
theorem kK_Model_96 : Cond.constantLong "FaultRulesModel" (96 : Nat) (15 : Int64) ∈ xT := x_t4 rfl (i := 88) rfl
abbrev y_Model_latest : MethodName := { cls := "FaultRulesModel", name := "latest", desc := "(II)I" }
theorem kC_Model_latest : Cond.code ({ cls := "FaultRulesModel", name := "latest", desc := "(II)I" } : Jvm.MethodName) prog_9_method_6_code (5 : Nat) (Option.some Jvm.ClassFile.FieldType.int) ∈ xT := x_t4 rfl (i := 105) rfl
theorem hd_Model_latest : y_Model_latest.cls ≠ "java/lang/invoke/MethodHandle" ∧ y_Model_latest.cls ≠ "java/lang/invoke/VarHandle" ∧ (parseMethodDescriptor y_Model_latest.desc).map (fun d => d.parameters.length) = some 2 := by decide +kernel
theorem d_Model_latest_0 : decode prog_9_method_6_code 0 = .ok (.iconst (-1), 1) := by decide +kernel
theorem d_Model_latest_1 : decode prog_9_method_6_code 1 = .ok (.istore_n 3, 1) := by decide +kernel
theorem d_Model_latest_2 : decode prog_9_method_6_code 2 = .ok (.iconst 0, 1) := by decide +kernel
theorem d_Model_latest_3 : decode prog_9_method_6_code 3 = .ok (.istore 4, 2) := by decide +kernel
theorem d_Model_latest_5 : decode prog_9_method_6_code 5 = .ok (.iload 4, 2) := by decide +kernel
theorem d_Model_latest_7 : decode prog_9_method_6_code 7 = .ok (.aload_n 0, 1) := by decide +kernel
theorem d_Model_latest_8 : decode prog_9_method_6_code 8 = .ok (.getfield 98, 3) := by decide +kernel
theorem d_Model_latest_11 : decode prog_9_method_6_code 11 = .ok (.if_icmp .ge 34, 3) := by decide +kernel
theorem d_Model_latest_14 : decode prog_9_method_6_code 14 = .ok (.aload_n 0, 1) := by decide +kernel
theorem d_Model_latest_15 : decode prog_9_method_6_code 15 = .ok (.getfield 7, 3) := by decide +kernel
theorem d_Model_latest_18 : decode prog_9_method_6_code 18 = .ok (.iload 4, 2) := by decide +kernel
theorem d_Model_latest_20 : decode prog_9_method_6_code 20 = .ok (.iaload, 1) := by decide +kernel
theorem d_Model_latest_21 : decode prog_9_method_6_code 21 = .ok (.iload_n 1, 1) := by decide +kernel
theorem d_Model_latest_22 : decode prog_9_method_6_code 22 = .ok (.if_icmp .ne 17, 3) := by decide +kernel
theorem d_Model_latest_25 : decode prog_9_method_6_code 25 = .ok (.aload_n 0, 1) := by decide +kernel
theorem d_Model_latest_26 : decode prog_9_method_6_code 26 = .ok (.getfield 13, 3) := by decide +kernel
theorem d_Model_latest_29 : decode prog_9_method_6_code 29 = .ok (.iload 4, 2) := by decide +kernel
theorem d_Model_latest_31 : decode prog_9_method_6_code 31 = .ok (.iaload, 1) := by decide +kernel
theorem d_Model_latest_32 : decode prog_9_method_6_code 32 = .ok (.iload_n 2, 1) := by decide +kernel
theorem d_Model_latest_33 : decode prog_9_method_6_code 33 = .ok (.if_icmp .gt 6, 3) := by decide +kernel
theorem d_Model_latest_36 : decode prog_9_method_6_code 36 = .ok (.iload 4, 2) := by decide +kernel
theorem d_Model_latest_38 : decode prog_9_method_6_code 38 = .ok (.istore_n 3, 1) := by decide +kernel
theorem d_Model_latest_39 : decode prog_9_method_6_code 39 = .ok (.iinc 4 1, 3) := by decide +kernel
theorem d_Model_latest_42 : decode prog_9_method_6_code 42 = .ok (.goto (-37), 3) := by decide +kernel
theorem d_Model_latest_45 : decode prog_9_method_6_code 45 = .ok (.iload_n 3, 1) := by decide +kernel
theorem d_Model_latest_46 : decode prog_9_method_6_code 46 = .ok (.ireturn, 1) := by decide +kernel
theorem kF_Model_98 : Cond.fieldLink "FaultRulesModel" (98 : Nat) "FaultRulesModel" "rows" "I" ∈ xT := x_t3 rfl (i := 215) rfl
theorem kF_Model_7 : Cond.fieldLink "FaultRulesModel" (7 : Nat) "FaultRulesModel" "rowPoint" "[I" ∈ xT := x_t3 rfl (i := 216) rfl
theorem kF_Model_13 : Cond.fieldLink "FaultRulesModel" (13 : Nat) "FaultRulesModel" "rowMinute" "[I" ∈ xT := x_t3 rfl (i := 217) rfl
abbrev y_Model_row : MethodName := { cls := "FaultRulesModel", name := "row", desc := "(III)I" }
theorem kC_Model_row : Cond.code ({ cls := "FaultRulesModel", name := "row", desc := "(III)I" } : Jvm.MethodName) prog_9_method_7_code (6 : Nat) (Option.some Jvm.ClassFile.FieldType.int) ∈ xT := x_t4 rfl (i := 84) rfl
theorem hd_Model_row : y_Model_row.cls ≠ "java/lang/invoke/MethodHandle" ∧ y_Model_row.cls ≠ "java/lang/invoke/VarHandle" ∧ (parseMethodDescriptor y_Model_row.desc).map (fun d => d.parameters.length) = some 3 := by decide +kernel
theorem d_Model_row_0 : decode prog_9_method_7_code 0 = .ok (.aload_n 0, 1) := by decide +kernel
theorem d_Model_row_1 : decode prog_9_method_7_code 1 = .ok (.iload_n 1, 1) := by decide +kernel
theorem d_Model_row_2 : decode prog_9_method_7_code 2 = .ok (.invokestatic 101, 3) := by decide +kernel
theorem d_Model_row_5 : decode prog_9_method_7_code 5 = .ok (.ifCond .eq 24, 3) := by decide +kernel
theorem d_Model_row_8 : decode prog_9_method_7_code 8 = .ok (.iload_n 2, 1) := by decide +kernel
theorem d_Model_row_9 : decode prog_9_method_7_code 9 = .ok (.invokestatic 105, 3) := by decide +kernel
theorem d_Model_row_12 : decode prog_9_method_7_code 12 = .ok (.ifCond .eq 17, 3) := by decide +kernel
theorem d_Model_row_15 : decode prog_9_method_7_code 15 = .ok (.iload_n 3, 1) := by decide +kernel
theorem d_Model_row_16 : decode prog_9_method_7_code 16 = .ok (.i2l, 1) := by decide +kernel
theorem d_Model_row_17 : decode prog_9_method_7_code 17 = .ok (.ldc2_w 108, 3) := by decide +kernel
theorem d_Model_row_20 : decode prog_9_method_7_code 20 = .ok (.ldc2_w 110, 3) := by decide +kernel
theorem d_Model_row_23 : decode prog_9_method_7_code 23 = .ok (.invokestatic 92, 3) := by decide +kernel
theorem d_Model_row_26 : decode prog_9_method_7_code 26 = .ok (.ifCond .ne 7, 3) := by decide +kernel
theorem d_Model_row_29 : decode prog_9_method_7_code 29 = .ok (.iconst 1, 1) := by decide +kernel
theorem d_Model_row_30 : decode prog_9_method_7_code 30 = .ok (.goto 17, 3) := by decide +kernel
theorem d_Model_row_33 : decode prog_9_method_7_code 33 = .ok (.aload_n 0, 1) := by decide +kernel
theorem d_Model_row_34 : decode prog_9_method_7_code 34 = .ok (.getfield 98, 3) := by decide +kernel
theorem d_Model_row_37 : decode prog_9_method_7_code 37 = .ok (.bipush 120, 2) := by decide +kernel
theorem d_Model_row_39 : decode prog_9_method_7_code 39 = .ok (.if_icmp .ne 7, 3) := by decide +kernel
theorem d_Model_row_42 : decode prog_9_method_7_code 42 = .ok (.iconst 2, 1) := by decide +kernel
theorem d_Model_row_43 : decode prog_9_method_7_code 43 = .ok (.goto 4, 3) := by decide +kernel
theorem d_Model_row_46 : decode prog_9_method_7_code 46 = .ok (.iconst 0, 1) := by decide +kernel
theorem d_Model_row_47 : decode prog_9_method_7_code 47 = .ok (.putfield 86, 3) := by decide +kernel
theorem d_Model_row_50 : decode prog_9_method_7_code 50 = .ok (.aload_n 0, 1) := by decide +kernel
theorem d_Model_row_51 : decode prog_9_method_7_code 51 = .ok (.getfield 86, 3) := by decide +kernel
theorem d_Model_row_54 : decode prog_9_method_7_code 54 = .ok (.iconst 1, 1) := by decide +kernel
theorem d_Model_row_55 : decode prog_9_method_7_code 55 = .ok (.if_icmp .ne 5, 3) := by decide +kernel
theorem d_Model_row_58 : decode prog_9_method_7_code 58 = .ok (.iconst 0, 1) := by decide +kernel
theorem d_Model_row_59 : decode prog_9_method_7_code 59 = .ok (.ireturn, 1) := by decide +kernel
theorem d_Model_row_60 : decode prog_9_method_7_code 60 = .ok (.iconst 1, 1) := by decide +kernel
theorem d_Model_row_61 : decode prog_9_method_7_code 61 = .ok (.istore 4, 2) := by decide +kernel
theorem d_Model_row_63 : decode prog_9_method_7_code 63 = .ok (.iconst 0, 1) := by decide +kernel
theorem d_Model_row_64 : decode prog_9_method_7_code 64 = .ok (.istore 5, 2) := by decide +kernel
theorem d_Model_row_66 : decode prog_9_method_7_code 66 = .ok (.iload 5, 2) := by decide +kernel
theorem d_Model_row_68 : decode prog_9_method_7_code 68 = .ok (.aload_n 0, 1) := by decide +kernel
theorem d_Model_row_69 : decode prog_9_method_7_code 69 = .ok (.getfield 98, 3) := by decide +kernel
theorem d_Model_row_72 : decode prog_9_method_7_code 72 = .ok (.if_icmp .ge 46, 3) := by decide +kernel
theorem d_Model_row_75 : decode prog_9_method_7_code 75 = .ok (.aload_n 0, 1) := by decide +kernel
theorem d_Model_row_76 : decode prog_9_method_7_code 76 = .ok (.getfield 7, 3) := by decide +kernel
theorem d_Model_row_79 : decode prog_9_method_7_code 79 = .ok (.iload 5, 2) := by decide +kernel
theorem d_Model_row_81 : decode prog_9_method_7_code 81 = .ok (.iaload, 1) := by decide +kernel
theorem d_Model_row_82 : decode prog_9_method_7_code 82 = .ok (.iload_n 1, 1) := by decide +kernel
theorem d_Model_row_83 : decode prog_9_method_7_code 83 = .ok (.if_icmp .ne 29, 3) := by decide +kernel
theorem d_Model_row_86 : decode prog_9_method_7_code 86 = .ok (.iinc 4 1, 3) := by decide +kernel
theorem d_Model_row_89 : decode prog_9_method_7_code 89 = .ok (.aload_n 0, 1) := by decide +kernel
theorem d_Model_row_90 : decode prog_9_method_7_code 90 = .ok (.aload_n 0, 1) := by decide +kernel
theorem d_Model_row_91 : decode prog_9_method_7_code 91 = .ok (.getfield 13, 3) := by decide +kernel
theorem d_Model_row_94 : decode prog_9_method_7_code 94 = .ok (.iload 5, 2) := by decide +kernel
theorem d_Model_row_96 : decode prog_9_method_7_code 96 = .ok (.iaload, 1) := by decide +kernel
theorem d_Model_row_97 : decode prog_9_method_7_code 97 = .ok (.iload_n 2, 1) := by decide +kernel
theorem d_Model_row_98 : decode prog_9_method_7_code 98 = .ok (.if_icmp .lt 7, 3) := by decide +kernel
theorem d_Model_row_101 : decode prog_9_method_7_code 101 = .ok (.iconst 2, 1) := by decide +kernel
theorem d_Model_row_102 : decode prog_9_method_7_code 102 = .ok (.goto 7, 3) := by decide +kernel
theorem d_Model_row_105 : decode prog_9_method_7_code 105 = .ok (.aload_n 0, 1) := by decide +kernel
theorem d_Model_row_106 : decode prog_9_method_7_code 106 = .ok (.getfield 86, 3) := by decide +kernel
theorem d_Model_row_109 : decode prog_9_method_7_code 109 = .ok (.putfield 86, 3) := by decide +kernel
theorem d_Model_row_112 : decode prog_9_method_7_code 112 = .ok (.iinc 5 1, 3) := by decide +kernel
theorem d_Model_row_115 : decode prog_9_method_7_code 115 = .ok (.goto (-49), 3) := by decide +kernel
theorem d_Model_row_118 : decode prog_9_method_7_code 118 = .ok (.aload_n 0, 1) := by decide +kernel
theorem d_Model_row_119 : decode prog_9_method_7_code 119 = .ok (.getfield 86, 3) := by decide +kernel
theorem d_Model_row_122 : decode prog_9_method_7_code 122 = .ok (.ifCond .le 5, 3) := by decide +kernel
theorem d_Model_row_125 : decode prog_9_method_7_code 125 = .ok (.iconst 0, 1) := by decide +kernel
theorem d_Model_row_126 : decode prog_9_method_7_code 126 = .ok (.ireturn, 1) := by decide +kernel
theorem d_Model_row_127 : decode prog_9_method_7_code 127 = .ok (.aload_n 0, 1) := by decide +kernel
theorem d_Model_row_128 : decode prog_9_method_7_code 128 = .ok (.getfield 7, 3) := by decide +kernel
theorem d_Model_row_131 : decode prog_9_method_7_code 131 = .ok (.aload_n 0, 1) := by decide +kernel
theorem d_Model_row_132 : decode prog_9_method_7_code 132 = .ok (.getfield 98, 3) := by decide +kernel
theorem d_Model_row_135 : decode prog_9_method_7_code 135 = .ok (.iload_n 1, 1) := by decide +kernel
theorem d_Model_row_136 : decode prog_9_method_7_code 136 = .ok (.iastore, 1) := by decide +kernel
theorem d_Model_row_137 : decode prog_9_method_7_code 137 = .ok (.aload_n 0, 1) := by decide +kernel
theorem d_Model_row_138 : decode prog_9_method_7_code 138 = .ok (.getfield 13, 3) := by decide +kernel
theorem d_Model_row_141 : decode prog_9_method_7_code 141 = .ok (.aload_n 0, 1) := by decide +kernel
theorem d_Model_row_142 : decode prog_9_method_7_code 142 = .ok (.getfield 98, 3) := by decide +kernel
theorem d_Model_row_145 : decode prog_9_method_7_code 145 = .ok (.iload_n 2, 1) := by decide +kernel
theorem d_Model_row_146 : decode prog_9_method_7_code 146 = .ok (.iastore, 1) := by decide +kernel
theorem d_Model_row_147 : decode prog_9_method_7_code 147 = .ok (.aload_n 0, 1) := by decide +kernel
theorem d_Model_row_148 : decode prog_9_method_7_code 148 = .ok (.getfield 16, 3) := by decide +kernel
theorem d_Model_row_151 : decode prog_9_method_7_code 151 = .ok (.aload_n 0, 1) := by decide +kernel
theorem d_Model_row_152 : decode prog_9_method_7_code 152 = .ok (.getfield 98, 3) := by decide +kernel
theorem d_Model_row_155 : decode prog_9_method_7_code 155 = .ok (.iload_n 3, 1) := by decide +kernel
theorem d_Model_row_156 : decode prog_9_method_7_code 156 = .ok (.iastore, 1) := by decide +kernel
theorem d_Model_row_157 : decode prog_9_method_7_code 157 = .ok (.aload_n 0, 1) := by decide +kernel
theorem d_Model_row_158 : decode prog_9_method_7_code 158 = .ok (.dup, 1) := by decide +kernel
theorem d_Model_row_159 : decode prog_9_method_7_code 159 = .ok (.getfield 98, 3) := by decide +kernel
theorem d_Model_row_162 : decode prog_9_method_7_code 162 = .ok (.iconst 1, 1) := by decide +kernel
theorem d_Model_row_163 : decode prog_9_method_7_code 163 = .ok (.iadd, 1) := by decide +kernel
theorem d_Model_row_164 : decode prog_9_method_7_code 164 = .ok (.putfield 98, 3) := by decide +kernel
theorem d_Model_row_167 : decode prog_9_method_7_code 167 = .ok (.iload 4, 2) := by decide +kernel
theorem d_Model_row_169 : decode prog_9_method_7_code 169 = .ok (.ireturn, 1) := by decide +kernel
theorem kF_Model_16 : Cond.fieldLink "FaultRulesModel" (16 : Nat) "FaultRulesModel" "rowValue" "[I" ∈ xT := x_t3 rfl (i := 218) rfl
theorem kK_Model_108 : Cond.constantLong "FaultRulesModel" (108 : Nat) (-1000000 : Int64) ∈ xT := x_t4 rfl (i := 96) rfl
theorem kK_Model_110 : Cond.constantLong "FaultRulesModel" (110 : Nat) (1000000 : Int64) ∈ xT := x_t4 rfl (i := 97) rfl
theorem kM_Model_101 : Cond.methodLink "FaultRulesModel" (101 : Nat) ({ cls := "FaultRulesModel", name := "isPoint", desc := "(I)Z" } : Jvm.MethodName) ∈ xT := x_t4 rfl (i := 85) rfl
theorem kT_Model_isPoint : Cond.static ({ cls := "FaultRulesModel", name := "isPoint", desc := "(I)Z" } : Jvm.MethodName) ∈ xT := x_t4 rfl (i := 86) rfl
theorem kM_Model_105 : Cond.methodLink "FaultRulesModel" (105 : Nat) ({ cls := "FaultRulesModel", name := "isMinute", desc := "(I)Z" } : Jvm.MethodName) ∈ xT := x_t4 rfl (i := 92) rfl
theorem kT_Model_isMinute : Cond.static ({ cls := "FaultRulesModel", name := "isMinute", desc := "(I)Z" } : Jvm.MethodName) ∈ xT := x_t4 rfl (i := 93) rfl
abbrev y_Model_value : MethodName := { cls := "FaultRulesModel", name := "value", desc := "(II)I" }
theorem kC_Model_value : Cond.code ({ cls := "FaultRulesModel", name := "value", desc := "(II)I" } : Jvm.MethodName) prog_9_method_8_code (3 : Nat) (Option.some Jvm.ClassFile.FieldType.int) ∈ xT := x_t4 rfl (i := 101) rfl
theorem hd_Model_value : y_Model_value.cls ≠ "java/lang/invoke/MethodHandle" ∧ y_Model_value.cls ≠ "java/lang/invoke/VarHandle" ∧ (parseMethodDescriptor y_Model_value.desc).map (fun d => d.parameters.length) = some 2 := by decide +kernel
theorem d_Model_value_0 : decode prog_9_method_8_code 0 = .ok (.aload_n 0, 1) := by decide +kernel
theorem d_Model_value_1 : decode prog_9_method_8_code 1 = .ok (.iload_n 1, 1) := by decide +kernel
theorem d_Model_value_2 : decode prog_9_method_8_code 2 = .ok (.invokestatic 101, 3) := by decide +kernel
theorem d_Model_value_5 : decode prog_9_method_8_code 5 = .ok (.ifCond .eq 19, 3) := by decide +kernel
theorem d_Model_value_8 : decode prog_9_method_8_code 8 = .ok (.iload_n 2, 1) := by decide +kernel
theorem d_Model_value_9 : decode prog_9_method_8_code 9 = .ok (.invokestatic 105, 3) := by decide +kernel
theorem d_Model_value_12 : decode prog_9_method_8_code 12 = .ok (.ifCond .eq 12, 3) := by decide +kernel
theorem d_Model_value_15 : decode prog_9_method_8_code 15 = .ok (.aload_n 0, 1) := by decide +kernel
theorem d_Model_value_16 : decode prog_9_method_8_code 16 = .ok (.iload_n 1, 1) := by decide +kernel
theorem d_Model_value_17 : decode prog_9_method_8_code 17 = .ok (.iload_n 2, 1) := by decide +kernel
theorem d_Model_value_18 : decode prog_9_method_8_code 18 = .ok (.invokevirtual 112, 3) := by decide +kernel
theorem d_Model_value_21 : decode prog_9_method_8_code 21 = .ok (.ifCond .ge 7, 3) := by decide +kernel
theorem d_Model_value_24 : decode prog_9_method_8_code 24 = .ok (.iconst 1, 1) := by decide +kernel
theorem d_Model_value_25 : decode prog_9_method_8_code 25 = .ok (.goto 4, 3) := by decide +kernel
theorem d_Model_value_28 : decode prog_9_method_8_code 28 = .ok (.iconst 0, 1) := by decide +kernel
theorem d_Model_value_29 : decode prog_9_method_8_code 29 = .ok (.putfield 86, 3) := by decide +kernel
theorem d_Model_value_32 : decode prog_9_method_8_code 32 = .ok (.aload_n 0, 1) := by decide +kernel
theorem d_Model_value_33 : decode prog_9_method_8_code 33 = .ok (.getfield 86, 3) := by decide +kernel
theorem d_Model_value_36 : decode prog_9_method_8_code 36 = .ok (.ifCond .le 7, 3) := by decide +kernel
theorem d_Model_value_39 : decode prog_9_method_8_code 39 = .ok (.iconst 0, 1) := by decide +kernel
theorem d_Model_value_40 : decode prog_9_method_8_code 40 = .ok (.goto 14, 3) := by decide +kernel
theorem d_Model_value_43 : decode prog_9_method_8_code 43 = .ok (.aload_n 0, 1) := by decide +kernel
theorem d_Model_value_44 : decode prog_9_method_8_code 44 = .ok (.getfield 16, 3) := by decide +kernel
theorem d_Model_value_47 : decode prog_9_method_8_code 47 = .ok (.aload_n 0, 1) := by decide +kernel
theorem d_Model_value_48 : decode prog_9_method_8_code 48 = .ok (.iload_n 1, 1) := by decide +kernel
theorem d_Model_value_49 : decode prog_9_method_8_code 49 = .ok (.iload_n 2, 1) := by decide +kernel
theorem d_Model_value_50 : decode prog_9_method_8_code 50 = .ok (.invokevirtual 112, 3) := by decide +kernel
theorem d_Model_value_53 : decode prog_9_method_8_code 53 = .ok (.iaload, 1) := by decide +kernel
theorem d_Model_value_54 : decode prog_9_method_8_code 54 = .ok (.ireturn, 1) := by decide +kernel
theorem kM_Model_112 : Cond.methodLink "FaultRulesModel" (112 : Nat) ({ cls := "FaultRulesModel", name := "latest", desc := "(II)I" } : Jvm.MethodName) ∈ xT := x_t4 rfl (i := 102) rfl
theorem kI_Model_latest : Cond.instanceMethod ({ cls := "FaultRulesModel", name := "latest", desc := "(II)I" } : Jvm.MethodName) ∈ xT := x_t4 rfl (i := 104) rfl
theorem kS_392 : Cond.selects "FaultRulesModel" ({ cls := "FaultRulesModel", name := "latest", desc := "(II)I" } : Jvm.MethodName) ({ cls := "FaultRulesModel", name := "latest", desc := "(II)I" } : Jvm.MethodName) ∈ xT := x_tp rfl (i := 30) rfl
abbrev y_Model_say : MethodName := { cls := "FaultRulesModel", name := "say", desc := "(J)I" }
theorem kC_Model_say : Cond.code ({ cls := "FaultRulesModel", name := "say", desc := "(J)I" } : Jvm.MethodName) prog_9_method_9_code (6 : Nat) (Option.some Jvm.ClassFile.FieldType.int) ∈ xT := x_t4 rfl (i := 109) rfl
theorem hd_Model_say : y_Model_say.cls ≠ "java/lang/invoke/MethodHandle" ∧ y_Model_say.cls ≠ "java/lang/invoke/VarHandle" ∧ (parseMethodDescriptor y_Model_say.desc).map (fun d => d.parameters.length) = some 1 := by decide +kernel
theorem d_Model_say_0 : decode prog_9_method_9_code 0 = .ok (.iconst 0, 1) := by decide +kernel
theorem d_Model_say_1 : decode prog_9_method_9_code 1 = .ok (.istore_n 3, 1) := by decide +kernel
theorem d_Model_say_2 : decode prog_9_method_9_code 2 = .ok (.aload_n 0, 1) := by decide +kernel
theorem d_Model_say_3 : decode prog_9_method_9_code 3 = .ok (.iconst 0, 1) := by decide +kernel
theorem d_Model_say_4 : decode prog_9_method_9_code 4 = .ok (.putfield 86, 3) := by decide +kernel
theorem d_Model_say_7 : decode prog_9_method_9_code 7 = .ok (.bipush 56, 2) := by decide +kernel
theorem d_Model_say_9 : decode prog_9_method_9_code 9 = .ok (.istore 4, 2) := by decide +kernel
theorem d_Model_say_11 : decode prog_9_method_9_code 11 = .ok (.iload 4, 2) := by decide +kernel
theorem d_Model_say_13 : decode prog_9_method_9_code 13 = .ok (.ifCond .lt 65, 3) := by decide +kernel
theorem d_Model_say_16 : decode prog_9_method_9_code 16 = .ok (.lload_n 1, 1) := by decide +kernel
theorem d_Model_say_17 : decode prog_9_method_9_code 17 = .ok (.iload 4, 2) := by decide +kernel
theorem d_Model_say_19 : decode prog_9_method_9_code 19 = .ok (.lshr, 1) := by decide +kernel
theorem d_Model_say_20 : decode prog_9_method_9_code 20 = .ok (.ldc2_w 116, 3) := by decide +kernel
theorem d_Model_say_23 : decode prog_9_method_9_code 23 = .ok (.land, 1) := by decide +kernel
theorem d_Model_say_24 : decode prog_9_method_9_code 24 = .ok (.l2i, 1) := by decide +kernel
theorem d_Model_say_25 : decode prog_9_method_9_code 25 = .ok (.istore 5, 2) := by decide +kernel
theorem d_Model_say_27 : decode prog_9_method_9_code 27 = .ok (.aload_n 0, 1) := by decide +kernel
theorem d_Model_say_28 : decode prog_9_method_9_code 28 = .ok (.iload 5, 2) := by decide +kernel
theorem d_Model_say_30 : decode prog_9_method_9_code 30 = .ok (.ifCond .eq 22, 3) := by decide +kernel
theorem d_Model_say_33 : decode prog_9_method_9_code 33 = .ok (.iload 5, 2) := by decide +kernel
theorem d_Model_say_35 : decode prog_9_method_9_code 35 = .ok (.i2l, 1) := by decide +kernel
theorem d_Model_say_36 : decode prog_9_method_9_code 36 = .ok (.ldc2_w 118, 3) := by decide +kernel
theorem d_Model_say_39 : decode prog_9_method_9_code 39 = .ok (.ldc2_w 120, 3) := by decide +kernel
theorem d_Model_say_42 : decode prog_9_method_9_code 42 = .ok (.invokestatic 92, 3) := by decide +kernel
theorem d_Model_say_45 : decode prog_9_method_9_code 45 = .ok (.ifCond .ne 7, 3) := by decide +kernel
theorem d_Model_say_48 : decode prog_9_method_9_code 48 = .ok (.iconst 1, 1) := by decide +kernel
theorem d_Model_say_49 : decode prog_9_method_9_code 49 = .ok (.goto 7, 3) := by decide +kernel
theorem d_Model_say_52 : decode prog_9_method_9_code 52 = .ok (.aload_n 0, 1) := by decide +kernel
theorem d_Model_say_53 : decode prog_9_method_9_code 53 = .ok (.getfield 86, 3) := by decide +kernel
theorem d_Model_say_56 : decode prog_9_method_9_code 56 = .ok (.putfield 86, 3) := by decide +kernel
theorem d_Model_say_59 : decode prog_9_method_9_code 59 = .ok (.iload_n 3, 1) := by decide +kernel
theorem d_Model_say_60 : decode prog_9_method_9_code 60 = .ok (.iload 5, 2) := by decide +kernel
theorem d_Model_say_62 : decode prog_9_method_9_code 62 = .ok (.ifCond .eq 7, 3) := by decide +kernel
theorem d_Model_say_65 : decode prog_9_method_9_code 65 = .ok (.iconst 1, 1) := by decide +kernel
theorem d_Model_say_66 : decode prog_9_method_9_code 66 = .ok (.goto 4, 3) := by decide +kernel
theorem d_Model_say_69 : decode prog_9_method_9_code 69 = .ok (.iconst 0, 1) := by decide +kernel
theorem d_Model_say_70 : decode prog_9_method_9_code 70 = .ok (.iadd, 1) := by decide +kernel
theorem d_Model_say_71 : decode prog_9_method_9_code 71 = .ok (.istore_n 3, 1) := by decide +kernel
theorem d_Model_say_72 : decode prog_9_method_9_code 72 = .ok (.iinc 4 (-8), 3) := by decide +kernel
theorem d_Model_say_75 : decode prog_9_method_9_code 75 = .ok (.goto (-64), 3) := by decide +kernel
theorem d_Model_say_78 : decode prog_9_method_9_code 78 = .ok (.aload_n 0, 1) := by decide +kernel
theorem d_Model_say_79 : decode prog_9_method_9_code 79 = .ok (.aload_n 0, 1) := by decide +kernel
theorem d_Model_say_80 : decode prog_9_method_9_code 80 = .ok (.getfield 86, 3) := by decide +kernel
theorem d_Model_say_83 : decode prog_9_method_9_code 83 = .ok (.ifCond .ne 19, 3) := by decide +kernel
theorem d_Model_say_86 : decode prog_9_method_9_code 86 = .ok (.aload_n 0, 1) := by decide +kernel
theorem d_Model_say_87 : decode prog_9_method_9_code 87 = .ok (.getfield 122, 3) := by decide +kernel
theorem d_Model_say_90 : decode prog_9_method_9_code 90 = .ok (.iload_n 3, 1) := by decide +kernel
theorem d_Model_say_91 : decode prog_9_method_9_code 91 = .ok (.iadd, 1) := by decide +kernel
theorem d_Model_say_92 : decode prog_9_method_9_code 92 = .ok (.sipush 1000, 3) := by decide +kernel
theorem d_Model_say_95 : decode prog_9_method_9_code 95 = .ok (.if_icmp .le 7, 3) := by decide +kernel
theorem d_Model_say_98 : decode prog_9_method_9_code 98 = .ok (.iconst 2, 1) := by decide +kernel
theorem d_Model_say_99 : decode prog_9_method_9_code 99 = .ok (.goto 7, 3) := by decide +kernel
theorem d_Model_say_102 : decode prog_9_method_9_code 102 = .ok (.aload_n 0, 1) := by decide +kernel
theorem d_Model_say_103 : decode prog_9_method_9_code 103 = .ok (.getfield 86, 3) := by decide +kernel
theorem d_Model_say_106 : decode prog_9_method_9_code 106 = .ok (.putfield 86, 3) := by decide +kernel
theorem d_Model_say_109 : decode prog_9_method_9_code 109 = .ok (.aload_n 0, 1) := by decide +kernel
theorem d_Model_say_110 : decode prog_9_method_9_code 110 = .ok (.getfield 86, 3) := by decide +kernel
theorem d_Model_say_113 : decode prog_9_method_9_code 113 = .ok (.ifCond .le 5, 3) := by decide +kernel
theorem d_Model_say_116 : decode prog_9_method_9_code 116 = .ok (.iconst 0, 1) := by decide +kernel
theorem d_Model_say_117 : decode prog_9_method_9_code 117 = .ok (.ireturn, 1) := by decide +kernel
theorem d_Model_say_118 : decode prog_9_method_9_code 118 = .ok (.bipush 56, 2) := by decide +kernel
theorem d_Model_say_120 : decode prog_9_method_9_code 120 = .ok (.istore 4, 2) := by decide +kernel
theorem d_Model_say_122 : decode prog_9_method_9_code 122 = .ok (.iload 4, 2) := by decide +kernel
theorem d_Model_say_124 : decode prog_9_method_9_code 124 = .ok (.ifCond .lt 46, 3) := by decide +kernel
theorem d_Model_say_127 : decode prog_9_method_9_code 127 = .ok (.lload_n 1, 1) := by decide +kernel
theorem d_Model_say_128 : decode prog_9_method_9_code 128 = .ok (.iload 4, 2) := by decide +kernel
theorem d_Model_say_130 : decode prog_9_method_9_code 130 = .ok (.lshr, 1) := by decide +kernel
theorem d_Model_say_131 : decode prog_9_method_9_code 131 = .ok (.ldc2_w 116, 3) := by decide +kernel
theorem d_Model_say_134 : decode prog_9_method_9_code 134 = .ok (.land, 1) := by decide +kernel
theorem d_Model_say_135 : decode prog_9_method_9_code 135 = .ok (.l2i, 1) := by decide +kernel
theorem d_Model_say_136 : decode prog_9_method_9_code 136 = .ok (.istore 5, 2) := by decide +kernel
theorem d_Model_say_138 : decode prog_9_method_9_code 138 = .ok (.iload 5, 2) := by decide +kernel
theorem d_Model_say_140 : decode prog_9_method_9_code 140 = .ok (.ifCond .eq 24, 3) := by decide +kernel
theorem d_Model_say_143 : decode prog_9_method_9_code 143 = .ok (.aload_n 0, 1) := by decide +kernel
theorem d_Model_say_144 : decode prog_9_method_9_code 144 = .ok (.getfield 19, 3) := by decide +kernel
theorem d_Model_say_147 : decode prog_9_method_9_code 147 = .ok (.aload_n 0, 1) := by decide +kernel
theorem d_Model_say_148 : decode prog_9_method_9_code 148 = .ok (.getfield 122, 3) := by decide +kernel
theorem d_Model_say_151 : decode prog_9_method_9_code 151 = .ok (.iload 5, 2) := by decide +kernel
theorem d_Model_say_153 : decode prog_9_method_9_code 153 = .ok (.iastore, 1) := by decide +kernel
theorem d_Model_say_154 : decode prog_9_method_9_code 154 = .ok (.aload_n 0, 1) := by decide +kernel
theorem d_Model_say_155 : decode prog_9_method_9_code 155 = .ok (.dup, 1) := by decide +kernel
theorem d_Model_say_156 : decode prog_9_method_9_code 156 = .ok (.getfield 122, 3) := by decide +kernel
theorem d_Model_say_159 : decode prog_9_method_9_code 159 = .ok (.iconst 1, 1) := by decide +kernel
theorem d_Model_say_160 : decode prog_9_method_9_code 160 = .ok (.iadd, 1) := by decide +kernel
theorem d_Model_say_161 : decode prog_9_method_9_code 161 = .ok (.putfield 122, 3) := by decide +kernel
theorem d_Model_say_164 : decode prog_9_method_9_code 164 = .ok (.iinc 4 (-8), 3) := by decide +kernel
theorem d_Model_say_167 : decode prog_9_method_9_code 167 = .ok (.goto (-45), 3) := by decide +kernel
theorem d_Model_say_170 : decode prog_9_method_9_code 170 = .ok (.aload_n 0, 1) := by decide +kernel
theorem d_Model_say_171 : decode prog_9_method_9_code 171 = .ok (.getfield 122, 3) := by decide +kernel
theorem d_Model_say_174 : decode prog_9_method_9_code 174 = .ok (.ireturn, 1) := by decide +kernel
theorem kK_Model_116 : Cond.constantLong "FaultRulesModel" (116 : Nat) (255 : Int64) ∈ xT := x_t4 rfl (i := 110) rfl
theorem kK_Model_118 : Cond.constantLong "FaultRulesModel" (118 : Nat) (32 : Int64) ∈ xT := x_t4 rfl (i := 111) rfl
theorem kK_Model_120 : Cond.constantLong "FaultRulesModel" (120 : Nat) (126 : Int64) ∈ xT := x_t4 rfl (i := 112) rfl
theorem kF_Model_122 : Cond.fieldLink "FaultRulesModel" (122 : Nat) "FaultRulesModel" "size" "I" ∈ xT := x_t3 rfl (i := 220) rfl
theorem kF_Model_19 : Cond.fieldLink "FaultRulesModel" (19 : Nat) "FaultRulesModel" "text" "[I" ∈ xT := x_t3 rfl (i := 219) rfl
abbrev y_Model_trim : MethodName := { cls := "FaultRulesModel", name := "trim", desc := "(I)I" }
theorem kC_Model_trim : Cond.code ({ cls := "FaultRulesModel", name := "trim", desc := "(I)I" } : Jvm.MethodName) prog_9_method_10_code (2 : Nat) (Option.some Jvm.ClassFile.FieldType.int) ∈ xT := x_t4 rfl (i := 116) rfl
theorem hd_Model_trim : y_Model_trim.cls ≠ "java/lang/invoke/MethodHandle" ∧ y_Model_trim.cls ≠ "java/lang/invoke/VarHandle" ∧ (parseMethodDescriptor y_Model_trim.desc).map (fun d => d.parameters.length) = some 1 := by decide +kernel
theorem d_Model_trim_0 : decode prog_9_method_10_code 0 = .ok (.aload_n 0, 1) := by decide +kernel
theorem d_Model_trim_1 : decode prog_9_method_10_code 1 = .ok (.iload_n 1, 1) := by decide +kernel
theorem d_Model_trim_2 : decode prog_9_method_10_code 2 = .ok (.ifCond .lt 11, 3) := by decide +kernel
theorem d_Model_trim_5 : decode prog_9_method_10_code 5 = .ok (.iload_n 1, 1) := by decide +kernel
theorem d_Model_trim_6 : decode prog_9_method_10_code 6 = .ok (.aload_n 0, 1) := by decide +kernel
theorem d_Model_trim_7 : decode prog_9_method_10_code 7 = .ok (.getfield 122, 3) := by decide +kernel
theorem d_Model_trim_10 : decode prog_9_method_10_code 10 = .ok (.if_icmp .le 7, 3) := by decide +kernel
theorem d_Model_trim_13 : decode prog_9_method_10_code 13 = .ok (.iconst 1, 1) := by decide +kernel
theorem d_Model_trim_14 : decode prog_9_method_10_code 14 = .ok (.goto 4, 3) := by decide +kernel
theorem d_Model_trim_17 : decode prog_9_method_10_code 17 = .ok (.iconst 0, 1) := by decide +kernel
theorem d_Model_trim_18 : decode prog_9_method_10_code 18 = .ok (.putfield 86, 3) := by decide +kernel
theorem d_Model_trim_21 : decode prog_9_method_10_code 21 = .ok (.aload_n 0, 1) := by decide +kernel
theorem d_Model_trim_22 : decode prog_9_method_10_code 22 = .ok (.getfield 86, 3) := by decide +kernel
theorem d_Model_trim_25 : decode prog_9_method_10_code 25 = .ok (.ifCond .le 5, 3) := by decide +kernel
theorem d_Model_trim_28 : decode prog_9_method_10_code 28 = .ok (.iconst 0, 1) := by decide +kernel
theorem d_Model_trim_29 : decode prog_9_method_10_code 29 = .ok (.ireturn, 1) := by decide +kernel
theorem d_Model_trim_30 : decode prog_9_method_10_code 30 = .ok (.aload_n 0, 1) := by decide +kernel
theorem d_Model_trim_31 : decode prog_9_method_10_code 31 = .ok (.dup, 1) := by decide +kernel
theorem d_Model_trim_32 : decode prog_9_method_10_code 32 = .ok (.getfield 122, 3) := by decide +kernel
theorem d_Model_trim_35 : decode prog_9_method_10_code 35 = .ok (.iload_n 1, 1) := by decide +kernel
theorem d_Model_trim_36 : decode prog_9_method_10_code 36 = .ok (.isub, 1) := by decide +kernel
theorem d_Model_trim_37 : decode prog_9_method_10_code 37 = .ok (.putfield 122, 3) := by decide +kernel
theorem d_Model_trim_40 : decode prog_9_method_10_code 40 = .ok (.aload_n 0, 1) := by decide +kernel
theorem d_Model_trim_41 : decode prog_9_method_10_code 41 = .ok (.getfield 122, 3) := by decide +kernel
theorem d_Model_trim_44 : decode prog_9_method_10_code 44 = .ok (.ireturn, 1) := by decide +kernel
abbrev y_Model_letter : MethodName := { cls := "FaultRulesModel", name := "letter", desc := "(I)I" }
theorem kC_Model_letter : Cond.code ({ cls := "FaultRulesModel", name := "letter", desc := "(I)I" } : Jvm.MethodName) prog_9_method_11_code (2 : Nat) (Option.some Jvm.ClassFile.FieldType.int) ∈ xT := x_t4 rfl (i := 128) rfl
theorem hd_Model_letter : y_Model_letter.cls ≠ "java/lang/invoke/MethodHandle" ∧ y_Model_letter.cls ≠ "java/lang/invoke/VarHandle" ∧ (parseMethodDescriptor y_Model_letter.desc).map (fun d => d.parameters.length) = some 1 := by decide +kernel
theorem d_Model_letter_0 : decode prog_9_method_11_code 0 = .ok (.iload_n 1, 1) := by decide +kernel
theorem d_Model_letter_1 : decode prog_9_method_11_code 1 = .ok (.aload_n 0, 1) := by decide +kernel
theorem d_Model_letter_2 : decode prog_9_method_11_code 2 = .ok (.getfield 122, 3) := by decide +kernel
theorem d_Model_letter_5 : decode prog_9_method_11_code 5 = .ok (.if_icmp .ge 12, 3) := by decide +kernel
theorem d_Model_letter_8 : decode prog_9_method_11_code 8 = .ok (.aload_n 0, 1) := by decide +kernel
theorem d_Model_letter_9 : decode prog_9_method_11_code 9 = .ok (.getfield 19, 3) := by decide +kernel
theorem d_Model_letter_12 : decode prog_9_method_11_code 12 = .ok (.iload_n 1, 1) := by decide +kernel
theorem d_Model_letter_13 : decode prog_9_method_11_code 13 = .ok (.iaload, 1) := by decide +kernel
theorem d_Model_letter_14 : decode prog_9_method_11_code 14 = .ok (.goto 4, 3) := by decide +kernel
theorem d_Model_letter_17 : decode prog_9_method_11_code 17 = .ok (.iconst 0, 1) := by decide +kernel
theorem d_Model_letter_18 : decode prog_9_method_11_code 18 = .ok (.ireturn, 1) := by decide +kernel
abbrev y_Model_isSmall : MethodName := { cls := "FaultRulesModel", name := "isSmall", desc := "(I)Z" }
theorem kC_Model_isSmall : Cond.code ({ cls := "FaultRulesModel", name := "isSmall", desc := "(I)Z" } : Jvm.MethodName) prog_9_method_12_code (1 : Nat) (Option.some Jvm.ClassFile.FieldType.boolean) ∈ xT := x_t4 rfl (i := 131) rfl
theorem hd_Model_isSmall : y_Model_isSmall.cls ≠ "java/lang/invoke/MethodHandle" ∧ y_Model_isSmall.cls ≠ "java/lang/invoke/VarHandle" ∧ (parseMethodDescriptor y_Model_isSmall.desc).map (fun d => d.parameters.length) = some 1 := by decide +kernel
theorem d_Model_isSmall_0 : decode prog_9_method_12_code 0 = .ok (.iload_n 0, 1) := by decide +kernel
theorem d_Model_isSmall_1 : decode prog_9_method_12_code 1 = .ok (.bipush 97, 2) := by decide +kernel
theorem d_Model_isSmall_3 : decode prog_9_method_12_code 3 = .ok (.if_icmp .lt 13, 3) := by decide +kernel
theorem d_Model_isSmall_6 : decode prog_9_method_12_code 6 = .ok (.iload_n 0, 1) := by decide +kernel
theorem d_Model_isSmall_7 : decode prog_9_method_12_code 7 = .ok (.bipush 122, 2) := by decide +kernel
theorem d_Model_isSmall_9 : decode prog_9_method_12_code 9 = .ok (.if_icmp .gt 7, 3) := by decide +kernel
theorem d_Model_isSmall_12 : decode prog_9_method_12_code 12 = .ok (.iconst 1, 1) := by decide +kernel
theorem d_Model_isSmall_13 : decode prog_9_method_12_code 13 = .ok (.goto 4, 3) := by decide +kernel
theorem d_Model_isSmall_16 : decode prog_9_method_12_code 16 = .ok (.iconst 0, 1) := by decide +kernel
theorem d_Model_isSmall_17 : decode prog_9_method_12_code 17 = .ok (.ireturn, 1) := by decide +kernel
abbrev y_Model_isDigit : MethodName := { cls := "FaultRulesModel", name := "isDigit", desc := "(I)Z" }
theorem kC_Model_isDigit : Cond.code ({ cls := "FaultRulesModel", name := "isDigit", desc := "(I)Z" } : Jvm.MethodName) prog_9_method_13_code (1 : Nat) (Option.some Jvm.ClassFile.FieldType.boolean) ∈ xT := x_t4 rfl (i := 138) rfl
theorem hd_Model_isDigit : y_Model_isDigit.cls ≠ "java/lang/invoke/MethodHandle" ∧ y_Model_isDigit.cls ≠ "java/lang/invoke/VarHandle" ∧ (parseMethodDescriptor y_Model_isDigit.desc).map (fun d => d.parameters.length) = some 1 := by decide +kernel
theorem d_Model_isDigit_0 : decode prog_9_method_13_code 0 = .ok (.iload_n 0, 1) := by decide +kernel
theorem d_Model_isDigit_1 : decode prog_9_method_13_code 1 = .ok (.bipush 48, 2) := by decide +kernel
theorem d_Model_isDigit_3 : decode prog_9_method_13_code 3 = .ok (.if_icmp .lt 13, 3) := by decide +kernel
theorem d_Model_isDigit_6 : decode prog_9_method_13_code 6 = .ok (.iload_n 0, 1) := by decide +kernel
theorem d_Model_isDigit_7 : decode prog_9_method_13_code 7 = .ok (.bipush 57, 2) := by decide +kernel
theorem d_Model_isDigit_9 : decode prog_9_method_13_code 9 = .ok (.if_icmp .gt 7, 3) := by decide +kernel
theorem d_Model_isDigit_12 : decode prog_9_method_13_code 12 = .ok (.iconst 1, 1) := by decide +kernel
theorem d_Model_isDigit_13 : decode prog_9_method_13_code 13 = .ok (.goto 4, 3) := by decide +kernel
theorem d_Model_isDigit_16 : decode prog_9_method_13_code 16 = .ok (.iconst 0, 1) := by decide +kernel
theorem d_Model_isDigit_17 : decode prog_9_method_13_code 17 = .ok (.ireturn, 1) := by decide +kernel
abbrev y_Model_word : MethodName := { cls := "FaultRulesModel", name := "word", desc := "(IJ)V" }
theorem kC_Model_word : Cond.code ({ cls := "FaultRulesModel", name := "word", desc := "(IJ)V" } : Jvm.MethodName) prog_9_method_14_code (4 : Nat) (Option.none : Option Jvm.ClassFile.FieldType) ∈ xT := x_t4 rfl (i := 145) rfl
theorem hd_Model_word : y_Model_word.cls ≠ "java/lang/invoke/MethodHandle" ∧ y_Model_word.cls ≠ "java/lang/invoke/VarHandle" ∧ (parseMethodDescriptor y_Model_word.desc).map (fun d => d.parameters.length) = some 2 := by decide +kernel
theorem d_Model_word_0 : decode prog_9_method_14_code 0 = .ok (.aload_n 0, 1) := by decide +kernel
theorem d_Model_word_1 : decode prog_9_method_14_code 1 = .ok (.getfield 22, 3) := by decide +kernel
theorem d_Model_word_4 : decode prog_9_method_14_code 4 = .ok (.aload_n 0, 1) := by decide +kernel
theorem d_Model_word_5 : decode prog_9_method_14_code 5 = .ok (.getfield 125, 3) := by decide +kernel
theorem d_Model_word_8 : decode prog_9_method_14_code 8 = .ok (.iload_n 1, 1) := by decide +kernel
theorem d_Model_word_9 : decode prog_9_method_14_code 9 = .ok (.iastore, 1) := by decide +kernel
theorem d_Model_word_10 : decode prog_9_method_14_code 10 = .ok (.aload_n 0, 1) := by decide +kernel
theorem d_Model_word_11 : decode prog_9_method_14_code 11 = .ok (.getfield 25, 3) := by decide +kernel
theorem d_Model_word_14 : decode prog_9_method_14_code 14 = .ok (.aload_n 0, 1) := by decide +kernel
theorem d_Model_word_15 : decode prog_9_method_14_code 15 = .ok (.getfield 125, 3) := by decide +kernel
theorem d_Model_word_18 : decode prog_9_method_14_code 18 = .ok (.lload_n 2, 1) := by decide +kernel
theorem d_Model_word_19 : decode prog_9_method_14_code 19 = .ok (.lastore, 1) := by decide +kernel
theorem d_Model_word_20 : decode prog_9_method_14_code 20 = .ok (.aload_n 0, 1) := by decide +kernel
theorem d_Model_word_21 : decode prog_9_method_14_code 21 = .ok (.dup, 1) := by decide +kernel
theorem d_Model_word_22 : decode prog_9_method_14_code 22 = .ok (.getfield 125, 3) := by decide +kernel
theorem d_Model_word_25 : decode prog_9_method_14_code 25 = .ok (.iconst 1, 1) := by decide +kernel
theorem d_Model_word_26 : decode prog_9_method_14_code 26 = .ok (.iadd, 1) := by decide +kernel
theorem d_Model_word_27 : decode prog_9_method_14_code 27 = .ok (.putfield 125, 3) := by decide +kernel
theorem d_Model_word_30 : decode prog_9_method_14_code 30 = .ok (.return_, 1) := by decide +kernel
theorem kF_Model_22 : Cond.fieldLink "FaultRulesModel" (22 : Nat) "FaultRulesModel" "kinds" "[I" ∈ xT := x_t3 rfl (i := 221) rfl
theorem kF_Model_125 : Cond.fieldLink "FaultRulesModel" (125 : Nat) "FaultRulesModel" "words" "I" ∈ xT := x_t3 rfl (i := 223) rfl
theorem kF_Model_25 : Cond.fieldLink "FaultRulesModel" (25 : Nat) "FaultRulesModel" "values" "[J" ∈ xT := x_t3 rfl (i := 222) rfl
abbrev y_Model_letters : MethodName := { cls := "FaultRulesModel", name := "letters", desc := "(I)I" }
theorem kC_Model_letters : Cond.code ({ cls := "FaultRulesModel", name := "letters", desc := "(I)I" } : Jvm.MethodName) prog_9_method_15_code (5 : Nat) (Option.some Jvm.ClassFile.FieldType.int) ∈ xT := x_t4 rfl (i := 150) rfl
theorem hd_Model_letters : y_Model_letters.cls ≠ "java/lang/invoke/MethodHandle" ∧ y_Model_letters.cls ≠ "java/lang/invoke/VarHandle" ∧ (parseMethodDescriptor y_Model_letters.desc).map (fun d => d.parameters.length) = some 1 := by decide +kernel
theorem d_Model_letters_0 : decode prog_9_method_15_code 0 = .ok (.iload_n 1, 1) := by decide +kernel
theorem d_Model_letters_1 : decode prog_9_method_15_code 1 = .ok (.istore_n 2, 1) := by decide +kernel
theorem d_Model_letters_2 : decode prog_9_method_15_code 2 = .ok (.lconst 0, 1) := by decide +kernel
theorem d_Model_letters_3 : decode prog_9_method_15_code 3 = .ok (.lstore_n 3, 1) := by decide +kernel
theorem d_Model_letters_4 : decode prog_9_method_15_code 4 = .ok (.aload_n 0, 1) := by decide +kernel
theorem d_Model_letters_5 : decode prog_9_method_15_code 5 = .ok (.iload_n 2, 1) := by decide +kernel
theorem d_Model_letters_6 : decode prog_9_method_15_code 6 = .ok (.invokevirtual 128, 3) := by decide +kernel
theorem d_Model_letters_9 : decode prog_9_method_15_code 9 = .ok (.invokestatic 132, 3) := by decide +kernel
theorem d_Model_letters_12 : decode prog_9_method_15_code 12 = .ok (.ifCond .eq 40, 3) := by decide +kernel
theorem d_Model_letters_15 : decode prog_9_method_15_code 15 = .ok (.iload_n 2, 1) := by decide +kernel
theorem d_Model_letters_16 : decode prog_9_method_15_code 16 = .ok (.iload_n 1, 1) := by decide +kernel
theorem d_Model_letters_17 : decode prog_9_method_15_code 17 = .ok (.isub, 1) := by decide +kernel
theorem d_Model_letters_18 : decode prog_9_method_15_code 18 = .ok (.bipush 8, 2) := by decide +kernel
theorem d_Model_letters_20 : decode prog_9_method_15_code 20 = .ok (.if_icmp .ge 24, 3) := by decide +kernel
theorem d_Model_letters_23 : decode prog_9_method_15_code 23 = .ok (.lload_n 3, 1) := by decide +kernel
theorem d_Model_letters_24 : decode prog_9_method_15_code 24 = .ok (.aload_n 0, 1) := by decide +kernel
theorem d_Model_letters_25 : decode prog_9_method_15_code 25 = .ok (.iload_n 2, 1) := by decide +kernel
theorem d_Model_letters_26 : decode prog_9_method_15_code 26 = .ok (.invokevirtual 128, 3) := by decide +kernel
theorem d_Model_letters_29 : decode prog_9_method_15_code 29 = .ok (.i2l, 1) := by decide +kernel
theorem d_Model_letters_30 : decode prog_9_method_15_code 30 = .ok (.bipush 56, 2) := by decide +kernel
theorem d_Model_letters_32 : decode prog_9_method_15_code 32 = .ok (.bipush 8, 2) := by decide +kernel
theorem d_Model_letters_34 : decode prog_9_method_15_code 34 = .ok (.iload_n 2, 1) := by decide +kernel
theorem d_Model_letters_35 : decode prog_9_method_15_code 35 = .ok (.iload_n 1, 1) := by decide +kernel
theorem d_Model_letters_36 : decode prog_9_method_15_code 36 = .ok (.isub, 1) := by decide +kernel
theorem d_Model_letters_37 : decode prog_9_method_15_code 37 = .ok (.imul, 1) := by decide +kernel
theorem d_Model_letters_38 : decode prog_9_method_15_code 38 = .ok (.isub, 1) := by decide +kernel
theorem d_Model_letters_39 : decode prog_9_method_15_code 39 = .ok (.lshl, 1) := by decide +kernel
theorem d_Model_letters_40 : decode prog_9_method_15_code 40 = .ok (.lor, 1) := by decide +kernel
theorem d_Model_letters_41 : decode prog_9_method_15_code 41 = .ok (.goto 4, 3) := by decide +kernel
theorem d_Model_letters_44 : decode prog_9_method_15_code 44 = .ok (.lload_n 3, 1) := by decide +kernel
theorem d_Model_letters_45 : decode prog_9_method_15_code 45 = .ok (.lstore_n 3, 1) := by decide +kernel
theorem d_Model_letters_46 : decode prog_9_method_15_code 46 = .ok (.iinc 2 1, 3) := by decide +kernel
theorem d_Model_letters_49 : decode prog_9_method_15_code 49 = .ok (.goto (-45), 3) := by decide +kernel
theorem d_Model_letters_52 : decode prog_9_method_15_code 52 = .ok (.aload_n 0, 1) := by decide +kernel
theorem d_Model_letters_53 : decode prog_9_method_15_code 53 = .ok (.iload_n 2, 1) := by decide +kernel
theorem d_Model_letters_54 : decode prog_9_method_15_code 54 = .ok (.iload_n 1, 1) := by decide +kernel
theorem d_Model_letters_55 : decode prog_9_method_15_code 55 = .ok (.isub, 1) := by decide +kernel
theorem d_Model_letters_56 : decode prog_9_method_15_code 56 = .ok (.bipush 8, 2) := by decide +kernel
theorem d_Model_letters_58 : decode prog_9_method_15_code 58 = .ok (.if_icmp .le 8, 3) := by decide +kernel
theorem d_Model_letters_61 : decode prog_9_method_15_code 61 = .ok (.bipush 9, 2) := by decide +kernel
theorem d_Model_letters_63 : decode prog_9_method_15_code 63 = .ok (.goto 4, 3) := by decide +kernel
theorem d_Model_letters_66 : decode prog_9_method_15_code 66 = .ok (.iconst 0, 1) := by decide +kernel
theorem d_Model_letters_67 : decode prog_9_method_15_code 67 = .ok (.lload_n 3, 1) := by decide +kernel
theorem d_Model_letters_68 : decode prog_9_method_15_code 68 = .ok (.invokevirtual 135, 3) := by decide +kernel
theorem d_Model_letters_71 : decode prog_9_method_15_code 71 = .ok (.iload_n 2, 1) := by decide +kernel
theorem d_Model_letters_72 : decode prog_9_method_15_code 72 = .ok (.ireturn, 1) := by decide +kernel
theorem kM_Model_128 : Cond.methodLink "FaultRulesModel" (128 : Nat) ({ cls := "FaultRulesModel", name := "letter", desc := "(I)I" } : Jvm.MethodName) ∈ xT := x_t4 rfl (i := 125) rfl
theorem kI_Model_letter : Cond.instanceMethod ({ cls := "FaultRulesModel", name := "letter", desc := "(I)I" } : Jvm.MethodName) ∈ xT := x_t4 rfl (i := 127) rfl
theorem kS_410 : Cond.selects "FaultRulesModel" ({ cls := "FaultRulesModel", name := "letter", desc := "(I)I" } : Jvm.MethodName) ({ cls := "FaultRulesModel", name := "letter", desc := "(I)I" } : Jvm.MethodName) ∈ xT := x_tp rfl (i := 32) rfl
theorem kM_Model_132 : Cond.methodLink "FaultRulesModel" (132 : Nat) ({ cls := "FaultRulesModel", name := "isSmall", desc := "(I)Z" } : Jvm.MethodName) ∈ xT := x_t4 rfl (i := 129) rfl
theorem kT_Model_isSmall : Cond.static ({ cls := "FaultRulesModel", name := "isSmall", desc := "(I)Z" } : Jvm.MethodName) ∈ xT := x_t4 rfl (i := 130) rfl
theorem kM_Model_135 : Cond.methodLink "FaultRulesModel" (135 : Nat) ({ cls := "FaultRulesModel", name := "word", desc := "(IJ)V" } : Jvm.MethodName) ∈ xT := x_t4 rfl (i := 142) rfl
theorem kI_Model_word : Cond.instanceMethod ({ cls := "FaultRulesModel", name := "word", desc := "(IJ)V" } : Jvm.MethodName) ∈ xT := x_t4 rfl (i := 144) rfl
theorem kS_415 : Cond.selects "FaultRulesModel" ({ cls := "FaultRulesModel", name := "word", desc := "(IJ)V" } : Jvm.MethodName) ({ cls := "FaultRulesModel", name := "word", desc := "(IJ)V" } : Jvm.MethodName) ∈ xT := x_tp rfl (i := 34) rfl
abbrev y_Model_digits : MethodName := { cls := "FaultRulesModel", name := "digits", desc := "(IZ)I" }
theorem kC_Model_digits : Cond.code ({ cls := "FaultRulesModel", name := "digits", desc := "(IZ)I" } : Jvm.MethodName) prog_9_method_16_code (7 : Nat) (Option.some Jvm.ClassFile.FieldType.int) ∈ xT := x_t4 rfl (i := 135) rfl
theorem hd_Model_digits : y_Model_digits.cls ≠ "java/lang/invoke/MethodHandle" ∧ y_Model_digits.cls ≠ "java/lang/invoke/VarHandle" ∧ (parseMethodDescriptor y_Model_digits.desc).map (fun d => d.parameters.length) = some 2 := by decide +kernel
theorem d_Model_digits_0 : decode prog_9_method_16_code 0 = .ok (.iload_n 1, 1) := by decide +kernel
theorem d_Model_digits_1 : decode prog_9_method_16_code 1 = .ok (.istore_n 3, 1) := by decide +kernel
theorem d_Model_digits_2 : decode prog_9_method_16_code 2 = .ok (.lconst 0, 1) := by decide +kernel
theorem d_Model_digits_3 : decode prog_9_method_16_code 3 = .ok (.lstore 4, 2) := by decide +kernel
theorem d_Model_digits_5 : decode prog_9_method_16_code 5 = .ok (.aload_n 0, 1) := by decide +kernel
theorem d_Model_digits_6 : decode prog_9_method_16_code 6 = .ok (.iload_n 3, 1) := by decide +kernel
theorem d_Model_digits_7 : decode prog_9_method_16_code 7 = .ok (.invokevirtual 128, 3) := by decide +kernel
theorem d_Model_digits_10 : decode prog_9_method_16_code 10 = .ok (.invokestatic 139, 3) := by decide +kernel
theorem d_Model_digits_13 : decode prog_9_method_16_code 13 = .ok (.ifCond .eq 41, 3) := by decide +kernel
theorem d_Model_digits_16 : decode prog_9_method_16_code 16 = .ok (.iload_n 3, 1) := by decide +kernel
theorem d_Model_digits_17 : decode prog_9_method_16_code 17 = .ok (.iload_n 1, 1) := by decide +kernel
theorem d_Model_digits_18 : decode prog_9_method_16_code 18 = .ok (.isub, 1) := by decide +kernel
theorem d_Model_digits_19 : decode prog_9_method_16_code 19 = .ok (.bipush 7, 2) := by decide +kernel
theorem d_Model_digits_21 : decode prog_9_method_16_code 21 = .ok (.if_icmp .ge 23, 3) := by decide +kernel
theorem d_Model_digits_24 : decode prog_9_method_16_code 24 = .ok (.ldc2_w 142, 3) := by decide +kernel
theorem d_Model_digits_27 : decode prog_9_method_16_code 27 = .ok (.lload 4, 2) := by decide +kernel
theorem d_Model_digits_29 : decode prog_9_method_16_code 29 = .ok (.lmul, 1) := by decide +kernel
theorem d_Model_digits_30 : decode prog_9_method_16_code 30 = .ok (.aload_n 0, 1) := by decide +kernel
theorem d_Model_digits_31 : decode prog_9_method_16_code 31 = .ok (.iload_n 3, 1) := by decide +kernel
theorem d_Model_digits_32 : decode prog_9_method_16_code 32 = .ok (.invokevirtual 128, 3) := by decide +kernel
theorem d_Model_digits_35 : decode prog_9_method_16_code 35 = .ok (.i2l, 1) := by decide +kernel
theorem d_Model_digits_36 : decode prog_9_method_16_code 36 = .ok (.ladd, 1) := by decide +kernel
theorem d_Model_digits_37 : decode prog_9_method_16_code 37 = .ok (.ldc2_w 144, 3) := by decide +kernel
theorem d_Model_digits_40 : decode prog_9_method_16_code 40 = .ok (.lsub, 1) := by decide +kernel
theorem d_Model_digits_41 : decode prog_9_method_16_code 41 = .ok (.goto 5, 3) := by decide +kernel
theorem d_Model_digits_44 : decode prog_9_method_16_code 44 = .ok (.lload 4, 2) := by decide +kernel
theorem d_Model_digits_46 : decode prog_9_method_16_code 46 = .ok (.lstore 4, 2) := by decide +kernel
theorem d_Model_digits_48 : decode prog_9_method_16_code 48 = .ok (.iinc 3 1, 3) := by decide +kernel
theorem d_Model_digits_51 : decode prog_9_method_16_code 51 = .ok (.goto (-46), 3) := by decide +kernel
theorem d_Model_digits_54 : decode prog_9_method_16_code 54 = .ok (.iload_n 3, 1) := by decide +kernel
theorem d_Model_digits_55 : decode prog_9_method_16_code 55 = .ok (.iload_n 1, 1) := by decide +kernel
theorem d_Model_digits_56 : decode prog_9_method_16_code 56 = .ok (.isub, 1) := by decide +kernel
theorem d_Model_digits_57 : decode prog_9_method_16_code 57 = .ok (.istore 6, 2) := by decide +kernel
theorem d_Model_digits_59 : decode prog_9_method_16_code 59 = .ok (.iload_n 2, 1) := by decide +kernel
theorem d_Model_digits_60 : decode prog_9_method_16_code 60 = .ok (.ifCond .eq 31, 3) := by decide +kernel
theorem d_Model_digits_63 : decode prog_9_method_16_code 63 = .ok (.aload_n 0, 1) := by decide +kernel
theorem d_Model_digits_64 : decode prog_9_method_16_code 64 = .ok (.iconst 2, 1) := by decide +kernel
theorem d_Model_digits_65 : decode prog_9_method_16_code 65 = .ok (.iload 6, 2) := by decide +kernel
theorem d_Model_digits_67 : decode prog_9_method_16_code 67 = .ok (.iconst 1, 1) := by decide +kernel
theorem d_Model_digits_68 : decode prog_9_method_16_code 68 = .ok (.if_icmp .lt 9, 3) := by decide +kernel
theorem d_Model_digits_71 : decode prog_9_method_16_code 71 = .ok (.iload 6, 2) := by decide +kernel
theorem d_Model_digits_73 : decode prog_9_method_16_code 73 = .ok (.iconst 2, 1) := by decide +kernel
theorem d_Model_digits_74 : decode prog_9_method_16_code 74 = .ok (.if_icmp .le 9, 3) := by decide +kernel
theorem d_Model_digits_77 : decode prog_9_method_16_code 77 = .ok (.ldc2_w 146, 3) := by decide +kernel
theorem d_Model_digits_80 : decode prog_9_method_16_code 80 = .ok (.goto 5, 3) := by decide +kernel
theorem d_Model_digits_83 : decode prog_9_method_16_code 83 = .ok (.lload 4, 2) := by decide +kernel
theorem d_Model_digits_85 : decode prog_9_method_16_code 85 = .ok (.invokevirtual 135, 3) := by decide +kernel
theorem d_Model_digits_88 : decode prog_9_method_16_code 88 = .ok (.goto 23, 3) := by decide +kernel
theorem d_Model_digits_91 : decode prog_9_method_16_code 91 = .ok (.aload_n 0, 1) := by decide +kernel
theorem d_Model_digits_92 : decode prog_9_method_16_code 92 = .ok (.iconst 1, 1) := by decide +kernel
theorem d_Model_digits_93 : decode prog_9_method_16_code 93 = .ok (.iload 6, 2) := by decide +kernel
theorem d_Model_digits_95 : decode prog_9_method_16_code 95 = .ok (.bipush 7, 2) := by decide +kernel
theorem d_Model_digits_97 : decode prog_9_method_16_code 97 = .ok (.if_icmp .le 9, 3) := by decide +kernel
theorem d_Model_digits_100 : decode prog_9_method_16_code 100 = .ok (.ldc2_w 148, 3) := by decide +kernel
theorem d_Model_digits_103 : decode prog_9_method_16_code 103 = .ok (.goto 5, 3) := by decide +kernel
theorem d_Model_digits_106 : decode prog_9_method_16_code 106 = .ok (.lload 4, 2) := by decide +kernel
theorem d_Model_digits_108 : decode prog_9_method_16_code 108 = .ok (.invokevirtual 135, 3) := by decide +kernel
