theorem hd_Model_common : y_Model_common.cls ≠ "java/lang/invoke/MethodHandle" ∧ y_Model_common.cls ≠ "java/lang/invoke/VarHandle" ∧ (parseMethodDescriptor y_Model_common.desc).map (fun d => d.parameters.length) = some 2 := by decide +kernel
theorem d_Model_common_0 : decode prog_9_method_47_code 0 = .ok (.lload_n 0, 1) := by decide +kernel
theorem d_Model_common_1 : decode prog_9_method_47_code 1 = .ok (.lconst 0, 1) := by decide +kernel
theorem d_Model_common_2 : decode prog_9_method_47_code 2 = .ok (.lcmp, 1) := by decide +kernel
theorem d_Model_common_3 : decode prog_9_method_47_code 3 = .ok (.ifCond .ge 8, 3) := by decide +kernel
theorem d_Model_common_6 : decode prog_9_method_47_code 6 = .ok (.lload_n 0, 1) := by decide +kernel
theorem d_Model_common_7 : decode prog_9_method_47_code 7 = .ok (.lneg, 1) := by decide +kernel
theorem d_Model_common_8 : decode prog_9_method_47_code 8 = .ok (.goto 4, 3) := by decide +kernel
theorem d_Model_common_11 : decode prog_9_method_47_code 11 = .ok (.lload_n 0, 1) := by decide +kernel
theorem d_Model_common_12 : decode prog_9_method_47_code 12 = .ok (.lstore 4, 2) := by decide +kernel
theorem d_Model_common_14 : decode prog_9_method_47_code 14 = .ok (.lload_n 2, 1) := by decide +kernel
theorem d_Model_common_15 : decode prog_9_method_47_code 15 = .ok (.lstore 6, 2) := by decide +kernel
theorem d_Model_common_17 : decode prog_9_method_47_code 17 = .ok (.lload 6, 2) := by decide +kernel
theorem d_Model_common_19 : decode prog_9_method_47_code 19 = .ok (.lconst 0, 1) := by decide +kernel
theorem d_Model_common_20 : decode prog_9_method_47_code 20 = .ok (.lcmp, 1) := by decide +kernel
theorem d_Model_common_21 : decode prog_9_method_47_code 21 = .ok (.ifCond .le 21, 3) := by decide +kernel
theorem d_Model_common_24 : decode prog_9_method_47_code 24 = .ok (.lload 4, 2) := by decide +kernel
theorem d_Model_common_26 : decode prog_9_method_47_code 26 = .ok (.lload 6, 2) := by decide +kernel
theorem d_Model_common_28 : decode prog_9_method_47_code 28 = .ok (.lrem, 1) := by decide +kernel
theorem d_Model_common_29 : decode prog_9_method_47_code 29 = .ok (.lstore 8, 2) := by decide +kernel
theorem d_Model_common_31 : decode prog_9_method_47_code 31 = .ok (.lload 6, 2) := by decide +kernel
theorem d_Model_common_33 : decode prog_9_method_47_code 33 = .ok (.lstore 4, 2) := by decide +kernel
theorem d_Model_common_35 : decode prog_9_method_47_code 35 = .ok (.lload 8, 2) := by decide +kernel
theorem d_Model_common_37 : decode prog_9_method_47_code 37 = .ok (.lstore 6, 2) := by decide +kernel
theorem d_Model_common_39 : decode prog_9_method_47_code 39 = .ok (.goto (-22), 3) := by decide +kernel
theorem d_Model_common_42 : decode prog_9_method_47_code 42 = .ok (.lload 4, 2) := by decide +kernel
theorem d_Model_common_44 : decode prog_9_method_47_code 44 = .ok (.lreturn, 1) := by decide +kernel
abbrev y_Model_line : MethodName := { cls := "FaultRulesModel", name := "line", desc := "(IIIII)J" }
theorem kC_Model_line : Cond.code ({ cls := "FaultRulesModel", name := "line", desc := "(IIIII)J" } : Jvm.MethodName) prog_9_method_48_code (23 : Nat) (Option.some Jvm.ClassFile.FieldType.long) ∈ xT := x_t5 rfl (i := 41) rfl
theorem hd_Model_line : y_Model_line.cls ≠ "java/lang/invoke/MethodHandle" ∧ y_Model_line.cls ≠ "java/lang/invoke/VarHandle" ∧ (parseMethodDescriptor y_Model_line.desc).map (fun d => d.parameters.length) = some 5 := by decide +kernel
theorem d_Model_line_0 : decode prog_9_method_48_code 0 = .ok (.aload_n 0, 1) := by decide +kernel
theorem d_Model_line_1 : decode prog_9_method_48_code 1 = .ok (.iload_n 1, 1) := by decide +kernel
theorem d_Model_line_2 : decode prog_9_method_48_code 2 = .ok (.invokestatic 101, 3) := by decide +kernel
theorem d_Model_line_5 : decode prog_9_method_48_code 5 = .ok (.ifCond .eq 51, 3) := by decide +kernel
theorem d_Model_line_8 : decode prog_9_method_48_code 8 = .ok (.iload_n 2, 1) := by decide +kernel
theorem d_Model_line_9 : decode prog_9_method_48_code 9 = .ok (.invokestatic 101, 3) := by decide +kernel
theorem d_Model_line_12 : decode prog_9_method_48_code 12 = .ok (.ifCond .eq 44, 3) := by decide +kernel
theorem d_Model_line_15 : decode prog_9_method_48_code 15 = .ok (.iload_n 3, 1) := by decide +kernel
theorem d_Model_line_16 : decode prog_9_method_48_code 16 = .ok (.invokestatic 105, 3) := by decide +kernel
theorem d_Model_line_19 : decode prog_9_method_48_code 19 = .ok (.ifCond .eq 37, 3) := by decide +kernel
theorem d_Model_line_22 : decode prog_9_method_48_code 22 = .ok (.iload 4, 2) := by decide +kernel
theorem d_Model_line_24 : decode prog_9_method_48_code 24 = .ok (.invokestatic 105, 3) := by decide +kernel
theorem d_Model_line_27 : decode prog_9_method_48_code 27 = .ok (.ifCond .eq 29, 3) := by decide +kernel
theorem d_Model_line_30 : decode prog_9_method_48_code 30 = .ok (.iload 4, 2) := by decide +kernel
theorem d_Model_line_32 : decode prog_9_method_48_code 32 = .ok (.iload_n 3, 1) := by decide +kernel
theorem d_Model_line_33 : decode prog_9_method_48_code 33 = .ok (.if_icmp .lt 23, 3) := by decide +kernel
theorem d_Model_line_36 : decode prog_9_method_48_code 36 = .ok (.iload 4, 2) := by decide +kernel
theorem d_Model_line_38 : decode prog_9_method_48_code 38 = .ok (.iload_n 3, 1) := by decide +kernel
theorem d_Model_line_39 : decode prog_9_method_48_code 39 = .ok (.isub, 1) := by decide +kernel
theorem d_Model_line_40 : decode prog_9_method_48_code 40 = .ok (.bipush 59, 2) := by decide +kernel
theorem d_Model_line_42 : decode prog_9_method_48_code 42 = .ok (.if_icmp .gt 14, 3) := by decide +kernel
theorem d_Model_line_45 : decode prog_9_method_48_code 45 = .ok (.iload 5, 2) := by decide +kernel
theorem d_Model_line_47 : decode prog_9_method_48_code 47 = .ok (.ifCond .lt 9, 3) := by decide +kernel
theorem d_Model_line_50 : decode prog_9_method_48_code 50 = .ok (.iload 5, 2) := by decide +kernel
theorem d_Model_line_52 : decode prog_9_method_48_code 52 = .ok (.iconst 2, 1) := by decide +kernel
theorem d_Model_line_53 : decode prog_9_method_48_code 53 = .ok (.if_icmp .le 7, 3) := by decide +kernel
theorem d_Model_line_56 : decode prog_9_method_48_code 56 = .ok (.iconst 1, 1) := by decide +kernel
theorem d_Model_line_57 : decode prog_9_method_48_code 57 = .ok (.goto 4, 3) := by decide +kernel
theorem d_Model_line_60 : decode prog_9_method_48_code 60 = .ok (.iconst 0, 1) := by decide +kernel
theorem d_Model_line_61 : decode prog_9_method_48_code 61 = .ok (.putfield 86, 3) := by decide +kernel
theorem d_Model_line_64 : decode prog_9_method_48_code 64 = .ok (.aload_n 0, 1) := by decide +kernel
theorem d_Model_line_65 : decode prog_9_method_48_code 65 = .ok (.getfield 86, 3) := by decide +kernel
theorem d_Model_line_68 : decode prog_9_method_48_code 68 = .ok (.ifCond .le 5, 3) := by decide +kernel
theorem d_Model_line_71 : decode prog_9_method_48_code 71 = .ok (.lconst 0, 1) := by decide +kernel
theorem d_Model_line_72 : decode prog_9_method_48_code 72 = .ok (.lreturn, 1) := by decide +kernel
theorem d_Model_line_73 : decode prog_9_method_48_code 73 = .ok (.lconst 0, 1) := by decide +kernel
theorem d_Model_line_74 : decode prog_9_method_48_code 74 = .ok (.lstore 6, 2) := by decide +kernel
theorem d_Model_line_76 : decode prog_9_method_48_code 76 = .ok (.lconst 0, 1) := by decide +kernel
theorem d_Model_line_77 : decode prog_9_method_48_code 77 = .ok (.lstore 8, 2) := by decide +kernel
theorem d_Model_line_79 : decode prog_9_method_48_code 79 = .ok (.lconst 0, 1) := by decide +kernel
theorem d_Model_line_80 : decode prog_9_method_48_code 80 = .ok (.lstore 10, 2) := by decide +kernel
theorem d_Model_line_82 : decode prog_9_method_48_code 82 = .ok (.lconst 0, 1) := by decide +kernel
theorem d_Model_line_83 : decode prog_9_method_48_code 83 = .ok (.lstore 12, 2) := by decide +kernel
theorem d_Model_line_85 : decode prog_9_method_48_code 85 = .ok (.lconst 0, 1) := by decide +kernel
theorem d_Model_line_86 : decode prog_9_method_48_code 86 = .ok (.lstore 14, 2) := by decide +kernel
theorem d_Model_line_88 : decode prog_9_method_48_code 88 = .ok (.iload_n 3, 1) := by decide +kernel
theorem d_Model_line_89 : decode prog_9_method_48_code 89 = .ok (.istore 16, 2) := by decide +kernel
theorem d_Model_line_91 : decode prog_9_method_48_code 91 = .ok (.iload 16, 2) := by decide +kernel
theorem d_Model_line_93 : decode prog_9_method_48_code 93 = .ok (.iload 4, 2) := by decide +kernel
theorem d_Model_line_95 : decode prog_9_method_48_code 95 = .ok (.if_icmp .gt 113, 3) := by decide +kernel
theorem d_Model_line_98 : decode prog_9_method_48_code 98 = .ok (.aload_n 0, 1) := by decide +kernel
theorem d_Model_line_99 : decode prog_9_method_48_code 99 = .ok (.iload_n 1, 1) := by decide +kernel
theorem d_Model_line_100 : decode prog_9_method_48_code 100 = .ok (.iload 16, 2) := by decide +kernel
theorem d_Model_line_102 : decode prog_9_method_48_code 102 = .ok (.invokevirtual 112, 3) := by decide +kernel
theorem d_Model_line_105 : decode prog_9_method_48_code 105 = .ok (.istore 17, 2) := by decide +kernel
theorem d_Model_line_107 : decode prog_9_method_48_code 107 = .ok (.aload_n 0, 1) := by decide +kernel
theorem d_Model_line_108 : decode prog_9_method_48_code 108 = .ok (.iload_n 2, 1) := by decide +kernel
theorem d_Model_line_109 : decode prog_9_method_48_code 109 = .ok (.iload 16, 2) := by decide +kernel
theorem d_Model_line_111 : decode prog_9_method_48_code 111 = .ok (.invokevirtual 112, 3) := by decide +kernel
theorem d_Model_line_114 : decode prog_9_method_48_code 114 = .ok (.istore 18, 2) := by decide +kernel
theorem d_Model_line_116 : decode prog_9_method_48_code 116 = .ok (.iload 17, 2) := by decide +kernel
theorem d_Model_line_118 : decode prog_9_method_48_code 118 = .ok (.ifCond .lt 84, 3) := by decide +kernel
theorem d_Model_line_121 : decode prog_9_method_48_code 121 = .ok (.iload 18, 2) := by decide +kernel
theorem d_Model_line_123 : decode prog_9_method_48_code 123 = .ok (.ifCond .lt 79, 3) := by decide +kernel
theorem d_Model_line_126 : decode prog_9_method_48_code 126 = .ok (.aload_n 0, 1) := by decide +kernel
theorem d_Model_line_127 : decode prog_9_method_48_code 127 = .ok (.iload 16, 2) := by decide +kernel
theorem d_Model_line_129 : decode prog_9_method_48_code 129 = .ok (.invokevirtual 280, 3) := by decide +kernel
theorem d_Model_line_132 : decode prog_9_method_48_code 132 = .ok (.aload_n 0, 1) := by decide +kernel
theorem d_Model_line_133 : decode prog_9_method_48_code 133 = .ok (.getfield 277, 3) := by decide +kernel
theorem d_Model_line_136 : decode prog_9_method_48_code 136 = .ok (.if_icmp .ge 6, 3) := by decide +kernel
theorem d_Model_line_139 : decode prog_9_method_48_code 139 = .ok (.goto 63, 3) := by decide +kernel
theorem d_Model_line_142 : decode prog_9_method_48_code 142 = .ok (.aload_n 0, 1) := by decide +kernel
theorem d_Model_line_143 : decode prog_9_method_48_code 143 = .ok (.getfield 16, 3) := by decide +kernel
theorem d_Model_line_146 : decode prog_9_method_48_code 146 = .ok (.iload 17, 2) := by decide +kernel
theorem d_Model_line_148 : decode prog_9_method_48_code 148 = .ok (.iaload, 1) := by decide +kernel
theorem d_Model_line_149 : decode prog_9_method_48_code 149 = .ok (.i2l, 1) := by decide +kernel
theorem d_Model_line_150 : decode prog_9_method_48_code 150 = .ok (.lstore 19, 2) := by decide +kernel
theorem d_Model_line_152 : decode prog_9_method_48_code 152 = .ok (.aload_n 0, 1) := by decide +kernel
theorem d_Model_line_153 : decode prog_9_method_48_code 153 = .ok (.getfield 16, 3) := by decide +kernel
theorem d_Model_line_156 : decode prog_9_method_48_code 156 = .ok (.iload 18, 2) := by decide +kernel
theorem d_Model_line_158 : decode prog_9_method_48_code 158 = .ok (.iaload, 1) := by decide +kernel
theorem d_Model_line_159 : decode prog_9_method_48_code 159 = .ok (.i2l, 1) := by decide +kernel
theorem d_Model_line_160 : decode prog_9_method_48_code 160 = .ok (.lstore 21, 2) := by decide +kernel
theorem d_Model_line_162 : decode prog_9_method_48_code 162 = .ok (.lload 6, 2) := by decide +kernel
theorem d_Model_line_164 : decode prog_9_method_48_code 164 = .ok (.lconst 1, 1) := by decide +kernel
theorem d_Model_line_165 : decode prog_9_method_48_code 165 = .ok (.ladd, 1) := by decide +kernel
theorem d_Model_line_166 : decode prog_9_method_48_code 166 = .ok (.lstore 6, 2) := by decide +kernel
theorem d_Model_line_168 : decode prog_9_method_48_code 168 = .ok (.lload 8, 2) := by decide +kernel
theorem d_Model_line_170 : decode prog_9_method_48_code 170 = .ok (.lload 21, 2) := by decide +kernel
theorem d_Model_line_172 : decode prog_9_method_48_code 172 = .ok (.ladd, 1) := by decide +kernel
theorem d_Model_line_173 : decode prog_9_method_48_code 173 = .ok (.lstore 8, 2) := by decide +kernel
theorem d_Model_line_175 : decode prog_9_method_48_code 175 = .ok (.lload 10, 2) := by decide +kernel
theorem d_Model_line_177 : decode prog_9_method_48_code 177 = .ok (.lload 19, 2) := by decide +kernel
theorem d_Model_line_179 : decode prog_9_method_48_code 179 = .ok (.ladd, 1) := by decide +kernel
theorem d_Model_line_180 : decode prog_9_method_48_code 180 = .ok (.lstore 10, 2) := by decide +kernel
theorem d_Model_line_182 : decode prog_9_method_48_code 182 = .ok (.lload 12, 2) := by decide +kernel
theorem d_Model_line_184 : decode prog_9_method_48_code 184 = .ok (.lload 21, 2) := by decide +kernel
theorem d_Model_line_186 : decode prog_9_method_48_code 186 = .ok (.lload 19, 2) := by decide +kernel
theorem d_Model_line_188 : decode prog_9_method_48_code 188 = .ok (.lmul, 1) := by decide +kernel
theorem d_Model_line_189 : decode prog_9_method_48_code 189 = .ok (.ladd, 1) := by decide +kernel
theorem d_Model_line_190 : decode prog_9_method_48_code 190 = .ok (.lstore 12, 2) := by decide +kernel
theorem d_Model_line_192 : decode prog_9_method_48_code 192 = .ok (.lload 14, 2) := by decide +kernel
theorem d_Model_line_194 : decode prog_9_method_48_code 194 = .ok (.lload 21, 2) := by decide +kernel
theorem d_Model_line_196 : decode prog_9_method_48_code 196 = .ok (.lload 21, 2) := by decide +kernel
theorem d_Model_line_198 : decode prog_9_method_48_code 198 = .ok (.lmul, 1) := by decide +kernel
theorem d_Model_line_199 : decode prog_9_method_48_code 199 = .ok (.ladd, 1) := by decide +kernel
theorem d_Model_line_200 : decode prog_9_method_48_code 200 = .ok (.lstore 14, 2) := by decide +kernel
theorem d_Model_line_202 : decode prog_9_method_48_code 202 = .ok (.iinc 16 1, 3) := by decide +kernel
theorem d_Model_line_205 : decode prog_9_method_48_code 205 = .ok (.goto (-114), 3) := by decide +kernel
theorem d_Model_line_208 : decode prog_9_method_48_code 208 = .ok (.iload 5, 2) := by decide +kernel
theorem d_Model_line_210 : decode prog_9_method_48_code 210 = .ok (.iconst 2, 1) := by decide +kernel
theorem d_Model_line_211 : decode prog_9_method_48_code 211 = .ok (.if_icmp .ne 6, 3) := by decide +kernel
theorem d_Model_line_214 : decode prog_9_method_48_code 214 = .ok (.lload 6, 2) := by decide +kernel
theorem d_Model_line_216 : decode prog_9_method_48_code 216 = .ok (.lreturn, 1) := by decide +kernel
theorem d_Model_line_217 : decode prog_9_method_48_code 217 = .ok (.lload 6, 2) := by decide +kernel
theorem d_Model_line_219 : decode prog_9_method_48_code 219 = .ok (.lload 12, 2) := by decide +kernel
theorem d_Model_line_221 : decode prog_9_method_48_code 221 = .ok (.lmul, 1) := by decide +kernel
theorem d_Model_line_222 : decode prog_9_method_48_code 222 = .ok (.lload 8, 2) := by decide +kernel
theorem d_Model_line_224 : decode prog_9_method_48_code 224 = .ok (.lload 10, 2) := by decide +kernel
theorem d_Model_line_226 : decode prog_9_method_48_code 226 = .ok (.lmul, 1) := by decide +kernel
theorem d_Model_line_227 : decode prog_9_method_48_code 227 = .ok (.lsub, 1) := by decide +kernel
theorem d_Model_line_228 : decode prog_9_method_48_code 228 = .ok (.lstore 16, 2) := by decide +kernel
theorem d_Model_line_230 : decode prog_9_method_48_code 230 = .ok (.lload 6, 2) := by decide +kernel
theorem d_Model_line_232 : decode prog_9_method_48_code 232 = .ok (.lload 14, 2) := by decide +kernel
theorem d_Model_line_234 : decode prog_9_method_48_code 234 = .ok (.lmul, 1) := by decide +kernel
theorem d_Model_line_235 : decode prog_9_method_48_code 235 = .ok (.lload 8, 2) := by decide +kernel
theorem d_Model_line_237 : decode prog_9_method_48_code 237 = .ok (.lload 8, 2) := by decide +kernel
theorem d_Model_line_239 : decode prog_9_method_48_code 239 = .ok (.lmul, 1) := by decide +kernel
theorem d_Model_line_240 : decode prog_9_method_48_code 240 = .ok (.lsub, 1) := by decide +kernel
theorem d_Model_line_241 : decode prog_9_method_48_code 241 = .ok (.lstore 18, 2) := by decide +kernel
theorem d_Model_line_243 : decode prog_9_method_48_code 243 = .ok (.lload 18, 2) := by decide +kernel
theorem d_Model_line_245 : decode prog_9_method_48_code 245 = .ok (.lconst 0, 1) := by decide +kernel
theorem d_Model_line_246 : decode prog_9_method_48_code 246 = .ok (.lcmp, 1) := by decide +kernel
theorem d_Model_line_247 : decode prog_9_method_48_code 247 = .ok (.ifCond .ne 5, 3) := by decide +kernel
theorem d_Model_line_250 : decode prog_9_method_48_code 250 = .ok (.lconst 0, 1) := by decide +kernel
theorem d_Model_line_251 : decode prog_9_method_48_code 251 = .ok (.lreturn, 1) := by decide +kernel
theorem d_Model_line_252 : decode prog_9_method_48_code 252 = .ok (.lload 16, 2) := by decide +kernel
theorem d_Model_line_254 : decode prog_9_method_48_code 254 = .ok (.lload 18, 2) := by decide +kernel
theorem d_Model_line_256 : decode prog_9_method_48_code 256 = .ok (.invokestatic 283, 3) := by decide +kernel
theorem d_Model_line_259 : decode prog_9_method_48_code 259 = .ok (.lstore 20, 2) := by decide +kernel
theorem d_Model_line_261 : decode prog_9_method_48_code 261 = .ok (.iload 5, 2) := by decide +kernel
theorem d_Model_line_263 : decode prog_9_method_48_code 263 = .ok (.ifCond .ne 11, 3) := by decide +kernel
theorem d_Model_line_266 : decode prog_9_method_48_code 266 = .ok (.lload 16, 2) := by decide +kernel
theorem d_Model_line_268 : decode prog_9_method_48_code 268 = .ok (.lload 20, 2) := by decide +kernel
theorem d_Model_line_270 : decode prog_9_method_48_code 270 = .ok (.ldiv, 1) := by decide +kernel
theorem d_Model_line_271 : decode prog_9_method_48_code 271 = .ok (.goto 8, 3) := by decide +kernel
theorem d_Model_line_274 : decode prog_9_method_48_code 274 = .ok (.lload 18, 2) := by decide +kernel
theorem d_Model_line_276 : decode prog_9_method_48_code 276 = .ok (.lload 20, 2) := by decide +kernel
theorem d_Model_line_278 : decode prog_9_method_48_code 278 = .ok (.ldiv, 1) := by decide +kernel
theorem d_Model_line_279 : decode prog_9_method_48_code 279 = .ok (.lreturn, 1) := by decide +kernel
theorem kM_Model_283 : Cond.methodLink "FaultRulesModel" (283 : Nat) ({ cls := "FaultRulesModel", name := "common", desc := "(JJ)J" } : Jvm.MethodName) ∈ xT := x_t5 rfl (i := 42) rfl
theorem kT_Model_common : Cond.static ({ cls := "FaultRulesModel", name := "common", desc := "(JJ)J" } : Jvm.MethodName) ∈ xT := x_t5 rfl (i := 43) rfl
abbrev y_Model_cause : MethodName := { cls := "FaultRulesModel", name := "cause", desc := "(II)I" }
theorem kC_Model_cause : Cond.code ({ cls := "FaultRulesModel", name := "cause", desc := "(II)I" } : Jvm.MethodName) prog_9_method_49_code (4 : Nat) (Option.some Jvm.ClassFile.FieldType.int) ∈ xT := x_t5 rfl (i := 48) rfl
theorem hd_Model_cause : y_Model_cause.cls ≠ "java/lang/invoke/MethodHandle" ∧ y_Model_cause.cls ≠ "java/lang/invoke/VarHandle" ∧ (parseMethodDescriptor y_Model_cause.desc).map (fun d => d.parameters.length) = some 2 := by decide +kernel
theorem d_Model_cause_0 : decode prog_9_method_49_code 0 = .ok (.aload_n 0, 1) := by decide +kernel
theorem d_Model_cause_1 : decode prog_9_method_49_code 1 = .ok (.iload_n 1, 1) := by decide +kernel
theorem d_Model_cause_2 : decode prog_9_method_49_code 2 = .ok (.ifCond .lt 19, 3) := by decide +kernel
theorem d_Model_cause_5 : decode prog_9_method_49_code 5 = .ok (.iload_n 1, 1) := by decide +kernel
theorem d_Model_cause_6 : decode prog_9_method_49_code 6 = .ok (.bipush 9, 2) := by decide +kernel
theorem d_Model_cause_8 : decode prog_9_method_49_code 8 = .ok (.if_icmp .gt 13, 3) := by decide +kernel
theorem d_Model_cause_11 : decode prog_9_method_49_code 11 = .ok (.iload_n 2, 1) := by decide +kernel
theorem d_Model_cause_12 : decode prog_9_method_49_code 12 = .ok (.ifCond .lt 9, 3) := by decide +kernel
theorem d_Model_cause_15 : decode prog_9_method_49_code 15 = .ok (.iload_n 2, 1) := by decide +kernel
theorem d_Model_cause_16 : decode prog_9_method_49_code 16 = .ok (.bipush 63, 2) := by decide +kernel
theorem d_Model_cause_18 : decode prog_9_method_49_code 18 = .ok (.if_icmp .le 7, 3) := by decide +kernel
theorem d_Model_cause_21 : decode prog_9_method_49_code 21 = .ok (.iconst 1, 1) := by decide +kernel
theorem d_Model_cause_22 : decode prog_9_method_49_code 22 = .ok (.goto 4, 3) := by decide +kernel
theorem d_Model_cause_25 : decode prog_9_method_49_code 25 = .ok (.iconst 0, 1) := by decide +kernel
theorem d_Model_cause_26 : decode prog_9_method_49_code 26 = .ok (.putfield 86, 3) := by decide +kernel
theorem d_Model_cause_29 : decode prog_9_method_49_code 29 = .ok (.aload_n 0, 1) := by decide +kernel
theorem d_Model_cause_30 : decode prog_9_method_49_code 30 = .ok (.getfield 86, 3) := by decide +kernel
theorem d_Model_cause_33 : decode prog_9_method_49_code 33 = .ok (.ifCond .le 5, 3) := by decide +kernel
theorem d_Model_cause_36 : decode prog_9_method_49_code 36 = .ok (.iconst 0, 1) := by decide +kernel
theorem d_Model_cause_37 : decode prog_9_method_49_code 37 = .ok (.ireturn, 1) := by decide +kernel
theorem d_Model_cause_38 : decode prog_9_method_49_code 38 = .ok (.aload_n 0, 1) := by decide +kernel
theorem d_Model_cause_39 : decode prog_9_method_49_code 39 = .ok (.getfield 83, 3) := by decide +kernel
theorem d_Model_cause_42 : decode prog_9_method_49_code 42 = .ok (.iload_n 1, 1) := by decide +kernel
theorem d_Model_cause_43 : decode prog_9_method_49_code 43 = .ok (.iaload, 1) := by decide +kernel
theorem d_Model_cause_44 : decode prog_9_method_49_code 44 = .ok (.istore_n 3, 1) := by decide +kernel
theorem d_Model_cause_45 : decode prog_9_method_49_code 45 = .ok (.aload_n 0, 1) := by decide +kernel
theorem d_Model_cause_46 : decode prog_9_method_49_code 46 = .ok (.getfield 83, 3) := by decide +kernel
theorem d_Model_cause_49 : decode prog_9_method_49_code 49 = .ok (.iload_n 1, 1) := by decide +kernel
theorem d_Model_cause_50 : decode prog_9_method_49_code 50 = .ok (.iload_n 2, 1) := by decide +kernel
theorem d_Model_cause_51 : decode prog_9_method_49_code 51 = .ok (.iastore, 1) := by decide +kernel
theorem d_Model_cause_52 : decode prog_9_method_49_code 52 = .ok (.iload_n 3, 1) := by decide +kernel
theorem d_Model_cause_53 : decode prog_9_method_49_code 53 = .ok (.ireturn, 1) := by decide +kernel
theorem kF_Model_83 : Cond.fieldLink "FaultRulesModel" (83 : Nat) "FaultRulesModel" "brings" "[I" ∈ xT := x_t4 rfl (i := 7) rfl
abbrev y_Model_causes : MethodName := { cls := "FaultRulesModel", name := "causes", desc := "()I" }
theorem kC_Model_causes : Cond.code ({ cls := "FaultRulesModel", name := "causes", desc := "()I" } : Jvm.MethodName) prog_9_method_50_code (8 : Nat) (Option.some Jvm.ClassFile.FieldType.int) ∈ xT := x_t5 rfl (i := 52) rfl
theorem hd_Model_causes : y_Model_causes.cls ≠ "java/lang/invoke/MethodHandle" ∧ y_Model_causes.cls ≠ "java/lang/invoke/VarHandle" ∧ (parseMethodDescriptor y_Model_causes.desc).map (fun d => d.parameters.length) = some 0 := by decide +kernel
theorem d_Model_causes_0 : decode prog_9_method_50_code 0 = .ok (.aload_n 0, 1) := by decide +kernel
theorem d_Model_causes_1 : decode prog_9_method_50_code 1 = .ok (.aload_n 0, 1) := by decide +kernel
theorem d_Model_causes_2 : decode prog_9_method_50_code 2 = .ok (.getfield 236, 3) := by decide +kernel
theorem d_Model_causes_5 : decode prog_9_method_50_code 5 = .ok (.ifCond .eq 7, 3) := by decide +kernel
theorem d_Model_causes_8 : decode prog_9_method_50_code 8 = .ok (.iconst 0, 1) := by decide +kernel
theorem d_Model_causes_9 : decode prog_9_method_50_code 9 = .ok (.goto 4, 3) := by decide +kernel
theorem d_Model_causes_12 : decode prog_9_method_50_code 12 = .ok (.iconst 1, 1) := by decide +kernel
theorem d_Model_causes_13 : decode prog_9_method_50_code 13 = .ok (.putfield 86, 3) := by decide +kernel
theorem d_Model_causes_16 : decode prog_9_method_50_code 16 = .ok (.aload_n 0, 1) := by decide +kernel
theorem d_Model_causes_17 : decode prog_9_method_50_code 17 = .ok (.getfield 86, 3) := by decide +kernel
theorem d_Model_causes_20 : decode prog_9_method_50_code 20 = .ok (.ifCond .le 5, 3) := by decide +kernel
theorem d_Model_causes_23 : decode prog_9_method_50_code 23 = .ok (.iconst 0, 1) := by decide +kernel
theorem d_Model_causes_24 : decode prog_9_method_50_code 24 = .ok (.ireturn, 1) := by decide +kernel
theorem d_Model_causes_25 : decode prog_9_method_50_code 25 = .ok (.iconst 0, 1) := by decide +kernel
theorem d_Model_causes_26 : decode prog_9_method_50_code 26 = .ok (.istore_n 1, 1) := by decide +kernel
theorem d_Model_causes_27 : decode prog_9_method_50_code 27 = .ok (.iconst 0, 1) := by decide +kernel
theorem d_Model_causes_28 : decode prog_9_method_50_code 28 = .ok (.istore_n 2, 1) := by decide +kernel
theorem d_Model_causes_29 : decode prog_9_method_50_code 29 = .ok (.iload_n 2, 1) := by decide +kernel
theorem d_Model_causes_30 : decode prog_9_method_50_code 30 = .ok (.aload_n 0, 1) := by decide +kernel
theorem d_Model_causes_31 : decode prog_9_method_50_code 31 = .ok (.getfield 260, 3) := by decide +kernel
theorem d_Model_causes_34 : decode prog_9_method_50_code 34 = .ok (.if_icmp .ge 20, 3) := by decide +kernel
theorem d_Model_causes_37 : decode prog_9_method_50_code 37 = .ok (.iload_n 1, 1) := by decide +kernel
theorem d_Model_causes_38 : decode prog_9_method_50_code 38 = .ok (.iconst 1, 1) := by decide +kernel
theorem d_Model_causes_39 : decode prog_9_method_50_code 39 = .ok (.aload_n 0, 1) := by decide +kernel
theorem d_Model_causes_40 : decode prog_9_method_50_code 40 = .ok (.getfield 68, 3) := by decide +kernel
theorem d_Model_causes_43 : decode prog_9_method_50_code 43 = .ok (.iload_n 2, 1) := by decide +kernel
theorem d_Model_causes_44 : decode prog_9_method_50_code 44 = .ok (.iaload, 1) := by decide +kernel
theorem d_Model_causes_45 : decode prog_9_method_50_code 45 = .ok (.ishl, 1) := by decide +kernel
theorem d_Model_causes_46 : decode prog_9_method_50_code 46 = .ok (.ior, 1) := by decide +kernel
theorem d_Model_causes_47 : decode prog_9_method_50_code 47 = .ok (.istore_n 1, 1) := by decide +kernel
theorem d_Model_causes_48 : decode prog_9_method_50_code 48 = .ok (.iinc 2 1, 3) := by decide +kernel
theorem d_Model_causes_51 : decode prog_9_method_50_code 51 = .ok (.goto (-22), 3) := by decide +kernel
theorem d_Model_causes_54 : decode prog_9_method_50_code 54 = .ok (.iconst (-1), 1) := by decide +kernel
theorem d_Model_causes_55 : decode prog_9_method_50_code 55 = .ok (.istore_n 2, 1) := by decide +kernel
theorem d_Model_causes_56 : decode prog_9_method_50_code 56 = .ok (.bipush 11, 2) := by decide +kernel
theorem d_Model_causes_58 : decode prog_9_method_50_code 58 = .ok (.istore_n 3, 1) := by decide +kernel
theorem d_Model_causes_59 : decode prog_9_method_50_code 59 = .ok (.iconst 0, 1) := by decide +kernel
theorem d_Model_causes_60 : decode prog_9_method_50_code 60 = .ok (.istore 4, 2) := by decide +kernel
theorem d_Model_causes_62 : decode prog_9_method_50_code 62 = .ok (.iload 4, 2) := by decide +kernel
theorem d_Model_causes_64 : decode prog_9_method_50_code 64 = .ok (.sipush 1024, 3) := by decide +kernel
theorem d_Model_causes_67 : decode prog_9_method_50_code 67 = .ok (.if_icmp .ge 91, 3) := by decide +kernel
theorem d_Model_causes_70 : decode prog_9_method_50_code 70 = .ok (.iconst 0, 1) := by decide +kernel
theorem d_Model_causes_71 : decode prog_9_method_50_code 71 = .ok (.istore 5, 2) := by decide +kernel
theorem d_Model_causes_73 : decode prog_9_method_50_code 73 = .ok (.iconst 0, 1) := by decide +kernel
theorem d_Model_causes_74 : decode prog_9_method_50_code 74 = .ok (.istore 6, 2) := by decide +kernel
theorem d_Model_causes_76 : decode prog_9_method_50_code 76 = .ok (.iconst 0, 1) := by decide +kernel
theorem d_Model_causes_77 : decode prog_9_method_50_code 77 = .ok (.istore 7, 2) := by decide +kernel
theorem d_Model_causes_79 : decode prog_9_method_50_code 79 = .ok (.iload 7, 2) := by decide +kernel
theorem d_Model_causes_81 : decode prog_9_method_50_code 81 = .ok (.bipush 10, 2) := by decide +kernel
theorem d_Model_causes_83 : decode prog_9_method_50_code 83 = .ok (.if_icmp .ge 48, 3) := by decide +kernel
theorem d_Model_causes_86 : decode prog_9_method_50_code 86 = .ok (.iload 5, 2) := by decide +kernel
theorem d_Model_causes_88 : decode prog_9_method_50_code 88 = .ok (.iload 4, 2) := by decide +kernel
theorem d_Model_causes_90 : decode prog_9_method_50_code 90 = .ok (.iload 7, 2) := by decide +kernel
theorem d_Model_causes_92 : decode prog_9_method_50_code 92 = .ok (.ishr, 1) := by decide +kernel
theorem d_Model_causes_93 : decode prog_9_method_50_code 93 = .ok (.iconst 1, 1) := by decide +kernel
theorem d_Model_causes_94 : decode prog_9_method_50_code 94 = .ok (.iand, 1) := by decide +kernel
theorem d_Model_causes_95 : decode prog_9_method_50_code 95 = .ok (.iconst 1, 1) := by decide +kernel
theorem d_Model_causes_96 : decode prog_9_method_50_code 96 = .ok (.if_icmp .ne 13, 3) := by decide +kernel
theorem d_Model_causes_99 : decode prog_9_method_50_code 99 = .ok (.aload_n 0, 1) := by decide +kernel
theorem d_Model_causes_100 : decode prog_9_method_50_code 100 = .ok (.getfield 83, 3) := by decide +kernel
theorem d_Model_causes_103 : decode prog_9_method_50_code 103 = .ok (.iload 7, 2) := by decide +kernel
theorem d_Model_causes_105 : decode prog_9_method_50_code 105 = .ok (.iaload, 1) := by decide +kernel
theorem d_Model_causes_106 : decode prog_9_method_50_code 106 = .ok (.goto 4, 3) := by decide +kernel
theorem d_Model_causes_109 : decode prog_9_method_50_code 109 = .ok (.iconst 0, 1) := by decide +kernel
theorem d_Model_causes_110 : decode prog_9_method_50_code 110 = .ok (.ior, 1) := by decide +kernel
theorem d_Model_causes_111 : decode prog_9_method_50_code 111 = .ok (.istore 5, 2) := by decide +kernel
theorem d_Model_causes_113 : decode prog_9_method_50_code 113 = .ok (.iload 6, 2) := by decide +kernel
theorem d_Model_causes_115 : decode prog_9_method_50_code 115 = .ok (.iload 4, 2) := by decide +kernel
theorem d_Model_causes_117 : decode prog_9_method_50_code 117 = .ok (.iload 7, 2) := by decide +kernel
theorem d_Model_causes_119 : decode prog_9_method_50_code 119 = .ok (.ishr, 1) := by decide +kernel
theorem d_Model_causes_120 : decode prog_9_method_50_code 120 = .ok (.iconst 1, 1) := by decide +kernel
theorem d_Model_causes_121 : decode prog_9_method_50_code 121 = .ok (.iand, 1) := by decide +kernel
theorem d_Model_causes_122 : decode prog_9_method_50_code 122 = .ok (.iadd, 1) := by decide +kernel
theorem d_Model_causes_123 : decode prog_9_method_50_code 123 = .ok (.istore 6, 2) := by decide +kernel
theorem d_Model_causes_125 : decode prog_9_method_50_code 125 = .ok (.iinc 7 1, 3) := by decide +kernel
theorem d_Model_causes_128 : decode prog_9_method_50_code 128 = .ok (.goto (-49), 3) := by decide +kernel
theorem d_Model_causes_131 : decode prog_9_method_50_code 131 = .ok (.iload_n 1, 1) := by decide +kernel
theorem d_Model_causes_132 : decode prog_9_method_50_code 132 = .ok (.iload 5, 2) := by decide +kernel
theorem d_Model_causes_134 : decode prog_9_method_50_code 134 = .ok (.iconst (-1), 1) := by decide +kernel
theorem d_Model_causes_135 : decode prog_9_method_50_code 135 = .ok (.ixor, 1) := by decide +kernel
theorem d_Model_causes_136 : decode prog_9_method_50_code 136 = .ok (.iand, 1) := by decide +kernel
theorem d_Model_causes_137 : decode prog_9_method_50_code 137 = .ok (.ifCond .ne 15, 3) := by decide +kernel
theorem d_Model_causes_140 : decode prog_9_method_50_code 140 = .ok (.iload 6, 2) := by decide +kernel
theorem d_Model_causes_142 : decode prog_9_method_50_code 142 = .ok (.iload_n 3, 1) := by decide +kernel
theorem d_Model_causes_143 : decode prog_9_method_50_code 143 = .ok (.if_icmp .ge 9, 3) := by decide +kernel
theorem d_Model_causes_146 : decode prog_9_method_50_code 146 = .ok (.iload 4, 2) := by decide +kernel
theorem d_Model_causes_148 : decode prog_9_method_50_code 148 = .ok (.istore_n 2, 1) := by decide +kernel
theorem d_Model_causes_149 : decode prog_9_method_50_code 149 = .ok (.iload 6, 2) := by decide +kernel
theorem d_Model_causes_151 : decode prog_9_method_50_code 151 = .ok (.istore_n 3, 1) := by decide +kernel
theorem d_Model_causes_152 : decode prog_9_method_50_code 152 = .ok (.iinc 4 1, 3) := by decide +kernel
theorem d_Model_causes_155 : decode prog_9_method_50_code 155 = .ok (.goto (-93), 3) := by decide +kernel
theorem d_Model_causes_158 : decode prog_9_method_50_code 158 = .ok (.iload_n 2, 1) := by decide +kernel
theorem d_Model_causes_159 : decode prog_9_method_50_code 159 = .ok (.ireturn, 1) := by decide +kernel
abbrev y_Law_row : MethodName := { cls := "FaultRulesLaw", name := "row", desc := "(LFaultRules;III[J)I" }
theorem kC_Law_row : Cond.codeWith ({ cls := "FaultRulesLaw", name := "row", desc := "(LFaultRules;III[J)I" } : Jvm.MethodName) method_3_code (6 : Nat) (Option.some Jvm.ClassFile.FieldType.int) [((0 : Nat), (12 : Nat), (15 : Nat), (13 : Nat)), ((0 : Nat), (12 : Nat), (19 : Nat), (15 : Nat))] ∈ xT := x_t2 rfl (i := 106) rfl
theorem hd_Law_row : y_Law_row.cls ≠ "java/lang/invoke/MethodHandle" ∧ y_Law_row.cls ≠ "java/lang/invoke/VarHandle" ∧ (parseMethodDescriptor y_Law_row.desc).map (fun d => d.parameters.length) = some 5 := by decide +kernel
theorem d_Law_row_0 : decode method_3_code 0 = .ok (.aload 4, 2) := by decide +kernel
theorem d_Law_row_2 : decode method_3_code 2 = .ok (.iconst 0, 1) := by decide +kernel
theorem d_Law_row_3 : decode method_3_code 3 = .ok (.aload_n 0, 1) := by decide +kernel
theorem d_Law_row_4 : decode method_3_code 4 = .ok (.iload_n 1, 1) := by decide +kernel
theorem d_Law_row_5 : decode method_3_code 5 = .ok (.iload_n 2, 1) := by decide +kernel
theorem d_Law_row_6 : decode method_3_code 6 = .ok (.iload_n 3, 1) := by decide +kernel
theorem d_Law_row_7 : decode method_3_code 7 = .ok (.invokevirtual 7, 3) := by decide +kernel
theorem d_Law_row_10 : decode method_3_code 10 = .ok (.i2l, 1) := by decide +kernel
theorem d_Law_row_11 : decode method_3_code 11 = .ok (.lastore, 1) := by decide +kernel
theorem d_Law_row_12 : decode method_3_code 12 = .ok (.goto 11, 3) := by decide +kernel
theorem d_Law_row_15 : decode method_3_code 15 = .ok (.astore 5, 2) := by decide +kernel
theorem d_Law_row_17 : decode method_3_code 17 = .ok (.iconst 1, 1) := by decide +kernel
theorem d_Law_row_18 : decode method_3_code 18 = .ok (.ireturn, 1) := by decide +kernel
theorem d_Law_row_19 : decode method_3_code 19 = .ok (.astore 5, 2) := by decide +kernel
theorem d_Law_row_21 : decode method_3_code 21 = .ok (.iconst 2, 1) := by decide +kernel
theorem d_Law_row_22 : decode method_3_code 22 = .ok (.ireturn, 1) := by decide +kernel
theorem d_Law_row_23 : decode method_3_code 23 = .ok (.iconst 0, 1) := by decide +kernel
theorem d_Law_row_24 : decode method_3_code 24 = .ok (.ireturn, 1) := by decide +kernel
theorem kM_Law_7 : Cond.methodLink "FaultRulesLaw" (7 : Nat) ({ cls := "FaultRules", name := "row", desc := "(III)I" } : Jvm.MethodName) ∈ xT := x_t2 rfl (i := 109) rfl
theorem kI_FaultRules_row : Cond.instanceMethod ({ cls := "FaultRules", name := "row", desc := "(III)I" } : Jvm.MethodName) ∈ xT := x_t2 rfl (i := 110) rfl
theorem kS_576 : Cond.selects "FaultRules" ({ cls := "FaultRules", name := "row", desc := "(III)I" } : Jvm.MethodName) ({ cls := "FaultRules", name := "row", desc := "(III)I" } : Jvm.MethodName) ∈ xT := x_t2 rfl (i := 111) rfl
theorem kH_13 : Cond.classLink "FaultRulesLaw" (13 : Nat) "java/lang/IllegalArgumentException" ∈ xT := x_t2 rfl (i := 107) rfl
theorem kH_15 : Cond.classLink "FaultRulesLaw" (15 : Nat) "java/lang/IllegalStateException" ∈ xT := x_t2 rfl (i := 108) rfl
abbrev y_Law_value : MethodName := { cls := "FaultRulesLaw", name := "value", desc := "(LFaultRules;II[J)I" }
theorem kC_Law_value : Cond.codeWith ({ cls := "FaultRulesLaw", name := "value", desc := "(LFaultRules;II[J)I" } : Jvm.MethodName) method_4_code (5 : Nat) (Option.some Jvm.ClassFile.FieldType.int) [((0 : Nat), (10 : Nat), (13 : Nat), (13 : Nat))] ∈ xT := x_t2 rfl (i := 220) rfl
theorem hd_Law_value : y_Law_value.cls ≠ "java/lang/invoke/MethodHandle" ∧ y_Law_value.cls ≠ "java/lang/invoke/VarHandle" ∧ (parseMethodDescriptor y_Law_value.desc).map (fun d => d.parameters.length) = some 4 := by decide +kernel
theorem d_Law_value_0 : decode method_4_code 0 = .ok (.aload_n 3, 1) := by decide +kernel
theorem d_Law_value_1 : decode method_4_code 1 = .ok (.iconst 0, 1) := by decide +kernel
theorem d_Law_value_2 : decode method_4_code 2 = .ok (.aload_n 0, 1) := by decide +kernel
theorem d_Law_value_3 : decode method_4_code 3 = .ok (.iload_n 1, 1) := by decide +kernel
theorem d_Law_value_4 : decode method_4_code 4 = .ok (.iload_n 2, 1) := by decide +kernel
theorem d_Law_value_5 : decode method_4_code 5 = .ok (.invokevirtual 17, 3) := by decide +kernel
theorem d_Law_value_8 : decode method_4_code 8 = .ok (.i2l, 1) := by decide +kernel
theorem d_Law_value_9 : decode method_4_code 9 = .ok (.lastore, 1) := by decide +kernel
theorem d_Law_value_10 : decode method_4_code 10 = .ok (.goto 7, 3) := by decide +kernel
theorem d_Law_value_13 : decode method_4_code 13 = .ok (.astore 4, 2) := by decide +kernel
theorem d_Law_value_15 : decode method_4_code 15 = .ok (.iconst 1, 1) := by decide +kernel
theorem d_Law_value_16 : decode method_4_code 16 = .ok (.ireturn, 1) := by decide +kernel
theorem d_Law_value_17 : decode method_4_code 17 = .ok (.iconst 0, 1) := by decide +kernel
theorem d_Law_value_18 : decode method_4_code 18 = .ok (.ireturn, 1) := by decide +kernel
theorem kM_Law_17 : Cond.methodLink "FaultRulesLaw" (17 : Nat) ({ cls := "FaultRules", name := "value", desc := "(II)I" } : Jvm.MethodName) ∈ xT := x_t2 rfl (i := 221) rfl
theorem kI_FaultRules_value : Cond.instanceMethod ({ cls := "FaultRules", name := "value", desc := "(II)I" } : Jvm.MethodName) ∈ xT := x_t2 rfl (i := 222) rfl
theorem kS_582 : Cond.selects "FaultRules" ({ cls := "FaultRules", name := "value", desc := "(II)I" } : Jvm.MethodName) ({ cls := "FaultRules", name := "value", desc := "(II)I" } : Jvm.MethodName) ∈ xT := x_t2 rfl (i := 223) rfl
abbrev y_Law_say : MethodName := { cls := "FaultRulesLaw", name := "say", desc := "(LFaultRules;J[J)I" }
theorem kC_Law_say : Cond.codeWith ({ cls := "FaultRulesLaw", name := "say", desc := "(LFaultRules;J[J)I" } : Jvm.MethodName) method_5_code (5 : Nat) (Option.some Jvm.ClassFile.FieldType.int) [((0 : Nat), (9 : Nat), (12 : Nat), (13 : Nat)), ((0 : Nat), (9 : Nat), (16 : Nat), (15 : Nat))] ∈ xT := x_t3 rfl (i := 8) rfl
theorem hd_Law_say : y_Law_say.cls ≠ "java/lang/invoke/MethodHandle" ∧ y_Law_say.cls ≠ "java/lang/invoke/VarHandle" ∧ (parseMethodDescriptor y_Law_say.desc).map (fun d => d.parameters.length) = some 3 := by decide +kernel
theorem d_Law_say_0 : decode method_5_code 0 = .ok (.aload_n 3, 1) := by decide +kernel
theorem d_Law_say_1 : decode method_5_code 1 = .ok (.iconst 0, 1) := by decide +kernel
theorem d_Law_say_2 : decode method_5_code 2 = .ok (.aload_n 0, 1) := by decide +kernel
theorem d_Law_say_3 : decode method_5_code 3 = .ok (.lload_n 1, 1) := by decide +kernel
theorem d_Law_say_4 : decode method_5_code 4 = .ok (.invokevirtual 21, 3) := by decide +kernel
theorem d_Law_say_7 : decode method_5_code 7 = .ok (.i2l, 1) := by decide +kernel
theorem d_Law_say_8 : decode method_5_code 8 = .ok (.lastore, 1) := by decide +kernel
theorem d_Law_say_9 : decode method_5_code 9 = .ok (.goto 11, 3) := by decide +kernel
theorem d_Law_say_12 : decode method_5_code 12 = .ok (.astore 4, 2) := by decide +kernel
theorem d_Law_say_14 : decode method_5_code 14 = .ok (.iconst 1, 1) := by decide +kernel
theorem d_Law_say_15 : decode method_5_code 15 = .ok (.ireturn, 1) := by decide +kernel
theorem d_Law_say_16 : decode method_5_code 16 = .ok (.astore 4, 2) := by decide +kernel
theorem d_Law_say_18 : decode method_5_code 18 = .ok (.iconst 2, 1) := by decide +kernel
theorem d_Law_say_19 : decode method_5_code 19 = .ok (.ireturn, 1) := by decide +kernel
theorem d_Law_say_20 : decode method_5_code 20 = .ok (.iconst 0, 1) := by decide +kernel
theorem d_Law_say_21 : decode method_5_code 21 = .ok (.ireturn, 1) := by decide +kernel
theorem kM_Law_21 : Cond.methodLink "FaultRulesLaw" (21 : Nat) ({ cls := "FaultRules", name := "say", desc := "(J)I" } : Jvm.MethodName) ∈ xT := x_t3 rfl (i := 9) rfl
theorem kI_FaultRules_say : Cond.instanceMethod ({ cls := "FaultRules", name := "say", desc := "(J)I" } : Jvm.MethodName) ∈ xT := x_t3 rfl (i := 10) rfl
theorem kS_586 : Cond.selects "FaultRules" ({ cls := "FaultRules", name := "say", desc := "(J)I" } : Jvm.MethodName) ({ cls := "FaultRules", name := "say", desc := "(J)I" } : Jvm.MethodName) ∈ xT := x_t3 rfl (i := 11) rfl
abbrev y_Law_trim : MethodName := { cls := "FaultRulesLaw", name := "trim", desc := "(LFaultRules;I[J)I" }
theorem kC_Law_trim : Cond.codeWith ({ cls := "FaultRulesLaw", name := "trim", desc := "(LFaultRules;I[J)I" } : Jvm.MethodName) method_6_code (4 : Nat) (Option.some Jvm.ClassFile.FieldType.int) [((0 : Nat), (9 : Nat), (12 : Nat), (13 : Nat))] ∈ xT := x_t3 rfl (i := 21) rfl
theorem hd_Law_trim : y_Law_trim.cls ≠ "java/lang/invoke/MethodHandle" ∧ y_Law_trim.cls ≠ "java/lang/invoke/VarHandle" ∧ (parseMethodDescriptor y_Law_trim.desc).map (fun d => d.parameters.length) = some 3 := by decide +kernel
theorem d_Law_trim_0 : decode method_6_code 0 = .ok (.aload_n 2, 1) := by decide +kernel
theorem d_Law_trim_1 : decode method_6_code 1 = .ok (.iconst 0, 1) := by decide +kernel
theorem d_Law_trim_2 : decode method_6_code 2 = .ok (.aload_n 0, 1) := by decide +kernel
theorem d_Law_trim_3 : decode method_6_code 3 = .ok (.iload_n 1, 1) := by decide +kernel
theorem d_Law_trim_4 : decode method_6_code 4 = .ok (.invokevirtual 25, 3) := by decide +kernel
theorem d_Law_trim_7 : decode method_6_code 7 = .ok (.i2l, 1) := by decide +kernel
theorem d_Law_trim_8 : decode method_6_code 8 = .ok (.lastore, 1) := by decide +kernel
theorem d_Law_trim_9 : decode method_6_code 9 = .ok (.goto 6, 3) := by decide +kernel
theorem d_Law_trim_12 : decode method_6_code 12 = .ok (.astore_n 3, 1) := by decide +kernel
theorem d_Law_trim_13 : decode method_6_code 13 = .ok (.iconst 1, 1) := by decide +kernel
theorem d_Law_trim_14 : decode method_6_code 14 = .ok (.ireturn, 1) := by decide +kernel
theorem d_Law_trim_15 : decode method_6_code 15 = .ok (.iconst 0, 1) := by decide +kernel
theorem d_Law_trim_16 : decode method_6_code 16 = .ok (.ireturn, 1) := by decide +kernel
theorem kM_Law_25 : Cond.methodLink "FaultRulesLaw" (25 : Nat) ({ cls := "FaultRules", name := "trim", desc := "(I)I" } : Jvm.MethodName) ∈ xT := x_t3 rfl (i := 22) rfl
theorem kI_FaultRules_trim : Cond.instanceMethod ({ cls := "FaultRules", name := "trim", desc := "(I)I" } : Jvm.MethodName) ∈ xT := x_t3 rfl (i := 23) rfl
theorem kS_590 : Cond.selects "FaultRules" ({ cls := "FaultRules", name := "trim", desc := "(I)I" } : Jvm.MethodName) ({ cls := "FaultRules", name := "trim", desc := "(I)I" } : Jvm.MethodName) ∈ xT := x_t3 rfl (i := 24) rfl
abbrev y_Law_run : MethodName := { cls := "FaultRulesLaw", name := "run", desc := "(LFaultRules;II[J)I" }
theorem kC_Law_run : Cond.codeWith ({ cls := "FaultRulesLaw", name := "run", desc := "(LFaultRules;II[J)I" } : Jvm.MethodName) method_7_code (5 : Nat) (Option.some Jvm.ClassFile.FieldType.int) [((0 : Nat), (10 : Nat), (13 : Nat), (13 : Nat)), ((0 : Nat), (10 : Nat), (17 : Nat), (15 : Nat))] ∈ xT := x_t3 rfl (i := 29) rfl
theorem hd_Law_run : y_Law_run.cls ≠ "java/lang/invoke/MethodHandle" ∧ y_Law_run.cls ≠ "java/lang/invoke/VarHandle" ∧ (parseMethodDescriptor y_Law_run.desc).map (fun d => d.parameters.length) = some 4 := by decide +kernel
theorem d_Law_run_0 : decode method_7_code 0 = .ok (.aload_n 3, 1) := by decide +kernel
theorem d_Law_run_1 : decode method_7_code 1 = .ok (.iconst 0, 1) := by decide +kernel
theorem d_Law_run_2 : decode method_7_code 2 = .ok (.aload_n 0, 1) := by decide +kernel
theorem d_Law_run_3 : decode method_7_code 3 = .ok (.iload_n 1, 1) := by decide +kernel
theorem d_Law_run_4 : decode method_7_code 4 = .ok (.iload_n 2, 1) := by decide +kernel
theorem d_Law_run_5 : decode method_7_code 5 = .ok (.invokevirtual 29, 3) := by decide +kernel
theorem d_Law_run_8 : decode method_7_code 8 = .ok (.i2l, 1) := by decide +kernel
theorem d_Law_run_9 : decode method_7_code 9 = .ok (.lastore, 1) := by decide +kernel
theorem d_Law_run_10 : decode method_7_code 10 = .ok (.goto 11, 3) := by decide +kernel
theorem d_Law_run_13 : decode method_7_code 13 = .ok (.astore 4, 2) := by decide +kernel
theorem d_Law_run_15 : decode method_7_code 15 = .ok (.iconst 1, 1) := by decide +kernel
theorem d_Law_run_16 : decode method_7_code 16 = .ok (.ireturn, 1) := by decide +kernel
theorem d_Law_run_17 : decode method_7_code 17 = .ok (.astore 4, 2) := by decide +kernel
theorem d_Law_run_19 : decode method_7_code 19 = .ok (.iconst 2, 1) := by decide +kernel
theorem d_Law_run_20 : decode method_7_code 20 = .ok (.ireturn, 1) := by decide +kernel
theorem d_Law_run_21 : decode method_7_code 21 = .ok (.iconst 0, 1) := by decide +kernel
theorem d_Law_run_22 : decode method_7_code 22 = .ok (.ireturn, 1) := by decide +kernel
theorem kM_Law_29 : Cond.methodLink "FaultRulesLaw" (29 : Nat) ({ cls := "FaultRules", name := "run", desc := "(II)I" } : Jvm.MethodName) ∈ xT := x_t3 rfl (i := 30) rfl
theorem kI_FaultRules_run : Cond.instanceMethod ({ cls := "FaultRules", name := "run", desc := "(II)I" } : Jvm.MethodName) ∈ xT := x_t3 rfl (i := 31) rfl
theorem kS_594 : Cond.selects "FaultRules" ({ cls := "FaultRules", name := "run", desc := "(II)I" } : Jvm.MethodName) ({ cls := "FaultRules", name := "run", desc := "(II)I" } : Jvm.MethodName) ∈ xT := x_t3 rfl (i := 32) rfl
abbrev y_Law_fault : MethodName := { cls := "FaultRulesLaw", name := "fault", desc := "(LFaultRules;II[J)I" }
theorem kC_Law_fault : Cond.codeWith ({ cls := "FaultRulesLaw", name := "fault", desc := "(LFaultRules;II[J)I" } : Jvm.MethodName) method_8_code (5 : Nat) (Option.some Jvm.ClassFile.FieldType.int) [((0 : Nat), (10 : Nat), (13 : Nat), (13 : Nat)), ((0 : Nat), (10 : Nat), (17 : Nat), (15 : Nat))] ∈ xT := x_t3 rfl (i := 102) rfl
theorem hd_Law_fault : y_Law_fault.cls ≠ "java/lang/invoke/MethodHandle" ∧ y_Law_fault.cls ≠ "java/lang/invoke/VarHandle" ∧ (parseMethodDescriptor y_Law_fault.desc).map (fun d => d.parameters.length) = some 4 := by decide +kernel
theorem d_Law_fault_0 : decode method_8_code 0 = .ok (.aload_n 3, 1) := by decide +kernel
theorem d_Law_fault_1 : decode method_8_code 1 = .ok (.iconst 0, 1) := by decide +kernel
theorem d_Law_fault_2 : decode method_8_code 2 = .ok (.aload_n 0, 1) := by decide +kernel
theorem d_Law_fault_3 : decode method_8_code 3 = .ok (.iload_n 1, 1) := by decide +kernel
theorem d_Law_fault_4 : decode method_8_code 4 = .ok (.iload_n 2, 1) := by decide +kernel
theorem d_Law_fault_5 : decode method_8_code 5 = .ok (.invokevirtual 32, 3) := by decide +kernel
theorem d_Law_fault_8 : decode method_8_code 8 = .ok (.i2l, 1) := by decide +kernel
theorem d_Law_fault_9 : decode method_8_code 9 = .ok (.lastore, 1) := by decide +kernel
theorem d_Law_fault_10 : decode method_8_code 10 = .ok (.goto 11, 3) := by decide +kernel
theorem d_Law_fault_13 : decode method_8_code 13 = .ok (.astore 4, 2) := by decide +kernel
theorem d_Law_fault_15 : decode method_8_code 15 = .ok (.iconst 1, 1) := by decide +kernel
theorem d_Law_fault_16 : decode method_8_code 16 = .ok (.ireturn, 1) := by decide +kernel
theorem d_Law_fault_17 : decode method_8_code 17 = .ok (.astore 4, 2) := by decide +kernel
theorem d_Law_fault_19 : decode method_8_code 19 = .ok (.iconst 2, 1) := by decide +kernel
theorem d_Law_fault_20 : decode method_8_code 20 = .ok (.ireturn, 1) := by decide +kernel
theorem d_Law_fault_21 : decode method_8_code 21 = .ok (.iconst 0, 1) := by decide +kernel
theorem d_Law_fault_22 : decode method_8_code 22 = .ok (.ireturn, 1) := by decide +kernel
theorem kM_Law_32 : Cond.methodLink "FaultRulesLaw" (32 : Nat) ({ cls := "FaultRules", name := "fault", desc := "(II)I" } : Jvm.MethodName) ∈ xT := x_t3 rfl (i := 103) rfl
theorem kI_FaultRules_fault : Cond.instanceMethod ({ cls := "FaultRules", name := "fault", desc := "(II)I" } : Jvm.MethodName) ∈ xT := x_t3 rfl (i := 104) rfl
theorem kS_598 : Cond.selects "FaultRules" ({ cls := "FaultRules", name := "fault", desc := "(II)I" } : Jvm.MethodName) ({ cls := "FaultRules", name := "fault", desc := "(II)I" } : Jvm.MethodName) ∈ xT := x_t3 rfl (i := 105) rfl
abbrev y_Law_money : MethodName := { cls := "FaultRulesLaw", name := "money", desc := "(LFaultRules;[J)I" }
theorem kC_Law_money : Cond.codeWith ({ cls := "FaultRulesLaw", name := "money", desc := "(LFaultRules;[J)I" } : Jvm.MethodName) method_9_code (3 : Nat) (Option.some Jvm.ClassFile.FieldType.int) [((0 : Nat), (8 : Nat), (11 : Nat), (15 : Nat))] ∈ xT := x_t3 rfl (i := 115) rfl
theorem hd_Law_money : y_Law_money.cls ≠ "java/lang/invoke/MethodHandle" ∧ y_Law_money.cls ≠ "java/lang/invoke/VarHandle" ∧ (parseMethodDescriptor y_Law_money.desc).map (fun d => d.parameters.length) = some 2 := by decide +kernel
theorem d_Law_money_0 : decode method_9_code 0 = .ok (.aload_n 1, 1) := by decide +kernel
theorem d_Law_money_1 : decode method_9_code 1 = .ok (.iconst 0, 1) := by decide +kernel
theorem d_Law_money_2 : decode method_9_code 2 = .ok (.aload_n 0, 1) := by decide +kernel
theorem d_Law_money_3 : decode method_9_code 3 = .ok (.invokevirtual 35, 3) := by decide +kernel
theorem d_Law_money_6 : decode method_9_code 6 = .ok (.i2l, 1) := by decide +kernel
theorem d_Law_money_7 : decode method_9_code 7 = .ok (.lastore, 1) := by decide +kernel
theorem d_Law_money_8 : decode method_9_code 8 = .ok (.goto 6, 3) := by decide +kernel
theorem d_Law_money_11 : decode method_9_code 11 = .ok (.astore_n 2, 1) := by decide +kernel
theorem d_Law_money_12 : decode method_9_code 12 = .ok (.iconst 1, 1) := by decide +kernel
theorem d_Law_money_13 : decode method_9_code 13 = .ok (.ireturn, 1) := by decide +kernel
theorem d_Law_money_14 : decode method_9_code 14 = .ok (.iconst 0, 1) := by decide +kernel
theorem d_Law_money_15 : decode method_9_code 15 = .ok (.ireturn, 1) := by decide +kernel
theorem kM_Law_35 : Cond.methodLink "FaultRulesLaw" (35 : Nat) ({ cls := "FaultRules", name := "money", desc := "()I" } : Jvm.MethodName) ∈ xT := x_t3 rfl (i := 116) rfl
theorem kI_FaultRules_money : Cond.instanceMethod ({ cls := "FaultRules", name := "money", desc := "()I" } : Jvm.MethodName) ∈ xT := x_t3 rfl (i := 117) rfl
theorem kS_602 : Cond.selects "FaultRules" ({ cls := "FaultRules", name := "money", desc := "()I" } : Jvm.MethodName) ({ cls := "FaultRules", name := "money", desc := "()I" } : Jvm.MethodName) ∈ xT := x_t3 rfl (i := 118) rfl
abbrev y_Law_held : MethodName := { cls := "FaultRulesLaw", name := "held", desc := "(LFaultRules;I[J)I" }
theorem kC_Law_held : Cond.codeWith ({ cls := "FaultRulesLaw", name := "held", desc := "(LFaultRules;I[J)I" } : Jvm.MethodName) method_10_code (4 : Nat) (Option.some Jvm.ClassFile.FieldType.int) [((0 : Nat), (9 : Nat), (12 : Nat), (13 : Nat)), ((0 : Nat), (9 : Nat), (15 : Nat), (15 : Nat))] ∈ xT := x_t3 rfl (i := 122) rfl
theorem hd_Law_held : y_Law_held.cls ≠ "java/lang/invoke/MethodHandle" ∧ y_Law_held.cls ≠ "java/lang/invoke/VarHandle" ∧ (parseMethodDescriptor y_Law_held.desc).map (fun d => d.parameters.length) = some 3 := by decide +kernel
theorem d_Law_held_0 : decode method_10_code 0 = .ok (.aload_n 2, 1) := by decide +kernel
theorem d_Law_held_1 : decode method_10_code 1 = .ok (.iconst 0, 1) := by decide +kernel
theorem d_Law_held_2 : decode method_10_code 2 = .ok (.aload_n 0, 1) := by decide +kernel
theorem d_Law_held_3 : decode method_10_code 3 = .ok (.iload_n 1, 1) := by decide +kernel
theorem d_Law_held_4 : decode method_10_code 4 = .ok (.invokevirtual 39, 3) := by decide +kernel
theorem d_Law_held_7 : decode method_10_code 7 = .ok (.i2l, 1) := by decide +kernel
theorem d_Law_held_8 : decode method_10_code 8 = .ok (.lastore, 1) := by decide +kernel
theorem d_Law_held_9 : decode method_10_code 9 = .ok (.goto 9, 3) := by decide +kernel
theorem d_Law_held_12 : decode method_10_code 12 = .ok (.astore_n 3, 1) := by decide +kernel
theorem d_Law_held_13 : decode method_10_code 13 = .ok (.iconst 1, 1) := by decide +kernel
theorem d_Law_held_14 : decode method_10_code 14 = .ok (.ireturn, 1) := by decide +kernel
theorem d_Law_held_15 : decode method_10_code 15 = .ok (.astore_n 3, 1) := by decide +kernel
theorem d_Law_held_16 : decode method_10_code 16 = .ok (.iconst 2, 1) := by decide +kernel
theorem d_Law_held_17 : decode method_10_code 17 = .ok (.ireturn, 1) := by decide +kernel
theorem d_Law_held_18 : decode method_10_code 18 = .ok (.iconst 0, 1) := by decide +kernel
theorem d_Law_held_19 : decode method_10_code 19 = .ok (.ireturn, 1) := by decide +kernel
theorem kM_Law_39 : Cond.methodLink "FaultRulesLaw" (39 : Nat) ({ cls := "FaultRules", name := "held", desc := "(I)I" } : Jvm.MethodName) ∈ xT := x_t3 rfl (i := 123) rfl
theorem kI_FaultRules_held : Cond.instanceMethod ({ cls := "FaultRules", name := "held", desc := "(I)I" } : Jvm.MethodName) ∈ xT := x_t3 rfl (i := 124) rfl
theorem kS_606 : Cond.selects "FaultRules" ({ cls := "FaultRules", name := "held", desc := "(I)I" } : Jvm.MethodName) ({ cls := "FaultRules", name := "held", desc := "(I)I" } : Jvm.MethodName) ∈ xT := x_t3 rfl (i := 125) rfl
abbrev y_Law_holds : MethodName := { cls := "FaultRulesLaw", name := "holds", desc := "(LFaultRules;III[J)I" }
theorem kC_Law_holds : Cond.codeWith ({ cls := "FaultRulesLaw", name := "holds", desc := "(LFaultRules;III[J)I" } : Jvm.MethodName) method_11_code (6 : Nat) (Option.some Jvm.ClassFile.FieldType.int) [((0 : Nat), (19 : Nat), (22 : Nat), (13 : Nat))] ∈ xT := x_t3 rfl (i := 130) rfl
theorem hd_Law_holds : y_Law_holds.cls ≠ "java/lang/invoke/MethodHandle" ∧ y_Law_holds.cls ≠ "java/lang/invoke/VarHandle" ∧ (parseMethodDescriptor y_Law_holds.desc).map (fun d => d.parameters.length) = some 5 := by decide +kernel
theorem d_Law_holds_0 : decode method_11_code 0 = .ok (.aload 4, 2) := by decide +kernel
theorem d_Law_holds_2 : decode method_11_code 2 = .ok (.iconst 0, 1) := by decide +kernel
theorem d_Law_holds_3 : decode method_11_code 3 = .ok (.aload_n 0, 1) := by decide +kernel
theorem d_Law_holds_4 : decode method_11_code 4 = .ok (.iload_n 1, 1) := by decide +kernel
theorem d_Law_holds_5 : decode method_11_code 5 = .ok (.iload_n 2, 1) := by decide +kernel
theorem d_Law_holds_6 : decode method_11_code 6 = .ok (.iload_n 3, 1) := by decide +kernel
theorem d_Law_holds_7 : decode method_11_code 7 = .ok (.invokevirtual 42, 3) := by decide +kernel
theorem d_Law_holds_10 : decode method_11_code 10 = .ok (.ifCond .eq 7, 3) := by decide +kernel
theorem d_Law_holds_13 : decode method_11_code 13 = .ok (.lconst 1, 1) := by decide +kernel
theorem d_Law_holds_14 : decode method_11_code 14 = .ok (.goto 4, 3) := by decide +kernel
theorem d_Law_holds_17 : decode method_11_code 17 = .ok (.lconst 0, 1) := by decide +kernel
theorem d_Law_holds_18 : decode method_11_code 18 = .ok (.lastore, 1) := by decide +kernel
theorem d_Law_holds_19 : decode method_11_code 19 = .ok (.goto 7, 3) := by decide +kernel
theorem d_Law_holds_22 : decode method_11_code 22 = .ok (.astore 5, 2) := by decide +kernel
theorem d_Law_holds_24 : decode method_11_code 24 = .ok (.iconst 1, 1) := by decide +kernel
theorem d_Law_holds_25 : decode method_11_code 25 = .ok (.ireturn, 1) := by decide +kernel
theorem d_Law_holds_26 : decode method_11_code 26 = .ok (.iconst 0, 1) := by decide +kernel
theorem d_Law_holds_27 : decode method_11_code 27 = .ok (.ireturn, 1) := by decide +kernel
theorem kM_Law_42 : Cond.methodLink "FaultRulesLaw" (42 : Nat) ({ cls := "FaultRules", name := "holds", desc := "(III)Z" } : Jvm.MethodName) ∈ xT := x_t3 rfl (i := 131) rfl
theorem kI_FaultRules_holds : Cond.instanceMethod ({ cls := "FaultRules", name := "holds", desc := "(III)Z" } : Jvm.MethodName) ∈ xT := x_t3 rfl (i := 132) rfl
theorem kS_610 : Cond.selects "FaultRules" ({ cls := "FaultRules", name := "holds", desc := "(III)Z" } : Jvm.MethodName) ({ cls := "FaultRules", name := "holds", desc := "(III)Z" } : Jvm.MethodName) ∈ xT := x_t3 rfl (i := 133) rfl
abbrev y_Law_line : MethodName := { cls := "FaultRulesLaw", name := "line", desc := "(LFaultRules;IIIII[J)I" }
theorem kC_Law_line : Cond.codeWith ({ cls := "FaultRulesLaw", name := "line", desc := "(LFaultRules;IIIII[J)I" } : Jvm.MethodName) method_12_code (8 : Nat) (Option.some Jvm.ClassFile.FieldType.int) [((0 : Nat), (15 : Nat), (18 : Nat), (13 : Nat))] ∈ xT := x_t3 rfl (i := 139) rfl
theorem hd_Law_line : y_Law_line.cls ≠ "java/lang/invoke/MethodHandle" ∧ y_Law_line.cls ≠ "java/lang/invoke/VarHandle" ∧ (parseMethodDescriptor y_Law_line.desc).map (fun d => d.parameters.length) = some 7 := by decide +kernel
theorem d_Law_line_0 : decode method_12_code 0 = .ok (.aload 6, 2) := by decide +kernel
theorem d_Law_line_2 : decode method_12_code 2 = .ok (.iconst 0, 1) := by decide +kernel
theorem d_Law_line_3 : decode method_12_code 3 = .ok (.aload_n 0, 1) := by decide +kernel
theorem d_Law_line_4 : decode method_12_code 4 = .ok (.iload_n 1, 1) := by decide +kernel
theorem d_Law_line_5 : decode method_12_code 5 = .ok (.iload_n 2, 1) := by decide +kernel
theorem d_Law_line_6 : decode method_12_code 6 = .ok (.iload_n 3, 1) := by decide +kernel
theorem d_Law_line_7 : decode method_12_code 7 = .ok (.iload 4, 2) := by decide +kernel
theorem d_Law_line_9 : decode method_12_code 9 = .ok (.iload 5, 2) := by decide +kernel
theorem d_Law_line_11 : decode method_12_code 11 = .ok (.invokevirtual 46, 3) := by decide +kernel
theorem d_Law_line_14 : decode method_12_code 14 = .ok (.lastore, 1) := by decide +kernel
theorem d_Law_line_15 : decode method_12_code 15 = .ok (.goto 7, 3) := by decide +kernel
theorem d_Law_line_18 : decode method_12_code 18 = .ok (.astore 7, 2) := by decide +kernel
theorem d_Law_line_20 : decode method_12_code 20 = .ok (.iconst 1, 1) := by decide +kernel
theorem d_Law_line_21 : decode method_12_code 21 = .ok (.ireturn, 1) := by decide +kernel
theorem d_Law_line_22 : decode method_12_code 22 = .ok (.iconst 0, 1) := by decide +kernel
theorem d_Law_line_23 : decode method_12_code 23 = .ok (.ireturn, 1) := by decide +kernel
theorem kM_Law_46 : Cond.methodLink "FaultRulesLaw" (46 : Nat) ({ cls := "FaultRules", name := "line", desc := "(IIIII)J" } : Jvm.MethodName) ∈ xT := x_t3 rfl (i := 140) rfl
theorem kI_FaultRules_line : Cond.instanceMethod ({ cls := "FaultRules", name := "line", desc := "(IIIII)J" } : Jvm.MethodName) ∈ xT := x_t3 rfl (i := 141) rfl
theorem kS_614 : Cond.selects "FaultRules" ({ cls := "FaultRules", name := "line", desc := "(IIIII)J" } : Jvm.MethodName) ({ cls := "FaultRules", name := "line", desc := "(IIIII)J" } : Jvm.MethodName) ∈ xT := x_t3 rfl (i := 142) rfl
abbrev y_Law_leave : MethodName := { cls := "FaultRulesLaw", name := "leave", desc := "(LFaultRules;IZ[J)I" }
theorem kC_Law_leave : Cond.codeWith ({ cls := "FaultRulesLaw", name := "leave", desc := "(LFaultRules;IZ[J)I" } : Jvm.MethodName) method_13_code (5 : Nat) (Option.some Jvm.ClassFile.FieldType.int) [((0 : Nat), (17 : Nat), (20 : Nat), (13 : Nat)), ((0 : Nat), (17 : Nat), (24 : Nat), (15 : Nat))] ∈ xT := x_t3 rfl (i := 164) rfl
theorem hd_Law_leave : y_Law_leave.cls ≠ "java/lang/invoke/MethodHandle" ∧ y_Law_leave.cls ≠ "java/lang/invoke/VarHandle" ∧ (parseMethodDescriptor y_Law_leave.desc).map (fun d => d.parameters.length) = some 4 := by decide +kernel
theorem d_Law_leave_0 : decode method_13_code 0 = .ok (.aload_n 3, 1) := by decide +kernel
theorem d_Law_leave_1 : decode method_13_code 1 = .ok (.iconst 0, 1) := by decide +kernel
theorem d_Law_leave_2 : decode method_13_code 2 = .ok (.aload_n 0, 1) := by decide +kernel
theorem d_Law_leave_3 : decode method_13_code 3 = .ok (.iload_n 1, 1) := by decide +kernel
theorem d_Law_leave_4 : decode method_13_code 4 = .ok (.iload_n 2, 1) := by decide +kernel
theorem d_Law_leave_5 : decode method_13_code 5 = .ok (.invokevirtual 50, 3) := by decide +kernel
theorem d_Law_leave_8 : decode method_13_code 8 = .ok (.ifCond .eq 7, 3) := by decide +kernel
theorem d_Law_leave_11 : decode method_13_code 11 = .ok (.lconst 1, 1) := by decide +kernel
theorem d_Law_leave_12 : decode method_13_code 12 = .ok (.goto 4, 3) := by decide +kernel
theorem d_Law_leave_15 : decode method_13_code 15 = .ok (.lconst 0, 1) := by decide +kernel
theorem d_Law_leave_16 : decode method_13_code 16 = .ok (.lastore, 1) := by decide +kernel
theorem d_Law_leave_17 : decode method_13_code 17 = .ok (.goto 11, 3) := by decide +kernel
theorem d_Law_leave_20 : decode method_13_code 20 = .ok (.astore 4, 2) := by decide +kernel
theorem d_Law_leave_22 : decode method_13_code 22 = .ok (.iconst 1, 1) := by decide +kernel
theorem d_Law_leave_23 : decode method_13_code 23 = .ok (.ireturn, 1) := by decide +kernel
theorem d_Law_leave_24 : decode method_13_code 24 = .ok (.astore 4, 2) := by decide +kernel
theorem d_Law_leave_26 : decode method_13_code 26 = .ok (.iconst 2, 1) := by decide +kernel
theorem d_Law_leave_27 : decode method_13_code 27 = .ok (.ireturn, 1) := by decide +kernel
theorem d_Law_leave_28 : decode method_13_code 28 = .ok (.iconst 0, 1) := by decide +kernel
theorem d_Law_leave_29 : decode method_13_code 29 = .ok (.ireturn, 1) := by decide +kernel
theorem kM_Law_50 : Cond.methodLink "FaultRulesLaw" (50 : Nat) ({ cls := "FaultRules", name := "leave", desc := "(IZ)Z" } : Jvm.MethodName) ∈ xT := x_t3 rfl (i := 165) rfl
theorem kI_FaultRules_leave : Cond.instanceMethod ({ cls := "FaultRules", name := "leave", desc := "(IZ)Z" } : Jvm.MethodName) ∈ xT := x_t3 rfl (i := 166) rfl
theorem kS_618 : Cond.selects "FaultRules" ({ cls := "FaultRules", name := "leave", desc := "(IZ)Z" } : Jvm.MethodName) ({ cls := "FaultRules", name := "leave", desc := "(IZ)Z" } : Jvm.MethodName) ∈ xT := x_t3 rfl (i := 167) rfl
abbrev y_Law_cause : MethodName := { cls := "FaultRulesLaw", name := "cause", desc := "(LFaultRules;II[J)I" }
theorem kC_Law_cause : Cond.codeWith ({ cls := "FaultRulesLaw", name := "cause", desc := "(LFaultRules;II[J)I" } : Jvm.MethodName) method_14_code (5 : Nat) (Option.some Jvm.ClassFile.FieldType.int) [((0 : Nat), (10 : Nat), (13 : Nat), (13 : Nat))] ∈ xT := x_t3 rfl (i := 185) rfl
theorem hd_Law_cause : y_Law_cause.cls ≠ "java/lang/invoke/MethodHandle" ∧ y_Law_cause.cls ≠ "java/lang/invoke/VarHandle" ∧ (parseMethodDescriptor y_Law_cause.desc).map (fun d => d.parameters.length) = some 4 := by decide +kernel
theorem d_Law_cause_0 : decode method_14_code 0 = .ok (.aload_n 3, 1) := by decide +kernel
theorem d_Law_cause_1 : decode method_14_code 1 = .ok (.iconst 0, 1) := by decide +kernel
theorem d_Law_cause_2 : decode method_14_code 2 = .ok (.aload_n 0, 1) := by decide +kernel
theorem d_Law_cause_3 : decode method_14_code 3 = .ok (.iload_n 1, 1) := by decide +kernel
theorem d_Law_cause_4 : decode method_14_code 4 = .ok (.iload_n 2, 1) := by decide +kernel
theorem d_Law_cause_5 : decode method_14_code 5 = .ok (.invokevirtual 54, 3) := by decide +kernel
theorem d_Law_cause_8 : decode method_14_code 8 = .ok (.i2l, 1) := by decide +kernel
theorem d_Law_cause_9 : decode method_14_code 9 = .ok (.lastore, 1) := by decide +kernel
theorem d_Law_cause_10 : decode method_14_code 10 = .ok (.goto 7, 3) := by decide +kernel
theorem d_Law_cause_13 : decode method_14_code 13 = .ok (.astore 4, 2) := by decide +kernel
theorem d_Law_cause_15 : decode method_14_code 15 = .ok (.iconst 1, 1) := by decide +kernel
theorem d_Law_cause_16 : decode method_14_code 16 = .ok (.ireturn, 1) := by decide +kernel
theorem d_Law_cause_17 : decode method_14_code 17 = .ok (.iconst 0, 1) := by decide +kernel
theorem d_Law_cause_18 : decode method_14_code 18 = .ok (.ireturn, 1) := by decide +kernel
theorem kM_Law_54 : Cond.methodLink "FaultRulesLaw" (54 : Nat) ({ cls := "FaultRules", name := "cause", desc := "(II)I" } : Jvm.MethodName) ∈ xT := x_t3 rfl (i := 186) rfl
theorem kI_FaultRules_cause : Cond.instanceMethod ({ cls := "FaultRules", name := "cause", desc := "(II)I" } : Jvm.MethodName) ∈ xT := x_t3 rfl (i := 187) rfl
theorem kS_622 : Cond.selects "FaultRules" ({ cls := "FaultRules", name := "cause", desc := "(II)I" } : Jvm.MethodName) ({ cls := "FaultRules", name := "cause", desc := "(II)I" } : Jvm.MethodName) ∈ xT := x_t3 rfl (i := 188) rfl
abbrev y_Law_causes : MethodName := { cls := "FaultRulesLaw", name := "causes", desc := "(LFaultRules;[J)I" }
theorem kC_Law_causes : Cond.codeWith ({ cls := "FaultRulesLaw", name := "causes", desc := "(LFaultRules;[J)I" } : Jvm.MethodName) method_15_code (3 : Nat) (Option.some Jvm.ClassFile.FieldType.int) [((0 : Nat), (8 : Nat), (11 : Nat), (15 : Nat))] ∈ xT := x_t3 rfl (i := 193) rfl
theorem hd_Law_causes : y_Law_causes.cls ≠ "java/lang/invoke/MethodHandle" ∧ y_Law_causes.cls ≠ "java/lang/invoke/VarHandle" ∧ (parseMethodDescriptor y_Law_causes.desc).map (fun d => d.parameters.length) = some 2 := by decide +kernel
theorem d_Law_causes_0 : decode method_15_code 0 = .ok (.aload_n 1, 1) := by decide +kernel
theorem d_Law_causes_1 : decode method_15_code 1 = .ok (.iconst 0, 1) := by decide +kernel
theorem d_Law_causes_2 : decode method_15_code 2 = .ok (.aload_n 0, 1) := by decide +kernel
theorem d_Law_causes_3 : decode method_15_code 3 = .ok (.invokevirtual 57, 3) := by decide +kernel
theorem d_Law_causes_6 : decode method_15_code 6 = .ok (.i2l, 1) := by decide +kernel
theorem d_Law_causes_7 : decode method_15_code 7 = .ok (.lastore, 1) := by decide +kernel
theorem d_Law_causes_8 : decode method_15_code 8 = .ok (.goto 6, 3) := by decide +kernel
theorem d_Law_causes_11 : decode method_15_code 11 = .ok (.astore_n 2, 1) := by decide +kernel
theorem d_Law_causes_12 : decode method_15_code 12 = .ok (.iconst 1, 1) := by decide +kernel
theorem d_Law_causes_13 : decode method_15_code 13 = .ok (.ireturn, 1) := by decide +kernel
theorem d_Law_causes_14 : decode method_15_code 14 = .ok (.iconst 0, 1) := by decide +kernel
theorem d_Law_causes_15 : decode method_15_code 15 = .ok (.ireturn, 1) := by decide +kernel
theorem kM_Law_57 : Cond.methodLink "FaultRulesLaw" (57 : Nat) ({ cls := "FaultRules", name := "causes", desc := "()I" } : Jvm.MethodName) ∈ xT := x_t3 rfl (i := 194) rfl
theorem kI_FaultRules_causes : Cond.instanceMethod ({ cls := "FaultRules", name := "causes", desc := "()I" } : Jvm.MethodName) ∈ xT := x_t3 rfl (i := 195) rfl
theorem kS_626 : Cond.selects "FaultRules" ({ cls := "FaultRules", name := "causes", desc := "()I" } : Jvm.MethodName) ({ cls := "FaultRules", name := "causes", desc := "()I" } : Jvm.MethodName) ∈ xT := x_t3 rfl (i := 196) rfl
theorem kL_LeftOut_0 : Cond.laysFinal "FaultRules$LeftOut" "FaultRules$LeftOut" "minutes" "[I" ∈ xT := x_t1 rfl (i := 139) rfl
theorem kL_LeftOut_1 : Cond.lays "FaultRules$LeftOut" "FaultRules$LeftOut" "count" "I" ∈ xT := x_t1 rfl (i := 141) rfl
theorem i_LeftOut : ∀ w ∈ u_ws R_LeftOut T_LeftOut 2, w ∈ xT := by
  show ∀ w ∈ ([Cond.laysFinal "FaultRules$LeftOut" "FaultRules$LeftOut" "minutes" "[I", Cond.lays "FaultRules$LeftOut" "FaultRules$LeftOut" "count" "I"] : List Cond), w ∈ xT
  exact x_fc kL_LeftOut_0 (x_fc kL_LeftOut_1 (x_fn))
theorem kL_Reader_0 : Cond.lays "FaultRules$Reader" "FaultRules$Reader" "due" "I" ∈ xT := x_t1 rfl (i := 84) rfl
theorem kL_Reader_1 : Cond.lays "FaultRules$Reader" "FaultRules$Reader" "isNegative" "Z" ∈ xT := x_t1 rfl (i := 86) rfl
theorem i_Reader : ∀ w ∈ u_ws R_Reader T_Reader 2, w ∈ xT := by
  show ∀ w ∈ ([Cond.lays "FaultRules$Reader" "FaultRules$Reader" "due" "I", Cond.lays "FaultRules$Reader" "FaultRules$Reader" "isNegative" "Z"] : List Cond), w ∈ xT
  exact x_fc kL_Reader_0 (x_fc kL_Reader_1 (x_fn))
theorem kL_Rows_0 : Cond.laysFinal "FaultRules$Rows" "FaultRules$Rows" "minutes" "[I" ∈ xT := x_t1 rfl (i := 36) rfl
theorem kL_Rows_1 : Cond.laysFinal "FaultRules$Rows" "FaultRules$Rows" "values" "[I" ∈ xT := x_t1 rfl (i := 38) rfl
theorem kL_Rows_2 : Cond.laysFinal "FaultRules$Rows" "FaultRules$Rows" "starts" "[I" ∈ xT := x_t1 rfl (i := 40) rfl
theorem kL_Rows_3 : Cond.laysFinal "FaultRules$Rows" "FaultRules$Rows" "seen" "[I" ∈ xT := x_t1 rfl (i := 42) rfl
theorem i_Rows : ∀ w ∈ u_ws R_Rows T_Rows 4, w ∈ xT := by
  show ∀ w ∈ ([Cond.laysFinal "FaultRules$Rows" "FaultRules$Rows" "minutes" "[I", Cond.laysFinal "FaultRules$Rows" "FaultRules$Rows" "values" "[I", Cond.laysFinal "FaultRules$Rows" "FaultRules$Rows" "starts" "[I", Cond.laysFinal "FaultRules$Rows" "FaultRules$Rows" "seen" "[I"] : List Cond), w ∈ xT
  exact x_fc kL_Rows_0 (x_fc kL_Rows_1 (x_fc kL_Rows_2 (x_fc kL_Rows_3 (x_fn))))
theorem kL_RuleSet_0 : Cond.laysFinal "FaultRules$RuleSet" "FaultRules$RuleSet" "names" "[J" ∈ xT := x_t1 rfl (i := 174) rfl
theorem kL_RuleSet_1 : Cond.laysFinal "FaultRules$RuleSet" "FaultRules$RuleSet" "spans" "[I" ∈ xT := x_t1 rfl (i := 176) rfl
theorem kL_RuleSet_2 : Cond.laysFinal "FaultRules$RuleSet" "FaultRules$RuleSet" "costs" "[I" ∈ xT := x_t1 rfl (i := 178) rfl
theorem kL_RuleSet_3 : Cond.laysFinal "FaultRules$RuleSet" "FaultRules$RuleSet" "sizes" "[I" ∈ xT := x_t1 rfl (i := 180) rfl
theorem kL_RuleSet_4 : Cond.laysFinal "FaultRules$RuleSet" "FaultRules$RuleSet" "kinds" "[I" ∈ xT := x_t1 rfl (i := 182) rfl
theorem kL_RuleSet_5 : Cond.laysFinal "FaultRules$RuleSet" "FaultRules$RuleSet" "firsts" "[I" ∈ xT := x_t1 rfl (i := 184) rfl
theorem kL_RuleSet_6 : Cond.laysFinal "FaultRules$RuleSet" "FaultRules$RuleSet" "seconds" "[I" ∈ xT := x_t1 rfl (i := 186) rfl
theorem kL_RuleSet_7 : Cond.laysFinal "FaultRules$RuleSet" "FaultRules$RuleSet" "numbers" "[I" ∈ xT := x_t1 rfl (i := 188) rfl
theorem kL_RuleSet_8 : Cond.lays "FaultRules$RuleSet" "FaultRules$RuleSet" "count" "I" ∈ xT := x_t1 rfl (i := 190) rfl
theorem i_RuleSet : ∀ w ∈ u_ws R_RuleSet T_RuleSet 9, w ∈ xT := by
  show ∀ w ∈ ([Cond.laysFinal "FaultRules$RuleSet" "FaultRules$RuleSet" "names" "[J", Cond.laysFinal "FaultRules$RuleSet" "FaultRules$RuleSet" "spans" "[I", Cond.laysFinal "FaultRules$RuleSet" "FaultRules$RuleSet" "costs" "[I", Cond.laysFinal "FaultRules$RuleSet" "FaultRules$RuleSet" "sizes" "[I", Cond.laysFinal "FaultRules$RuleSet" "FaultRules$RuleSet" "kinds" "[I", Cond.laysFinal "FaultRules$RuleSet" "FaultRules$RuleSet" "firsts" "[I", Cond.laysFinal "FaultRules$RuleSet" "FaultRules$RuleSet" "seconds" "[I", Cond.laysFinal "FaultRules$RuleSet" "FaultRules$RuleSet" "numbers" "[I", Cond.lays "FaultRules$RuleSet" "FaultRules$RuleSet" "count" "I"] : List Cond), w ∈ xT
  exact x_fc kL_RuleSet_0 (x_fc kL_RuleSet_1 (x_fc kL_RuleSet_2 (x_fc kL_RuleSet_3 (x_fc kL_RuleSet_4 (x_fc kL_RuleSet_5 (x_fc kL_RuleSet_6 (x_fc kL_RuleSet_7 (x_fc kL_RuleSet_8 (x_fn)))))))))
theorem kL_Run_0 : Cond.lays "FaultRules$Run" "FaultRules$Run" "isThere" "Z" ∈ xT := x_t1 rfl (i := 110) rfl
theorem kL_Run_1 : Cond.lays "FaultRules$Run" "FaultRules$Run" "count" "I" ∈ xT := x_t1 rfl (i := 112) rfl
theorem kL_Run_2 : Cond.lays "FaultRules$Run" "FaultRules$Run" "total" "I" ∈ xT := x_t1 rfl (i := 114) rfl
theorem kL_Run_3 : Cond.lays "FaultRules$Run" "FaultRules$Run" "faultyRules" "I" ∈ xT := x_t1 rfl (i := 116) rfl
theorem kL_Run_4 : Cond.laysFinal "FaultRules$Run" "FaultRules$Run" "minutesHeld" "[I" ∈ xT := x_t1 rfl (i := 118) rfl
theorem kL_Run_5 : Cond.laysFinal "FaultRules$Run" "FaultRules$Run" "since" "[I" ∈ xT := x_t1 rfl (i := 120) rfl
theorem kL_Run_6 : Cond.laysFinal "FaultRules$Run" "FaultRules$Run" "faultRules" "[I" ∈ xT := x_t1 rfl (i := 122) rfl
theorem kL_Run_7 : Cond.laysFinal "FaultRules$Run" "FaultRules$Run" "begins" "[I" ∈ xT := x_t1 rfl (i := 124) rfl
theorem kL_Run_8 : Cond.laysFinal "FaultRules$Run" "FaultRules$Run" "ends" "[I" ∈ xT := x_t1 rfl (i := 126) rfl
theorem kL_Run_9 : Cond.laysFinal "FaultRules$Run" "FaultRules$Run" "faultCosts" "[I" ∈ xT := x_t1 rfl (i := 128) rfl
theorem i_Run : ∀ w ∈ u_ws R_Run T_Run 10, w ∈ xT := by
  show ∀ w ∈ ([Cond.lays "FaultRules$Run" "FaultRules$Run" "isThere" "Z", Cond.lays "FaultRules$Run" "FaultRules$Run" "count" "I", Cond.lays "FaultRules$Run" "FaultRules$Run" "total" "I", Cond.lays "FaultRules$Run" "FaultRules$Run" "faultyRules" "I", Cond.laysFinal "FaultRules$Run" "FaultRules$Run" "minutesHeld" "[I", Cond.laysFinal "FaultRules$Run" "FaultRules$Run" "since" "[I", Cond.laysFinal "FaultRules$Run" "FaultRules$Run" "faultRules" "[I", Cond.laysFinal "FaultRules$Run" "FaultRules$Run" "begins" "[I", Cond.laysFinal "FaultRules$Run" "FaultRules$Run" "ends" "[I", Cond.laysFinal "FaultRules$Run" "FaultRules$Run" "faultCosts" "[I"] : List Cond), w ∈ xT
  exact x_fc kL_Run_0 (x_fc kL_Run_1 (x_fc kL_Run_2 (x_fc kL_Run_3 (x_fc kL_Run_4 (x_fc kL_Run_5 (x_fc kL_Run_6 (x_fc kL_Run_7 (x_fc kL_Run_8 (x_fc kL_Run_9 (x_fn))))))))))
theorem kL_Text_0 : Cond.laysFinal "FaultRules$Text" "FaultRules$Text" "signs" "[C" ∈ xT := x_t1 rfl (i := 62) rfl
theorem kL_Text_1 : Cond.lays "FaultRules$Text" "FaultRules$Text" "size" "I" ∈ xT := x_t1 rfl (i := 64) rfl
theorem kL_Text_2 : Cond.lays "FaultRules$Text" "FaultRules$Text" "at" "I" ∈ xT := x_t1 rfl (i := 66) rfl
theorem kL_Text_3 : Cond.lays "FaultRules$Text" "FaultRules$Text" "kind" "I" ∈ xT := x_t1 rfl (i := 68) rfl
theorem kL_Text_4 : Cond.lays "FaultRules$Text" "FaultRules$Text" "amount" "I" ∈ xT := x_t1 rfl (i := 70) rfl
theorem kL_Text_5 : Cond.lays "FaultRules$Text" "FaultRules$Text" "letters" "J" ∈ xT := x_t1 rfl (i := 72) rfl
theorem i_Text : ∀ w ∈ u_ws R_Text T_Text 6, w ∈ xT := by
  show ∀ w ∈ ([Cond.laysFinal "FaultRules$Text" "FaultRules$Text" "signs" "[C", Cond.lays "FaultRules$Text" "FaultRules$Text" "size" "I", Cond.lays "FaultRules$Text" "FaultRules$Text" "at" "I", Cond.lays "FaultRules$Text" "FaultRules$Text" "kind" "I", Cond.lays "FaultRules$Text" "FaultRules$Text" "amount" "I", Cond.lays "FaultRules$Text" "FaultRules$Text" "letters" "J"] : List Cond), w ∈ xT
  exact x_fc kL_Text_0 (x_fc kL_Text_1 (x_fc kL_Text_2 (x_fc kL_Text_3 (x_fc kL_Text_4 (x_fc kL_Text_5 (x_fn))))))
theorem kL_FaultRules_0 : Cond.laysFinal "FaultRules" "FaultRules" "rows" "LFaultRules$Rows;" ∈ xT := x_t1 rfl (i := 202) rfl
theorem kL_FaultRules_1 : Cond.laysFinal "FaultRules" "FaultRules" "text" "LFaultRules$Text;" ∈ xT := x_t1 rfl (i := 204) rfl
theorem kL_FaultRules_2 : Cond.laysFinal "FaultRules" "FaultRules" "reader" "LFaultRules$Reader;" ∈ xT := x_t1 rfl (i := 206) rfl
theorem kL_FaultRules_3 : Cond.laysFinal "FaultRules" "FaultRules" "found" "LFaultRules$Run;" ∈ xT := x_t1 rfl (i := 208) rfl
theorem kL_FaultRules_4 : Cond.laysFinal "FaultRules" "FaultRules" "leftOut" "LFaultRules$LeftOut;" ∈ xT := x_t1 rfl (i := 210) rfl
theorem kL_FaultRules_5 : Cond.laysFinal "FaultRules" "FaultRules" "brought" "[I" ∈ xT := x_t1 rfl (i := 212) rfl
theorem kL_FaultRules_6 : Cond.lays "FaultRules" "FaultRules" "ruleSet" "LFaultRules$RuleSet;" ∈ xT := x_t1 rfl (i := 214) rfl
theorem kL_FaultRules_7 : Cond.lays "FaultRules" "FaultRules" "draft" "LFaultRules$RuleSet;" ∈ xT := x_t1 rfl (i := 216) rfl
theorem i_FaultRules : ∀ w ∈ u_ws R_FaultRules T_FaultRules 8, w ∈ xT := by
  show ∀ w ∈ ([Cond.laysFinal "FaultRules" "FaultRules" "rows" "LFaultRules$Rows;", Cond.laysFinal "FaultRules" "FaultRules" "text" "LFaultRules$Text;", Cond.laysFinal "FaultRules" "FaultRules" "reader" "LFaultRules$Reader;", Cond.laysFinal "FaultRules" "FaultRules" "found" "LFaultRules$Run;", Cond.laysFinal "FaultRules" "FaultRules" "leftOut" "LFaultRules$LeftOut;", Cond.laysFinal "FaultRules" "FaultRules" "brought" "[I", Cond.lays "FaultRules" "FaultRules" "ruleSet" "LFaultRules$RuleSet;", Cond.lays "FaultRules" "FaultRules" "draft" "LFaultRules$RuleSet;"] : List Cond), w ∈ xT
  exact x_fc kL_FaultRules_0 (x_fc kL_FaultRules_1 (x_fc kL_FaultRules_2 (x_fc kL_FaultRules_3 (x_fc kL_FaultRules_4 (x_fc kL_FaultRules_5 (x_fc kL_FaultRules_6 (x_fc kL_FaultRules_7 (x_fn))))))))
theorem kL_Model_0 : Cond.lays "FaultRulesModel" "FaultRulesModel" "thrown" "I" ∈ xT := x_t4 rfl (i := 8) rfl
theorem kL_Model_1 : Cond.lays "FaultRulesModel" "FaultRulesModel" "rows" "I" ∈ xT := x_t4 rfl (i := 10) rfl
theorem kL_Model_2 : Cond.laysFinal "FaultRulesModel" "FaultRulesModel" "rowPoint" "[I" ∈ xT := x_t4 rfl (i := 12) rfl
theorem kL_Model_3 : Cond.laysFinal "FaultRulesModel" "FaultRulesModel" "rowMinute" "[I" ∈ xT := x_t4 rfl (i := 14) rfl
theorem kL_Model_4 : Cond.laysFinal "FaultRulesModel" "FaultRulesModel" "rowValue" "[I" ∈ xT := x_t4 rfl (i := 16) rfl
theorem kL_Model_5 : Cond.laysFinal "FaultRulesModel" "FaultRulesModel" "text" "[I" ∈ xT := x_t4 rfl (i := 18) rfl
theorem kL_Model_6 : Cond.lays "FaultRulesModel" "FaultRulesModel" "size" "I" ∈ xT := x_t4 rfl (i := 20) rfl
theorem kL_Model_7 : Cond.laysFinal "FaultRulesModel" "FaultRulesModel" "kinds" "[I" ∈ xT := x_t4 rfl (i := 22) rfl
theorem kL_Model_8 : Cond.laysFinal "FaultRulesModel" "FaultRulesModel" "values" "[J" ∈ xT := x_t4 rfl (i := 24) rfl
theorem kL_Model_9 : Cond.lays "FaultRulesModel" "FaultRulesModel" "words" "I" ∈ xT := x_t4 rfl (i := 26) rfl
theorem kL_Model_10 : Cond.lays "FaultRulesModel" "FaultRulesModel" "at" "I" ∈ xT := x_t4 rfl (i := 28) rfl
theorem kL_Model_11 : Cond.laysFinal "FaultRulesModel" "FaultRulesModel" "names" "[J" ∈ xT := x_t4 rfl (i := 30) rfl
theorem kL_Model_12 : Cond.laysFinal "FaultRulesModel" "FaultRulesModel" "testCounts" "[I" ∈ xT := x_t4 rfl (i := 32) rfl
theorem kL_Model_13 : Cond.laysFinal "FaultRulesModel" "FaultRulesModel" "minutes" "[I" ∈ xT := x_t4 rfl (i := 34) rfl
theorem kL_Model_14 : Cond.laysFinal "FaultRulesModel" "FaultRulesModel" "costs" "[I" ∈ xT := x_t4 rfl (i := 36) rfl
theorem kL_Model_15 : Cond.laysFinal "FaultRulesModel" "FaultRulesModel" "sorts" "[I" ∈ xT := x_t4 rfl (i := 38) rfl
theorem kL_Model_16 : Cond.laysFinal "FaultRulesModel" "FaultRulesModel" "firsts" "[I" ∈ xT := x_t4 rfl (i := 40) rfl
theorem kL_Model_17 : Cond.laysFinal "FaultRulesModel" "FaultRulesModel" "seconds" "[I" ∈ xT := x_t4 rfl (i := 42) rfl
theorem kL_Model_18 : Cond.laysFinal "FaultRulesModel" "FaultRulesModel" "relations" "[I" ∈ xT := x_t4 rfl (i := 44) rfl
theorem kL_Model_19 : Cond.laysFinal "FaultRulesModel" "FaultRulesModel" "numbers" "[I" ∈ xT := x_t4 rfl (i := 46) rfl
theorem kL_Model_20 : Cond.lays "FaultRulesModel" "FaultRulesModel" "ruleCount" "I" ∈ xT := x_t4 rfl (i := 48) rfl
theorem kL_Model_21 : Cond.laysFinal "FaultRulesModel" "FaultRulesModel" "last" "[I" ∈ xT := x_t4 rfl (i := 50) rfl
theorem kL_Model_22 : Cond.laysFinal "FaultRulesModel" "FaultRulesModel" "before" "[I" ∈ xT := x_t4 rfl (i := 52) rfl
theorem kL_Model_23 : Cond.lays "FaultRulesModel" "FaultRulesModel" "ran" "Z" ∈ xT := x_t4 rfl (i := 54) rfl
theorem kL_Model_24 : Cond.laysFinal "FaultRulesModel" "FaultRulesModel" "heldCounts" "[I" ∈ xT := x_t4 rfl (i := 56) rfl
theorem kL_Model_25 : Cond.laysFinal "FaultRulesModel" "FaultRulesModel" "streaks" "[I" ∈ xT := x_t4 rfl (i := 58) rfl
theorem kL_Model_26 : Cond.lays "FaultRulesModel" "FaultRulesModel" "faults" "I" ∈ xT := x_t4 rfl (i := 60) rfl
theorem kL_Model_27 : Cond.laysFinal "FaultRulesModel" "FaultRulesModel" "faultRule" "[I" ∈ xT := x_t4 rfl (i := 62) rfl
theorem kL_Model_28 : Cond.laysFinal "FaultRulesModel" "FaultRulesModel" "faultBegin" "[I" ∈ xT := x_t4 rfl (i := 64) rfl
theorem kL_Model_29 : Cond.laysFinal "FaultRulesModel" "FaultRulesModel" "faultEnd" "[I" ∈ xT := x_t4 rfl (i := 66) rfl
theorem kL_Model_30 : Cond.laysFinal "FaultRulesModel" "FaultRulesModel" "order" "[I" ∈ xT := x_t4 rfl (i := 68) rfl
theorem kL_Model_31 : Cond.laysFinal "FaultRulesModel" "FaultRulesModel" "left" "[I" ∈ xT := x_t4 rfl (i := 70) rfl
theorem kL_Model_32 : Cond.lays "FaultRulesModel" "FaultRulesModel" "leftCount" "I" ∈ xT := x_t4 rfl (i := 72) rfl
theorem kL_Model_33 : Cond.laysFinal "FaultRulesModel" "FaultRulesModel" "brings" "[I" ∈ xT := x_t4 rfl (i := 74) rfl
theorem i_Model : ∀ w ∈ u_ws R_Model T_Model 34, w ∈ xT := by
  show ∀ w ∈ ([Cond.lays "FaultRulesModel" "FaultRulesModel" "thrown" "I", Cond.lays "FaultRulesModel" "FaultRulesModel" "rows" "I", Cond.laysFinal "FaultRulesModel" "FaultRulesModel" "rowPoint" "[I", Cond.laysFinal "FaultRulesModel" "FaultRulesModel" "rowMinute" "[I", Cond.laysFinal "FaultRulesModel" "FaultRulesModel" "rowValue" "[I", Cond.laysFinal "FaultRulesModel" "FaultRulesModel" "text" "[I", Cond.lays "FaultRulesModel" "FaultRulesModel" "size" "I", Cond.laysFinal "FaultRulesModel" "FaultRulesModel" "kinds" "[I", Cond.laysFinal "FaultRulesModel" "FaultRulesModel" "values" "[J", Cond.lays "FaultRulesModel" "FaultRulesModel" "words" "I", Cond.lays "FaultRulesModel" "FaultRulesModel" "at" "I", Cond.laysFinal "FaultRulesModel" "FaultRulesModel" "names" "[J", Cond.laysFinal "FaultRulesModel" "FaultRulesModel" "testCounts" "[I", Cond.laysFinal "FaultRulesModel" "FaultRulesModel" "minutes" "[I", Cond.laysFinal "FaultRulesModel" "FaultRulesModel" "costs" "[I", Cond.laysFinal "FaultRulesModel" "FaultRulesModel" "sorts" "[I", Cond.laysFinal "FaultRulesModel" "FaultRulesModel" "firsts" "[I", Cond.laysFinal "FaultRulesModel" "FaultRulesModel" "seconds" "[I", Cond.laysFinal "FaultRulesModel" "FaultRulesModel" "relations" "[I", Cond.laysFinal "FaultRulesModel" "FaultRulesModel" "numbers" "[I", Cond.lays "FaultRulesModel" "FaultRulesModel" "ruleCount" "I", Cond.laysFinal "FaultRulesModel" "FaultRulesModel" "last" "[I", Cond.laysFinal "FaultRulesModel" "FaultRulesModel" "before" "[I", Cond.lays "FaultRulesModel" "FaultRulesModel" "ran" "Z", Cond.laysFinal "FaultRulesModel" "FaultRulesModel" "heldCounts" "[I", Cond.laysFinal "FaultRulesModel" "FaultRulesModel" "streaks" "[I", Cond.lays "FaultRulesModel" "FaultRulesModel" "faults" "I", Cond.laysFinal "FaultRulesModel" "FaultRulesModel" "faultRule" "[I", Cond.laysFinal "FaultRulesModel" "FaultRulesModel" "faultBegin" "[I", Cond.laysFinal "FaultRulesModel" "FaultRulesModel" "faultEnd" "[I", Cond.laysFinal "FaultRulesModel" "FaultRulesModel" "order" "[I", Cond.laysFinal "FaultRulesModel" "FaultRulesModel" "left" "[I", Cond.lays "FaultRulesModel" "FaultRulesModel" "leftCount" "I", Cond.laysFinal "FaultRulesModel" "FaultRulesModel" "brings" "[I"] : List Cond), w ∈ xT
  exact x_fc kL_Model_0 (x_fc kL_Model_1 (x_fc kL_Model_2 (x_fc kL_Model_3 (x_fc kL_Model_4 (x_fc kL_Model_5 (x_fc kL_Model_6 (x_fc kL_Model_7 (x_fc kL_Model_8 (x_fc kL_Model_9 (x_fc kL_Model_10 (x_fc kL_Model_11 (x_fc kL_Model_12 (x_fc kL_Model_13 (x_fc kL_Model_14 (x_fc kL_Model_15 (x_fc kL_Model_16 (x_fc kL_Model_17 (x_fc kL_Model_18 (x_fc kL_Model_19 (x_fc kL_Model_20 (x_fc kL_Model_21 (x_fc kL_Model_22 (x_fc kL_Model_23 (x_fc kL_Model_24 (x_fc kL_Model_25 (x_fc kL_Model_26 (x_fc kL_Model_27 (x_fc kL_Model_28 (x_fc kL_Model_29 (x_fc kL_Model_30 (x_fc kL_Model_31 (x_fc kL_Model_32 (x_fc kL_Model_33 (x_fn))))))))))))))))))))))))))))))))))

