theorem d_Law_law_0 : decode code 0 = .ok (.new 8, 3) := by decide +kernel
theorem d_Law_law_3 : decode code 3 = .ok (.dup, 1) := by decide +kernel
theorem d_Law_law_4 : decode code 4 = .ok (.invokespecial 60, 3) := by decide +kernel
theorem d_Law_law_7 : decode code 7 = .ok (.astore_n 1, 1) := by decide +kernel
theorem d_Law_law_8 : decode code 8 = .ok (.new 61, 3) := by decide +kernel
theorem d_Law_law_11 : decode code 11 = .ok (.dup, 1) := by decide +kernel
theorem d_Law_law_12 : decode code 12 = .ok (.invokespecial 63, 3) := by decide +kernel
theorem d_Law_law_15 : decode code 15 = .ok (.astore_n 2, 1) := by decide +kernel
theorem d_Law_law_16 : decode code 16 = .ok (.iconst 1, 1) := by decide +kernel
theorem d_Law_law_17 : decode code 17 = .ok (.newarray .long, 2) := by decide +kernel
theorem d_Law_law_19 : decode code 19 = .ok (.astore_n 3, 1) := by decide +kernel
theorem d_Law_law_20 : decode code 20 = .ok (.iconst 0, 1) := by decide +kernel
theorem d_Law_law_21 : decode code 21 = .ok (.istore 4, 2) := by decide +kernel
theorem d_Law_law_23 : decode code 23 = .ok (.iload 4, 2) := by decide +kernel
theorem d_Law_law_25 : decode code 25 = .ok (.aload_n 0, 1) := by decide +kernel
theorem d_Law_law_26 : decode code 26 = .ok (.arraylength, 1) := by decide +kernel
theorem d_Law_law_27 : decode code 27 = .ok (.bipush 6, 2) := by decide +kernel
theorem d_Law_law_29 : decode code 29 = .ok (.isub, 1) := by decide +kernel
theorem d_Law_law_30 : decode code 30 = .ok (.if_icmp .gt 1022, 3) := by decide +kernel
theorem d_Law_law_33 : decode code 33 = .ok (.aload_n 0, 1) := by decide +kernel
theorem d_Law_law_34 : decode code 34 = .ok (.iload 4, 2) := by decide +kernel
theorem d_Law_law_36 : decode code 36 = .ok (.iaload, 1) := by decide +kernel
theorem d_Law_law_37 : decode code 37 = .ok (.bipush 15, 2) := by decide +kernel
theorem d_Law_law_39 : decode code 39 = .ok (.iand, 1) := by decide +kernel
theorem d_Law_law_40 : decode code 40 = .ok (.tableswitch 1006 0 13 #[72, 152, 220, 308, 364, 377, 445, 513, 557, 613, 700, 803, 894, 962], 72) := by decide +kernel
theorem d_Law_law_112 : decode code 112 = .ok (.aload_n 1, 1) := by decide +kernel
theorem d_Law_law_113 : decode code 113 = .ok (.aload_n 0, 1) := by decide +kernel
theorem d_Law_law_114 : decode code 114 = .ok (.iload 4, 2) := by decide +kernel
theorem d_Law_law_116 : decode code 116 = .ok (.iconst 1, 1) := by decide +kernel
theorem d_Law_law_117 : decode code 117 = .ok (.iadd, 1) := by decide +kernel
theorem d_Law_law_118 : decode code 118 = .ok (.iaload, 1) := by decide +kernel
theorem d_Law_law_119 : decode code 119 = .ok (.aload_n 0, 1) := by decide +kernel
theorem d_Law_law_120 : decode code 120 = .ok (.iload 4, 2) := by decide +kernel
theorem d_Law_law_122 : decode code 122 = .ok (.iconst 2, 1) := by decide +kernel
theorem d_Law_law_123 : decode code 123 = .ok (.iadd, 1) := by decide +kernel
theorem d_Law_law_124 : decode code 124 = .ok (.iaload, 1) := by decide +kernel
theorem d_Law_law_125 : decode code 125 = .ok (.aload_n 0, 1) := by decide +kernel
theorem d_Law_law_126 : decode code 126 = .ok (.iload 4, 2) := by decide +kernel
theorem d_Law_law_128 : decode code 128 = .ok (.iconst 3, 1) := by decide +kernel
theorem d_Law_law_129 : decode code 129 = .ok (.iadd, 1) := by decide +kernel
theorem d_Law_law_130 : decode code 130 = .ok (.iaload, 1) := by decide +kernel
theorem d_Law_law_131 : decode code 131 = .ok (.aload_n 3, 1) := by decide +kernel
theorem d_Law_law_132 : decode code 132 = .ok (.invokestatic 64, 3) := by decide +kernel
theorem d_Law_law_135 : decode code 135 = .ok (.istore 5, 2) := by decide +kernel
theorem d_Law_law_137 : decode code 137 = .ok (.aload_n 2, 1) := by decide +kernel
theorem d_Law_law_138 : decode code 138 = .ok (.aload_n 0, 1) := by decide +kernel
theorem d_Law_law_139 : decode code 139 = .ok (.iload 4, 2) := by decide +kernel
theorem d_Law_law_141 : decode code 141 = .ok (.iconst 1, 1) := by decide +kernel
theorem d_Law_law_142 : decode code 142 = .ok (.iadd, 1) := by decide +kernel
theorem d_Law_law_143 : decode code 143 = .ok (.iaload, 1) := by decide +kernel
theorem d_Law_law_144 : decode code 144 = .ok (.aload_n 0, 1) := by decide +kernel
theorem d_Law_law_145 : decode code 145 = .ok (.iload 4, 2) := by decide +kernel
theorem d_Law_law_147 : decode code 147 = .ok (.iconst 2, 1) := by decide +kernel
theorem d_Law_law_148 : decode code 148 = .ok (.iadd, 1) := by decide +kernel
theorem d_Law_law_149 : decode code 149 = .ok (.iaload, 1) := by decide +kernel
theorem d_Law_law_150 : decode code 150 = .ok (.aload_n 0, 1) := by decide +kernel
theorem d_Law_law_151 : decode code 151 = .ok (.iload 4, 2) := by decide +kernel
theorem d_Law_law_153 : decode code 153 = .ok (.iconst 3, 1) := by decide +kernel
theorem d_Law_law_154 : decode code 154 = .ok (.iadd, 1) := by decide +kernel
theorem d_Law_law_155 : decode code 155 = .ok (.iaload, 1) := by decide +kernel
theorem d_Law_law_156 : decode code 156 = .ok (.invokevirtual 69, 3) := by decide +kernel
theorem d_Law_law_159 : decode code 159 = .ok (.istore 6, 2) := by decide +kernel
theorem d_Law_law_161 : decode code 161 = .ok (.aload_n 2, 1) := by decide +kernel
theorem d_Law_law_162 : decode code 162 = .ok (.invokevirtual 70, 3) := by decide +kernel
theorem d_Law_law_165 : decode code 165 = .ok (.iload 5, 2) := by decide +kernel
theorem d_Law_law_167 : decode code 167 = .ok (.if_icmp .eq 5, 3) := by decide +kernel
theorem d_Law_law_170 : decode code 170 = .ok (.iconst 0, 1) := by decide +kernel
theorem d_Law_law_171 : decode code 171 = .ok (.ireturn, 1) := by decide +kernel
theorem d_Law_law_172 : decode code 172 = .ok (.iload 5, 2) := by decide +kernel
theorem d_Law_law_174 : decode code 174 = .ok (.ifCond .ne 15, 3) := by decide +kernel
theorem d_Law_law_177 : decode code 177 = .ok (.aload_n 3, 1) := by decide +kernel
theorem d_Law_law_178 : decode code 178 = .ok (.iconst 0, 1) := by decide +kernel
theorem d_Law_law_179 : decode code 179 = .ok (.laload, 1) := by decide +kernel
theorem d_Law_law_180 : decode code 180 = .ok (.iload 6, 2) := by decide +kernel
theorem d_Law_law_182 : decode code 182 = .ok (.i2l, 1) := by decide +kernel
theorem d_Law_law_183 : decode code 183 = .ok (.lcmp, 1) := by decide +kernel
theorem d_Law_law_184 : decode code 184 = .ok (.ifCond .eq 5, 3) := by decide +kernel
theorem d_Law_law_187 : decode code 187 = .ok (.iconst 0, 1) := by decide +kernel
theorem d_Law_law_188 : decode code 188 = .ok (.ireturn, 1) := by decide +kernel
theorem d_Law_law_189 : decode code 189 = .ok (.goto 857, 3) := by decide +kernel
theorem d_Law_law_192 : decode code 192 = .ok (.aload_n 1, 1) := by decide +kernel
theorem d_Law_law_193 : decode code 193 = .ok (.aload_n 0, 1) := by decide +kernel
theorem d_Law_law_194 : decode code 194 = .ok (.iload 4, 2) := by decide +kernel
theorem d_Law_law_196 : decode code 196 = .ok (.iconst 1, 1) := by decide +kernel
theorem d_Law_law_197 : decode code 197 = .ok (.iadd, 1) := by decide +kernel
theorem d_Law_law_198 : decode code 198 = .ok (.iaload, 1) := by decide +kernel
theorem d_Law_law_199 : decode code 199 = .ok (.aload_n 0, 1) := by decide +kernel
theorem d_Law_law_200 : decode code 200 = .ok (.iload 4, 2) := by decide +kernel
theorem d_Law_law_202 : decode code 202 = .ok (.iconst 2, 1) := by decide +kernel
theorem d_Law_law_203 : decode code 203 = .ok (.iadd, 1) := by decide +kernel
theorem d_Law_law_204 : decode code 204 = .ok (.iaload, 1) := by decide +kernel
theorem d_Law_law_205 : decode code 205 = .ok (.aload_n 3, 1) := by decide +kernel
theorem d_Law_law_206 : decode code 206 = .ok (.invokestatic 73, 3) := by decide +kernel
theorem d_Law_law_209 : decode code 209 = .ok (.istore 5, 2) := by decide +kernel
theorem d_Law_law_211 : decode code 211 = .ok (.aload_n 2, 1) := by decide +kernel
theorem d_Law_law_212 : decode code 212 = .ok (.aload_n 0, 1) := by decide +kernel
theorem d_Law_law_213 : decode code 213 = .ok (.iload 4, 2) := by decide +kernel
theorem d_Law_law_215 : decode code 215 = .ok (.iconst 1, 1) := by decide +kernel
theorem d_Law_law_216 : decode code 216 = .ok (.iadd, 1) := by decide +kernel
theorem d_Law_law_217 : decode code 217 = .ok (.iaload, 1) := by decide +kernel
theorem d_Law_law_218 : decode code 218 = .ok (.aload_n 0, 1) := by decide +kernel
theorem d_Law_law_219 : decode code 219 = .ok (.iload 4, 2) := by decide +kernel
theorem d_Law_law_221 : decode code 221 = .ok (.iconst 2, 1) := by decide +kernel
theorem d_Law_law_222 : decode code 222 = .ok (.iadd, 1) := by decide +kernel
theorem d_Law_law_223 : decode code 223 = .ok (.iaload, 1) := by decide +kernel
theorem d_Law_law_224 : decode code 224 = .ok (.invokevirtual 76, 3) := by decide +kernel
theorem d_Law_law_227 : decode code 227 = .ok (.istore 6, 2) := by decide +kernel
theorem d_Law_law_229 : decode code 229 = .ok (.aload_n 2, 1) := by decide +kernel
theorem d_Law_law_230 : decode code 230 = .ok (.invokevirtual 70, 3) := by decide +kernel
theorem d_Law_law_233 : decode code 233 = .ok (.iload 5, 2) := by decide +kernel
theorem d_Law_law_235 : decode code 235 = .ok (.if_icmp .eq 5, 3) := by decide +kernel
theorem d_Law_law_238 : decode code 238 = .ok (.iconst 0, 1) := by decide +kernel
theorem d_Law_law_239 : decode code 239 = .ok (.ireturn, 1) := by decide +kernel
theorem d_Law_law_240 : decode code 240 = .ok (.iload 5, 2) := by decide +kernel
theorem d_Law_law_242 : decode code 242 = .ok (.ifCond .ne 15, 3) := by decide +kernel
theorem d_Law_law_245 : decode code 245 = .ok (.aload_n 3, 1) := by decide +kernel
theorem d_Law_law_246 : decode code 246 = .ok (.iconst 0, 1) := by decide +kernel
theorem d_Law_law_247 : decode code 247 = .ok (.laload, 1) := by decide +kernel
theorem d_Law_law_248 : decode code 248 = .ok (.iload 6, 2) := by decide +kernel
theorem d_Law_law_250 : decode code 250 = .ok (.i2l, 1) := by decide +kernel
theorem d_Law_law_251 : decode code 251 = .ok (.lcmp, 1) := by decide +kernel
theorem d_Law_law_252 : decode code 252 = .ok (.ifCond .eq 5, 3) := by decide +kernel
theorem d_Law_law_255 : decode code 255 = .ok (.iconst 0, 1) := by decide +kernel
theorem d_Law_law_256 : decode code 256 = .ok (.ireturn, 1) := by decide +kernel
theorem d_Law_law_257 : decode code 257 = .ok (.goto 789, 3) := by decide +kernel
theorem d_Law_law_260 : decode code 260 = .ok (.aload_n 1, 1) := by decide +kernel
theorem d_Law_law_261 : decode code 261 = .ok (.aload_n 0, 1) := by decide +kernel
theorem d_Law_law_262 : decode code 262 = .ok (.iload 4, 2) := by decide +kernel
theorem d_Law_law_264 : decode code 264 = .ok (.iconst 1, 1) := by decide +kernel
theorem d_Law_law_265 : decode code 265 = .ok (.iadd, 1) := by decide +kernel
theorem d_Law_law_266 : decode code 266 = .ok (.iaload, 1) := by decide +kernel
theorem d_Law_law_267 : decode code 267 = .ok (.i2l, 1) := by decide +kernel
theorem d_Law_law_268 : decode code 268 = .ok (.bipush 32, 2) := by decide +kernel
theorem d_Law_law_270 : decode code 270 = .ok (.lshl, 1) := by decide +kernel
theorem d_Law_law_271 : decode code 271 = .ok (.aload_n 0, 1) := by decide +kernel
theorem d_Law_law_272 : decode code 272 = .ok (.iload 4, 2) := by decide +kernel
theorem d_Law_law_274 : decode code 274 = .ok (.iconst 2, 1) := by decide +kernel
theorem d_Law_law_275 : decode code 275 = .ok (.iadd, 1) := by decide +kernel
theorem d_Law_law_276 : decode code 276 = .ok (.iaload, 1) := by decide +kernel
theorem d_Law_law_277 : decode code 277 = .ok (.i2l, 1) := by decide +kernel
theorem d_Law_law_278 : decode code 278 = .ok (.ldc2_w 77, 3) := by decide +kernel
theorem d_Law_law_281 : decode code 281 = .ok (.land, 1) := by decide +kernel
theorem d_Law_law_282 : decode code 282 = .ok (.lor, 1) := by decide +kernel
theorem d_Law_law_283 : decode code 283 = .ok (.aload_n 3, 1) := by decide +kernel
theorem d_Law_law_284 : decode code 284 = .ok (.invokestatic 79, 3) := by decide +kernel
theorem d_Law_law_287 : decode code 287 = .ok (.istore 5, 2) := by decide +kernel
theorem d_Law_law_289 : decode code 289 = .ok (.aload_n 2, 1) := by decide +kernel
theorem d_Law_law_290 : decode code 290 = .ok (.aload_n 0, 1) := by decide +kernel
theorem d_Law_law_291 : decode code 291 = .ok (.iload 4, 2) := by decide +kernel
theorem d_Law_law_293 : decode code 293 = .ok (.iconst 1, 1) := by decide +kernel
