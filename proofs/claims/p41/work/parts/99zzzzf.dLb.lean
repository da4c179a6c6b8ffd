theorem dL_areRows_158 : decode cL_areRows 158 = .ok (.iinc 5 1, 3) := by decide +kernel
theorem dL_areRows_161 : decode cL_areRows 161 = .ok (.goto (-139), 3) := by decide +kernel
theorem dL_areRows_164 : decode cL_areRows 164 = .ok (.aload_n 0, 1) := by decide +kernel
theorem dL_areRows_165 : decode cL_areRows 165 = .ok (.iload_n 1, 1) := by decide +kernel
theorem dL_areRows_166 : decode cL_areRows 166 = .ok (.iconst 2, 1) := by decide +kernel
theorem dL_areRows_167 : decode cL_areRows 167 = .ok (.invokevirtual 89, 3) := by decide +kernel
theorem dL_areRows_170 : decode cL_areRows 170 = .ok (.istore 5, 2) := by decide +kernel
theorem dL_areRows_172 : decode cL_areRows 172 = .ok (.aload_n 0, 1) := by decide +kernel
theorem dL_areRows_173 : decode cL_areRows 173 = .ok (.iload_n 1, 1) := by decide +kernel
theorem dL_areRows_174 : decode cL_areRows 174 = .ok (.iconst 5, 1) := by decide +kernel
theorem dL_areRows_175 : decode cL_areRows 175 = .ok (.invokevirtual 89, 3) := by decide +kernel
theorem dL_areRows_178 : decode cL_areRows 178 = .ok (.istore 6, 2) := by decide +kernel
theorem dL_areRows_180 : decode cL_areRows 180 = .ok (.iload 4, 2) := by decide +kernel
theorem dL_areRows_182 : decode cL_areRows 182 = .ok (.ifCond .eq 69, 3) := by decide +kernel
theorem dL_areRows_185 : decode cL_areRows 185 = .ok (.iload_n 3, 1) := by decide +kernel
theorem dL_areRows_186 : decode cL_areRows 186 = .ok (.iload_n 2, 1) := by decide +kernel
theorem dL_areRows_187 : decode cL_areRows 187 = .ok (.if_icmp .ne 64, 3) := by decide +kernel
theorem dL_areRows_190 : decode cL_areRows 190 = .ok (.iload 5, 2) := by decide +kernel
theorem dL_areRows_192 : decode cL_areRows 192 = .ok (.ifCond .lt 59, 3) := by decide +kernel
theorem dL_areRows_195 : decode cL_areRows 195 = .ok (.iload 5, 2) := by decide +kernel
theorem dL_areRows_197 : decode cL_areRows 197 = .ok (.iload_n 2, 1) := by decide +kernel
theorem dL_areRows_198 : decode cL_areRows 198 = .ok (.if_icmp .ge 53, 3) := by decide +kernel
theorem dL_areRows_201 : decode cL_areRows 201 = .ok (.iload 6, 2) := by decide +kernel
theorem dL_areRows_203 : decode cL_areRows 203 = .ok (.ifCond .lt 48, 3) := by decide +kernel
theorem dL_areRows_206 : decode cL_areRows 206 = .ok (.iload 6, 2) := by decide +kernel
theorem dL_areRows_208 : decode cL_areRows 208 = .ok (.iload_n 2, 1) := by decide +kernel
theorem dL_areRows_209 : decode cL_areRows 209 = .ok (.if_icmp .ge 42, 3) := by decide +kernel
theorem dL_areRows_212 : decode cL_areRows 212 = .ok (.aload_n 0, 1) := by decide +kernel
theorem dL_areRows_213 : decode cL_areRows 213 = .ok (.iload_n 1, 1) := by decide +kernel
theorem dL_areRows_214 : decode cL_areRows 214 = .ok (.iload 5, 2) := by decide +kernel
theorem dL_areRows_216 : decode cL_areRows 216 = .ok (.invokevirtual 83, 3) := by decide +kernel
theorem dL_areRows_219 : decode cL_areRows 219 = .ok (.aload_n 0, 1) := by decide +kernel
theorem dL_areRows_220 : decode cL_areRows 220 = .ok (.iload_n 1, 1) := by decide +kernel
theorem dL_areRows_221 : decode cL_areRows 221 = .ok (.iconst 0, 1) := by decide +kernel
theorem dL_areRows_222 : decode cL_areRows 222 = .ok (.invokevirtual 89, 3) := by decide +kernel
theorem dL_areRows_225 : decode cL_areRows 225 = .ok (.if_icmp .ne 26, 3) := by decide +kernel
theorem dL_areRows_228 : decode cL_areRows 228 = .ok (.aload_n 0, 1) := by decide +kernel
theorem dL_areRows_229 : decode cL_areRows 229 = .ok (.iload_n 1, 1) := by decide +kernel
theorem dL_areRows_230 : decode cL_areRows 230 = .ok (.iconst 1, 1) := by decide +kernel
theorem dL_areRows_231 : decode cL_areRows 231 = .ok (.invokevirtual 89, 3) := by decide +kernel
theorem dL_areRows_234 : decode cL_areRows 234 = .ok (.aload_n 0, 1) := by decide +kernel
theorem dL_areRows_235 : decode cL_areRows 235 = .ok (.aload_n 0, 1) := by decide +kernel
theorem dL_areRows_236 : decode cL_areRows 236 = .ok (.iload_n 1, 1) := by decide +kernel
theorem dL_areRows_237 : decode cL_areRows 237 = .ok (.iconst 0, 1) := by decide +kernel
theorem dL_areRows_238 : decode cL_areRows 238 = .ok (.invokevirtual 89, 3) := by decide +kernel
theorem dL_areRows_241 : decode cL_areRows 241 = .ok (.invokevirtual 86, 3) := by decide +kernel
theorem dL_areRows_244 : decode cL_areRows 244 = .ok (.if_icmp .gt 7, 3) := by decide +kernel
theorem dL_areRows_247 : decode cL_areRows 247 = .ok (.iconst 1, 1) := by decide +kernel
theorem dL_areRows_248 : decode cL_areRows 248 = .ok (.goto 4, 3) := by decide +kernel
theorem dL_areRows_251 : decode cL_areRows 251 = .ok (.iconst 0, 1) := by decide +kernel
theorem dL_areRows_252 : decode cL_areRows 252 = .ok (.ireturn, 1) := by decide +kernel
theorem dL_isMove_0 : decode cL_isMove 0 = .ok (.aload_n 0, 1) := by decide +kernel
theorem dL_isMove_1 : decode cL_isMove 1 = .ok (.iload_n 1, 1) := by decide +kernel
theorem dL_isMove_2 : decode cL_isMove 2 = .ok (.iconst 0, 1) := by decide +kernel
theorem dL_isMove_3 : decode cL_isMove 3 = .ok (.invokevirtual 89, 3) := by decide +kernel
theorem dL_isMove_6 : decode cL_isMove 6 = .ok (.istore_n 3, 1) := by decide +kernel
theorem dL_isMove_7 : decode cL_isMove 7 = .ok (.aload_n 0, 1) := by decide +kernel
theorem dL_isMove_8 : decode cL_isMove 8 = .ok (.iload_n 1, 1) := by decide +kernel
theorem dL_isMove_9 : decode cL_isMove 9 = .ok (.iconst 1, 1) := by decide +kernel
theorem dL_isMove_10 : decode cL_isMove 10 = .ok (.invokevirtual 89, 3) := by decide +kernel
theorem dL_isMove_13 : decode cL_isMove 13 = .ok (.istore 4, 2) := by decide +kernel
theorem dL_isMove_15 : decode cL_isMove 15 = .ok (.aload_n 0, 1) := by decide +kernel
theorem dL_isMove_16 : decode cL_isMove 16 = .ok (.iload_n 1, 1) := by decide +kernel
theorem dL_isMove_17 : decode cL_isMove 17 = .ok (.iconst 4, 1) := by decide +kernel
theorem dL_isMove_18 : decode cL_isMove 18 = .ok (.invokevirtual 89, 3) := by decide +kernel
theorem dL_isMove_21 : decode cL_isMove 21 = .ok (.istore 5, 2) := by decide +kernel
theorem dL_isMove_23 : decode cL_isMove 23 = .ok (.aload_n 0, 1) := by decide +kernel
theorem dL_isMove_24 : decode cL_isMove 24 = .ok (.iload_n 1, 1) := by decide +kernel
theorem dL_isMove_25 : decode cL_isMove 25 = .ok (.iload_n 2, 1) := by decide +kernel
theorem dL_isMove_26 : decode cL_isMove 26 = .ok (.invokevirtual 92, 3) := by decide +kernel
theorem dL_isMove_29 : decode cL_isMove 29 = .ok (.istore 6, 2) := by decide +kernel
theorem dL_isMove_31 : decode cL_isMove 31 = .ok (.iload_n 2, 1) := by decide +kernel
theorem dL_isMove_32 : decode cL_isMove 32 = .ok (.iconst 2, 1) := by decide +kernel
theorem dL_isMove_33 : decode cL_isMove 33 = .ok (.if_icmp .eq 13, 3) := by decide +kernel
theorem dL_isMove_36 : decode cL_isMove 36 = .ok (.iload_n 2, 1) := by decide +kernel
theorem dL_isMove_37 : decode cL_isMove 37 = .ok (.iconst 3, 1) := by decide +kernel
theorem dL_isMove_38 : decode cL_isMove 38 = .ok (.if_icmp .eq 8, 3) := by decide +kernel
theorem dL_isMove_41 : decode cL_isMove 41 = .ok (.iload_n 2, 1) := by decide +kernel
theorem dL_isMove_42 : decode cL_isMove 42 = .ok (.iconst 5, 1) := by decide +kernel
theorem dL_isMove_43 : decode cL_isMove 43 = .ok (.if_icmp .le 7, 3) := by decide +kernel
theorem dL_isMove_46 : decode cL_isMove 46 = .ok (.iconst 1, 1) := by decide +kernel
theorem dL_isMove_47 : decode cL_isMove 47 = .ok (.goto 4, 3) := by decide +kernel
theorem dL_isMove_50 : decode cL_isMove 50 = .ok (.iconst 0, 1) := by decide +kernel
theorem dL_isMove_51 : decode cL_isMove 51 = .ok (.istore 7, 2) := by decide +kernel
theorem dL_isMove_53 : decode cL_isMove 53 = .ok (.iload 6, 2) := by decide +kernel
theorem dL_isMove_55 : decode cL_isMove 55 = .ok (.iload_n 3, 1) := by decide +kernel
theorem dL_isMove_56 : decode cL_isMove 56 = .ok (.aload_n 0, 1) := by decide +kernel
theorem dL_isMove_57 : decode cL_isMove 57 = .ok (.iload_n 1, 1) := by decide +kernel
theorem dL_isMove_58 : decode cL_isMove 58 = .ok (.iconst 0, 1) := by decide +kernel
theorem dL_isMove_59 : decode cL_isMove 59 = .ok (.invokevirtual 89, 3) := by decide +kernel
theorem dL_isMove_62 : decode cL_isMove 62 = .ok (.if_icmp .ne 14, 3) := by decide +kernel
theorem dL_isMove_65 : decode cL_isMove 65 = .ok (.iload 4, 2) := by decide +kernel
theorem dL_isMove_67 : decode cL_isMove 67 = .ok (.aload_n 0, 1) := by decide +kernel
theorem dL_isMove_68 : decode cL_isMove 68 = .ok (.iload_n 1, 1) := by decide +kernel
theorem dL_isMove_69 : decode cL_isMove 69 = .ok (.iconst 1, 1) := by decide +kernel
theorem dL_isMove_70 : decode cL_isMove 70 = .ok (.invokevirtual 89, 3) := by decide +kernel
theorem dL_isMove_73 : decode cL_isMove 73 = .ok (.if_icmp .eq 7, 3) := by decide +kernel
theorem dL_isMove_76 : decode cL_isMove 76 = .ok (.iconst 1, 1) := by decide +kernel
theorem dL_isMove_77 : decode cL_isMove 77 = .ok (.goto 4, 3) := by decide +kernel
theorem dL_isMove_80 : decode cL_isMove 80 = .ok (.iconst 0, 1) := by decide +kernel
theorem dL_isMove_81 : decode cL_isMove 81 = .ok (.if_icmp .ne 32, 3) := by decide +kernel
theorem dL_isMove_84 : decode cL_isMove 84 = .ok (.aload_n 0, 1) := by decide +kernel
theorem dL_isMove_85 : decode cL_isMove 85 = .ok (.iload_n 1, 1) := by decide +kernel
theorem dL_isMove_86 : decode cL_isMove 86 = .ok (.iconst 4, 1) := by decide +kernel
theorem dL_isMove_87 : decode cL_isMove 87 = .ok (.invokevirtual 89, 3) := by decide +kernel
theorem dL_isMove_90 : decode cL_isMove 90 = .ok (.iload 7, 2) := by decide +kernel
theorem dL_isMove_92 : decode cL_isMove 92 = .ok (.ifCond .eq 8, 3) := by decide +kernel
theorem dL_isMove_95 : decode cL_isMove 95 = .ok (.iload 5, 2) := by decide +kernel
theorem dL_isMove_97 : decode cL_isMove 97 = .ok (.goto 9, 3) := by decide +kernel
theorem dL_isMove_100 : decode cL_isMove 100 = .ok (.aload_n 0, 1) := by decide +kernel
theorem dL_isMove_101 : decode cL_isMove 101 = .ok (.iload_n 1, 1) := by decide +kernel
theorem dL_isMove_102 : decode cL_isMove 102 = .ok (.iconst 3, 1) := by decide +kernel
theorem dL_isMove_103 : decode cL_isMove 103 = .ok (.invokevirtual 89, 3) := by decide +kernel
theorem dL_isMove_106 : decode cL_isMove 106 = .ok (.if_icmp .ne 7, 3) := by decide +kernel
theorem dL_isMove_109 : decode cL_isMove 109 = .ok (.iconst 1, 1) := by decide +kernel
theorem dL_isMove_110 : decode cL_isMove 110 = .ok (.goto 4, 3) := by decide +kernel
theorem dL_isMove_113 : decode cL_isMove 113 = .ok (.iconst 0, 1) := by decide +kernel
theorem dL_isMove_114 : decode cL_isMove 114 = .ok (.istore 8, 2) := by decide +kernel
theorem dL_isMove_116 : decode cL_isMove 116 = .ok (.iload 8, 2) := by decide +kernel
theorem dL_isMove_118 : decode cL_isMove 118 = .ok (.ifCond .eq 128, 3) := by decide +kernel
theorem dL_isMove_121 : decode cL_isMove 121 = .ok (.iload 6, 2) := by decide +kernel
theorem dL_isMove_123 : decode cL_isMove 123 = .ok (.ifCond .eq 123, 3) := by decide +kernel
theorem dL_isMove_126 : decode cL_isMove 126 = .ok (.iload_n 2, 1) := by decide +kernel
theorem dL_isMove_127 : decode cL_isMove 127 = .ok (.iconst 1, 1) := by decide +kernel
theorem dL_isMove_128 : decode cL_isMove 128 = .ok (.if_icmp .ne 118, 3) := by decide +kernel
theorem dL_isMove_131 : decode cL_isMove 131 = .ok (.aload_n 0, 1) := by decide +kernel
theorem dL_isMove_132 : decode cL_isMove 132 = .ok (.iload_n 1, 1) := by decide +kernel
theorem dL_isMove_133 : decode cL_isMove 133 = .ok (.iconst 1, 1) := by decide +kernel
theorem dL_isMove_134 : decode cL_isMove 134 = .ok (.invokevirtual 89, 3) := by decide +kernel
theorem dL_isMove_137 : decode cL_isMove 137 = .ok (.istore 9, 2) := by decide +kernel
theorem dL_isMove_139 : decode cL_isMove 139 = .ok (.aload_n 0, 1) := by decide +kernel
theorem dL_isMove_140 : decode cL_isMove 140 = .ok (.iload_n 1, 1) := by decide +kernel
theorem dL_isMove_141 : decode cL_isMove 141 = .ok (.iconst 0, 1) := by decide +kernel
theorem dL_isMove_142 : decode cL_isMove 142 = .ok (.invokevirtual 89, 3) := by decide +kernel
theorem dL_isMove_145 : decode cL_isMove 145 = .ok (.istore 10, 2) := by decide +kernel
theorem dL_isMove_147 : decode cL_isMove 147 = .ok (.iload 10, 2) := by decide +kernel
theorem dL_isMove_149 : decode cL_isMove 149 = .ok (.iload_n 3, 1) := by decide +kernel
theorem dL_isMove_150 : decode cL_isMove 150 = .ok (.if_icmp .gt 16, 3) := by decide +kernel
theorem dL_isMove_153 : decode cL_isMove 153 = .ok (.iload 10, 2) := by decide +kernel
theorem dL_isMove_155 : decode cL_isMove 155 = .ok (.iload_n 3, 1) := by decide +kernel
theorem dL_isMove_156 : decode cL_isMove 156 = .ok (.if_icmp .ne 87, 3) := by decide +kernel
theorem dL_isMove_159 : decode cL_isMove 159 = .ok (.iload 9, 2) := by decide +kernel
theorem dL_isMove_161 : decode cL_isMove 161 = .ok (.iload 4, 2) := by decide +kernel
theorem dL_isMove_163 : decode cL_isMove 163 = .ok (.if_icmp .le 80, 3) := by decide +kernel
theorem dL_isMove_166 : decode cL_isMove 166 = .ok (.aload_n 0, 1) := by decide +kernel
theorem dL_isMove_167 : decode cL_isMove 167 = .ok (.iload_n 1, 1) := by decide +kernel
theorem dL_isMove_168 : decode cL_isMove 168 = .ok (.iconst 0, 1) := by decide +kernel
theorem dL_isMove_169 : decode cL_isMove 169 = .ok (.invokevirtual 92, 3) := by decide +kernel
theorem dL_isMove_172 : decode cL_isMove 172 = .ok (.ifCond .eq 67, 3) := by decide +kernel
theorem dL_isMove_175 : decode cL_isMove 175 = .ok (.aload_n 0, 1) := by decide +kernel
theorem dL_isMove_176 : decode cL_isMove 176 = .ok (.iload_n 1, 1) := by decide +kernel
theorem dL_isMove_177 : decode cL_isMove 177 = .ok (.iconst 0, 1) := by decide +kernel
theorem dL_isMove_178 : decode cL_isMove 178 = .ok (.invokevirtual 89, 3) := by decide +kernel
theorem dL_isMove_181 : decode cL_isMove 181 = .ok (.iload 10, 2) := by decide +kernel
theorem dL_isMove_183 : decode cL_isMove 183 = .ok (.if_icmp .lt 25, 3) := by decide +kernel
theorem dL_isMove_186 : decode cL_isMove 186 = .ok (.aload_n 0, 1) := by decide +kernel
theorem dL_isMove_187 : decode cL_isMove 187 = .ok (.iload_n 1, 1) := by decide +kernel
theorem dL_isMove_188 : decode cL_isMove 188 = .ok (.iconst 0, 1) := by decide +kernel
theorem dL_isMove_189 : decode cL_isMove 189 = .ok (.invokevirtual 89, 3) := by decide +kernel
theorem dL_isMove_192 : decode cL_isMove 192 = .ok (.iload 10, 2) := by decide +kernel
theorem dL_isMove_194 : decode cL_isMove 194 = .ok (.if_icmp .ne 49, 3) := by decide +kernel
theorem dL_isMove_197 : decode cL_isMove 197 = .ok (.aload_n 0, 1) := by decide +kernel
theorem dL_isMove_198 : decode cL_isMove 198 = .ok (.iload_n 1, 1) := by decide +kernel
theorem dL_isMove_199 : decode cL_isMove 199 = .ok (.iconst 1, 1) := by decide +kernel
theorem dL_isMove_200 : decode cL_isMove 200 = .ok (.invokevirtual 89, 3) := by decide +kernel
theorem dL_isMove_203 : decode cL_isMove 203 = .ok (.iload 9, 2) := by decide +kernel
theorem dL_isMove_205 : decode cL_isMove 205 = .ok (.if_icmp .ge 38, 3) := by decide +kernel
theorem dL_isMove_208 : decode cL_isMove 208 = .ok (.aload_n 0, 1) := by decide +kernel
theorem dL_isMove_209 : decode cL_isMove 209 = .ok (.iload_n 1, 1) := by decide +kernel
theorem dL_isMove_210 : decode cL_isMove 210 = .ok (.iconst 1, 1) := by decide +kernel
theorem dL_isMove_211 : decode cL_isMove 211 = .ok (.invokevirtual 92, 3) := by decide +kernel
theorem dL_isMove_214 : decode cL_isMove 214 = .ok (.ifCond .eq 29, 3) := by decide +kernel
theorem dL_isMove_217 : decode cL_isMove 217 = .ok (.aload_n 0, 1) := by decide +kernel
theorem dL_isMove_218 : decode cL_isMove 218 = .ok (.iload_n 1, 1) := by decide +kernel
theorem dL_isMove_219 : decode cL_isMove 219 = .ok (.iconst 0, 1) := by decide +kernel
theorem dL_isMove_220 : decode cL_isMove 220 = .ok (.invokevirtual 89, 3) := by decide +kernel
theorem dL_isMove_223 : decode cL_isMove 223 = .ok (.iload 10, 2) := by decide +kernel
theorem dL_isMove_225 : decode cL_isMove 225 = .ok (.if_icmp .ne 18, 3) := by decide +kernel
theorem dL_isMove_228 : decode cL_isMove 228 = .ok (.aload_n 0, 1) := by decide +kernel
theorem dL_isMove_229 : decode cL_isMove 229 = .ok (.iload_n 1, 1) := by decide +kernel
theorem dL_isMove_230 : decode cL_isMove 230 = .ok (.iconst 1, 1) := by decide +kernel
theorem dL_isMove_231 : decode cL_isMove 231 = .ok (.invokevirtual 89, 3) := by decide +kernel
theorem dL_isMove_234 : decode cL_isMove 234 = .ok (.iload 9, 2) := by decide +kernel
theorem dL_isMove_236 : decode cL_isMove 236 = .ok (.if_icmp .ne 7, 3) := by decide +kernel
theorem dL_isMove_239 : decode cL_isMove 239 = .ok (.iconst 1, 1) := by decide +kernel
theorem dL_isMove_240 : decode cL_isMove 240 = .ok (.goto 4, 3) := by decide +kernel
theorem dL_isMove_243 : decode cL_isMove 243 = .ok (.iconst 0, 1) := by decide +kernel
theorem dL_isMove_244 : decode cL_isMove 244 = .ok (.istore 8, 2) := by decide +kernel
theorem dL_isMove_246 : decode cL_isMove 246 = .ok (.iload 8, 2) := by decide +kernel
theorem dL_isMove_248 : decode cL_isMove 248 = .ok (.ifCond .eq 37, 3) := by decide +kernel
theorem dL_isMove_251 : decode cL_isMove 251 = .ok (.iload_n 2, 1) := by decide +kernel
theorem dL_isMove_252 : decode cL_isMove 252 = .ok (.iconst 2, 1) := by decide +kernel
theorem dL_isMove_253 : decode cL_isMove 253 = .ok (.if_icmp .ne 13, 3) := by decide +kernel
theorem dL_isMove_256 : decode cL_isMove 256 = .ok (.aload_n 0, 1) := by decide +kernel
theorem dL_isMove_257 : decode cL_isMove 257 = .ok (.iload_n 1, 1) := by decide +kernel
theorem dL_isMove_258 : decode cL_isMove 258 = .ok (.iconst 0, 1) := by decide +kernel
theorem dL_isMove_259 : decode cL_isMove 259 = .ok (.invokevirtual 89, 3) := by decide +kernel
theorem dL_isMove_262 : decode cL_isMove 262 = .ok (.iload_n 3, 1) := by decide +kernel
theorem dL_isMove_263 : decode cL_isMove 263 = .ok (.if_icmp .gt 22, 3) := by decide +kernel
theorem dL_isMove_266 : decode cL_isMove 266 = .ok (.iload_n 2, 1) := by decide +kernel
theorem dL_isMove_267 : decode cL_isMove 267 = .ok (.iconst 3, 1) := by decide +kernel
theorem dL_isMove_268 : decode cL_isMove 268 = .ok (.if_icmp .ne 13, 3) := by decide +kernel
theorem dL_isMove_271 : decode cL_isMove 271 = .ok (.aload_n 0, 1) := by decide +kernel
theorem dL_isMove_272 : decode cL_isMove 272 = .ok (.iload_n 1, 1) := by decide +kernel
theorem dL_isMove_273 : decode cL_isMove 273 = .ok (.iconst 0, 1) := by decide +kernel
theorem dL_isMove_274 : decode cL_isMove 274 = .ok (.invokevirtual 89, 3) := by decide +kernel
theorem dL_isMove_277 : decode cL_isMove 277 = .ok (.iload_n 3, 1) := by decide +kernel
theorem dL_isMove_278 : decode cL_isMove 278 = .ok (.if_icmp .lt 7, 3) := by decide +kernel
theorem dL_isMove_281 : decode cL_isMove 281 = .ok (.iconst 1, 1) := by decide +kernel
theorem dL_isMove_282 : decode cL_isMove 282 = .ok (.goto 4, 3) := by decide +kernel
theorem dL_isMove_285 : decode cL_isMove 285 = .ok (.iconst 0, 1) := by decide +kernel
theorem dL_isMove_286 : decode cL_isMove 286 = .ok (.ireturn, 1) := by decide +kernel
theorem dL_isDrawn_0 : decode cL_isDrawn 0 = .ok (.aload_n 0, 1) := by decide +kernel
theorem dL_isDrawn_1 : decode cL_isDrawn 1 = .ok (.iload_n 1, 1) := by decide +kernel
theorem dL_isDrawn_2 : decode cL_isDrawn 2 = .ok (.invokevirtual 67, 3) := by decide +kernel
theorem dL_isDrawn_5 : decode cL_isDrawn 5 = .ok (.istore_n 2, 1) := by decide +kernel
theorem dL_isDrawn_6 : decode cL_isDrawn 6 = .ok (.aload_n 0, 1) := by decide +kernel
theorem dL_isDrawn_7 : decode cL_isDrawn 7 = .ok (.bipush 11, 2) := by decide +kernel
theorem dL_isDrawn_9 : decode cL_isDrawn 9 = .ok (.iload_n 1, 1) := by decide +kernel
theorem dL_isDrawn_10 : decode cL_isDrawn 10 = .ok (.iconst 0, 1) := by decide +kernel
theorem dL_isDrawn_11 : decode cL_isDrawn 11 = .ok (.iconst 0, 1) := by decide +kernel
theorem dL_isDrawn_12 : decode cL_isDrawn 12 = .ok (.iconst 0, 1) := by decide +kernel
theorem dL_isDrawn_13 : decode cL_isDrawn 13 = .ok (.invokestatic 96, 3) := by decide +kernel
theorem dL_isDrawn_16 : decode cL_isDrawn 16 = .ok (.istore_n 3, 1) := by decide +kernel
theorem dL_isDrawn_17 : decode cL_isDrawn 17 = .ok (.aload_n 0, 1) := by decide +kernel
theorem dL_isDrawn_18 : decode cL_isDrawn 18 = .ok (.iload_n 1, 1) := by decide +kernel
theorem dL_isDrawn_19 : decode cL_isDrawn 19 = .ok (.invokevirtual 99, 3) := by decide +kernel
theorem dL_isDrawn_22 : decode cL_isDrawn 22 = .ok (.istore 4, 2) := by decide +kernel
theorem dL_isDrawn_24 : decode cL_isDrawn 24 = .ok (.iload_n 2, 1) := by decide +kernel
theorem dL_isDrawn_25 : decode cL_isDrawn 25 = .ok (.ifCond .ne 17, 3) := by decide +kernel
theorem dL_isDrawn_28 : decode cL_isDrawn 28 = .ok (.iload_n 3, 1) := by decide +kernel
theorem dL_isDrawn_29 : decode cL_isDrawn 29 = .ok (.bipush (-13), 2) := by decide +kernel
theorem dL_isDrawn_31 : decode cL_isDrawn 31 = .ok (.if_icmp .ne 7, 3) := by decide +kernel
theorem dL_isDrawn_34 : decode cL_isDrawn 34 = .ok (.iconst 1, 1) := by decide +kernel
theorem dL_isDrawn_35 : decode cL_isDrawn 35 = .ok (.goto 56, 3) := by decide +kernel
theorem dL_isDrawn_38 : decode cL_isDrawn 38 = .ok (.iconst 0, 1) := by decide +kernel
theorem dL_isDrawn_39 : decode cL_isDrawn 39 = .ok (.goto 52, 3) := by decide +kernel
theorem dL_isDrawn_42 : decode cL_isDrawn 42 = .ok (.iload_n 3, 1) := by decide +kernel
theorem dL_isDrawn_43 : decode cL_isDrawn 43 = .ok (.ifCond .lt 47, 3) := by decide +kernel
theorem dL_isDrawn_46 : decode cL_isDrawn 46 = .ok (.iload_n 3, 1) := by decide +kernel
