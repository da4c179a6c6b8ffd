theorem dL_isDrawn_47 : decode cL_isDrawn 47 = .ok (.iload_n 2, 1) := by decide +kernel
theorem dL_isDrawn_48 : decode cL_isDrawn 48 = .ok (.if_icmp .gt 42, 3) := by decide +kernel
theorem dL_isDrawn_51 : decode cL_isDrawn 51 = .ok (.iload 4, 2) := by decide +kernel
theorem dL_isDrawn_53 : decode cL_isDrawn 53 = .ok (.bipush (-24), 2) := by decide +kernel
theorem dL_isDrawn_55 : decode cL_isDrawn 55 = .ok (.if_icmp .le 35, 3) := by decide +kernel
theorem dL_isDrawn_58 : decode cL_isDrawn 58 = .ok (.iload 4, 2) := by decide +kernel
theorem dL_isDrawn_60 : decode cL_isDrawn 60 = .ok (.bipush 24, 2) := by decide +kernel
theorem dL_isDrawn_62 : decode cL_isDrawn 62 = .ok (.if_icmp .ge 28, 3) := by decide +kernel
theorem dL_isDrawn_65 : decode cL_isDrawn 65 = .ok (.aload_n 0, 1) := by decide +kernel
theorem dL_isDrawn_66 : decode cL_isDrawn 66 = .ok (.bipush 11, 2) := by decide +kernel
theorem dL_isDrawn_68 : decode cL_isDrawn 68 = .ok (.iload_n 1, 1) := by decide +kernel
theorem dL_isDrawn_69 : decode cL_isDrawn 69 = .ok (.iconst 0, 1) := by decide +kernel
theorem dL_isDrawn_70 : decode cL_isDrawn 70 = .ok (.iconst 0, 1) := by decide +kernel
theorem dL_isDrawn_71 : decode cL_isDrawn 71 = .ok (.iconst 0, 1) := by decide +kernel
theorem dL_isDrawn_72 : decode cL_isDrawn 72 = .ok (.invokestatic 96, 3) := by decide +kernel
theorem dL_isDrawn_75 : decode cL_isDrawn 75 = .ok (.ifCond .ne 15, 3) := by decide +kernel
theorem dL_isDrawn_78 : decode cL_isDrawn 78 = .ok (.aload_n 0, 1) := by decide +kernel
theorem dL_isDrawn_79 : decode cL_isDrawn 79 = .ok (.iload_n 1, 1) := by decide +kernel
theorem dL_isDrawn_80 : decode cL_isDrawn 80 = .ok (.invokevirtual 99, 3) := by decide +kernel
theorem dL_isDrawn_83 : decode cL_isDrawn 83 = .ok (.ifCond .ne 7, 3) := by decide +kernel
theorem dL_isDrawn_86 : decode cL_isDrawn 86 = .ok (.iconst 1, 1) := by decide +kernel
theorem dL_isDrawn_87 : decode cL_isDrawn 87 = .ok (.goto 4, 3) := by decide +kernel
theorem dL_isDrawn_90 : decode cL_isDrawn 90 = .ok (.iconst 0, 1) := by decide +kernel
theorem dL_isDrawn_91 : decode cL_isDrawn 91 = .ok (.ireturn, 1) := by decide +kernel
theorem dL_law_0 : decode cL_law 0 = .ok (.new 8, 3) := by decide +kernel
theorem dL_law_3 : decode cL_law 3 = .ok (.dup, 1) := by decide +kernel
theorem dL_law_4 : decode cL_law 4 = .ok (.invokespecial 102, 3) := by decide +kernel
theorem dL_law_7 : decode cL_law 7 = .ok (.astore_n 1, 1) := by decide +kernel
theorem dL_law_8 : decode cL_law 8 = .ok (.iconst 0, 1) := by decide +kernel
theorem dL_law_9 : decode cL_law 9 = .ok (.istore_n 2, 1) := by decide +kernel
theorem dL_law_10 : decode cL_law 10 = .ok (.aload_n 1, 1) := by decide +kernel
theorem dL_law_11 : decode cL_law 11 = .ok (.invokestatic 103, 3) := by decide +kernel
theorem dL_law_14 : decode cL_law 14 = .ok (.ifCond .eq 23, 3) := by decide +kernel
theorem dL_law_17 : decode cL_law 17 = .ok (.aload_n 1, 1) := by decide +kernel
theorem dL_law_18 : decode cL_law 18 = .ok (.iconst 0, 1) := by decide +kernel
theorem dL_law_19 : decode cL_law 19 = .ok (.invokestatic 107, 3) := by decide +kernel
theorem dL_law_22 : decode cL_law 22 = .ok (.ifCond .eq 15, 3) := by decide +kernel
theorem dL_law_25 : decode cL_law 25 = .ok (.aload_n 1, 1) := by decide +kernel
theorem dL_law_26 : decode cL_law 26 = .ok (.iconst 3, 1) := by decide +kernel
theorem dL_law_27 : decode cL_law 27 = .ok (.invokestatic 107, 3) := by decide +kernel
theorem dL_law_30 : decode cL_law 30 = .ok (.ifCond .eq 7, 3) := by decide +kernel
theorem dL_law_33 : decode cL_law 33 = .ok (.iconst 1, 1) := by decide +kernel
theorem dL_law_34 : decode cL_law 34 = .ok (.goto 4, 3) := by decide +kernel
theorem dL_law_37 : decode cL_law 37 = .ok (.iconst 0, 1) := by decide +kernel
theorem dL_law_38 : decode cL_law 38 = .ok (.istore_n 3, 1) := by decide +kernel
theorem dL_law_39 : decode cL_law 39 = .ok (.aload_n 0, 1) := by decide +kernel
theorem dL_law_40 : decode cL_law 40 = .ok (.arraylength, 1) := by decide +kernel
theorem dL_law_41 : decode cL_law 41 = .ok (.bipush 40, 2) := by decide +kernel
theorem dL_law_43 : decode cL_law 43 = .ok (.if_icmp .ge 8, 3) := by decide +kernel
theorem dL_law_46 : decode cL_law 46 = .ok (.bipush 100, 2) := by decide +kernel
theorem dL_law_48 : decode cL_law 48 = .ok (.goto 20, 3) := by decide +kernel
theorem dL_law_51 : decode cL_law 51 = .ok (.aload_n 0, 1) := by decide +kernel
theorem dL_law_52 : decode cL_law 52 = .ok (.arraylength, 1) := by decide +kernel
theorem dL_law_53 : decode cL_law 53 = .ok (.bipush 80, 2) := by decide +kernel
theorem dL_law_55 : decode cL_law 55 = .ok (.if_icmp .ge 10, 3) := by decide +kernel
theorem dL_law_58 : decode cL_law 58 = .ok (.iconst 2, 1) := by decide +kernel
theorem dL_law_59 : decode cL_law 59 = .ok (.aload_n 0, 1) := by decide +kernel
theorem dL_law_60 : decode cL_law 60 = .ok (.arraylength, 1) := by decide +kernel
theorem dL_law_61 : decode cL_law 61 = .ok (.imul, 1) := by decide +kernel
theorem dL_law_62 : decode cL_law 62 = .ok (.goto 6, 3) := by decide +kernel
theorem dL_law_65 : decode cL_law 65 = .ok (.sipush 150, 3) := by decide +kernel
theorem dL_law_68 : decode cL_law 68 = .ok (.istore 4, 2) := by decide +kernel
theorem dL_law_70 : decode cL_law 70 = .ok (.iconst 0, 1) := by decide +kernel
theorem dL_law_71 : decode cL_law 71 = .ok (.istore 5, 2) := by decide +kernel
theorem dL_law_73 : decode cL_law 73 = .ok (.iload 5, 2) := by decide +kernel
theorem dL_law_75 : decode cL_law 75 = .ok (.iload 4, 2) := by decide +kernel
theorem dL_law_77 : decode cL_law 77 = .ok (.if_icmp .ge 1459, 3) := by decide +kernel
theorem dL_law_80 : decode cL_law 80 = .ok (.iload_n 3, 1) := by decide +kernel
theorem dL_law_81 : decode cL_law 81 = .ok (.ifCond .eq 1455, 3) := by decide +kernel
theorem dL_law_84 : decode cL_law 84 = .ok (.iload 5, 2) := by decide +kernel
theorem dL_law_86 : decode cL_law 86 = .ok (.aload_n 0, 1) := by decide +kernel
theorem dL_law_87 : decode cL_law 87 = .ok (.arraylength, 1) := by decide +kernel
theorem dL_law_88 : decode cL_law 88 = .ok (.if_icmp .ge 10, 3) := by decide +kernel
theorem dL_law_91 : decode cL_law 91 = .ok (.aload_n 0, 1) := by decide +kernel
theorem dL_law_92 : decode cL_law 92 = .ok (.iload 5, 2) := by decide +kernel
theorem dL_law_94 : decode cL_law 94 = .ok (.iaload, 1) := by decide +kernel
theorem dL_law_95 : decode cL_law 95 = .ok (.goto 21, 3) := by decide +kernel
theorem dL_law_98 : decode cL_law 98 = .ok (.ldc 111, 2) := by decide +kernel
theorem dL_law_100 : decode cL_law 100 = .ok (.iload 5, 2) := by decide +kernel
theorem dL_law_102 : decode cL_law 102 = .ok (.imul, 1) := by decide +kernel
theorem dL_law_103 : decode cL_law 103 = .ok (.iload 5, 2) := by decide +kernel
theorem dL_law_105 : decode cL_law 105 = .ok (.imul, 1) := by decide +kernel
theorem dL_law_106 : decode cL_law 106 = .ok (.ldc 112, 2) := by decide +kernel
theorem dL_law_108 : decode cL_law 108 = .ok (.iload 5, 2) := by decide +kernel
theorem dL_law_110 : decode cL_law 110 = .ok (.imul, 1) := by decide +kernel
theorem dL_law_111 : decode cL_law 111 = .ok (.iadd, 1) := by decide +kernel
theorem dL_law_112 : decode cL_law 112 = .ok (.sipush 199, 3) := by decide +kernel
theorem dL_law_115 : decode cL_law 115 = .ok (.iadd, 1) := by decide +kernel
theorem dL_law_116 : decode cL_law 116 = .ok (.istore 6, 2) := by decide +kernel
theorem dL_law_118 : decode cL_law 118 = .ok (.iload 6, 2) := by decide +kernel
theorem dL_law_120 : decode cL_law 120 = .ok (.iconst 4, 1) := by decide +kernel
theorem dL_law_121 : decode cL_law 121 = .ok (.ishr, 1) := by decide +kernel
theorem dL_law_122 : decode cL_law 122 = .ok (.ldc 113, 2) := by decide +kernel
theorem dL_law_124 : decode cL_law 124 = .ok (.iand, 1) := by decide +kernel
theorem dL_law_125 : decode cL_law 125 = .ok (.istore 7, 2) := by decide +kernel
theorem dL_law_127 : decode cL_law 127 = .ok (.iload 5, 2) := by decide +kernel
theorem dL_law_129 : decode cL_law 129 = .ok (.iconst 4, 1) := by decide +kernel
theorem dL_law_130 : decode cL_law 130 = .ok (.if_icmp .ge 7, 3) := by decide +kernel
theorem dL_law_133 : decode cL_law 133 = .ok (.iconst 0, 1) := by decide +kernel
theorem dL_law_134 : decode cL_law 134 = .ok (.goto 8, 3) := by decide +kernel
theorem dL_law_137 : decode cL_law 137 = .ok (.iload 6, 2) := by decide +kernel
theorem dL_law_139 : decode cL_law 139 = .ok (.bipush 15, 2) := by decide +kernel
theorem dL_law_141 : decode cL_law 141 = .ok (.iand, 1) := by decide +kernel
theorem dL_law_142 : decode cL_law 142 = .ok (.istore 8, 2) := by decide +kernel
theorem dL_law_144 : decode cL_law 144 = .ok (.iload 7, 2) := by decide +kernel
theorem dL_law_146 : decode cL_law 146 = .ok (.iconst 3, 1) := by decide +kernel
theorem dL_law_147 : decode cL_law 147 = .ok (.iand, 1) := by decide +kernel
theorem dL_law_148 : decode cL_law 148 = .ok (.istore 9, 2) := by decide +kernel
theorem dL_law_150 : decode cL_law 150 = .ok (.iload 7, 2) := by decide +kernel
theorem dL_law_152 : decode cL_law 152 = .ok (.iconst 2, 1) := by decide +kernel
theorem dL_law_153 : decode cL_law 153 = .ok (.ishr, 1) := by decide +kernel
theorem dL_law_154 : decode cL_law 154 = .ok (.aload_n 1, 1) := by decide +kernel
theorem dL_law_155 : decode cL_law 155 = .ok (.invokevirtual 73, 3) := by decide +kernel
theorem dL_law_158 : decode cL_law 158 = .ok (.irem, 1) := by decide +kernel
theorem dL_law_159 : decode cL_law 159 = .ok (.istore 10, 2) := by decide +kernel
theorem dL_law_161 : decode cL_law 161 = .ok (.aload_n 1, 1) := by decide +kernel
theorem dL_law_162 : decode cL_law 162 = .ok (.iload 10, 2) := by decide +kernel
theorem dL_law_164 : decode cL_law 164 = .ok (.invokevirtual 86, 3) := by decide +kernel
theorem dL_law_167 : decode cL_law 167 = .ok (.istore 11, 2) := by decide +kernel
theorem dL_law_169 : decode cL_law 169 = .ok (.iload 7, 2) := by decide +kernel
theorem dL_law_171 : decode cL_law 171 = .ok (.iconst 5, 1) := by decide +kernel
theorem dL_law_172 : decode cL_law 172 = .ok (.ishr, 1) := by decide +kernel
theorem dL_law_173 : decode cL_law 173 = .ok (.iload 11, 2) := by decide +kernel
theorem dL_law_175 : decode cL_law 175 = .ok (.iconst 1, 1) := by decide +kernel
theorem dL_law_176 : decode cL_law 176 = .ok (.iadd, 1) := by decide +kernel
theorem dL_law_177 : decode cL_law 177 = .ok (.irem, 1) := by decide +kernel
theorem dL_law_178 : decode cL_law 178 = .ok (.istore 12, 2) := by decide +kernel
theorem dL_law_180 : decode cL_law 180 = .ok (.iload 8, 2) := by decide +kernel
theorem dL_law_182 : decode cL_law 182 = .ok (.iconst 3, 1) := by decide +kernel
theorem dL_law_183 : decode cL_law 183 = .ok (.if_icmp .ge 163, 3) := by decide +kernel
theorem dL_law_186 : decode cL_law 186 = .ok (.iload 6, 2) := by decide +kernel
theorem dL_law_188 : decode cL_law 188 = .ok (.bipush 31, 2) := by decide +kernel
theorem dL_law_190 : decode cL_law 190 = .ok (.imul, 1) := by decide +kernel
theorem dL_law_191 : decode cL_law 191 = .ok (.iload 5, 2) := by decide +kernel
theorem dL_law_193 : decode cL_law 193 = .ok (.iadd, 1) := by decide +kernel
theorem dL_law_194 : decode cL_law 194 = .ok (.istore 13, 2) := by decide +kernel
theorem dL_law_196 : decode cL_law 196 = .ok (.iconst 0, 1) := by decide +kernel
theorem dL_law_197 : decode cL_law 197 = .ok (.istore 14, 2) := by decide +kernel
theorem dL_law_199 : decode cL_law 199 = .ok (.iload 14, 2) := by decide +kernel
theorem dL_law_201 : decode cL_law 201 = .ok (.iconst 3, 1) := by decide +kernel
theorem dL_law_202 : decode cL_law 202 = .ok (.if_icmp .ge 141, 3) := by decide +kernel
theorem dL_law_205 : decode cL_law 205 = .ok (.iload_n 3, 1) := by decide +kernel
theorem dL_law_206 : decode cL_law 206 = .ok (.ifCond .eq 137, 3) := by decide +kernel
theorem dL_law_209 : decode cL_law 209 = .ok (.iload 13, 2) := by decide +kernel
theorem dL_law_211 : decode cL_law 211 = .ok (.ldc 114, 2) := by decide +kernel
theorem dL_law_213 : decode cL_law 213 = .ok (.imul, 1) := by decide +kernel
theorem dL_law_214 : decode cL_law 214 = .ok (.sipush 12345, 3) := by decide +kernel
theorem dL_law_217 : decode cL_law 217 = .ok (.iadd, 1) := by decide +kernel
theorem dL_law_218 : decode cL_law 218 = .ok (.istore 13, 2) := by decide +kernel
theorem dL_law_220 : decode cL_law 220 = .ok (.iload 13, 2) := by decide +kernel
theorem dL_law_222 : decode cL_law 222 = .ok (.bipush 9, 2) := by decide +kernel
theorem dL_law_224 : decode cL_law 224 = .ok (.ishr, 1) := by decide +kernel
theorem dL_law_225 : decode cL_law 225 = .ok (.bipush 127, 2) := by decide +kernel
theorem dL_law_227 : decode cL_law 227 = .ok (.iand, 1) := by decide +kernel
theorem dL_law_228 : decode cL_law 228 = .ok (.istore 15, 2) := by decide +kernel
theorem dL_law_230 : decode cL_law 230 = .ok (.iload 15, 2) := by decide +kernel
theorem dL_law_232 : decode cL_law 232 = .ok (.bipush 20, 2) := by decide +kernel
theorem dL_law_234 : decode cL_law 234 = .ok (.if_icmp .ge 8, 3) := by decide +kernel
theorem dL_law_237 : decode cL_law 237 = .ok (.bipush 32, 2) := by decide +kernel
theorem dL_law_239 : decode cL_law 239 = .ok (.goto 32, 3) := by decide +kernel
theorem dL_law_242 : decode cL_law 242 = .ok (.iload 15, 2) := by decide +kernel
theorem dL_law_244 : decode cL_law 244 = .ok (.bipush 127, 2) := by decide +kernel
theorem dL_law_246 : decode cL_law 246 = .ok (.if_icmp .ne 8, 3) := by decide +kernel
theorem dL_law_249 : decode cL_law 249 = .ok (.bipush 9, 2) := by decide +kernel
theorem dL_law_251 : decode cL_law 251 = .ok (.goto 20, 3) := by decide +kernel
theorem dL_law_254 : decode cL_law 254 = .ok (.iload 15, 2) := by decide +kernel
theorem dL_law_256 : decode cL_law 256 = .ok (.bipush 33, 2) := by decide +kernel
theorem dL_law_258 : decode cL_law 258 = .ok (.if_icmp .ge 11, 3) := by decide +kernel
theorem dL_law_261 : decode cL_law 261 = .ok (.iload 15, 2) := by decide +kernel
theorem dL_law_263 : decode cL_law 263 = .ok (.bipush 20, 2) := by decide +kernel
theorem dL_law_265 : decode cL_law 265 = .ok (.iadd, 1) := by decide +kernel
theorem dL_law_266 : decode cL_law 266 = .ok (.goto 5, 3) := by decide +kernel
theorem dL_law_269 : decode cL_law 269 = .ok (.iload 15, 2) := by decide +kernel
theorem dL_law_271 : decode cL_law 271 = .ok (.istore 16, 2) := by decide +kernel
theorem dL_law_273 : decode cL_law 273 = .ok (.aload_n 1, 1) := by decide +kernel
theorem dL_law_274 : decode cL_law 274 = .ok (.iload 10, 2) := by decide +kernel
theorem dL_law_276 : decode cL_law 276 = .ok (.invokevirtual 86, 3) := by decide +kernel
theorem dL_law_279 : decode cL_law 279 = .ok (.bipush 24, 2) := by decide +kernel
theorem dL_law_281 : decode cL_law 281 = .ok (.if_icmp .ge 18, 3) := by decide +kernel
theorem dL_law_284 : decode cL_law 284 = .ok (.aload_n 1, 1) := by decide +kernel
theorem dL_law_285 : decode cL_law 285 = .ok (.iconst 0, 1) := by decide +kernel
theorem dL_law_286 : decode cL_law 286 = .ok (.iload 10, 2) := by decide +kernel
theorem dL_law_288 : decode cL_law 288 = .ok (.iload 12, 2) := by decide +kernel
theorem dL_law_290 : decode cL_law 290 = .ok (.iload 16, 2) := by decide +kernel
theorem dL_law_292 : decode cL_law 292 = .ok (.iconst 0, 1) := by decide +kernel
theorem dL_law_293 : decode cL_law 293 = .ok (.invokestatic 96, 3) := by decide +kernel
theorem dL_law_296 : decode cL_law 296 = .ok (.goto 4, 3) := by decide +kernel
theorem dL_law_299 : decode cL_law 299 = .ok (.iconst 0, 1) := by decide +kernel
theorem dL_law_300 : decode cL_law 300 = .ok (.istore 17, 2) := by decide +kernel
theorem dL_law_302 : decode cL_law 302 = .ok (.iload 17, 2) := by decide +kernel
theorem dL_law_304 : decode cL_law 304 = .ok (.ifCond .eq 27, 3) := by decide +kernel
theorem dL_law_307 : decode cL_law 307 = .ok (.iload 17, 2) := by decide +kernel
theorem dL_law_309 : decode cL_law 309 = .ok (.aload_n 1, 1) := by decide +kernel
theorem dL_law_310 : decode cL_law 310 = .ok (.iload 10, 2) := by decide +kernel
theorem dL_law_312 : decode cL_law 312 = .ok (.invokevirtual 86, 3) := by decide +kernel
theorem dL_law_315 : decode cL_law 315 = .ok (.if_icmp .ne 20, 3) := by decide +kernel
theorem dL_law_318 : decode cL_law 318 = .ok (.aload_n 1, 1) := by decide +kernel
theorem dL_law_319 : decode cL_law 319 = .ok (.iload 10, 2) := by decide +kernel
theorem dL_law_321 : decode cL_law 321 = .ok (.iload 12, 2) := by decide +kernel
theorem dL_law_323 : decode cL_law 323 = .ok (.invokevirtual 115, 3) := by decide +kernel
theorem dL_law_326 : decode cL_law 326 = .ok (.iload 16, 2) := by decide +kernel
theorem dL_law_328 : decode cL_law 328 = .ok (.if_icmp .ne 7, 3) := by decide +kernel
theorem dL_law_331 : decode cL_law 331 = .ok (.iconst 1, 1) := by decide +kernel
theorem dL_law_332 : decode cL_law 332 = .ok (.goto 4, 3) := by decide +kernel
theorem dL_law_335 : decode cL_law 335 = .ok (.iconst 0, 1) := by decide +kernel
theorem dL_law_336 : decode cL_law 336 = .ok (.istore_n 3, 1) := by decide +kernel
theorem dL_law_337 : decode cL_law 337 = .ok (.iinc 14 1, 3) := by decide +kernel
theorem dL_law_340 : decode cL_law 340 = .ok (.goto (-141), 3) := by decide +kernel
theorem dL_law_343 : decode cL_law 343 = .ok (.goto 1131, 3) := by decide +kernel
theorem dL_law_346 : decode cL_law 346 = .ok (.iload 8, 2) := by decide +kernel
theorem dL_law_348 : decode cL_law 348 = .ok (.iconst 3, 1) := by decide +kernel
theorem dL_law_349 : decode cL_law 349 = .ok (.if_icmp .ne 155, 3) := by decide +kernel
theorem dL_law_352 : decode cL_law 352 = .ok (.aload_n 1, 1) := by decide +kernel
theorem dL_law_353 : decode cL_law 353 = .ok (.invokevirtual 73, 3) := by decide +kernel
theorem dL_law_356 : decode cL_law 356 = .ok (.bipush 8, 2) := by decide +kernel
theorem dL_law_358 : decode cL_law 358 = .ok (.if_icmp .ge 146, 3) := by decide +kernel
theorem dL_law_361 : decode cL_law 361 = .ok (.aload_n 1, 1) := by decide +kernel
theorem dL_law_362 : decode cL_law 362 = .ok (.invokevirtual 73, 3) := by decide +kernel
theorem dL_law_365 : decode cL_law 365 = .ok (.istore 13, 2) := by decide +kernel
theorem dL_law_367 : decode cL_law 367 = .ok (.aload_n 1, 1) := by decide +kernel
theorem dL_law_368 : decode cL_law 368 = .ok (.iload 9, 2) := by decide +kernel
theorem dL_law_370 : decode cL_law 370 = .ok (.iload 10, 2) := by decide +kernel
theorem dL_law_372 : decode cL_law 372 = .ok (.invokevirtual 77, 3) := by decide +kernel
theorem dL_law_375 : decode cL_law 375 = .ok (.istore 14, 2) := by decide +kernel
theorem dL_law_377 : decode cL_law 377 = .ok (.aload_n 1, 1) := by decide +kernel
theorem dL_law_378 : decode cL_law 378 = .ok (.iconst 1, 1) := by decide +kernel
theorem dL_law_379 : decode cL_law 379 = .ok (.iload 10, 2) := by decide +kernel
theorem dL_law_381 : decode cL_law 381 = .ok (.iload 12, 2) := by decide +kernel
theorem dL_law_383 : decode cL_law 383 = .ok (.iconst 0, 1) := by decide +kernel
theorem dL_law_384 : decode cL_law 384 = .ok (.iconst 0, 1) := by decide +kernel
theorem dL_law_385 : decode cL_law 385 = .ok (.invokestatic 96, 3) := by decide +kernel
theorem dL_law_388 : decode cL_law 388 = .ok (.iload 13, 2) := by decide +kernel
theorem dL_law_390 : decode cL_law 390 = .ok (.iconst 1, 1) := by decide +kernel
theorem dL_law_391 : decode cL_law 391 = .ok (.iadd, 1) := by decide +kernel
theorem dL_law_392 : decode cL_law 392 = .ok (.if_icmp .ne 34, 3) := by decide +kernel
theorem dL_law_395 : decode cL_law 395 = .ok (.aload_n 1, 1) := by decide +kernel
theorem dL_law_396 : decode cL_law 396 = .ok (.iload 10, 2) := by decide +kernel
theorem dL_law_398 : decode cL_law 398 = .ok (.invokevirtual 86, 3) := by decide +kernel
theorem dL_law_401 : decode cL_law 401 = .ok (.iload 12, 2) := by decide +kernel
theorem dL_law_403 : decode cL_law 403 = .ok (.if_icmp .ne 23, 3) := by decide +kernel
