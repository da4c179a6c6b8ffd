theorem dX13_init_0 : decode cX13_init 0 = .ok (.aload_n 0, 1) := by decide +kernel
theorem dX13_init_1 : decode cX13_init 1 = .ok (.invokespecial 1, 3) := by decide +kernel
theorem dX13_init_4 : decode cX13_init 4 = .ok (.aload_n 0, 1) := by decide +kernel
theorem dX13_init_5 : decode cX13_init 5 = .ok (.sipush 4800, 3) := by decide +kernel
theorem dX13_init_8 : decode cX13_init 8 = .ok (.newarray .int, 2) := by decide +kernel
theorem dX13_init_10 : decode cX13_init 10 = .ok (.putfield 7, 3) := by decide +kernel
theorem dX13_init_13 : decode cX13_init 13 = .ok (.aload_n 0, 1) := by decide +kernel
theorem dX13_init_14 : decode cX13_init 14 = .ok (.bipush 60, 2) := by decide +kernel
theorem dX13_init_16 : decode cX13_init 16 = .ok (.newarray .int, 2) := by decide +kernel
theorem dX13_init_18 : decode cX13_init 18 = .ok (.putfield 13, 3) := by decide +kernel
theorem dX13_init_21 : decode cX13_init 21 = .ok (.aload_n 0, 1) := by decide +kernel
theorem dX13_init_22 : decode cX13_init 22 = .ok (.bipush 60, 2) := by decide +kernel
theorem dX13_init_24 : decode cX13_init 24 = .ok (.newarray .boolean, 2) := by decide +kernel
theorem dX13_init_26 : decode cX13_init 26 = .ok (.putfield 16, 3) := by decide +kernel
theorem dX13_init_29 : decode cX13_init 29 = .ok (.aload_n 0, 1) := by decide +kernel
theorem dX13_init_30 : decode cX13_init 30 = .ok (.iconst 1, 1) := by decide +kernel
theorem dX13_init_31 : decode cX13_init 31 = .ok (.putfield 20, 3) := by decide +kernel
theorem dX13_init_34 : decode cX13_init 34 = .ok (.aload_n 0, 1) := by decide +kernel
theorem dX13_init_35 : decode cX13_init 35 = .ok (.iconst 4, 1) := by decide +kernel
theorem dX13_init_36 : decode cX13_init 36 = .ok (.newarray .int, 2) := by decide +kernel
theorem dX13_init_38 : decode cX13_init 38 = .ok (.putfield 24, 3) := by decide +kernel
theorem dX13_init_41 : decode cX13_init 41 = .ok (.aload_n 0, 1) := by decide +kernel
theorem dX13_init_42 : decode cX13_init 42 = .ok (.iconst 4, 1) := by decide +kernel
theorem dX13_init_43 : decode cX13_init 43 = .ok (.newarray .int, 2) := by decide +kernel
theorem dX13_init_45 : decode cX13_init 45 = .ok (.putfield 27, 3) := by decide +kernel
theorem dX13_init_48 : decode cX13_init 48 = .ok (.aload_n 0, 1) := by decide +kernel
theorem dX13_init_49 : decode cX13_init 49 = .ok (.iconst 4, 1) := by decide +kernel
theorem dX13_init_50 : decode cX13_init 50 = .ok (.newarray .int, 2) := by decide +kernel
theorem dX13_init_52 : decode cX13_init 52 = .ok (.putfield 30, 3) := by decide +kernel
theorem dX13_init_55 : decode cX13_init 55 = .ok (.aload_n 0, 1) := by decide +kernel
theorem dX13_init_56 : decode cX13_init 56 = .ok (.iconst 4, 1) := by decide +kernel
theorem dX13_init_57 : decode cX13_init 57 = .ok (.newarray .boolean, 2) := by decide +kernel
theorem dX13_init_59 : decode cX13_init 59 = .ok (.putfield 33, 3) := by decide +kernel
theorem dX13_init_62 : decode cX13_init 62 = .ok (.aload_n 0, 1) := by decide +kernel
theorem dX13_init_63 : decode cX13_init 63 = .ok (.iconst 4, 1) := by decide +kernel
theorem dX13_init_64 : decode cX13_init 64 = .ok (.newarray .int, 2) := by decide +kernel
theorem dX13_init_66 : decode cX13_init 66 = .ok (.putfield 36, 3) := by decide +kernel
theorem dX13_init_69 : decode cX13_init 69 = .ok (.aload_n 0, 1) := by decide +kernel
theorem dX13_init_70 : decode cX13_init 70 = .ok (.iconst 4, 1) := by decide +kernel
theorem dX13_init_71 : decode cX13_init 71 = .ok (.newarray .int, 2) := by decide +kernel
theorem dX13_init_73 : decode cX13_init 73 = .ok (.putfield 39, 3) := by decide +kernel
theorem dX13_init_76 : decode cX13_init 76 = .ok (.aload_n 0, 1) := by decide +kernel
theorem dX13_init_77 : decode cX13_init 77 = .ok (.iconst 4, 1) := by decide +kernel
theorem dX13_init_78 : decode cX13_init 78 = .ok (.newarray .int, 2) := by decide +kernel
theorem dX13_init_80 : decode cX13_init 80 = .ok (.putfield 42, 3) := by decide +kernel
theorem dX13_init_83 : decode cX13_init 83 = .ok (.aload_n 0, 1) := by decide +kernel
theorem dX13_init_84 : decode cX13_init 84 = .ok (.iconst 4, 1) := by decide +kernel
theorem dX13_init_85 : decode cX13_init 85 = .ok (.newarray .int, 2) := by decide +kernel
theorem dX13_init_87 : decode cX13_init 87 = .ok (.putfield 45, 3) := by decide +kernel
theorem dX13_init_90 : decode cX13_init 90 = .ok (.aload_n 0, 1) := by decide +kernel
theorem dX13_init_91 : decode cX13_init 91 = .ok (.bipush 24, 2) := by decide +kernel
theorem dX13_init_93 : decode cX13_init 93 = .ok (.newarray .int, 2) := by decide +kernel
theorem dX13_init_95 : decode cX13_init 95 = .ok (.putfield 48, 3) := by decide +kernel
theorem dX13_init_98 : decode cX13_init 98 = .ok (.aload_n 0, 1) := by decide +kernel
theorem dX13_init_99 : decode cX13_init 99 = .ok (.bipush 24, 2) := by decide +kernel
theorem dX13_init_101 : decode cX13_init 101 = .ok (.newarray .int, 2) := by decide +kernel
theorem dX13_init_103 : decode cX13_init 103 = .ok (.putfield 51, 3) := by decide +kernel
theorem dX13_init_106 : decode cX13_init 106 = .ok (.aload_n 0, 1) := by decide +kernel
theorem dX13_init_107 : decode cX13_init 107 = .ok (.bipush 24, 2) := by decide +kernel
theorem dX13_init_109 : decode cX13_init 109 = .ok (.newarray .int, 2) := by decide +kernel
theorem dX13_init_111 : decode cX13_init 111 = .ok (.putfield 54, 3) := by decide +kernel
theorem dX13_init_114 : decode cX13_init 114 = .ok (.aload_n 0, 1) := by decide +kernel
theorem dX13_init_115 : decode cX13_init 115 = .ok (.iconst 4, 1) := by decide +kernel
theorem dX13_init_116 : decode cX13_init 116 = .ok (.newarray .int, 2) := by decide +kernel
theorem dX13_init_118 : decode cX13_init 118 = .ok (.putfield 57, 3) := by decide +kernel
theorem dX13_init_121 : decode cX13_init 121 = .ok (.aload_n 0, 1) := by decide +kernel
theorem dX13_init_122 : decode cX13_init 122 = .ok (.bipush 24, 2) := by decide +kernel
theorem dX13_init_124 : decode cX13_init 124 = .ok (.newarray .int, 2) := by decide +kernel
theorem dX13_init_126 : decode cX13_init 126 = .ok (.putfield 60, 3) := by decide +kernel
theorem dX13_init_129 : decode cX13_init 129 = .ok (.aload_n 0, 1) := by decide +kernel
theorem dX13_init_130 : decode cX13_init 130 = .ok (.bipush 24, 2) := by decide +kernel
theorem dX13_init_132 : decode cX13_init 132 = .ok (.newarray .int, 2) := by decide +kernel
theorem dX13_init_134 : decode cX13_init 134 = .ok (.putfield 63, 3) := by decide +kernel
theorem dX13_init_137 : decode cX13_init 137 = .ok (.aload_n 0, 1) := by decide +kernel
theorem dX13_init_138 : decode cX13_init 138 = .ok (.bipush 24, 2) := by decide +kernel
theorem dX13_init_140 : decode cX13_init 140 = .ok (.newarray .long, 2) := by decide +kernel
theorem dX13_init_142 : decode cX13_init 142 = .ok (.putfield 66, 3) := by decide +kernel
theorem dX13_init_145 : decode cX13_init 145 = .ok (.aload_n 0, 1) := by decide +kernel
theorem dX13_init_146 : decode cX13_init 146 = .ok (.iconst 4, 1) := by decide +kernel
theorem dX13_init_147 : decode cX13_init 147 = .ok (.newarray .int, 2) := by decide +kernel
theorem dX13_init_149 : decode cX13_init 149 = .ok (.putfield 70, 3) := by decide +kernel
theorem dX13_init_152 : decode cX13_init 152 = .ok (.aload_n 0, 1) := by decide +kernel
theorem dX13_init_153 : decode cX13_init 153 = .ok (.bipush 24, 2) := by decide +kernel
theorem dX13_init_155 : decode cX13_init 155 = .ok (.newarray .int, 2) := by decide +kernel
theorem dX13_init_157 : decode cX13_init 157 = .ok (.putfield 73, 3) := by decide +kernel
theorem dX13_init_160 : decode cX13_init 160 = .ok (.aload_n 0, 1) := by decide +kernel
theorem dX13_init_161 : decode cX13_init 161 = .ok (.bipush 24, 2) := by decide +kernel
theorem dX13_init_163 : decode cX13_init 163 = .ok (.newarray .int, 2) := by decide +kernel
theorem dX13_init_165 : decode cX13_init 165 = .ok (.putfield 76, 3) := by decide +kernel
theorem dX13_init_168 : decode cX13_init 168 = .ok (.aload_n 0, 1) := by decide +kernel
theorem dX13_init_169 : decode cX13_init 169 = .ok (.bipush 24, 2) := by decide +kernel
theorem dX13_init_171 : decode cX13_init 171 = .ok (.newarray .boolean, 2) := by decide +kernel
theorem dX13_init_173 : decode cX13_init 173 = .ok (.putfield 79, 3) := by decide +kernel
theorem dX13_init_176 : decode cX13_init 176 = .ok (.aload_n 0, 1) := by decide +kernel
theorem dX13_init_177 : decode cX13_init 177 = .ok (.iconst 4, 1) := by decide +kernel
theorem dX13_init_178 : decode cX13_init 178 = .ok (.newarray .int, 2) := by decide +kernel
theorem dX13_init_180 : decode cX13_init 180 = .ok (.putfield 82, 3) := by decide +kernel
theorem dX13_init_183 : decode cX13_init 183 = .ok (.aload_n 0, 1) := by decide +kernel
theorem dX13_init_184 : decode cX13_init 184 = .ok (.iconst 4, 1) := by decide +kernel
theorem dX13_init_185 : decode cX13_init 185 = .ok (.newarray .int, 2) := by decide +kernel
theorem dX13_init_187 : decode cX13_init 187 = .ok (.putfield 85, 3) := by decide +kernel
theorem dX13_init_190 : decode cX13_init 190 = .ok (.aload_n 0, 1) := by decide +kernel
theorem dX13_init_191 : decode cX13_init 191 = .ok (.iconst 4, 1) := by decide +kernel
theorem dX13_init_192 : decode cX13_init 192 = .ok (.newarray .int, 2) := by decide +kernel
theorem dX13_init_194 : decode cX13_init 194 = .ok (.putfield 88, 3) := by decide +kernel
theorem dX13_init_197 : decode cX13_init 197 = .ok (.aload_n 0, 1) := by decide +kernel
theorem dX13_init_198 : decode cX13_init 198 = .ok (.iconst 4, 1) := by decide +kernel
theorem dX13_init_199 : decode cX13_init 199 = .ok (.newarray .int, 2) := by decide +kernel
theorem dX13_init_201 : decode cX13_init 201 = .ok (.putfield 91, 3) := by decide +kernel
theorem dX13_init_204 : decode cX13_init 204 = .ok (.aload_n 0, 1) := by decide +kernel
theorem dX13_init_205 : decode cX13_init 205 = .ok (.iconst 4, 1) := by decide +kernel
theorem dX13_init_206 : decode cX13_init 206 = .ok (.newarray .int, 2) := by decide +kernel
theorem dX13_init_208 : decode cX13_init 208 = .ok (.putfield 94, 3) := by decide +kernel
theorem dX13_init_211 : decode cX13_init 211 = .ok (.aload_n 0, 1) := by decide +kernel
theorem dX13_init_212 : decode cX13_init 212 = .ok (.iconst 4, 1) := by decide +kernel
theorem dX13_init_213 : decode cX13_init 213 = .ok (.newarray .int, 2) := by decide +kernel
theorem dX13_init_215 : decode cX13_init 215 = .ok (.putfield 97, 3) := by decide +kernel
theorem dX13_init_218 : decode cX13_init 218 = .ok (.aload_n 0, 1) := by decide +kernel
theorem dX13_init_219 : decode cX13_init 219 = .ok (.sipush 140, 3) := by decide +kernel
theorem dX13_init_222 : decode cX13_init 222 = .ok (.newarray .int, 2) := by decide +kernel
theorem dX13_init_224 : decode cX13_init 224 = .ok (.putfield 100, 3) := by decide +kernel
theorem dX13_init_227 : decode cX13_init 227 = .ok (.aload_n 0, 1) := by decide +kernel
theorem dX13_init_228 : decode cX13_init 228 = .ok (.sipush 140, 3) := by decide +kernel
theorem dX13_init_231 : decode cX13_init 231 = .ok (.newarray .int, 2) := by decide +kernel
theorem dX13_init_233 : decode cX13_init 233 = .ok (.putfield 103, 3) := by decide +kernel
theorem dX13_init_236 : decode cX13_init 236 = .ok (.aload_n 0, 1) := by decide +kernel
theorem dX13_init_237 : decode cX13_init 237 = .ok (.sipush 140, 3) := by decide +kernel
theorem dX13_init_240 : decode cX13_init 240 = .ok (.newarray .int, 2) := by decide +kernel
theorem dX13_init_242 : decode cX13_init 242 = .ok (.putfield 106, 3) := by decide +kernel
theorem dX13_init_245 : decode cX13_init 245 = .ok (.aload_n 0, 1) := by decide +kernel
theorem dX13_init_246 : decode cX13_init 246 = .ok (.sipush 140, 3) := by decide +kernel
theorem dX13_init_249 : decode cX13_init 249 = .ok (.newarray .int, 2) := by decide +kernel
theorem dX13_init_251 : decode cX13_init 251 = .ok (.putfield 109, 3) := by decide +kernel
theorem dX13_init_254 : decode cX13_init 254 = .ok (.aload_n 0, 1) := by decide +kernel
theorem dX13_init_255 : decode cX13_init 255 = .ok (.sipush 140, 3) := by decide +kernel
theorem dX13_init_258 : decode cX13_init 258 = .ok (.newarray .int, 2) := by decide +kernel
theorem dX13_init_260 : decode cX13_init 260 = .ok (.putfield 112, 3) := by decide +kernel
theorem dX13_init_263 : decode cX13_init 263 = .ok (.aload_n 0, 1) := by decide +kernel
theorem dX13_init_264 : decode cX13_init 264 = .ok (.sipush 140, 3) := by decide +kernel
theorem dX13_init_267 : decode cX13_init 267 = .ok (.newarray .int, 2) := by decide +kernel
theorem dX13_init_269 : decode cX13_init 269 = .ok (.putfield 115, 3) := by decide +kernel
theorem dX13_init_272 : decode cX13_init 272 = .ok (.aload_n 0, 1) := by decide +kernel
theorem dX13_init_273 : decode cX13_init 273 = .ok (.sipush 140, 3) := by decide +kernel
theorem dX13_init_276 : decode cX13_init 276 = .ok (.newarray .int, 2) := by decide +kernel
theorem dX13_init_278 : decode cX13_init 278 = .ok (.putfield 118, 3) := by decide +kernel
theorem dX13_init_281 : decode cX13_init 281 = .ok (.aload_n 0, 1) := by decide +kernel
theorem dX13_init_282 : decode cX13_init 282 = .ok (.sipush 140, 3) := by decide +kernel
theorem dX13_init_285 : decode cX13_init 285 = .ok (.newarray .int, 2) := by decide +kernel
theorem dX13_init_287 : decode cX13_init 287 = .ok (.putfield 121, 3) := by decide +kernel
theorem dX13_init_290 : decode cX13_init 290 = .ok (.aload_n 0, 1) := by decide +kernel
theorem dX13_init_291 : decode cX13_init 291 = .ok (.sipush 140, 3) := by decide +kernel
theorem dX13_init_294 : decode cX13_init 294 = .ok (.newarray .int, 2) := by decide +kernel
theorem dX13_init_296 : decode cX13_init 296 = .ok (.putfield 124, 3) := by decide +kernel
theorem dX13_init_299 : decode cX13_init 299 = .ok (.aload_n 0, 1) := by decide +kernel
theorem dX13_init_300 : decode cX13_init 300 = .ok (.sipush 142, 3) := by decide +kernel
theorem dX13_init_303 : decode cX13_init 303 = .ok (.newarray .int, 2) := by decide +kernel
theorem dX13_init_305 : decode cX13_init 305 = .ok (.putfield 127, 3) := by decide +kernel
theorem dX13_init_308 : decode cX13_init 308 = .ok (.aload_n 0, 1) := by decide +kernel
theorem dX13_init_309 : decode cX13_init 309 = .ok (.sipush 140, 3) := by decide +kernel
theorem dX13_init_312 : decode cX13_init 312 = .ok (.newarray .int, 2) := by decide +kernel
theorem dX13_init_314 : decode cX13_init 314 = .ok (.putfield 130, 3) := by decide +kernel
theorem dX13_init_317 : decode cX13_init 317 = .ok (.aload_n 0, 1) := by decide +kernel
theorem dX13_init_318 : decode cX13_init 318 = .ok (.sipush 140, 3) := by decide +kernel
theorem dX13_init_321 : decode cX13_init 321 = .ok (.newarray .int, 2) := by decide +kernel
theorem dX13_init_323 : decode cX13_init 323 = .ok (.putfield 133, 3) := by decide +kernel
theorem dX13_init_326 : decode cX13_init 326 = .ok (.aload_n 0, 1) := by decide +kernel
theorem dX13_init_327 : decode cX13_init 327 = .ok (.sipush 140, 3) := by decide +kernel
theorem dX13_init_330 : decode cX13_init 330 = .ok (.newarray .int, 2) := by decide +kernel
theorem dX13_init_332 : decode cX13_init 332 = .ok (.putfield 136, 3) := by decide +kernel
theorem dX13_init_335 : decode cX13_init 335 = .ok (.aload_n 0, 1) := by decide +kernel
theorem dX13_init_336 : decode cX13_init 336 = .ok (.sipush 141, 3) := by decide +kernel
theorem dX13_init_339 : decode cX13_init 339 = .ok (.newarray .int, 2) := by decide +kernel
theorem dX13_init_341 : decode cX13_init 341 = .ok (.putfield 139, 3) := by decide +kernel
theorem dX13_init_344 : decode cX13_init 344 = .ok (.aload_n 0, 1) := by decide +kernel
theorem dX13_init_345 : decode cX13_init 345 = .ok (.sipush 140, 3) := by decide +kernel
theorem dX13_init_348 : decode cX13_init 348 = .ok (.newarray .int, 2) := by decide +kernel
theorem dX13_init_350 : decode cX13_init 350 = .ok (.putfield 142, 3) := by decide +kernel
theorem dX13_init_353 : decode cX13_init 353 = .ok (.aload_n 0, 1) := by decide +kernel
theorem dX13_init_354 : decode cX13_init 354 = .ok (.sipush 12672, 3) := by decide +kernel
theorem dX13_init_357 : decode cX13_init 357 = .ok (.newarray .int, 2) := by decide +kernel
theorem dX13_init_359 : decode cX13_init 359 = .ok (.putfield 145, 3) := by decide +kernel
theorem dX13_init_362 : decode cX13_init 362 = .ok (.aload_n 0, 1) := by decide +kernel
theorem dX13_init_363 : decode cX13_init 363 = .ok (.bipush 96, 2) := by decide +kernel
theorem dX13_init_365 : decode cX13_init 365 = .ok (.newarray .int, 2) := by decide +kernel
theorem dX13_init_367 : decode cX13_init 367 = .ok (.putfield 148, 3) := by decide +kernel
theorem dX13_init_370 : decode cX13_init 370 = .ok (.aload_n 0, 1) := by decide +kernel
theorem dX13_init_371 : decode cX13_init 371 = .ok (.bipush 96, 2) := by decide +kernel
theorem dX13_init_373 : decode cX13_init 373 = .ok (.newarray .int, 2) := by decide +kernel
theorem dX13_init_375 : decode cX13_init 375 = .ok (.putfield 151, 3) := by decide +kernel
theorem dX13_init_378 : decode cX13_init 378 = .ok (.aload_n 0, 1) := by decide +kernel
theorem dX13_init_379 : decode cX13_init 379 = .ok (.iconst 4, 1) := by decide +kernel
theorem dX13_init_380 : decode cX13_init 380 = .ok (.newarray .int, 2) := by decide +kernel
theorem dX13_init_382 : decode cX13_init 382 = .ok (.putfield 154, 3) := by decide +kernel
theorem dX13_init_385 : decode cX13_init 385 = .ok (.aload_n 0, 1) := by decide +kernel
theorem dX13_init_386 : decode cX13_init 386 = .ok (.iconst 4, 1) := by decide +kernel
theorem dX13_init_387 : decode cX13_init 387 = .ok (.newarray .int, 2) := by decide +kernel
theorem dX13_init_389 : decode cX13_init 389 = .ok (.putfield 157, 3) := by decide +kernel
theorem dX13_init_392 : decode cX13_init 392 = .ok (.aload_n 0, 1) := by decide +kernel
theorem dX13_init_393 : decode cX13_init 393 = .ok (.sipush 3168, 3) := by decide +kernel
theorem dX13_init_396 : decode cX13_init 396 = .ok (.newarray .int, 2) := by decide +kernel
theorem dX13_init_398 : decode cX13_init 398 = .ok (.putfield 160, 3) := by decide +kernel
theorem dX13_init_401 : decode cX13_init 401 = .ok (.aload_n 0, 1) := by decide +kernel
theorem dX13_init_402 : decode cX13_init 402 = .ok (.bipush 24, 2) := by decide +kernel
theorem dX13_init_404 : decode cX13_init 404 = .ok (.newarray .int, 2) := by decide +kernel
theorem dX13_init_406 : decode cX13_init 406 = .ok (.putfield 163, 3) := by decide +kernel
theorem dX13_init_409 : decode cX13_init 409 = .ok (.aload_n 0, 1) := by decide +kernel
theorem dX13_init_410 : decode cX13_init 410 = .ok (.bipush 24, 2) := by decide +kernel
theorem dX13_init_412 : decode cX13_init 412 = .ok (.newarray .int, 2) := by decide +kernel
theorem dX13_init_414 : decode cX13_init 414 = .ok (.putfield 166, 3) := by decide +kernel
theorem dX13_init_417 : decode cX13_init 417 = .ok (.aload_n 0, 1) := by decide +kernel
theorem dX13_init_418 : decode cX13_init 418 = .ok (.bipush 50, 2) := by decide +kernel
theorem dX13_init_420 : decode cX13_init 420 = .ok (.newarray .int, 2) := by decide +kernel
theorem dX13_init_422 : decode cX13_init 422 = .ok (.putfield 169, 3) := by decide +kernel
theorem dX13_init_425 : decode cX13_init 425 = .ok (.aload_n 0, 1) := by decide +kernel
theorem dX13_init_426 : decode cX13_init 426 = .ok (.bipush 50, 2) := by decide +kernel
theorem dX13_init_428 : decode cX13_init 428 = .ok (.newarray .int, 2) := by decide +kernel
theorem dX13_init_430 : decode cX13_init 430 = .ok (.putfield 172, 3) := by decide +kernel
theorem dX13_init_433 : decode cX13_init 433 = .ok (.aload_n 0, 1) := by decide +kernel
theorem dX13_init_434 : decode cX13_init 434 = .ok (.bipush 10, 2) := by decide +kernel
theorem dX13_init_436 : decode cX13_init 436 = .ok (.newarray .int, 2) := by decide +kernel
theorem dX13_init_438 : decode cX13_init 438 = .ok (.putfield 175, 3) := by decide +kernel
theorem dX13_init_441 : decode cX13_init 441 = .ok (.aload_n 0, 1) := by decide +kernel
theorem dX13_init_442 : decode cX13_init 442 = .ok (.bipush 10, 2) := by decide +kernel
theorem dX13_init_444 : decode cX13_init 444 = .ok (.newarray .int, 2) := by decide +kernel
theorem dX13_init_446 : decode cX13_init 446 = .ok (.putfield 178, 3) := by decide +kernel
theorem dX13_init_449 : decode cX13_init 449 = .ok (.iconst 0, 1) := by decide +kernel
theorem dX13_init_450 : decode cX13_init 450 = .ok (.istore_n 1, 1) := by decide +kernel
theorem dX13_init_451 : decode cX13_init 451 = .ok (.iload_n 1, 1) := by decide +kernel
theorem dX13_init_452 : decode cX13_init 452 = .ok (.iconst 4, 1) := by decide +kernel
theorem dX13_init_453 : decode cX13_init 453 = .ok (.if_icmp .ge 53, 3) := by decide +kernel
theorem dX13_init_456 : decode cX13_init 456 = .ok (.aload_n 0, 1) := by decide +kernel
theorem dX13_init_457 : decode cX13_init 457 = .ok (.getfield 24, 3) := by decide +kernel
theorem dX13_init_460 : decode cX13_init 460 = .ok (.iload_n 1, 1) := by decide +kernel
theorem dX13_init_461 : decode cX13_init 461 = .ok (.bipush 20, 2) := by decide +kernel
theorem dX13_init_463 : decode cX13_init 463 = .ok (.iastore, 1) := by decide +kernel
theorem dX13_init_464 : decode cX13_init 464 = .ok (.aload_n 0, 1) := by decide +kernel
theorem dX13_init_465 : decode cX13_init 465 = .ok (.getfield 36, 3) := by decide +kernel
theorem dX13_init_468 : decode cX13_init 468 = .ok (.iload_n 1, 1) := by decide +kernel
theorem dX13_init_469 : decode cX13_init 469 = .ok (.iconst 1, 1) := by decide +kernel
theorem dX13_init_470 : decode cX13_init 470 = .ok (.iastore, 1) := by decide +kernel
theorem dX13_init_471 : decode cX13_init 471 = .ok (.aload_n 0, 1) := by decide +kernel
theorem dX13_init_472 : decode cX13_init 472 = .ok (.getfield 39, 3) := by decide +kernel
theorem dX13_init_475 : decode cX13_init 475 = .ok (.iload_n 1, 1) := by decide +kernel
theorem dX13_init_476 : decode cX13_init 476 = .ok (.iconst 3, 1) := by decide +kernel
theorem dX13_init_477 : decode cX13_init 477 = .ok (.iastore, 1) := by decide +kernel
theorem dX13_init_478 : decode cX13_init 478 = .ok (.aload_n 0, 1) := by decide +kernel
theorem dX13_init_479 : decode cX13_init 479 = .ok (.getfield 42, 3) := by decide +kernel
theorem dX13_init_482 : decode cX13_init 482 = .ok (.iload_n 1, 1) := by decide +kernel
theorem dX13_init_483 : decode cX13_init 483 = .ok (.iconst (-1), 1) := by decide +kernel
theorem dX13_init_484 : decode cX13_init 484 = .ok (.iastore, 1) := by decide +kernel
theorem dX13_init_485 : decode cX13_init 485 = .ok (.aload_n 0, 1) := by decide +kernel
theorem dX13_init_486 : decode cX13_init 486 = .ok (.getfield 33, 3) := by decide +kernel
theorem dX13_init_489 : decode cX13_init 489 = .ok (.iload_n 1, 1) := by decide +kernel
theorem dX13_init_490 : decode cX13_init 490 = .ok (.iload_n 1, 1) := by decide +kernel
theorem dX13_init_491 : decode cX13_init 491 = .ok (.ifCond .ne 7, 3) := by decide +kernel
theorem dX13_init_494 : decode cX13_init 494 = .ok (.iconst 1, 1) := by decide +kernel
theorem dX13_init_495 : decode cX13_init 495 = .ok (.goto 4, 3) := by decide +kernel
theorem dX13_init_498 : decode cX13_init 498 = .ok (.iconst 0, 1) := by decide +kernel
theorem dX13_init_499 : decode cX13_init 499 = .ok (.bastore, 1) := by decide +kernel
theorem dX13_init_500 : decode cX13_init 500 = .ok (.iinc 1 1, 3) := by decide +kernel
theorem dX13_init_503 : decode cX13_init 503 = .ok (.goto (-52), 3) := by decide +kernel
theorem dX13_init_506 : decode cX13_init 506 = .ok (.aload_n 0, 1) := by decide +kernel
theorem dX13_init_507 : decode cX13_init 507 = .ok (.invokevirtual 181, 3) := by decide +kernel
theorem dX13_init_510 : decode cX13_init 510 = .ok (.return_, 1) := by decide +kernel
theorem dX13_thrown_0 : decode cX13_thrown 0 = .ok (.aload_n 0, 1) := by decide +kernel
theorem dX13_thrown_1 : decode cX13_thrown 1 = .ok (.getfield 184, 3) := by decide +kernel
theorem dX13_thrown_4 : decode cX13_thrown 4 = .ok (.ireturn, 1) := by decide +kernel
theorem dX13_isFine_0 : decode cX13_isFine 0 = .ok (.aload_n 0, 1) := by decide +kernel
theorem dX13_isFine_1 : decode cX13_isFine 1 = .ok (.iload_n 1, 1) := by decide +kernel
theorem dX13_isFine_2 : decode cX13_isFine 2 = .ok (.putfield 184, 3) := by decide +kernel
theorem dX13_isFine_5 : decode cX13_isFine 5 = .ok (.iload_n 1, 1) := by decide +kernel
theorem dX13_isFine_6 : decode cX13_isFine 6 = .ok (.ifCond .ne 7, 3) := by decide +kernel
theorem dX13_isFine_9 : decode cX13_isFine 9 = .ok (.iconst 1, 1) := by decide +kernel
theorem dX13_isFine_10 : decode cX13_isFine 10 = .ok (.goto 4, 3) := by decide +kernel
theorem dX13_isFine_13 : decode cX13_isFine 13 = .ok (.iconst 0, 1) := by decide +kernel
theorem dX13_isFine_14 : decode cX13_isFine 14 = .ok (.ireturn, 1) := by decide +kernel
theorem dX13_isIn_0 : decode cX13_isIn 0 = .ok (.iload_n 0, 1) := by decide +kernel
theorem dX13_isIn_1 : decode cX13_isIn 1 = .ok (.iload_n 1, 1) := by decide +kernel
theorem dX13_isIn_2 : decode cX13_isIn 2 = .ok (.if_icmp .lt 12, 3) := by decide +kernel
theorem dX13_isIn_5 : decode cX13_isIn 5 = .ok (.iload_n 0, 1) := by decide +kernel
theorem dX13_isIn_6 : decode cX13_isIn 6 = .ok (.iload_n 2, 1) := by decide +kernel
theorem dX13_isIn_7 : decode cX13_isIn 7 = .ok (.if_icmp .gt 7, 3) := by decide +kernel
theorem dX13_isIn_10 : decode cX13_isIn 10 = .ok (.iconst 1, 1) := by decide +kernel
theorem dX13_isIn_11 : decode cX13_isIn 11 = .ok (.goto 4, 3) := by decide +kernel
theorem dX13_isIn_14 : decode cX13_isIn 14 = .ok (.iconst 0, 1) := by decide +kernel
theorem dX13_isIn_15 : decode cX13_isIn 15 = .ok (.ireturn, 1) := by decide +kernel
theorem dX13_isLine_0 : decode cX13_isLine 0 = .ok (.iload_n 1, 1) := by decide +kernel
theorem dX13_isLine_1 : decode cX13_isLine 1 = .ok (.iconst 0, 1) := by decide +kernel
theorem dX13_isLine_2 : decode cX13_isLine 2 = .ok (.aload_n 0, 1) := by decide +kernel
theorem dX13_isLine_3 : decode cX13_isLine 3 = .ok (.getfield 20, 3) := by decide +kernel
theorem dX13_isLine_6 : decode cX13_isLine 6 = .ok (.iconst 1, 1) := by decide +kernel
theorem dX13_isLine_7 : decode cX13_isLine 7 = .ok (.isub, 1) := by decide +kernel
theorem dX13_isLine_8 : decode cX13_isLine 8 = .ok (.invokestatic 187, 3) := by decide +kernel
theorem dX13_isLine_11 : decode cX13_isLine 11 = .ok (.ireturn, 1) := by decide +kernel
theorem dX13_isPane_0 : decode cX13_isPane 0 = .ok (.iload_n 0, 1) := by decide +kernel
theorem dX13_isPane_1 : decode cX13_isPane 1 = .ok (.iconst 0, 1) := by decide +kernel
theorem dX13_isPane_2 : decode cX13_isPane 2 = .ok (.iconst 3, 1) := by decide +kernel
theorem dX13_isPane_3 : decode cX13_isPane 3 = .ok (.invokestatic 187, 3) := by decide +kernel
theorem dX13_isPane_6 : decode cX13_isPane 6 = .ok (.ireturn, 1) := by decide +kernel
theorem dX13_isSign_0 : decode cX13_isSign 0 = .ok (.iload_n 0, 1) := by decide +kernel
theorem dX13_isSign_1 : decode cX13_isSign 1 = .ok (.bipush 32, 2) := by decide +kernel
theorem dX13_isSign_3 : decode cX13_isSign 3 = .ok (.bipush 126, 2) := by decide +kernel
theorem dX13_isSign_5 : decode cX13_isSign 5 = .ok (.invokestatic 187, 3) := by decide +kernel
theorem dX13_isSign_8 : decode cX13_isSign 8 = .ok (.ifCond .ne 9, 3) := by decide +kernel
theorem dX13_isSign_11 : decode cX13_isSign 11 = .ok (.iload_n 0, 1) := by decide +kernel
theorem dX13_isSign_12 : decode cX13_isSign 12 = .ok (.bipush 9, 2) := by decide +kernel
theorem dX13_isSign_14 : decode cX13_isSign 14 = .ok (.if_icmp .ne 7, 3) := by decide +kernel
theorem dX13_isSign_17 : decode cX13_isSign 17 = .ok (.iconst 1, 1) := by decide +kernel
theorem dX13_isSign_18 : decode cX13_isSign 18 = .ok (.goto 4, 3) := by decide +kernel
theorem dX13_isSign_21 : decode cX13_isSign 21 = .ok (.iconst 0, 1) := by decide +kernel
theorem dX13_isSign_22 : decode cX13_isSign 22 = .ok (.ireturn, 1) := by decide +kernel
theorem dX13_lesser_0 : decode cX13_lesser 0 = .ok (.iload_n 0, 1) := by decide +kernel
theorem dX13_lesser_1 : decode cX13_lesser 1 = .ok (.iload_n 1, 1) := by decide +kernel
theorem dX13_lesser_2 : decode cX13_lesser 2 = .ok (.if_icmp .ge 7, 3) := by decide +kernel
theorem dX13_lesser_5 : decode cX13_lesser 5 = .ok (.iload_n 0, 1) := by decide +kernel
theorem dX13_lesser_6 : decode cX13_lesser 6 = .ok (.goto 4, 3) := by decide +kernel
theorem dX13_lesser_9 : decode cX13_lesser 9 = .ok (.iload_n 1, 1) := by decide +kernel
theorem dX13_lesser_10 : decode cX13_lesser 10 = .ok (.ireturn, 1) := by decide +kernel
theorem dX13_greater_0 : decode cX13_greater 0 = .ok (.iload_n 0, 1) := by decide +kernel
theorem dX13_greater_1 : decode cX13_greater 1 = .ok (.iload_n 1, 1) := by decide +kernel
theorem dX13_greater_2 : decode cX13_greater 2 = .ok (.if_icmp .le 7, 3) := by decide +kernel
theorem dX13_greater_5 : decode cX13_greater 5 = .ok (.iload_n 0, 1) := by decide +kernel
theorem dX13_greater_6 : decode cX13_greater 6 = .ok (.goto 4, 3) := by decide +kernel
theorem dX13_greater_9 : decode cX13_greater 9 = .ok (.iload_n 1, 1) := by decide +kernel
theorem dX13_greater_10 : decode cX13_greater 10 = .ok (.ireturn, 1) := by decide +kernel
theorem dX13_lines_0 : decode cX13_lines 0 = .ok (.aload_n 0, 1) := by decide +kernel
theorem dX13_lines_1 : decode cX13_lines 1 = .ok (.iconst 0, 1) := by decide +kernel
theorem dX13_lines_2 : decode cX13_lines 2 = .ok (.putfield 184, 3) := by decide +kernel
theorem dX13_lines_5 : decode cX13_lines 5 = .ok (.aload_n 0, 1) := by decide +kernel
theorem dX13_lines_6 : decode cX13_lines 6 = .ok (.getfield 20, 3) := by decide +kernel
theorem dX13_lines_9 : decode cX13_lines 9 = .ok (.ireturn, 1) := by decide +kernel
theorem dX13_length_0 : decode cX13_length 0 = .ok (.aload_n 0, 1) := by decide +kernel
theorem dX13_length_1 : decode cX13_length 1 = .ok (.aload_n 0, 1) := by decide +kernel
theorem dX13_length_2 : decode cX13_length 2 = .ok (.iload_n 1, 1) := by decide +kernel
theorem dX13_length_3 : decode cX13_length 3 = .ok (.invokevirtual 191, 3) := by decide +kernel
theorem dX13_length_6 : decode cX13_length 6 = .ok (.ifCond .eq 7, 3) := by decide +kernel
theorem dX13_length_9 : decode cX13_length 9 = .ok (.iconst 0, 1) := by decide +kernel
theorem dX13_length_10 : decode cX13_length 10 = .ok (.goto 4, 3) := by decide +kernel
theorem dX13_length_13 : decode cX13_length 13 = .ok (.iconst 1, 1) := by decide +kernel
theorem dX13_length_14 : decode cX13_length 14 = .ok (.invokevirtual 195, 3) := by decide +kernel
theorem dX13_length_17 : decode cX13_length 17 = .ok (.ifCond .eq 12, 3) := by decide +kernel
theorem dX13_length_20 : decode cX13_length 20 = .ok (.aload_n 0, 1) := by decide +kernel
theorem dX13_length_21 : decode cX13_length 21 = .ok (.getfield 13, 3) := by decide +kernel
theorem dX13_length_24 : decode cX13_length 24 = .ok (.iload_n 1, 1) := by decide +kernel
theorem dX13_length_25 : decode cX13_length 25 = .ok (.iaload, 1) := by decide +kernel
theorem dX13_length_26 : decode cX13_length 26 = .ok (.goto 4, 3) := by decide +kernel
theorem dX13_length_29 : decode cX13_length 29 = .ok (.iconst 0, 1) := by decide +kernel
theorem dX13_length_30 : decode cX13_length 30 = .ok (.ireturn, 1) := by decide +kernel
theorem dX13_sign_0 : decode cX13_sign 0 = .ok (.aload_n 0, 1) := by decide +kernel
theorem dX13_sign_1 : decode cX13_sign 1 = .ok (.iload_n 1, 1) := by decide +kernel
theorem dX13_sign_2 : decode cX13_sign 2 = .ok (.invokevirtual 191, 3) := by decide +kernel
theorem dX13_sign_5 : decode cX13_sign 5 = .ok (.istore_n 3, 1) := by decide +kernel
theorem dX13_sign_6 : decode cX13_sign 6 = .ok (.aload_n 0, 1) := by decide +kernel
theorem dX13_sign_7 : decode cX13_sign 7 = .ok (.iload_n 3, 1) := by decide +kernel
theorem dX13_sign_8 : decode cX13_sign 8 = .ok (.ifCond .ne 7, 3) := by decide +kernel
theorem dX13_sign_11 : decode cX13_sign 11 = .ok (.iconst 1, 1) := by decide +kernel
theorem dX13_sign_12 : decode cX13_sign 12 = .ok (.goto 24, 3) := by decide +kernel
theorem dX13_sign_15 : decode cX13_sign 15 = .ok (.iload_n 2, 1) := by decide +kernel
theorem dX13_sign_16 : decode cX13_sign 16 = .ok (.iconst 0, 1) := by decide +kernel
theorem dX13_sign_17 : decode cX13_sign 17 = .ok (.aload_n 0, 1) := by decide +kernel
theorem dX13_sign_18 : decode cX13_sign 18 = .ok (.getfield 13, 3) := by decide +kernel
theorem dX13_sign_21 : decode cX13_sign 21 = .ok (.iload_n 1, 1) := by decide +kernel
theorem dX13_sign_22 : decode cX13_sign 22 = .ok (.iaload, 1) := by decide +kernel
theorem dX13_sign_23 : decode cX13_sign 23 = .ok (.iconst 1, 1) := by decide +kernel
theorem dX13_sign_24 : decode cX13_sign 24 = .ok (.isub, 1) := by decide +kernel
theorem dX13_sign_25 : decode cX13_sign 25 = .ok (.invokestatic 187, 3) := by decide +kernel
theorem dX13_sign_28 : decode cX13_sign 28 = .ok (.ifCond .ne 7, 3) := by decide +kernel
theorem dX13_sign_31 : decode cX13_sign 31 = .ok (.iconst 2, 1) := by decide +kernel
theorem dX13_sign_32 : decode cX13_sign 32 = .ok (.goto 4, 3) := by decide +kernel
theorem dX13_sign_35 : decode cX13_sign 35 = .ok (.iconst 0, 1) := by decide +kernel
theorem dX13_sign_36 : decode cX13_sign 36 = .ok (.invokevirtual 195, 3) := by decide +kernel
theorem dX13_sign_39 : decode cX13_sign 39 = .ok (.ifCond .eq 17, 3) := by decide +kernel
theorem dX13_sign_42 : decode cX13_sign 42 = .ok (.aload_n 0, 1) := by decide +kernel
theorem dX13_sign_43 : decode cX13_sign 43 = .ok (.getfield 7, 3) := by decide +kernel
theorem dX13_sign_46 : decode cX13_sign 46 = .ok (.bipush 80, 2) := by decide +kernel
theorem dX13_sign_48 : decode cX13_sign 48 = .ok (.iload_n 1, 1) := by decide +kernel
theorem dX13_sign_49 : decode cX13_sign 49 = .ok (.imul, 1) := by decide +kernel
theorem dX13_sign_50 : decode cX13_sign 50 = .ok (.iload_n 2, 1) := by decide +kernel
theorem dX13_sign_51 : decode cX13_sign 51 = .ok (.iadd, 1) := by decide +kernel
theorem dX13_sign_52 : decode cX13_sign 52 = .ok (.iaload, 1) := by decide +kernel
theorem dX13_sign_53 : decode cX13_sign 53 = .ok (.goto 4, 3) := by decide +kernel
theorem dX13_sign_56 : decode cX13_sign 56 = .ok (.iconst 0, 1) := by decide +kernel
theorem dX13_sign_57 : decode cX13_sign 57 = .ok (.ireturn, 1) := by decide +kernel
theorem dX13_comes_0 : decode cX13_comes 0 = .ok (.bipush 80, 2) := by decide +kernel
theorem dX13_comes_2 : decode cX13_comes 2 = .ok (.iload_n 1, 1) := by decide +kernel
theorem dX13_comes_3 : decode cX13_comes 3 = .ok (.imul, 1) := by decide +kernel
theorem dX13_comes_4 : decode cX13_comes 4 = .ok (.aload_n 0, 1) := by decide +kernel
theorem dX13_comes_5 : decode cX13_comes 5 = .ok (.getfield 13, 3) := by decide +kernel
theorem dX13_comes_8 : decode cX13_comes 8 = .ok (.iload_n 1, 1) := by decide +kernel
theorem dX13_comes_9 : decode cX13_comes 9 = .ok (.iaload, 1) := by decide +kernel
theorem dX13_comes_10 : decode cX13_comes 10 = .ok (.iadd, 1) := by decide +kernel
theorem dX13_comes_11 : decode cX13_comes 11 = .ok (.istore 4, 2) := by decide +kernel
theorem dX13_comes_13 : decode cX13_comes 13 = .ok (.iload 4, 2) := by decide +kernel
theorem dX13_comes_15 : decode cX13_comes 15 = .ok (.bipush 80, 2) := by decide +kernel
theorem dX13_comes_17 : decode cX13_comes 17 = .ok (.iload_n 1, 1) := by decide +kernel
theorem dX13_comes_18 : decode cX13_comes 18 = .ok (.imul, 1) := by decide +kernel
theorem dX13_comes_19 : decode cX13_comes 19 = .ok (.iload_n 2, 1) := by decide +kernel
theorem dX13_comes_20 : decode cX13_comes 20 = .ok (.iadd, 1) := by decide +kernel
theorem dX13_comes_21 : decode cX13_comes 21 = .ok (.if_icmp .le 25, 3) := by decide +kernel
theorem dX13_comes_24 : decode cX13_comes 24 = .ok (.aload_n 0, 1) := by decide +kernel
theorem dX13_comes_25 : decode cX13_comes 25 = .ok (.getfield 7, 3) := by decide +kernel
theorem dX13_comes_28 : decode cX13_comes 28 = .ok (.iload 4, 2) := by decide +kernel
theorem dX13_comes_30 : decode cX13_comes 30 = .ok (.aload_n 0, 1) := by decide +kernel
theorem dX13_comes_31 : decode cX13_comes 31 = .ok (.getfield 7, 3) := by decide +kernel
theorem dX13_comes_34 : decode cX13_comes 34 = .ok (.iload 4, 2) := by decide +kernel
theorem dX13_comes_36 : decode cX13_comes 36 = .ok (.iconst 1, 1) := by decide +kernel
theorem dX13_comes_37 : decode cX13_comes 37 = .ok (.isub, 1) := by decide +kernel
theorem dX13_comes_38 : decode cX13_comes 38 = .ok (.iaload, 1) := by decide +kernel
theorem dX13_comes_39 : decode cX13_comes 39 = .ok (.iastore, 1) := by decide +kernel
theorem dX13_comes_40 : decode cX13_comes 40 = .ok (.iinc 4 (-1), 3) := by decide +kernel
theorem dX13_comes_43 : decode cX13_comes 43 = .ok (.goto (-30), 3) := by decide +kernel
theorem dX13_comes_46 : decode cX13_comes 46 = .ok (.aload_n 0, 1) := by decide +kernel
theorem dX13_comes_47 : decode cX13_comes 47 = .ok (.getfield 7, 3) := by decide +kernel
theorem dX13_comes_50 : decode cX13_comes 50 = .ok (.bipush 80, 2) := by decide +kernel
theorem dX13_comes_52 : decode cX13_comes 52 = .ok (.iload_n 1, 1) := by decide +kernel
theorem dX13_comes_53 : decode cX13_comes 53 = .ok (.imul, 1) := by decide +kernel
theorem dX13_comes_54 : decode cX13_comes 54 = .ok (.iload_n 2, 1) := by decide +kernel
theorem dX13_comes_55 : decode cX13_comes 55 = .ok (.iadd, 1) := by decide +kernel
theorem dX13_comes_56 : decode cX13_comes 56 = .ok (.iload_n 3, 1) := by decide +kernel
theorem dX13_comes_57 : decode cX13_comes 57 = .ok (.iastore, 1) := by decide +kernel
theorem dX13_comes_58 : decode cX13_comes 58 = .ok (.aload_n 0, 1) := by decide +kernel
theorem dX13_comes_59 : decode cX13_comes 59 = .ok (.getfield 13, 3) := by decide +kernel
theorem dX13_comes_62 : decode cX13_comes 62 = .ok (.iload_n 1, 1) := by decide +kernel
theorem dX13_comes_63 : decode cX13_comes 63 = .ok (.dup2, 1) := by decide +kernel
theorem dX13_comes_64 : decode cX13_comes 64 = .ok (.iaload, 1) := by decide +kernel
theorem dX13_comes_65 : decode cX13_comes 65 = .ok (.iconst 1, 1) := by decide +kernel
theorem dX13_comes_66 : decode cX13_comes 66 = .ok (.iadd, 1) := by decide +kernel
theorem dX13_comes_67 : decode cX13_comes 67 = .ok (.iastore, 1) := by decide +kernel
theorem dX13_comes_68 : decode cX13_comes 68 = .ok (.iconst 0, 1) := by decide +kernel
theorem dX13_comes_69 : decode cX13_comes 69 = .ok (.istore 4, 2) := by decide +kernel
theorem dX13_comes_71 : decode cX13_comes 71 = .ok (.iload 4, 2) := by decide +kernel
theorem dX13_comes_73 : decode cX13_comes 73 = .ok (.bipush 24, 2) := by decide +kernel
theorem dX13_comes_75 : decode cX13_comes 75 = .ok (.if_icmp .ge 120, 3) := by decide +kernel
theorem dX13_comes_78 : decode cX13_comes 78 = .ok (.aload_n 0, 1) := by decide +kernel
theorem dX13_comes_79 : decode cX13_comes 79 = .ok (.getfield 51, 3) := by decide +kernel
theorem dX13_comes_82 : decode cX13_comes 82 = .ok (.iload 4, 2) := by decide +kernel
theorem dX13_comes_84 : decode cX13_comes 84 = .ok (.dup2, 1) := by decide +kernel
theorem dX13_comes_85 : decode cX13_comes 85 = .ok (.iaload, 1) := by decide +kernel
theorem dX13_comes_86 : decode cX13_comes 86 = .ok (.aload_n 0, 1) := by decide +kernel
theorem dX13_comes_87 : decode cX13_comes 87 = .ok (.getfield 48, 3) := by decide +kernel
theorem dX13_comes_90 : decode cX13_comes 90 = .ok (.iload 4, 2) := by decide +kernel
theorem dX13_comes_92 : decode cX13_comes 92 = .ok (.iaload, 1) := by decide +kernel
theorem dX13_comes_93 : decode cX13_comes 93 = .ok (.iload_n 1, 1) := by decide +kernel
theorem dX13_comes_94 : decode cX13_comes 94 = .ok (.if_icmp .ne 18, 3) := by decide +kernel
theorem dX13_comes_97 : decode cX13_comes 97 = .ok (.aload_n 0, 1) := by decide +kernel
theorem dX13_comes_98 : decode cX13_comes 98 = .ok (.getfield 51, 3) := by decide +kernel
theorem dX13_comes_101 : decode cX13_comes 101 = .ok (.iload 4, 2) := by decide +kernel
theorem dX13_comes_103 : decode cX13_comes 103 = .ok (.iaload, 1) := by decide +kernel
theorem dX13_comes_104 : decode cX13_comes 104 = .ok (.iload_n 2, 1) := by decide +kernel
theorem dX13_comes_105 : decode cX13_comes 105 = .ok (.if_icmp .lt 7, 3) := by decide +kernel
theorem dX13_comes_108 : decode cX13_comes 108 = .ok (.iconst 1, 1) := by decide +kernel
theorem dX13_comes_109 : decode cX13_comes 109 = .ok (.goto 4, 3) := by decide +kernel
theorem dX13_comes_112 : decode cX13_comes 112 = .ok (.iconst 0, 1) := by decide +kernel
theorem dX13_comes_113 : decode cX13_comes 113 = .ok (.iadd, 1) := by decide +kernel
theorem dX13_comes_114 : decode cX13_comes 114 = .ok (.iastore, 1) := by decide +kernel
theorem dX13_comes_115 : decode cX13_comes 115 = .ok (.aload_n 0, 1) := by decide +kernel
theorem dX13_comes_116 : decode cX13_comes 116 = .ok (.getfield 54, 3) := by decide +kernel
theorem dX13_comes_119 : decode cX13_comes 119 = .ok (.iload 4, 2) := by decide +kernel
theorem dX13_comes_121 : decode cX13_comes 121 = .ok (.dup2, 1) := by decide +kernel
theorem dX13_comes_122 : decode cX13_comes 122 = .ok (.iaload, 1) := by decide +kernel
theorem dX13_comes_123 : decode cX13_comes 123 = .ok (.aload_n 0, 1) := by decide +kernel
theorem dX13_comes_124 : decode cX13_comes 124 = .ok (.getfield 48, 3) := by decide +kernel
theorem dX13_comes_127 : decode cX13_comes 127 = .ok (.iload 4, 2) := by decide +kernel
theorem dX13_comes_129 : decode cX13_comes 129 = .ok (.iaload, 1) := by decide +kernel
theorem dX13_comes_130 : decode cX13_comes 130 = .ok (.iload_n 1, 1) := by decide +kernel
theorem dX13_comes_131 : decode cX13_comes 131 = .ok (.if_icmp .ne 18, 3) := by decide +kernel
theorem dX13_comes_134 : decode cX13_comes 134 = .ok (.aload_n 0, 1) := by decide +kernel
theorem dX13_comes_135 : decode cX13_comes 135 = .ok (.getfield 54, 3) := by decide +kernel
theorem dX13_comes_138 : decode cX13_comes 138 = .ok (.iload 4, 2) := by decide +kernel
theorem dX13_comes_140 : decode cX13_comes 140 = .ok (.iaload, 1) := by decide +kernel
theorem dX13_comes_141 : decode cX13_comes 141 = .ok (.iload_n 2, 1) := by decide +kernel
theorem dX13_comes_142 : decode cX13_comes 142 = .ok (.if_icmp .le 7, 3) := by decide +kernel
theorem dX13_comes_145 : decode cX13_comes 145 = .ok (.iconst 1, 1) := by decide +kernel
theorem dX13_comes_146 : decode cX13_comes 146 = .ok (.goto 4, 3) := by decide +kernel
theorem dX13_comes_149 : decode cX13_comes 149 = .ok (.iconst 0, 1) := by decide +kernel
theorem dX13_comes_150 : decode cX13_comes 150 = .ok (.iadd, 1) := by decide +kernel
theorem dX13_comes_151 : decode cX13_comes 151 = .ok (.iastore, 1) := by decide +kernel
theorem dX13_comes_152 : decode cX13_comes 152 = .ok (.aload_n 0, 1) := by decide +kernel
theorem dX13_comes_153 : decode cX13_comes 153 = .ok (.getfield 63, 3) := by decide +kernel
theorem dX13_comes_156 : decode cX13_comes 156 = .ok (.iload 4, 2) := by decide +kernel
theorem dX13_comes_158 : decode cX13_comes 158 = .ok (.dup2, 1) := by decide +kernel
theorem dX13_comes_159 : decode cX13_comes 159 = .ok (.iaload, 1) := by decide +kernel
theorem dX13_comes_160 : decode cX13_comes 160 = .ok (.aload_n 0, 1) := by decide +kernel
theorem dX13_comes_161 : decode cX13_comes 161 = .ok (.getfield 60, 3) := by decide +kernel
theorem dX13_comes_164 : decode cX13_comes 164 = .ok (.iload 4, 2) := by decide +kernel
theorem dX13_comes_166 : decode cX13_comes 166 = .ok (.iaload, 1) := by decide +kernel
theorem dX13_comes_167 : decode cX13_comes 167 = .ok (.iload_n 1, 1) := by decide +kernel
theorem dX13_comes_168 : decode cX13_comes 168 = .ok (.if_icmp .ne 18, 3) := by decide +kernel
theorem dX13_comes_171 : decode cX13_comes 171 = .ok (.aload_n 0, 1) := by decide +kernel
theorem dX13_comes_172 : decode cX13_comes 172 = .ok (.getfield 63, 3) := by decide +kernel
theorem dX13_comes_175 : decode cX13_comes 175 = .ok (.iload 4, 2) := by decide +kernel
theorem dX13_comes_177 : decode cX13_comes 177 = .ok (.iaload, 1) := by decide +kernel
theorem dX13_comes_178 : decode cX13_comes 178 = .ok (.iload_n 2, 1) := by decide +kernel
theorem dX13_comes_179 : decode cX13_comes 179 = .ok (.if_icmp .le 7, 3) := by decide +kernel
theorem dX13_comes_182 : decode cX13_comes 182 = .ok (.iconst 1, 1) := by decide +kernel
theorem dX13_comes_183 : decode cX13_comes 183 = .ok (.goto 4, 3) := by decide +kernel
theorem dX13_comes_186 : decode cX13_comes 186 = .ok (.iconst 0, 1) := by decide +kernel
theorem dX13_comes_187 : decode cX13_comes 187 = .ok (.iadd, 1) := by decide +kernel
theorem dX13_comes_188 : decode cX13_comes 188 = .ok (.iastore, 1) := by decide +kernel
theorem dX13_comes_189 : decode cX13_comes 189 = .ok (.iinc 4 1, 3) := by decide +kernel
theorem dX13_comes_192 : decode cX13_comes 192 = .ok (.goto (-121), 3) := by decide +kernel
theorem dX13_comes_195 : decode cX13_comes 195 = .ok (.iconst 0, 1) := by decide +kernel
theorem dX13_comes_196 : decode cX13_comes 196 = .ok (.istore 4, 2) := by decide +kernel
theorem dX13_comes_198 : decode cX13_comes 198 = .ok (.iload 4, 2) := by decide +kernel
theorem dX13_comes_200 : decode cX13_comes 200 = .ok (.iconst 4, 1) := by decide +kernel
theorem dX13_comes_201 : decode cX13_comes 201 = .ok (.if_icmp .ge 83, 3) := by decide +kernel
theorem dX13_comes_204 : decode cX13_comes 204 = .ok (.aload_n 0, 1) := by decide +kernel
theorem dX13_comes_205 : decode cX13_comes 205 = .ok (.getfield 85, 3) := by decide +kernel
theorem dX13_comes_208 : decode cX13_comes 208 = .ok (.iload 4, 2) := by decide +kernel
theorem dX13_comes_210 : decode cX13_comes 210 = .ok (.dup2, 1) := by decide +kernel
theorem dX13_comes_211 : decode cX13_comes 211 = .ok (.iaload, 1) := by decide +kernel
theorem dX13_comes_212 : decode cX13_comes 212 = .ok (.aload_n 0, 1) := by decide +kernel
theorem dX13_comes_213 : decode cX13_comes 213 = .ok (.getfield 82, 3) := by decide +kernel
theorem dX13_comes_216 : decode cX13_comes 216 = .ok (.iload 4, 2) := by decide +kernel
theorem dX13_comes_218 : decode cX13_comes 218 = .ok (.iaload, 1) := by decide +kernel
theorem dX13_comes_219 : decode cX13_comes 219 = .ok (.iload_n 1, 1) := by decide +kernel
theorem dX13_comes_220 : decode cX13_comes 220 = .ok (.if_icmp .ne 18, 3) := by decide +kernel
theorem dX13_comes_223 : decode cX13_comes 223 = .ok (.aload_n 0, 1) := by decide +kernel
theorem dX13_comes_224 : decode cX13_comes 224 = .ok (.getfield 85, 3) := by decide +kernel
theorem dX13_comes_227 : decode cX13_comes 227 = .ok (.iload 4, 2) := by decide +kernel
theorem dX13_comes_229 : decode cX13_comes 229 = .ok (.iaload, 1) := by decide +kernel
theorem dX13_comes_230 : decode cX13_comes 230 = .ok (.iload_n 2, 1) := by decide +kernel
theorem dX13_comes_231 : decode cX13_comes 231 = .ok (.if_icmp .le 7, 3) := by decide +kernel
theorem dX13_comes_234 : decode cX13_comes 234 = .ok (.iconst 1, 1) := by decide +kernel
theorem dX13_comes_235 : decode cX13_comes 235 = .ok (.goto 4, 3) := by decide +kernel
theorem dX13_comes_238 : decode cX13_comes 238 = .ok (.iconst 0, 1) := by decide +kernel
theorem dX13_comes_239 : decode cX13_comes 239 = .ok (.iadd, 1) := by decide +kernel
theorem dX13_comes_240 : decode cX13_comes 240 = .ok (.iastore, 1) := by decide +kernel
theorem dX13_comes_241 : decode cX13_comes 241 = .ok (.aload_n 0, 1) := by decide +kernel
theorem dX13_comes_242 : decode cX13_comes 242 = .ok (.getfield 94, 3) := by decide +kernel
theorem dX13_comes_245 : decode cX13_comes 245 = .ok (.iload 4, 2) := by decide +kernel
theorem dX13_comes_247 : decode cX13_comes 247 = .ok (.dup2, 1) := by decide +kernel
theorem dX13_comes_248 : decode cX13_comes 248 = .ok (.iaload, 1) := by decide +kernel
theorem dX13_comes_249 : decode cX13_comes 249 = .ok (.aload_n 0, 1) := by decide +kernel
theorem dX13_comes_250 : decode cX13_comes 250 = .ok (.getfield 91, 3) := by decide +kernel
theorem dX13_comes_253 : decode cX13_comes 253 = .ok (.iload 4, 2) := by decide +kernel
theorem dX13_comes_255 : decode cX13_comes 255 = .ok (.iaload, 1) := by decide +kernel
theorem dX13_comes_256 : decode cX13_comes 256 = .ok (.iload_n 1, 1) := by decide +kernel
theorem dX13_comes_257 : decode cX13_comes 257 = .ok (.if_icmp .ne 18, 3) := by decide +kernel
theorem dX13_comes_260 : decode cX13_comes 260 = .ok (.aload_n 0, 1) := by decide +kernel
theorem dX13_comes_261 : decode cX13_comes 261 = .ok (.getfield 94, 3) := by decide +kernel
theorem dX13_comes_264 : decode cX13_comes 264 = .ok (.iload 4, 2) := by decide +kernel
theorem dX13_comes_266 : decode cX13_comes 266 = .ok (.iaload, 1) := by decide +kernel
theorem dX13_comes_267 : decode cX13_comes 267 = .ok (.iload_n 2, 1) := by decide +kernel
theorem dX13_comes_268 : decode cX13_comes 268 = .ok (.if_icmp .le 7, 3) := by decide +kernel
theorem dX13_comes_271 : decode cX13_comes 271 = .ok (.iconst 1, 1) := by decide +kernel
theorem dX13_comes_272 : decode cX13_comes 272 = .ok (.goto 4, 3) := by decide +kernel
theorem dX13_comes_275 : decode cX13_comes 275 = .ok (.iconst 0, 1) := by decide +kernel
theorem dX13_comes_276 : decode cX13_comes 276 = .ok (.iadd, 1) := by decide +kernel
theorem dX13_comes_277 : decode cX13_comes 277 = .ok (.iastore, 1) := by decide +kernel
theorem dX13_comes_278 : decode cX13_comes 278 = .ok (.iinc 4 1, 3) := by decide +kernel
theorem dX13_comes_281 : decode cX13_comes 281 = .ok (.goto (-83), 3) := by decide +kernel
theorem dX13_comes_284 : decode cX13_comes 284 = .ok (.return_, 1) := by decide +kernel
theorem dX13_insert_0 : decode cX13_insert 0 = .ok (.aload_n 0, 1) := by decide +kernel
theorem dX13_insert_1 : decode cX13_insert 1 = .ok (.iload_n 1, 1) := by decide +kernel
theorem dX13_insert_2 : decode cX13_insert 2 = .ok (.invokevirtual 191, 3) := by decide +kernel
theorem dX13_insert_5 : decode cX13_insert 5 = .ok (.istore 4, 2) := by decide +kernel
theorem dX13_insert_7 : decode cX13_insert 7 = .ok (.iload 4, 2) := by decide +kernel
theorem dX13_insert_9 : decode cX13_insert 9 = .ok (.ifCond .eq 28, 3) := by decide +kernel
theorem dX13_insert_12 : decode cX13_insert 12 = .ok (.iload_n 2, 1) := by decide +kernel
theorem dX13_insert_13 : decode cX13_insert 13 = .ok (.iconst 0, 1) := by decide +kernel
theorem dX13_insert_14 : decode cX13_insert 14 = .ok (.aload_n 0, 1) := by decide +kernel
theorem dX13_insert_15 : decode cX13_insert 15 = .ok (.getfield 13, 3) := by decide +kernel
theorem dX13_insert_18 : decode cX13_insert 18 = .ok (.iload_n 1, 1) := by decide +kernel
theorem dX13_insert_19 : decode cX13_insert 19 = .ok (.iaload, 1) := by decide +kernel
theorem dX13_insert_20 : decode cX13_insert 20 = .ok (.invokestatic 187, 3) := by decide +kernel
theorem dX13_insert_23 : decode cX13_insert 23 = .ok (.ifCond .eq 14, 3) := by decide +kernel
theorem dX13_insert_26 : decode cX13_insert 26 = .ok (.iload_n 3, 1) := by decide +kernel
theorem dX13_insert_27 : decode cX13_insert 27 = .ok (.invokestatic 198, 3) := by decide +kernel
theorem dX13_insert_30 : decode cX13_insert 30 = .ok (.ifCond .eq 7, 3) := by decide +kernel
theorem dX13_insert_33 : decode cX13_insert 33 = .ok (.iconst 1, 1) := by decide +kernel
theorem dX13_insert_34 : decode cX13_insert 34 = .ok (.goto 4, 3) := by decide +kernel
theorem dX13_insert_37 : decode cX13_insert 37 = .ok (.iconst 0, 1) := by decide +kernel
theorem dX13_insert_38 : decode cX13_insert 38 = .ok (.istore 5, 2) := by decide +kernel
theorem dX13_insert_40 : decode cX13_insert 40 = .ok (.aload_n 0, 1) := by decide +kernel
theorem dX13_insert_41 : decode cX13_insert 41 = .ok (.iload 4, 2) := by decide +kernel
theorem dX13_insert_43 : decode cX13_insert 43 = .ok (.ifCond .ne 7, 3) := by decide +kernel
theorem dX13_insert_46 : decode cX13_insert 46 = .ok (.iconst 1, 1) := by decide +kernel
theorem dX13_insert_47 : decode cX13_insert 47 = .ok (.goto 28, 3) := by decide +kernel
theorem dX13_insert_50 : decode cX13_insert 50 = .ok (.iload 5, 2) := by decide +kernel
theorem dX13_insert_52 : decode cX13_insert 52 = .ok (.ifCond .ne 7, 3) := by decide +kernel
theorem dX13_insert_55 : decode cX13_insert 55 = .ok (.iconst 2, 1) := by decide +kernel
theorem dX13_insert_56 : decode cX13_insert 56 = .ok (.goto 19, 3) := by decide +kernel
theorem dX13_insert_59 : decode cX13_insert 59 = .ok (.aload_n 0, 1) := by decide +kernel
theorem dX13_insert_60 : decode cX13_insert 60 = .ok (.getfield 13, 3) := by decide +kernel
theorem dX13_insert_63 : decode cX13_insert 63 = .ok (.iload_n 1, 1) := by decide +kernel
theorem dX13_insert_64 : decode cX13_insert 64 = .ok (.iaload, 1) := by decide +kernel
theorem dX13_insert_65 : decode cX13_insert 65 = .ok (.bipush 80, 2) := by decide +kernel
theorem dX13_insert_67 : decode cX13_insert 67 = .ok (.if_icmp .ne 7, 3) := by decide +kernel
theorem dX13_insert_70 : decode cX13_insert 70 = .ok (.iconst 3, 1) := by decide +kernel
theorem dX13_insert_71 : decode cX13_insert 71 = .ok (.goto 4, 3) := by decide +kernel
theorem dX13_insert_74 : decode cX13_insert 74 = .ok (.iconst 0, 1) := by decide +kernel
theorem dX13_insert_75 : decode cX13_insert 75 = .ok (.invokevirtual 195, 3) := by decide +kernel
theorem dX13_insert_78 : decode cX13_insert 78 = .ok (.ifCond .ne 5, 3) := by decide +kernel
theorem dX13_insert_81 : decode cX13_insert 81 = .ok (.iconst 0, 1) := by decide +kernel
theorem dX13_insert_82 : decode cX13_insert 82 = .ok (.ireturn, 1) := by decide +kernel
theorem dX13_insert_83 : decode cX13_insert 83 = .ok (.aload_n 0, 1) := by decide +kernel
theorem dX13_insert_84 : decode cX13_insert 84 = .ok (.iload_n 1, 1) := by decide +kernel
theorem dX13_insert_85 : decode cX13_insert 85 = .ok (.iload_n 2, 1) := by decide +kernel
theorem dX13_insert_86 : decode cX13_insert 86 = .ok (.iload_n 3, 1) := by decide +kernel
theorem dX13_insert_87 : decode cX13_insert 87 = .ok (.invokevirtual 201, 3) := by decide +kernel
theorem dX13_insert_90 : decode cX13_insert 90 = .ok (.aload_n 0, 1) := by decide +kernel
theorem dX13_insert_91 : decode cX13_insert 91 = .ok (.getfield 13, 3) := by decide +kernel
theorem dX13_insert_94 : decode cX13_insert 94 = .ok (.iload_n 1, 1) := by decide +kernel
theorem dX13_insert_95 : decode cX13_insert 95 = .ok (.iaload, 1) := by decide +kernel
theorem dX13_insert_96 : decode cX13_insert 96 = .ok (.ireturn, 1) := by decide +kernel
theorem dX13_without_0 : decode cX13_without 0 = .ok (.iload_n 0, 1) := by decide +kernel
theorem dX13_without_1 : decode cX13_without 1 = .ok (.iload_n 1, 1) := by decide +kernel
theorem dX13_without_2 : decode cX13_without 2 = .ok (.if_icmp .gt 7, 3) := by decide +kernel
theorem dX13_without_5 : decode cX13_without 5 = .ok (.iload_n 0, 1) := by decide +kernel
theorem dX13_without_6 : decode cX13_without 6 = .ok (.goto 17, 3) := by decide +kernel
theorem dX13_without_9 : decode cX13_without 9 = .ok (.iload_n 0, 1) := by decide +kernel
theorem dX13_without_10 : decode cX13_without 10 = .ok (.iload_n 2, 1) := by decide +kernel
theorem dX13_without_11 : decode cX13_without 11 = .ok (.if_icmp .ge 7, 3) := by decide +kernel
theorem dX13_without_14 : decode cX13_without 14 = .ok (.iload_n 1, 1) := by decide +kernel
theorem dX13_without_15 : decode cX13_without 15 = .ok (.goto 8, 3) := by decide +kernel
theorem dX13_without_18 : decode cX13_without 18 = .ok (.iload_n 0, 1) := by decide +kernel
theorem dX13_without_19 : decode cX13_without 19 = .ok (.iload_n 2, 1) := by decide +kernel
theorem dX13_without_20 : decode cX13_without 20 = .ok (.iload_n 1, 1) := by decide +kernel
theorem dX13_without_21 : decode cX13_without 21 = .ok (.isub, 1) := by decide +kernel
theorem dX13_without_22 : decode cX13_without 22 = .ok (.isub, 1) := by decide +kernel
theorem dX13_without_23 : decode cX13_without 23 = .ok (.ireturn, 1) := by decide +kernel
theorem dX13_dropsSpan_0 : decode cX13_dropsSpan 0 = .ok (.aload_n 0, 1) := by decide +kernel
theorem dX13_dropsSpan_1 : decode cX13_dropsSpan 1 = .ok (.getfield 45, 3) := by decide +kernel
theorem dX13_dropsSpan_4 : decode cX13_dropsSpan 4 = .ok (.iload_n 1, 1) := by decide +kernel
theorem dX13_dropsSpan_5 : decode cX13_dropsSpan 5 = .ok (.dup2, 1) := by decide +kernel
theorem dX13_dropsSpan_6 : decode cX13_dropsSpan 6 = .ok (.iaload, 1) := by decide +kernel
theorem dX13_dropsSpan_7 : decode cX13_dropsSpan 7 = .ok (.iconst 1, 1) := by decide +kernel
theorem dX13_dropsSpan_8 : decode cX13_dropsSpan 8 = .ok (.isub, 1) := by decide +kernel
theorem dX13_dropsSpan_9 : decode cX13_dropsSpan 9 = .ok (.iastore, 1) := by decide +kernel
theorem dX13_dropsSpan_10 : decode cX13_dropsSpan 10 = .ok (.bipush 6, 2) := by decide +kernel
theorem dX13_dropsSpan_12 : decode cX13_dropsSpan 12 = .ok (.iload_n 1, 1) := by decide +kernel
theorem dX13_dropsSpan_13 : decode cX13_dropsSpan 13 = .ok (.imul, 1) := by decide +kernel
theorem dX13_dropsSpan_14 : decode cX13_dropsSpan 14 = .ok (.iload_n 2, 1) := by decide +kernel
theorem dX13_dropsSpan_15 : decode cX13_dropsSpan 15 = .ok (.iadd, 1) := by decide +kernel
theorem dX13_dropsSpan_16 : decode cX13_dropsSpan 16 = .ok (.istore_n 3, 1) := by decide +kernel
theorem dX13_dropsSpan_17 : decode cX13_dropsSpan 17 = .ok (.iload_n 3, 1) := by decide +kernel
theorem dX13_dropsSpan_18 : decode cX13_dropsSpan 18 = .ok (.bipush 6, 2) := by decide +kernel
theorem dX13_dropsSpan_20 : decode cX13_dropsSpan 20 = .ok (.iload_n 1, 1) := by decide +kernel
theorem dX13_dropsSpan_21 : decode cX13_dropsSpan 21 = .ok (.imul, 1) := by decide +kernel
theorem dX13_dropsSpan_22 : decode cX13_dropsSpan 22 = .ok (.aload_n 0, 1) := by decide +kernel
theorem dX13_dropsSpan_23 : decode cX13_dropsSpan 23 = .ok (.getfield 45, 3) := by decide +kernel
theorem dX13_dropsSpan_26 : decode cX13_dropsSpan 26 = .ok (.iload_n 1, 1) := by decide +kernel
theorem dX13_dropsSpan_27 : decode cX13_dropsSpan 27 = .ok (.iaload, 1) := by decide +kernel
theorem dX13_dropsSpan_28 : decode cX13_dropsSpan 28 = .ok (.iadd, 1) := by decide +kernel
theorem dX13_dropsSpan_29 : decode cX13_dropsSpan 29 = .ok (.if_icmp .ge 51, 3) := by decide +kernel
theorem dX13_dropsSpan_32 : decode cX13_dropsSpan 32 = .ok (.aload_n 0, 1) := by decide +kernel
theorem dX13_dropsSpan_33 : decode cX13_dropsSpan 33 = .ok (.getfield 48, 3) := by decide +kernel
theorem dX13_dropsSpan_36 : decode cX13_dropsSpan 36 = .ok (.iload_n 3, 1) := by decide +kernel
theorem dX13_dropsSpan_37 : decode cX13_dropsSpan 37 = .ok (.aload_n 0, 1) := by decide +kernel
theorem dX13_dropsSpan_38 : decode cX13_dropsSpan 38 = .ok (.getfield 48, 3) := by decide +kernel
theorem dX13_dropsSpan_41 : decode cX13_dropsSpan 41 = .ok (.iload_n 3, 1) := by decide +kernel
theorem dX13_dropsSpan_42 : decode cX13_dropsSpan 42 = .ok (.iconst 1, 1) := by decide +kernel
theorem dX13_dropsSpan_43 : decode cX13_dropsSpan 43 = .ok (.iadd, 1) := by decide +kernel
theorem dX13_dropsSpan_44 : decode cX13_dropsSpan 44 = .ok (.iaload, 1) := by decide +kernel
theorem dX13_dropsSpan_45 : decode cX13_dropsSpan 45 = .ok (.iastore, 1) := by decide +kernel
theorem dX13_dropsSpan_46 : decode cX13_dropsSpan 46 = .ok (.aload_n 0, 1) := by decide +kernel
theorem dX13_dropsSpan_47 : decode cX13_dropsSpan 47 = .ok (.getfield 51, 3) := by decide +kernel
theorem dX13_dropsSpan_50 : decode cX13_dropsSpan 50 = .ok (.iload_n 3, 1) := by decide +kernel
theorem dX13_dropsSpan_51 : decode cX13_dropsSpan 51 = .ok (.aload_n 0, 1) := by decide +kernel
theorem dX13_dropsSpan_52 : decode cX13_dropsSpan 52 = .ok (.getfield 51, 3) := by decide +kernel
theorem dX13_dropsSpan_55 : decode cX13_dropsSpan 55 = .ok (.iload_n 3, 1) := by decide +kernel
theorem dX13_dropsSpan_56 : decode cX13_dropsSpan 56 = .ok (.iconst 1, 1) := by decide +kernel
theorem dX13_dropsSpan_57 : decode cX13_dropsSpan 57 = .ok (.iadd, 1) := by decide +kernel
theorem dX13_dropsSpan_58 : decode cX13_dropsSpan 58 = .ok (.iaload, 1) := by decide +kernel
theorem dX13_dropsSpan_59 : decode cX13_dropsSpan 59 = .ok (.iastore, 1) := by decide +kernel
theorem dX13_dropsSpan_60 : decode cX13_dropsSpan 60 = .ok (.aload_n 0, 1) := by decide +kernel
theorem dX13_dropsSpan_61 : decode cX13_dropsSpan 61 = .ok (.getfield 54, 3) := by decide +kernel
theorem dX13_dropsSpan_64 : decode cX13_dropsSpan 64 = .ok (.iload_n 3, 1) := by decide +kernel
theorem dX13_dropsSpan_65 : decode cX13_dropsSpan 65 = .ok (.aload_n 0, 1) := by decide +kernel
theorem dX13_dropsSpan_66 : decode cX13_dropsSpan 66 = .ok (.getfield 54, 3) := by decide +kernel
theorem dX13_dropsSpan_69 : decode cX13_dropsSpan 69 = .ok (.iload_n 3, 1) := by decide +kernel
theorem dX13_dropsSpan_70 : decode cX13_dropsSpan 70 = .ok (.iconst 1, 1) := by decide +kernel
theorem dX13_dropsSpan_71 : decode cX13_dropsSpan 71 = .ok (.iadd, 1) := by decide +kernel
theorem dX13_dropsSpan_72 : decode cX13_dropsSpan 72 = .ok (.iaload, 1) := by decide +kernel
theorem dX13_dropsSpan_73 : decode cX13_dropsSpan 73 = .ok (.iastore, 1) := by decide +kernel
theorem dX13_dropsSpan_74 : decode cX13_dropsSpan 74 = .ok (.iinc 3 1, 3) := by decide +kernel
theorem dX13_dropsSpan_77 : decode cX13_dropsSpan 77 = .ok (.goto (-60), 3) := by decide +kernel
theorem dX13_dropsSpan_80 : decode cX13_dropsSpan 80 = .ok (.return_, 1) := by decide +kernel
theorem dX13_dropsEmpty_0 : decode cX13_dropsEmpty 0 = .ok (.iconst 0, 1) := by decide +kernel
theorem dX13_dropsEmpty_1 : decode cX13_dropsEmpty 1 = .ok (.istore_n 1, 1) := by decide +kernel
theorem dX13_dropsEmpty_2 : decode cX13_dropsEmpty 2 = .ok (.iload_n 1, 1) := by decide +kernel
theorem dX13_dropsEmpty_3 : decode cX13_dropsEmpty 3 = .ok (.iconst 4, 1) := by decide +kernel
theorem dX13_dropsEmpty_4 : decode cX13_dropsEmpty 4 = .ok (.if_icmp .ge 59, 3) := by decide +kernel
theorem dX13_dropsEmpty_7 : decode cX13_dropsEmpty 7 = .ok (.aload_n 0, 1) := by decide +kernel
theorem dX13_dropsEmpty_8 : decode cX13_dropsEmpty 8 = .ok (.getfield 45, 3) := by decide +kernel
theorem dX13_dropsEmpty_11 : decode cX13_dropsEmpty 11 = .ok (.iload_n 1, 1) := by decide +kernel
theorem dX13_dropsEmpty_12 : decode cX13_dropsEmpty 12 = .ok (.iaload, 1) := by decide +kernel
theorem dX13_dropsEmpty_13 : decode cX13_dropsEmpty 13 = .ok (.iconst 1, 1) := by decide +kernel
theorem dX13_dropsEmpty_14 : decode cX13_dropsEmpty 14 = .ok (.isub, 1) := by decide +kernel
theorem dX13_dropsEmpty_15 : decode cX13_dropsEmpty 15 = .ok (.istore_n 2, 1) := by decide +kernel
theorem dX13_dropsEmpty_16 : decode cX13_dropsEmpty 16 = .ok (.iload_n 2, 1) := by decide +kernel
theorem dX13_dropsEmpty_17 : decode cX13_dropsEmpty 17 = .ok (.ifCond .lt 40, 3) := by decide +kernel
theorem dX13_dropsEmpty_20 : decode cX13_dropsEmpty 20 = .ok (.aload_n 0, 1) := by decide +kernel
theorem dX13_dropsEmpty_21 : decode cX13_dropsEmpty 21 = .ok (.getfield 51, 3) := by decide +kernel
theorem dX13_dropsEmpty_24 : decode cX13_dropsEmpty 24 = .ok (.bipush 6, 2) := by decide +kernel
theorem dX13_dropsEmpty_26 : decode cX13_dropsEmpty 26 = .ok (.iload_n 1, 1) := by decide +kernel
theorem dX13_dropsEmpty_27 : decode cX13_dropsEmpty 27 = .ok (.imul, 1) := by decide +kernel
theorem dX13_dropsEmpty_28 : decode cX13_dropsEmpty 28 = .ok (.iload_n 2, 1) := by decide +kernel
theorem dX13_dropsEmpty_29 : decode cX13_dropsEmpty 29 = .ok (.iadd, 1) := by decide +kernel
theorem dX13_dropsEmpty_30 : decode cX13_dropsEmpty 30 = .ok (.iaload, 1) := by decide +kernel
theorem dX13_dropsEmpty_31 : decode cX13_dropsEmpty 31 = .ok (.aload_n 0, 1) := by decide +kernel
theorem dX13_dropsEmpty_32 : decode cX13_dropsEmpty 32 = .ok (.getfield 54, 3) := by decide +kernel
theorem dX13_dropsEmpty_35 : decode cX13_dropsEmpty 35 = .ok (.bipush 6, 2) := by decide +kernel
theorem dX13_dropsEmpty_37 : decode cX13_dropsEmpty 37 = .ok (.iload_n 1, 1) := by decide +kernel
theorem dX13_dropsEmpty_38 : decode cX13_dropsEmpty 38 = .ok (.imul, 1) := by decide +kernel
theorem dX13_dropsEmpty_39 : decode cX13_dropsEmpty 39 = .ok (.iload_n 2, 1) := by decide +kernel
theorem dX13_dropsEmpty_40 : decode cX13_dropsEmpty 40 = .ok (.iadd, 1) := by decide +kernel
theorem dX13_dropsEmpty_41 : decode cX13_dropsEmpty 41 = .ok (.iaload, 1) := by decide +kernel
theorem dX13_dropsEmpty_42 : decode cX13_dropsEmpty 42 = .ok (.if_icmp .ne 9, 3) := by decide +kernel
theorem dX13_dropsEmpty_45 : decode cX13_dropsEmpty 45 = .ok (.aload_n 0, 1) := by decide +kernel
theorem dX13_dropsEmpty_46 : decode cX13_dropsEmpty 46 = .ok (.iload_n 1, 1) := by decide +kernel
theorem dX13_dropsEmpty_47 : decode cX13_dropsEmpty 47 = .ok (.iload_n 2, 1) := by decide +kernel
theorem dX13_dropsEmpty_48 : decode cX13_dropsEmpty 48 = .ok (.invokevirtual 205, 3) := by decide +kernel
theorem dX13_dropsEmpty_51 : decode cX13_dropsEmpty 51 = .ok (.iinc 2 (-1), 3) := by decide +kernel
theorem dX13_dropsEmpty_54 : decode cX13_dropsEmpty 54 = .ok (.goto (-38), 3) := by decide +kernel
theorem dX13_dropsEmpty_57 : decode cX13_dropsEmpty 57 = .ok (.iinc 1 1, 3) := by decide +kernel
theorem dX13_dropsEmpty_60 : decode cX13_dropsEmpty 60 = .ok (.goto (-58), 3) := by decide +kernel
theorem dX13_dropsEmpty_63 : decode cX13_dropsEmpty 63 = .ok (.return_, 1) := by decide +kernel
theorem dX13_remove_0 : decode cX13_remove 0 = .ok (.aload_n 0, 1) := by decide +kernel
theorem dX13_remove_1 : decode cX13_remove 1 = .ok (.iload_n 1, 1) := by decide +kernel
theorem dX13_remove_2 : decode cX13_remove 2 = .ok (.invokevirtual 191, 3) := by decide +kernel
theorem dX13_remove_5 : decode cX13_remove 5 = .ok (.istore 4, 2) := by decide +kernel
theorem dX13_remove_7 : decode cX13_remove 7 = .ok (.iload 4, 2) := by decide +kernel
theorem dX13_remove_9 : decode cX13_remove 9 = .ok (.ifCond .eq 32, 3) := by decide +kernel
theorem dX13_remove_12 : decode cX13_remove 12 = .ok (.iload_n 3, 1) := by decide +kernel
theorem dX13_remove_13 : decode cX13_remove 13 = .ok (.iconst 1, 1) := by decide +kernel
theorem dX13_remove_14 : decode cX13_remove 14 = .ok (.aload_n 0, 1) := by decide +kernel
theorem dX13_remove_15 : decode cX13_remove 15 = .ok (.getfield 13, 3) := by decide +kernel
theorem dX13_remove_18 : decode cX13_remove 18 = .ok (.iload_n 1, 1) := by decide +kernel
theorem dX13_remove_19 : decode cX13_remove 19 = .ok (.iaload, 1) := by decide +kernel
theorem dX13_remove_20 : decode cX13_remove 20 = .ok (.invokestatic 187, 3) := by decide +kernel
theorem dX13_remove_23 : decode cX13_remove 23 = .ok (.ifCond .eq 18, 3) := by decide +kernel
theorem dX13_remove_26 : decode cX13_remove 26 = .ok (.iload_n 2, 1) := by decide +kernel
theorem dX13_remove_27 : decode cX13_remove 27 = .ok (.iconst 0, 1) := by decide +kernel
theorem dX13_remove_28 : decode cX13_remove 28 = .ok (.iload_n 3, 1) := by decide +kernel
theorem dX13_remove_29 : decode cX13_remove 29 = .ok (.iconst 1, 1) := by decide +kernel
theorem dX13_remove_30 : decode cX13_remove 30 = .ok (.isub, 1) := by decide +kernel
theorem dX13_remove_31 : decode cX13_remove 31 = .ok (.invokestatic 187, 3) := by decide +kernel
theorem dX13_remove_34 : decode cX13_remove 34 = .ok (.ifCond .eq 7, 3) := by decide +kernel
theorem dX13_remove_37 : decode cX13_remove 37 = .ok (.iconst 1, 1) := by decide +kernel
theorem dX13_remove_38 : decode cX13_remove 38 = .ok (.goto 4, 3) := by decide +kernel
theorem dX13_remove_41 : decode cX13_remove 41 = .ok (.iconst 0, 1) := by decide +kernel
theorem dX13_remove_42 : decode cX13_remove 42 = .ok (.istore 5, 2) := by decide +kernel
theorem dX13_remove_44 : decode cX13_remove 44 = .ok (.aload_n 0, 1) := by decide +kernel
theorem dX13_remove_45 : decode cX13_remove 45 = .ok (.iload 4, 2) := by decide +kernel
theorem dX13_remove_47 : decode cX13_remove 47 = .ok (.ifCond .ne 7, 3) := by decide +kernel
theorem dX13_remove_50 : decode cX13_remove 50 = .ok (.iconst 1, 1) := by decide +kernel
theorem dX13_remove_51 : decode cX13_remove 51 = .ok (.goto 13, 3) := by decide +kernel
theorem dX13_remove_54 : decode cX13_remove 54 = .ok (.iload 5, 2) := by decide +kernel
theorem dX13_remove_56 : decode cX13_remove 56 = .ok (.ifCond .ne 7, 3) := by decide +kernel
theorem dX13_remove_59 : decode cX13_remove 59 = .ok (.iconst 2, 1) := by decide +kernel
theorem dX13_remove_60 : decode cX13_remove 60 = .ok (.goto 4, 3) := by decide +kernel
theorem dX13_remove_63 : decode cX13_remove 63 = .ok (.iconst 0, 1) := by decide +kernel
theorem dX13_remove_64 : decode cX13_remove 64 = .ok (.invokevirtual 195, 3) := by decide +kernel
theorem dX13_remove_67 : decode cX13_remove 67 = .ok (.ifCond .ne 5, 3) := by decide +kernel
theorem dX13_remove_70 : decode cX13_remove 70 = .ok (.iconst 0, 1) := by decide +kernel
theorem dX13_remove_71 : decode cX13_remove 71 = .ok (.ireturn, 1) := by decide +kernel
theorem dX13_remove_72 : decode cX13_remove 72 = .ok (.aload_n 0, 1) := by decide +kernel
theorem dX13_remove_73 : decode cX13_remove 73 = .ok (.getfield 13, 3) := by decide +kernel
theorem dX13_remove_76 : decode cX13_remove 76 = .ok (.iload_n 1, 1) := by decide +kernel
theorem dX13_remove_77 : decode cX13_remove 77 = .ok (.dup2, 1) := by decide +kernel
theorem dX13_remove_78 : decode cX13_remove 78 = .ok (.iaload, 1) := by decide +kernel
theorem dX13_remove_79 : decode cX13_remove 79 = .ok (.iload_n 3, 1) := by decide +kernel
theorem dX13_remove_80 : decode cX13_remove 80 = .ok (.iload_n 2, 1) := by decide +kernel
theorem dX13_remove_81 : decode cX13_remove 81 = .ok (.isub, 1) := by decide +kernel
theorem dX13_remove_82 : decode cX13_remove 82 = .ok (.isub, 1) := by decide +kernel
theorem dX13_remove_83 : decode cX13_remove 83 = .ok (.iastore, 1) := by decide +kernel
theorem dX13_remove_84 : decode cX13_remove 84 = .ok (.bipush 80, 2) := by decide +kernel
theorem dX13_remove_86 : decode cX13_remove 86 = .ok (.iload_n 1, 1) := by decide +kernel
theorem dX13_remove_87 : decode cX13_remove 87 = .ok (.imul, 1) := by decide +kernel
theorem dX13_remove_88 : decode cX13_remove 88 = .ok (.iload_n 2, 1) := by decide +kernel
theorem dX13_remove_89 : decode cX13_remove 89 = .ok (.iadd, 1) := by decide +kernel
theorem dX13_remove_90 : decode cX13_remove 90 = .ok (.istore 6, 2) := by decide +kernel
theorem dX13_remove_92 : decode cX13_remove 92 = .ok (.iload 6, 2) := by decide +kernel
theorem dX13_remove_94 : decode cX13_remove 94 = .ok (.bipush 80, 2) := by decide +kernel
theorem dX13_remove_96 : decode cX13_remove 96 = .ok (.iload_n 1, 1) := by decide +kernel
theorem dX13_remove_97 : decode cX13_remove 97 = .ok (.imul, 1) := by decide +kernel
theorem dX13_remove_98 : decode cX13_remove 98 = .ok (.aload_n 0, 1) := by decide +kernel
theorem dX13_remove_99 : decode cX13_remove 99 = .ok (.getfield 13, 3) := by decide +kernel
theorem dX13_remove_102 : decode cX13_remove 102 = .ok (.iload_n 1, 1) := by decide +kernel
theorem dX13_remove_103 : decode cX13_remove 103 = .ok (.iaload, 1) := by decide +kernel
theorem dX13_remove_104 : decode cX13_remove 104 = .ok (.iadd, 1) := by decide +kernel
theorem dX13_remove_105 : decode cX13_remove 105 = .ok (.if_icmp .ge 27, 3) := by decide +kernel
theorem dX13_remove_108 : decode cX13_remove 108 = .ok (.aload_n 0, 1) := by decide +kernel
theorem dX13_remove_109 : decode cX13_remove 109 = .ok (.getfield 7, 3) := by decide +kernel
theorem dX13_remove_112 : decode cX13_remove 112 = .ok (.iload 6, 2) := by decide +kernel
theorem dX13_remove_114 : decode cX13_remove 114 = .ok (.aload_n 0, 1) := by decide +kernel
theorem dX13_remove_115 : decode cX13_remove 115 = .ok (.getfield 7, 3) := by decide +kernel
theorem dX13_remove_118 : decode cX13_remove 118 = .ok (.iload 6, 2) := by decide +kernel
theorem dX13_remove_120 : decode cX13_remove 120 = .ok (.iload_n 3, 1) := by decide +kernel
theorem dX13_remove_121 : decode cX13_remove 121 = .ok (.iadd, 1) := by decide +kernel
theorem dX13_remove_122 : decode cX13_remove 122 = .ok (.iload_n 2, 1) := by decide +kernel
theorem dX13_remove_123 : decode cX13_remove 123 = .ok (.isub, 1) := by decide +kernel
theorem dX13_remove_124 : decode cX13_remove 124 = .ok (.iaload, 1) := by decide +kernel
theorem dX13_remove_125 : decode cX13_remove 125 = .ok (.iastore, 1) := by decide +kernel
theorem dX13_remove_126 : decode cX13_remove 126 = .ok (.iinc 6 1, 3) := by decide +kernel
theorem dX13_remove_129 : decode cX13_remove 129 = .ok (.goto (-37), 3) := by decide +kernel
theorem dX13_remove_132 : decode cX13_remove 132 = .ok (.iconst 0, 1) := by decide +kernel
theorem dX13_remove_133 : decode cX13_remove 133 = .ok (.istore 6, 2) := by decide +kernel
theorem dX13_remove_135 : decode cX13_remove 135 = .ok (.iload 6, 2) := by decide +kernel
theorem dX13_remove_137 : decode cX13_remove 137 = .ok (.bipush 24, 2) := by decide +kernel
theorem dX13_remove_139 : decode cX13_remove 139 = .ok (.if_icmp .ge 129, 3) := by decide +kernel
theorem dX13_remove_142 : decode cX13_remove 142 = .ok (.aload_n 0, 1) := by decide +kernel
theorem dX13_remove_143 : decode cX13_remove 143 = .ok (.getfield 51, 3) := by decide +kernel
theorem dX13_remove_146 : decode cX13_remove 146 = .ok (.iload 6, 2) := by decide +kernel
theorem dX13_remove_148 : decode cX13_remove 148 = .ok (.aload_n 0, 1) := by decide +kernel
theorem dX13_remove_149 : decode cX13_remove 149 = .ok (.getfield 48, 3) := by decide +kernel
theorem dX13_remove_152 : decode cX13_remove 152 = .ok (.iload 6, 2) := by decide +kernel
theorem dX13_remove_154 : decode cX13_remove 154 = .ok (.iaload, 1) := by decide +kernel
theorem dX13_remove_155 : decode cX13_remove 155 = .ok (.iload_n 1, 1) := by decide +kernel
theorem dX13_remove_156 : decode cX13_remove 156 = .ok (.if_icmp .ne 18, 3) := by decide +kernel
theorem dX13_remove_159 : decode cX13_remove 159 = .ok (.aload_n 0, 1) := by decide +kernel
theorem dX13_remove_160 : decode cX13_remove 160 = .ok (.getfield 51, 3) := by decide +kernel
theorem dX13_remove_163 : decode cX13_remove 163 = .ok (.iload 6, 2) := by decide +kernel
theorem dX13_remove_165 : decode cX13_remove 165 = .ok (.iaload, 1) := by decide +kernel
theorem dX13_remove_166 : decode cX13_remove 166 = .ok (.iload_n 2, 1) := by decide +kernel
theorem dX13_remove_167 : decode cX13_remove 167 = .ok (.iload_n 3, 1) := by decide +kernel
theorem dX13_remove_168 : decode cX13_remove 168 = .ok (.invokestatic 209, 3) := by decide +kernel
theorem dX13_remove_171 : decode cX13_remove 171 = .ok (.goto 10, 3) := by decide +kernel
theorem dX13_remove_174 : decode cX13_remove 174 = .ok (.aload_n 0, 1) := by decide +kernel
theorem dX13_remove_175 : decode cX13_remove 175 = .ok (.getfield 51, 3) := by decide +kernel
theorem dX13_remove_178 : decode cX13_remove 178 = .ok (.iload 6, 2) := by decide +kernel
theorem dX13_remove_180 : decode cX13_remove 180 = .ok (.iaload, 1) := by decide +kernel
theorem dX13_remove_181 : decode cX13_remove 181 = .ok (.iastore, 1) := by decide +kernel
theorem dX13_remove_182 : decode cX13_remove 182 = .ok (.aload_n 0, 1) := by decide +kernel
theorem dX13_remove_183 : decode cX13_remove 183 = .ok (.getfield 54, 3) := by decide +kernel
theorem dX13_remove_186 : decode cX13_remove 186 = .ok (.iload 6, 2) := by decide +kernel
theorem dX13_remove_188 : decode cX13_remove 188 = .ok (.aload_n 0, 1) := by decide +kernel
theorem dX13_remove_189 : decode cX13_remove 189 = .ok (.getfield 48, 3) := by decide +kernel
theorem dX13_remove_192 : decode cX13_remove 192 = .ok (.iload 6, 2) := by decide +kernel
theorem dX13_remove_194 : decode cX13_remove 194 = .ok (.iaload, 1) := by decide +kernel
theorem dX13_remove_195 : decode cX13_remove 195 = .ok (.iload_n 1, 1) := by decide +kernel
theorem dX13_remove_196 : decode cX13_remove 196 = .ok (.if_icmp .ne 18, 3) := by decide +kernel
theorem dX13_remove_199 : decode cX13_remove 199 = .ok (.aload_n 0, 1) := by decide +kernel
theorem dX13_remove_200 : decode cX13_remove 200 = .ok (.getfield 54, 3) := by decide +kernel
theorem dX13_remove_203 : decode cX13_remove 203 = .ok (.iload 6, 2) := by decide +kernel
theorem dX13_remove_205 : decode cX13_remove 205 = .ok (.iaload, 1) := by decide +kernel
theorem dX13_remove_206 : decode cX13_remove 206 = .ok (.iload_n 2, 1) := by decide +kernel
theorem dX13_remove_207 : decode cX13_remove 207 = .ok (.iload_n 3, 1) := by decide +kernel
theorem dX13_remove_208 : decode cX13_remove 208 = .ok (.invokestatic 209, 3) := by decide +kernel
theorem dX13_remove_211 : decode cX13_remove 211 = .ok (.goto 10, 3) := by decide +kernel
theorem dX13_remove_214 : decode cX13_remove 214 = .ok (.aload_n 0, 1) := by decide +kernel
theorem dX13_remove_215 : decode cX13_remove 215 = .ok (.getfield 54, 3) := by decide +kernel
theorem dX13_remove_218 : decode cX13_remove 218 = .ok (.iload 6, 2) := by decide +kernel
theorem dX13_remove_220 : decode cX13_remove 220 = .ok (.iaload, 1) := by decide +kernel
theorem dX13_remove_221 : decode cX13_remove 221 = .ok (.iastore, 1) := by decide +kernel
theorem dX13_remove_222 : decode cX13_remove 222 = .ok (.aload_n 0, 1) := by decide +kernel
theorem dX13_remove_223 : decode cX13_remove 223 = .ok (.getfield 63, 3) := by decide +kernel
theorem dX13_remove_226 : decode cX13_remove 226 = .ok (.iload 6, 2) := by decide +kernel
theorem dX13_remove_228 : decode cX13_remove 228 = .ok (.aload_n 0, 1) := by decide +kernel
theorem dX13_remove_229 : decode cX13_remove 229 = .ok (.getfield 60, 3) := by decide +kernel
theorem dX13_remove_232 : decode cX13_remove 232 = .ok (.iload 6, 2) := by decide +kernel
theorem dX13_remove_234 : decode cX13_remove 234 = .ok (.iaload, 1) := by decide +kernel
theorem dX13_remove_235 : decode cX13_remove 235 = .ok (.iload_n 1, 1) := by decide +kernel
theorem dX13_remove_236 : decode cX13_remove 236 = .ok (.if_icmp .ne 18, 3) := by decide +kernel
theorem dX13_remove_239 : decode cX13_remove 239 = .ok (.aload_n 0, 1) := by decide +kernel
theorem dX13_remove_240 : decode cX13_remove 240 = .ok (.getfield 63, 3) := by decide +kernel
theorem dX13_remove_243 : decode cX13_remove 243 = .ok (.iload 6, 2) := by decide +kernel
theorem dX13_remove_245 : decode cX13_remove 245 = .ok (.iaload, 1) := by decide +kernel
theorem dX13_remove_246 : decode cX13_remove 246 = .ok (.iload_n 2, 1) := by decide +kernel
theorem dX13_remove_247 : decode cX13_remove 247 = .ok (.iload_n 3, 1) := by decide +kernel
theorem dX13_remove_248 : decode cX13_remove 248 = .ok (.invokestatic 209, 3) := by decide +kernel
theorem dX13_remove_251 : decode cX13_remove 251 = .ok (.goto 10, 3) := by decide +kernel
theorem dX13_remove_254 : decode cX13_remove 254 = .ok (.aload_n 0, 1) := by decide +kernel
theorem dX13_remove_255 : decode cX13_remove 255 = .ok (.getfield 63, 3) := by decide +kernel
theorem dX13_remove_258 : decode cX13_remove 258 = .ok (.iload 6, 2) := by decide +kernel
theorem dX13_remove_260 : decode cX13_remove 260 = .ok (.iaload, 1) := by decide +kernel
theorem dX13_remove_261 : decode cX13_remove 261 = .ok (.iastore, 1) := by decide +kernel
theorem dX13_remove_262 : decode cX13_remove 262 = .ok (.iinc 6 1, 3) := by decide +kernel
theorem dX13_remove_265 : decode cX13_remove 265 = .ok (.goto (-130), 3) := by decide +kernel
theorem dX13_remove_268 : decode cX13_remove 268 = .ok (.iconst 0, 1) := by decide +kernel
theorem dX13_remove_269 : decode cX13_remove 269 = .ok (.istore 6, 2) := by decide +kernel
theorem dX13_remove_271 : decode cX13_remove 271 = .ok (.iload 6, 2) := by decide +kernel
theorem dX13_remove_273 : decode cX13_remove 273 = .ok (.iconst 4, 1) := by decide +kernel
theorem dX13_remove_274 : decode cX13_remove 274 = .ok (.if_icmp .ge 89, 3) := by decide +kernel
theorem dX13_remove_277 : decode cX13_remove 277 = .ok (.aload_n 0, 1) := by decide +kernel
theorem dX13_remove_278 : decode cX13_remove 278 = .ok (.getfield 85, 3) := by decide +kernel
theorem dX13_remove_281 : decode cX13_remove 281 = .ok (.iload 6, 2) := by decide +kernel
theorem dX13_remove_283 : decode cX13_remove 283 = .ok (.aload_n 0, 1) := by decide +kernel
theorem dX13_remove_284 : decode cX13_remove 284 = .ok (.getfield 82, 3) := by decide +kernel
theorem dX13_remove_287 : decode cX13_remove 287 = .ok (.iload 6, 2) := by decide +kernel
theorem dX13_remove_289 : decode cX13_remove 289 = .ok (.iaload, 1) := by decide +kernel
theorem dX13_remove_290 : decode cX13_remove 290 = .ok (.iload_n 1, 1) := by decide +kernel
theorem dX13_remove_291 : decode cX13_remove 291 = .ok (.if_icmp .ne 18, 3) := by decide +kernel
theorem dX13_remove_294 : decode cX13_remove 294 = .ok (.aload_n 0, 1) := by decide +kernel
theorem dX13_remove_295 : decode cX13_remove 295 = .ok (.getfield 85, 3) := by decide +kernel
theorem dX13_remove_298 : decode cX13_remove 298 = .ok (.iload 6, 2) := by decide +kernel
theorem dX13_remove_300 : decode cX13_remove 300 = .ok (.iaload, 1) := by decide +kernel
theorem dX13_remove_301 : decode cX13_remove 301 = .ok (.iload_n 2, 1) := by decide +kernel
theorem dX13_remove_302 : decode cX13_remove 302 = .ok (.iload_n 3, 1) := by decide +kernel
theorem dX13_remove_303 : decode cX13_remove 303 = .ok (.invokestatic 209, 3) := by decide +kernel
theorem dX13_remove_306 : decode cX13_remove 306 = .ok (.goto 10, 3) := by decide +kernel
theorem dX13_remove_309 : decode cX13_remove 309 = .ok (.aload_n 0, 1) := by decide +kernel
theorem dX13_remove_310 : decode cX13_remove 310 = .ok (.getfield 85, 3) := by decide +kernel
theorem dX13_remove_313 : decode cX13_remove 313 = .ok (.iload 6, 2) := by decide +kernel
theorem dX13_remove_315 : decode cX13_remove 315 = .ok (.iaload, 1) := by decide +kernel
theorem dX13_remove_316 : decode cX13_remove 316 = .ok (.iastore, 1) := by decide +kernel
theorem dX13_remove_317 : decode cX13_remove 317 = .ok (.aload_n 0, 1) := by decide +kernel
theorem dX13_remove_318 : decode cX13_remove 318 = .ok (.getfield 94, 3) := by decide +kernel
theorem dX13_remove_321 : decode cX13_remove 321 = .ok (.iload 6, 2) := by decide +kernel
theorem dX13_remove_323 : decode cX13_remove 323 = .ok (.aload_n 0, 1) := by decide +kernel
theorem dX13_remove_324 : decode cX13_remove 324 = .ok (.getfield 91, 3) := by decide +kernel
theorem dX13_remove_327 : decode cX13_remove 327 = .ok (.iload 6, 2) := by decide +kernel
theorem dX13_remove_329 : decode cX13_remove 329 = .ok (.iaload, 1) := by decide +kernel
theorem dX13_remove_330 : decode cX13_remove 330 = .ok (.iload_n 1, 1) := by decide +kernel
theorem dX13_remove_331 : decode cX13_remove 331 = .ok (.if_icmp .ne 18, 3) := by decide +kernel
theorem dX13_remove_334 : decode cX13_remove 334 = .ok (.aload_n 0, 1) := by decide +kernel
theorem dX13_remove_335 : decode cX13_remove 335 = .ok (.getfield 94, 3) := by decide +kernel
theorem dX13_remove_338 : decode cX13_remove 338 = .ok (.iload 6, 2) := by decide +kernel
theorem dX13_remove_340 : decode cX13_remove 340 = .ok (.iaload, 1) := by decide +kernel
theorem dX13_remove_341 : decode cX13_remove 341 = .ok (.iload_n 2, 1) := by decide +kernel
theorem dX13_remove_342 : decode cX13_remove 342 = .ok (.iload_n 3, 1) := by decide +kernel
theorem dX13_remove_343 : decode cX13_remove 343 = .ok (.invokestatic 209, 3) := by decide +kernel
theorem dX13_remove_346 : decode cX13_remove 346 = .ok (.goto 10, 3) := by decide +kernel
theorem dX13_remove_349 : decode cX13_remove 349 = .ok (.aload_n 0, 1) := by decide +kernel
theorem dX13_remove_350 : decode cX13_remove 350 = .ok (.getfield 94, 3) := by decide +kernel
theorem dX13_remove_353 : decode cX13_remove 353 = .ok (.iload 6, 2) := by decide +kernel
theorem dX13_remove_355 : decode cX13_remove 355 = .ok (.iaload, 1) := by decide +kernel
theorem dX13_remove_356 : decode cX13_remove 356 = .ok (.iastore, 1) := by decide +kernel
theorem dX13_remove_357 : decode cX13_remove 357 = .ok (.iinc 6 1, 3) := by decide +kernel
theorem dX13_remove_360 : decode cX13_remove 360 = .ok (.goto (-89), 3) := by decide +kernel
theorem dX13_remove_363 : decode cX13_remove 363 = .ok (.aload_n 0, 1) := by decide +kernel
theorem dX13_remove_364 : decode cX13_remove 364 = .ok (.invokevirtual 213, 3) := by decide +kernel
theorem dX13_remove_367 : decode cX13_remove 367 = .ok (.aload_n 0, 1) := by decide +kernel
theorem dX13_remove_368 : decode cX13_remove 368 = .ok (.getfield 13, 3) := by decide +kernel
theorem dX13_remove_371 : decode cX13_remove 371 = .ok (.iload_n 1, 1) := by decide +kernel
theorem dX13_remove_372 : decode cX13_remove 372 = .ok (.iaload, 1) := by decide +kernel
theorem dX13_remove_373 : decode cX13_remove 373 = .ok (.ireturn, 1) := by decide +kernel
theorem dX13_copiesLine_0 : decode cX13_copiesLine 0 = .ok (.aload_n 0, 1) := by decide +kernel
theorem dX13_copiesLine_1 : decode cX13_copiesLine 1 = .ok (.getfield 13, 3) := by decide +kernel
theorem dX13_copiesLine_4 : decode cX13_copiesLine 4 = .ok (.iload_n 2, 1) := by decide +kernel
theorem dX13_copiesLine_5 : decode cX13_copiesLine 5 = .ok (.aload_n 0, 1) := by decide +kernel
theorem dX13_copiesLine_6 : decode cX13_copiesLine 6 = .ok (.getfield 13, 3) := by decide +kernel
theorem dX13_copiesLine_9 : decode cX13_copiesLine 9 = .ok (.iload_n 1, 1) := by decide +kernel
theorem dX13_copiesLine_10 : decode cX13_copiesLine 10 = .ok (.iaload, 1) := by decide +kernel
theorem dX13_copiesLine_11 : decode cX13_copiesLine 11 = .ok (.iastore, 1) := by decide +kernel
theorem dX13_copiesLine_12 : decode cX13_copiesLine 12 = .ok (.aload_n 0, 1) := by decide +kernel
theorem dX13_copiesLine_13 : decode cX13_copiesLine 13 = .ok (.getfield 16, 3) := by decide +kernel
theorem dX13_copiesLine_16 : decode cX13_copiesLine 16 = .ok (.iload_n 2, 1) := by decide +kernel
theorem dX13_copiesLine_17 : decode cX13_copiesLine 17 = .ok (.aload_n 0, 1) := by decide +kernel
theorem dX13_copiesLine_18 : decode cX13_copiesLine 18 = .ok (.getfield 16, 3) := by decide +kernel
theorem dX13_copiesLine_21 : decode cX13_copiesLine 21 = .ok (.iload_n 1, 1) := by decide +kernel
theorem dX13_copiesLine_22 : decode cX13_copiesLine 22 = .ok (.baload, 1) := by decide +kernel
theorem dX13_copiesLine_23 : decode cX13_copiesLine 23 = .ok (.bastore, 1) := by decide +kernel
theorem dX13_copiesLine_24 : decode cX13_copiesLine 24 = .ok (.iconst 0, 1) := by decide +kernel
theorem dX13_copiesLine_25 : decode cX13_copiesLine 25 = .ok (.istore_n 3, 1) := by decide +kernel
theorem dX13_copiesLine_26 : decode cX13_copiesLine 26 = .ok (.iload_n 3, 1) := by decide +kernel
theorem dX13_copiesLine_27 : decode cX13_copiesLine 27 = .ok (.bipush 80, 2) := by decide +kernel
theorem dX13_copiesLine_29 : decode cX13_copiesLine 29 = .ok (.if_icmp .ge 31, 3) := by decide +kernel
theorem dX13_copiesLine_32 : decode cX13_copiesLine 32 = .ok (.aload_n 0, 1) := by decide +kernel
theorem dX13_copiesLine_33 : decode cX13_copiesLine 33 = .ok (.getfield 7, 3) := by decide +kernel
theorem dX13_copiesLine_36 : decode cX13_copiesLine 36 = .ok (.bipush 80, 2) := by decide +kernel
theorem dX13_copiesLine_38 : decode cX13_copiesLine 38 = .ok (.iload_n 2, 1) := by decide +kernel
theorem dX13_copiesLine_39 : decode cX13_copiesLine 39 = .ok (.imul, 1) := by decide +kernel
theorem dX13_copiesLine_40 : decode cX13_copiesLine 40 = .ok (.iload_n 3, 1) := by decide +kernel
theorem dX13_copiesLine_41 : decode cX13_copiesLine 41 = .ok (.iadd, 1) := by decide +kernel
theorem dX13_copiesLine_42 : decode cX13_copiesLine 42 = .ok (.aload_n 0, 1) := by decide +kernel
theorem dX13_copiesLine_43 : decode cX13_copiesLine 43 = .ok (.getfield 7, 3) := by decide +kernel
theorem dX13_copiesLine_46 : decode cX13_copiesLine 46 = .ok (.bipush 80, 2) := by decide +kernel
theorem dX13_copiesLine_48 : decode cX13_copiesLine 48 = .ok (.iload_n 1, 1) := by decide +kernel
theorem dX13_copiesLine_49 : decode cX13_copiesLine 49 = .ok (.imul, 1) := by decide +kernel
theorem dX13_copiesLine_50 : decode cX13_copiesLine 50 = .ok (.iload_n 3, 1) := by decide +kernel
theorem dX13_copiesLine_51 : decode cX13_copiesLine 51 = .ok (.iadd, 1) := by decide +kernel
theorem dX13_copiesLine_52 : decode cX13_copiesLine 52 = .ok (.iaload, 1) := by decide +kernel
theorem dX13_copiesLine_53 : decode cX13_copiesLine 53 = .ok (.iastore, 1) := by decide +kernel
theorem dX13_copiesLine_54 : decode cX13_copiesLine 54 = .ok (.iinc 3 1, 3) := by decide +kernel
theorem dX13_copiesLine_57 : decode cX13_copiesLine 57 = .ok (.goto (-31), 3) := by decide +kernel
theorem dX13_copiesLine_60 : decode cX13_copiesLine 60 = .ok (.return_, 1) := by decide +kernel
theorem dX13_later_0 : decode cX13_later 0 = .ok (.iload_n 0, 1) := by decide +kernel
theorem dX13_later_1 : decode cX13_later 1 = .ok (.iload_n 2, 1) := by decide +kernel
theorem dX13_later_2 : decode cX13_later 2 = .ok (.if_icmp .gt 13, 3) := by decide +kernel
theorem dX13_later_5 : decode cX13_later 5 = .ok (.iload_n 0, 1) := by decide +kernel
theorem dX13_later_6 : decode cX13_later 6 = .ok (.iload_n 2, 1) := by decide +kernel
theorem dX13_later_7 : decode cX13_later 7 = .ok (.if_icmp .ne 12, 3) := by decide +kernel
theorem dX13_later_10 : decode cX13_later 10 = .ok (.iload_n 1, 1) := by decide +kernel
theorem dX13_later_11 : decode cX13_later 11 = .ok (.iload_n 3, 1) := by decide +kernel
theorem dX13_later_12 : decode cX13_later 12 = .ok (.if_icmp .le 7, 3) := by decide +kernel
theorem dX13_later_15 : decode cX13_later 15 = .ok (.iconst 1, 1) := by decide +kernel
theorem dX13_later_16 : decode cX13_later 16 = .ok (.goto 4, 3) := by decide +kernel
theorem dX13_later_19 : decode cX13_later 19 = .ok (.iconst 0, 1) := by decide +kernel
theorem dX13_later_20 : decode cX13_later 20 = .ok (.ireturn, 1) := by decide +kernel
theorem dX13_breaksLayers_0 : decode cX13_breaksLayers 0 = .ok (.iconst 0, 1) := by decide +kernel
theorem dX13_breaksLayers_1 : decode cX13_breaksLayers 1 = .ok (.istore_n 3, 1) := by decide +kernel
theorem dX13_breaksLayers_2 : decode cX13_breaksLayers 2 = .ok (.iload_n 3, 1) := by decide +kernel
theorem dX13_breaksLayers_3 : decode cX13_breaksLayers 3 = .ok (.bipush 24, 2) := by decide +kernel
theorem dX13_breaksLayers_5 : decode cX13_breaksLayers 5 = .ok (.if_icmp .ge 242, 3) := by decide +kernel
theorem dX13_breaksLayers_8 : decode cX13_breaksLayers 8 = .ok (.aload_n 0, 1) := by decide +kernel
theorem dX13_breaksLayers_9 : decode cX13_breaksLayers 9 = .ok (.getfield 48, 3) := by decide +kernel
theorem dX13_breaksLayers_12 : decode cX13_breaksLayers 12 = .ok (.iload_n 3, 1) := by decide +kernel
theorem dX13_breaksLayers_13 : decode cX13_breaksLayers 13 = .ok (.iaload, 1) := by decide +kernel
theorem dX13_breaksLayers_14 : decode cX13_breaksLayers 14 = .ok (.iload_n 1, 1) := by decide +kernel
theorem dX13_breaksLayers_15 : decode cX13_breaksLayers 15 = .ok (.if_icmp .ne 17, 3) := by decide +kernel
theorem dX13_breaksLayers_18 : decode cX13_breaksLayers 18 = .ok (.aload_n 0, 1) := by decide +kernel
theorem dX13_breaksLayers_19 : decode cX13_breaksLayers 19 = .ok (.getfield 51, 3) := by decide +kernel
theorem dX13_breaksLayers_22 : decode cX13_breaksLayers 22 = .ok (.iload_n 3, 1) := by decide +kernel
theorem dX13_breaksLayers_23 : decode cX13_breaksLayers 23 = .ok (.iaload, 1) := by decide +kernel
theorem dX13_breaksLayers_24 : decode cX13_breaksLayers 24 = .ok (.iload_n 2, 1) := by decide +kernel
theorem dX13_breaksLayers_25 : decode cX13_breaksLayers 25 = .ok (.if_icmp .lt 7, 3) := by decide +kernel
theorem dX13_breaksLayers_28 : decode cX13_breaksLayers 28 = .ok (.iconst 1, 1) := by decide +kernel
theorem dX13_breaksLayers_29 : decode cX13_breaksLayers 29 = .ok (.goto 4, 3) := by decide +kernel
theorem dX13_breaksLayers_32 : decode cX13_breaksLayers 32 = .ok (.iconst 0, 1) := by decide +kernel
theorem dX13_breaksLayers_33 : decode cX13_breaksLayers 33 = .ok (.istore 4, 2) := by decide +kernel
theorem dX13_breaksLayers_35 : decode cX13_breaksLayers 35 = .ok (.aload_n 0, 1) := by decide +kernel
theorem dX13_breaksLayers_36 : decode cX13_breaksLayers 36 = .ok (.getfield 54, 3) := by decide +kernel
theorem dX13_breaksLayers_39 : decode cX13_breaksLayers 39 = .ok (.iload_n 3, 1) := by decide +kernel
theorem dX13_breaksLayers_40 : decode cX13_breaksLayers 40 = .ok (.iload 4, 2) := by decide +kernel
theorem dX13_breaksLayers_42 : decode cX13_breaksLayers 42 = .ok (.ifCond .eq 14, 3) := by decide +kernel
theorem dX13_breaksLayers_45 : decode cX13_breaksLayers 45 = .ok (.aload_n 0, 1) := by decide +kernel
theorem dX13_breaksLayers_46 : decode cX13_breaksLayers 46 = .ok (.getfield 54, 3) := by decide +kernel
theorem dX13_breaksLayers_49 : decode cX13_breaksLayers 49 = .ok (.iload_n 3, 1) := by decide +kernel
theorem dX13_breaksLayers_50 : decode cX13_breaksLayers 50 = .ok (.iaload, 1) := by decide +kernel
theorem dX13_breaksLayers_51 : decode cX13_breaksLayers 51 = .ok (.iload_n 2, 1) := by decide +kernel
theorem dX13_breaksLayers_52 : decode cX13_breaksLayers 52 = .ok (.isub, 1) := by decide +kernel
theorem dX13_breaksLayers_53 : decode cX13_breaksLayers 53 = .ok (.goto 32, 3) := by decide +kernel
theorem dX13_breaksLayers_56 : decode cX13_breaksLayers 56 = .ok (.aload_n 0, 1) := by decide +kernel
theorem dX13_breaksLayers_57 : decode cX13_breaksLayers 57 = .ok (.getfield 48, 3) := by decide +kernel
theorem dX13_breaksLayers_60 : decode cX13_breaksLayers 60 = .ok (.iload_n 3, 1) := by decide +kernel
theorem dX13_breaksLayers_61 : decode cX13_breaksLayers 61 = .ok (.iaload, 1) := by decide +kernel
theorem dX13_breaksLayers_62 : decode cX13_breaksLayers 62 = .ok (.iload_n 1, 1) := by decide +kernel
theorem dX13_breaksLayers_63 : decode cX13_breaksLayers 63 = .ok (.if_icmp .ne 16, 3) := by decide +kernel
theorem dX13_breaksLayers_66 : decode cX13_breaksLayers 66 = .ok (.aload_n 0, 1) := by decide +kernel
theorem dX13_breaksLayers_67 : decode cX13_breaksLayers 67 = .ok (.getfield 54, 3) := by decide +kernel
theorem dX13_breaksLayers_70 : decode cX13_breaksLayers 70 = .ok (.iload_n 3, 1) := by decide +kernel
theorem dX13_breaksLayers_71 : decode cX13_breaksLayers 71 = .ok (.iaload, 1) := by decide +kernel
theorem dX13_breaksLayers_72 : decode cX13_breaksLayers 72 = .ok (.iload_n 2, 1) := by decide +kernel
theorem dX13_breaksLayers_73 : decode cX13_breaksLayers 73 = .ok (.invokestatic 216, 3) := by decide +kernel
theorem dX13_breaksLayers_76 : decode cX13_breaksLayers 76 = .ok (.goto 9, 3) := by decide +kernel
theorem dX13_breaksLayers_79 : decode cX13_breaksLayers 79 = .ok (.aload_n 0, 1) := by decide +kernel
theorem dX13_breaksLayers_80 : decode cX13_breaksLayers 80 = .ok (.getfield 54, 3) := by decide +kernel
theorem dX13_breaksLayers_83 : decode cX13_breaksLayers 83 = .ok (.iload_n 3, 1) := by decide +kernel
theorem dX13_breaksLayers_84 : decode cX13_breaksLayers 84 = .ok (.iaload, 1) := by decide +kernel
theorem dX13_breaksLayers_85 : decode cX13_breaksLayers 85 = .ok (.iastore, 1) := by decide +kernel
theorem dX13_breaksLayers_86 : decode cX13_breaksLayers 86 = .ok (.aload_n 0, 1) := by decide +kernel
theorem dX13_breaksLayers_87 : decode cX13_breaksLayers 87 = .ok (.getfield 51, 3) := by decide +kernel
theorem dX13_breaksLayers_90 : decode cX13_breaksLayers 90 = .ok (.iload_n 3, 1) := by decide +kernel
theorem dX13_breaksLayers_91 : decode cX13_breaksLayers 91 = .ok (.dup2, 1) := by decide +kernel
theorem dX13_breaksLayers_92 : decode cX13_breaksLayers 92 = .ok (.iaload, 1) := by decide +kernel
theorem dX13_breaksLayers_93 : decode cX13_breaksLayers 93 = .ok (.iload 4, 2) := by decide +kernel
theorem dX13_breaksLayers_95 : decode cX13_breaksLayers 95 = .ok (.ifCond .eq 7, 3) := by decide +kernel
theorem dX13_breaksLayers_98 : decode cX13_breaksLayers 98 = .ok (.iload_n 2, 1) := by decide +kernel
theorem dX13_breaksLayers_99 : decode cX13_breaksLayers 99 = .ok (.goto 4, 3) := by decide +kernel
theorem dX13_breaksLayers_102 : decode cX13_breaksLayers 102 = .ok (.iconst 0, 1) := by decide +kernel
theorem dX13_breaksLayers_103 : decode cX13_breaksLayers 103 = .ok (.isub, 1) := by decide +kernel
theorem dX13_breaksLayers_104 : decode cX13_breaksLayers 104 = .ok (.iastore, 1) := by decide +kernel
theorem dX13_breaksLayers_105 : decode cX13_breaksLayers 105 = .ok (.aload_n 0, 1) := by decide +kernel
theorem dX13_breaksLayers_106 : decode cX13_breaksLayers 106 = .ok (.getfield 48, 3) := by decide +kernel
theorem dX13_breaksLayers_109 : decode cX13_breaksLayers 109 = .ok (.iload_n 3, 1) := by decide +kernel
theorem dX13_breaksLayers_110 : decode cX13_breaksLayers 110 = .ok (.dup2, 1) := by decide +kernel
theorem dX13_breaksLayers_111 : decode cX13_breaksLayers 111 = .ok (.iaload, 1) := by decide +kernel
theorem dX13_breaksLayers_112 : decode cX13_breaksLayers 112 = .ok (.iload 4, 2) := by decide +kernel
theorem dX13_breaksLayers_114 : decode cX13_breaksLayers 114 = .ok (.ifCond .ne 13, 3) := by decide +kernel
theorem dX13_breaksLayers_117 : decode cX13_breaksLayers 117 = .ok (.aload_n 0, 1) := by decide +kernel
theorem dX13_breaksLayers_118 : decode cX13_breaksLayers 118 = .ok (.getfield 48, 3) := by decide +kernel
theorem dX13_breaksLayers_121 : decode cX13_breaksLayers 121 = .ok (.iload_n 3, 1) := by decide +kernel
theorem dX13_breaksLayers_122 : decode cX13_breaksLayers 122 = .ok (.iaload, 1) := by decide +kernel
theorem dX13_breaksLayers_123 : decode cX13_breaksLayers 123 = .ok (.iload_n 1, 1) := by decide +kernel
theorem dX13_breaksLayers_124 : decode cX13_breaksLayers 124 = .ok (.if_icmp .le 7, 3) := by decide +kernel
theorem dX13_breaksLayers_127 : decode cX13_breaksLayers 127 = .ok (.iconst 1, 1) := by decide +kernel
theorem dX13_breaksLayers_128 : decode cX13_breaksLayers 128 = .ok (.goto 4, 3) := by decide +kernel
theorem dX13_breaksLayers_131 : decode cX13_breaksLayers 131 = .ok (.iconst 0, 1) := by decide +kernel
theorem dX13_breaksLayers_132 : decode cX13_breaksLayers 132 = .ok (.iadd, 1) := by decide +kernel
theorem dX13_breaksLayers_133 : decode cX13_breaksLayers 133 = .ok (.iastore, 1) := by decide +kernel
theorem dX13_breaksLayers_134 : decode cX13_breaksLayers 134 = .ok (.aload_n 0, 1) := by decide +kernel
theorem dX13_breaksLayers_135 : decode cX13_breaksLayers 135 = .ok (.getfield 60, 3) := by decide +kernel
theorem dX13_breaksLayers_138 : decode cX13_breaksLayers 138 = .ok (.iload_n 3, 1) := by decide +kernel
theorem dX13_breaksLayers_139 : decode cX13_breaksLayers 139 = .ok (.iaload, 1) := by decide +kernel
theorem dX13_breaksLayers_140 : decode cX13_breaksLayers 140 = .ok (.aload_n 0, 1) := by decide +kernel
theorem dX13_breaksLayers_141 : decode cX13_breaksLayers 141 = .ok (.getfield 63, 3) := by decide +kernel
theorem dX13_breaksLayers_144 : decode cX13_breaksLayers 144 = .ok (.iload_n 3, 1) := by decide +kernel
theorem dX13_breaksLayers_145 : decode cX13_breaksLayers 145 = .ok (.iaload, 1) := by decide +kernel
theorem dX13_breaksLayers_146 : decode cX13_breaksLayers 146 = .ok (.iload_n 1, 1) := by decide +kernel
theorem dX13_breaksLayers_147 : decode cX13_breaksLayers 147 = .ok (.iload_n 2, 1) := by decide +kernel
theorem dX13_breaksLayers_148 : decode cX13_breaksLayers 148 = .ok (.invokestatic 220, 3) := by decide +kernel
theorem dX13_breaksLayers_151 : decode cX13_breaksLayers 151 = .ok (.istore 5, 2) := by decide +kernel
theorem dX13_breaksLayers_153 : decode cX13_breaksLayers 153 = .ok (.aload_n 0, 1) := by decide +kernel
theorem dX13_breaksLayers_154 : decode cX13_breaksLayers 154 = .ok (.getfield 63, 3) := by decide +kernel
theorem dX13_breaksLayers_157 : decode cX13_breaksLayers 157 = .ok (.iload_n 3, 1) := by decide +kernel
theorem dX13_breaksLayers_158 : decode cX13_breaksLayers 158 = .ok (.dup2, 1) := by decide +kernel
theorem dX13_breaksLayers_159 : decode cX13_breaksLayers 159 = .ok (.iaload, 1) := by decide +kernel
theorem dX13_breaksLayers_160 : decode cX13_breaksLayers 160 = .ok (.aload_n 0, 1) := by decide +kernel
theorem dX13_breaksLayers_161 : decode cX13_breaksLayers 161 = .ok (.getfield 60, 3) := by decide +kernel
theorem dX13_breaksLayers_164 : decode cX13_breaksLayers 164 = .ok (.iload_n 3, 1) := by decide +kernel
theorem dX13_breaksLayers_165 : decode cX13_breaksLayers 165 = .ok (.iaload, 1) := by decide +kernel
theorem dX13_breaksLayers_166 : decode cX13_breaksLayers 166 = .ok (.iload_n 1, 1) := by decide +kernel
theorem dX13_breaksLayers_167 : decode cX13_breaksLayers 167 = .ok (.if_icmp .ne 12, 3) := by decide +kernel
theorem dX13_breaksLayers_170 : decode cX13_breaksLayers 170 = .ok (.iload 5, 2) := by decide +kernel
theorem dX13_breaksLayers_172 : decode cX13_breaksLayers 172 = .ok (.ifCond .le 7, 3) := by decide +kernel
theorem dX13_breaksLayers_175 : decode cX13_breaksLayers 175 = .ok (.iload_n 2, 1) := by decide +kernel
theorem dX13_breaksLayers_176 : decode cX13_breaksLayers 176 = .ok (.goto 4, 3) := by decide +kernel
theorem dX13_breaksLayers_179 : decode cX13_breaksLayers 179 = .ok (.iconst 0, 1) := by decide +kernel
theorem dX13_breaksLayers_180 : decode cX13_breaksLayers 180 = .ok (.isub, 1) := by decide +kernel
theorem dX13_breaksLayers_181 : decode cX13_breaksLayers 181 = .ok (.iastore, 1) := by decide +kernel
theorem dX13_breaksLayers_182 : decode cX13_breaksLayers 182 = .ok (.aload_n 0, 1) := by decide +kernel
theorem dX13_breaksLayers_183 : decode cX13_breaksLayers 183 = .ok (.getfield 60, 3) := by decide +kernel
theorem dX13_breaksLayers_186 : decode cX13_breaksLayers 186 = .ok (.iload_n 3, 1) := by decide +kernel
theorem dX13_breaksLayers_187 : decode cX13_breaksLayers 187 = .ok (.dup2, 1) := by decide +kernel
theorem dX13_breaksLayers_188 : decode cX13_breaksLayers 188 = .ok (.iaload, 1) := by decide +kernel
theorem dX13_breaksLayers_189 : decode cX13_breaksLayers 189 = .ok (.iload 5, 2) := by decide +kernel
theorem dX13_breaksLayers_191 : decode cX13_breaksLayers 191 = .ok (.iadd, 1) := by decide +kernel
theorem dX13_breaksLayers_192 : decode cX13_breaksLayers 192 = .ok (.iastore, 1) := by decide +kernel
theorem dX13_breaksLayers_193 : decode cX13_breaksLayers 193 = .ok (.aload_n 0, 1) := by decide +kernel
theorem dX13_breaksLayers_194 : decode cX13_breaksLayers 194 = .ok (.getfield 73, 3) := by decide +kernel
theorem dX13_breaksLayers_197 : decode cX13_breaksLayers 197 = .ok (.iload_n 3, 1) := by decide +kernel
theorem dX13_breaksLayers_198 : decode cX13_breaksLayers 198 = .ok (.dup2, 1) := by decide +kernel
theorem dX13_breaksLayers_199 : decode cX13_breaksLayers 199 = .ok (.iaload, 1) := by decide +kernel
theorem dX13_breaksLayers_200 : decode cX13_breaksLayers 200 = .ok (.aload_n 0, 1) := by decide +kernel
theorem dX13_breaksLayers_201 : decode cX13_breaksLayers 201 = .ok (.getfield 73, 3) := by decide +kernel
theorem dX13_breaksLayers_204 : decode cX13_breaksLayers 204 = .ok (.iload_n 3, 1) := by decide +kernel
theorem dX13_breaksLayers_205 : decode cX13_breaksLayers 205 = .ok (.iaload, 1) := by decide +kernel
theorem dX13_breaksLayers_206 : decode cX13_breaksLayers 206 = .ok (.iload_n 1, 1) := by decide +kernel
theorem dX13_breaksLayers_207 : decode cX13_breaksLayers 207 = .ok (.if_icmp .le 7, 3) := by decide +kernel
theorem dX13_breaksLayers_210 : decode cX13_breaksLayers 210 = .ok (.iconst 1, 1) := by decide +kernel
theorem dX13_breaksLayers_211 : decode cX13_breaksLayers 211 = .ok (.goto 4, 3) := by decide +kernel
theorem dX13_breaksLayers_214 : decode cX13_breaksLayers 214 = .ok (.iconst 0, 1) := by decide +kernel
theorem dX13_breaksLayers_215 : decode cX13_breaksLayers 215 = .ok (.iadd, 1) := by decide +kernel
theorem dX13_breaksLayers_216 : decode cX13_breaksLayers 216 = .ok (.iastore, 1) := by decide +kernel
theorem dX13_breaksLayers_217 : decode cX13_breaksLayers 217 = .ok (.aload_n 0, 1) := by decide +kernel
theorem dX13_breaksLayers_218 : decode cX13_breaksLayers 218 = .ok (.getfield 76, 3) := by decide +kernel
theorem dX13_breaksLayers_221 : decode cX13_breaksLayers 221 = .ok (.iload_n 3, 1) := by decide +kernel
theorem dX13_breaksLayers_222 : decode cX13_breaksLayers 222 = .ok (.dup2, 1) := by decide +kernel
theorem dX13_breaksLayers_223 : decode cX13_breaksLayers 223 = .ok (.iaload, 1) := by decide +kernel
theorem dX13_breaksLayers_224 : decode cX13_breaksLayers 224 = .ok (.aload_n 0, 1) := by decide +kernel
theorem dX13_breaksLayers_225 : decode cX13_breaksLayers 225 = .ok (.getfield 76, 3) := by decide +kernel
theorem dX13_breaksLayers_228 : decode cX13_breaksLayers 228 = .ok (.iload_n 3, 1) := by decide +kernel
theorem dX13_breaksLayers_229 : decode cX13_breaksLayers 229 = .ok (.iaload, 1) := by decide +kernel
theorem dX13_breaksLayers_230 : decode cX13_breaksLayers 230 = .ok (.iload_n 1, 1) := by decide +kernel
theorem dX13_breaksLayers_231 : decode cX13_breaksLayers 231 = .ok (.if_icmp .lt 7, 3) := by decide +kernel
theorem dX13_breaksLayers_234 : decode cX13_breaksLayers 234 = .ok (.iconst 1, 1) := by decide +kernel
theorem dX13_breaksLayers_235 : decode cX13_breaksLayers 235 = .ok (.goto 4, 3) := by decide +kernel
theorem dX13_breaksLayers_238 : decode cX13_breaksLayers 238 = .ok (.iconst 0, 1) := by decide +kernel
theorem dX13_breaksLayers_239 : decode cX13_breaksLayers 239 = .ok (.iadd, 1) := by decide +kernel
theorem dX13_breaksLayers_240 : decode cX13_breaksLayers 240 = .ok (.iastore, 1) := by decide +kernel
theorem dX13_breaksLayers_241 : decode cX13_breaksLayers 241 = .ok (.iinc 3 1, 3) := by decide +kernel
theorem dX13_breaksLayers_244 : decode cX13_breaksLayers 244 = .ok (.goto (-242), 3) := by decide +kernel
theorem dX13_breaksLayers_247 : decode cX13_breaksLayers 247 = .ok (.iconst 0, 1) := by decide +kernel
theorem dX13_breaksLayers_248 : decode cX13_breaksLayers 248 = .ok (.istore_n 3, 1) := by decide +kernel
theorem dX13_breaksLayers_249 : decode cX13_breaksLayers 249 = .ok (.iload_n 3, 1) := by decide +kernel
theorem dX13_breaksLayers_250 : decode cX13_breaksLayers 250 = .ok (.iconst 4, 1) := by decide +kernel
theorem dX13_breaksLayers_251 : decode cX13_breaksLayers 251 = .ok (.if_icmp .ge 127, 3) := by decide +kernel
theorem dX13_breaksLayers_254 : decode cX13_breaksLayers 254 = .ok (.aload_n 0, 1) := by decide +kernel
theorem dX13_breaksLayers_255 : decode cX13_breaksLayers 255 = .ok (.getfield 82, 3) := by decide +kernel
theorem dX13_breaksLayers_258 : decode cX13_breaksLayers 258 = .ok (.iload_n 3, 1) := by decide +kernel
theorem dX13_breaksLayers_259 : decode cX13_breaksLayers 259 = .ok (.iaload, 1) := by decide +kernel
theorem dX13_breaksLayers_260 : decode cX13_breaksLayers 260 = .ok (.aload_n 0, 1) := by decide +kernel
theorem dX13_breaksLayers_261 : decode cX13_breaksLayers 261 = .ok (.getfield 85, 3) := by decide +kernel
theorem dX13_breaksLayers_264 : decode cX13_breaksLayers 264 = .ok (.iload_n 3, 1) := by decide +kernel
theorem dX13_breaksLayers_265 : decode cX13_breaksLayers 265 = .ok (.iaload, 1) := by decide +kernel
theorem dX13_breaksLayers_266 : decode cX13_breaksLayers 266 = .ok (.iload_n 1, 1) := by decide +kernel
theorem dX13_breaksLayers_267 : decode cX13_breaksLayers 267 = .ok (.iload_n 2, 1) := by decide +kernel
theorem dX13_breaksLayers_268 : decode cX13_breaksLayers 268 = .ok (.invokestatic 220, 3) := by decide +kernel
theorem dX13_breaksLayers_271 : decode cX13_breaksLayers 271 = .ok (.istore 4, 2) := by decide +kernel
theorem dX13_breaksLayers_273 : decode cX13_breaksLayers 273 = .ok (.aload_n 0, 1) := by decide +kernel
theorem dX13_breaksLayers_274 : decode cX13_breaksLayers 274 = .ok (.getfield 85, 3) := by decide +kernel
theorem dX13_breaksLayers_277 : decode cX13_breaksLayers 277 = .ok (.iload_n 3, 1) := by decide +kernel
theorem dX13_breaksLayers_278 : decode cX13_breaksLayers 278 = .ok (.dup2, 1) := by decide +kernel
theorem dX13_breaksLayers_279 : decode cX13_breaksLayers 279 = .ok (.iaload, 1) := by decide +kernel
theorem dX13_breaksLayers_280 : decode cX13_breaksLayers 280 = .ok (.aload_n 0, 1) := by decide +kernel
theorem dX13_breaksLayers_281 : decode cX13_breaksLayers 281 = .ok (.getfield 82, 3) := by decide +kernel
theorem dX13_breaksLayers_284 : decode cX13_breaksLayers 284 = .ok (.iload_n 3, 1) := by decide +kernel
theorem dX13_breaksLayers_285 : decode cX13_breaksLayers 285 = .ok (.iaload, 1) := by decide +kernel
theorem dX13_breaksLayers_286 : decode cX13_breaksLayers 286 = .ok (.iload_n 1, 1) := by decide +kernel
theorem dX13_breaksLayers_287 : decode cX13_breaksLayers 287 = .ok (.if_icmp .ne 12, 3) := by decide +kernel
theorem dX13_breaksLayers_290 : decode cX13_breaksLayers 290 = .ok (.iload 4, 2) := by decide +kernel
theorem dX13_breaksLayers_292 : decode cX13_breaksLayers 292 = .ok (.ifCond .le 7, 3) := by decide +kernel
theorem dX13_breaksLayers_295 : decode cX13_breaksLayers 295 = .ok (.iload_n 2, 1) := by decide +kernel
theorem dX13_breaksLayers_296 : decode cX13_breaksLayers 296 = .ok (.goto 4, 3) := by decide +kernel
theorem dX13_breaksLayers_299 : decode cX13_breaksLayers 299 = .ok (.iconst 0, 1) := by decide +kernel
theorem dX13_breaksLayers_300 : decode cX13_breaksLayers 300 = .ok (.isub, 1) := by decide +kernel
theorem dX13_breaksLayers_301 : decode cX13_breaksLayers 301 = .ok (.iastore, 1) := by decide +kernel
theorem dX13_breaksLayers_302 : decode cX13_breaksLayers 302 = .ok (.aload_n 0, 1) := by decide +kernel
theorem dX13_breaksLayers_303 : decode cX13_breaksLayers 303 = .ok (.getfield 82, 3) := by decide +kernel
theorem dX13_breaksLayers_306 : decode cX13_breaksLayers 306 = .ok (.iload_n 3, 1) := by decide +kernel
theorem dX13_breaksLayers_307 : decode cX13_breaksLayers 307 = .ok (.dup2, 1) := by decide +kernel
theorem dX13_breaksLayers_308 : decode cX13_breaksLayers 308 = .ok (.iaload, 1) := by decide +kernel
theorem dX13_breaksLayers_309 : decode cX13_breaksLayers 309 = .ok (.iload 4, 2) := by decide +kernel
theorem dX13_breaksLayers_311 : decode cX13_breaksLayers 311 = .ok (.iadd, 1) := by decide +kernel
theorem dX13_breaksLayers_312 : decode cX13_breaksLayers 312 = .ok (.iastore, 1) := by decide +kernel
theorem dX13_breaksLayers_313 : decode cX13_breaksLayers 313 = .ok (.aload_n 0, 1) := by decide +kernel
theorem dX13_breaksLayers_314 : decode cX13_breaksLayers 314 = .ok (.getfield 91, 3) := by decide +kernel
theorem dX13_breaksLayers_317 : decode cX13_breaksLayers 317 = .ok (.iload_n 3, 1) := by decide +kernel
theorem dX13_breaksLayers_318 : decode cX13_breaksLayers 318 = .ok (.iaload, 1) := by decide +kernel
theorem dX13_breaksLayers_319 : decode cX13_breaksLayers 319 = .ok (.aload_n 0, 1) := by decide +kernel
theorem dX13_breaksLayers_320 : decode cX13_breaksLayers 320 = .ok (.getfield 94, 3) := by decide +kernel
theorem dX13_breaksLayers_323 : decode cX13_breaksLayers 323 = .ok (.iload_n 3, 1) := by decide +kernel
theorem dX13_breaksLayers_324 : decode cX13_breaksLayers 324 = .ok (.iaload, 1) := by decide +kernel
theorem dX13_breaksLayers_325 : decode cX13_breaksLayers 325 = .ok (.iload_n 1, 1) := by decide +kernel
theorem dX13_breaksLayers_326 : decode cX13_breaksLayers 326 = .ok (.iload_n 2, 1) := by decide +kernel
theorem dX13_breaksLayers_327 : decode cX13_breaksLayers 327 = .ok (.invokestatic 220, 3) := by decide +kernel
theorem dX13_breaksLayers_330 : decode cX13_breaksLayers 330 = .ok (.istore 4, 2) := by decide +kernel
theorem dX13_breaksLayers_332 : decode cX13_breaksLayers 332 = .ok (.aload_n 0, 1) := by decide +kernel
theorem dX13_breaksLayers_333 : decode cX13_breaksLayers 333 = .ok (.getfield 94, 3) := by decide +kernel
theorem dX13_breaksLayers_336 : decode cX13_breaksLayers 336 = .ok (.iload_n 3, 1) := by decide +kernel
theorem dX13_breaksLayers_337 : decode cX13_breaksLayers 337 = .ok (.dup2, 1) := by decide +kernel
theorem dX13_breaksLayers_338 : decode cX13_breaksLayers 338 = .ok (.iaload, 1) := by decide +kernel
theorem dX13_breaksLayers_339 : decode cX13_breaksLayers 339 = .ok (.aload_n 0, 1) := by decide +kernel
theorem dX13_breaksLayers_340 : decode cX13_breaksLayers 340 = .ok (.getfield 91, 3) := by decide +kernel
theorem dX13_breaksLayers_343 : decode cX13_breaksLayers 343 = .ok (.iload_n 3, 1) := by decide +kernel
theorem dX13_breaksLayers_344 : decode cX13_breaksLayers 344 = .ok (.iaload, 1) := by decide +kernel
theorem dX13_breaksLayers_345 : decode cX13_breaksLayers 345 = .ok (.iload_n 1, 1) := by decide +kernel
theorem dX13_breaksLayers_346 : decode cX13_breaksLayers 346 = .ok (.if_icmp .ne 12, 3) := by decide +kernel
theorem dX13_breaksLayers_349 : decode cX13_breaksLayers 349 = .ok (.iload 4, 2) := by decide +kernel
theorem dX13_breaksLayers_351 : decode cX13_breaksLayers 351 = .ok (.ifCond .le 7, 3) := by decide +kernel
theorem dX13_breaksLayers_354 : decode cX13_breaksLayers 354 = .ok (.iload_n 2, 1) := by decide +kernel
theorem dX13_breaksLayers_355 : decode cX13_breaksLayers 355 = .ok (.goto 4, 3) := by decide +kernel
theorem dX13_breaksLayers_358 : decode cX13_breaksLayers 358 = .ok (.iconst 0, 1) := by decide +kernel
theorem dX13_breaksLayers_359 : decode cX13_breaksLayers 359 = .ok (.isub, 1) := by decide +kernel
theorem dX13_breaksLayers_360 : decode cX13_breaksLayers 360 = .ok (.iastore, 1) := by decide +kernel
theorem dX13_breaksLayers_361 : decode cX13_breaksLayers 361 = .ok (.aload_n 0, 1) := by decide +kernel
theorem dX13_breaksLayers_362 : decode cX13_breaksLayers 362 = .ok (.getfield 91, 3) := by decide +kernel
theorem dX13_breaksLayers_365 : decode cX13_breaksLayers 365 = .ok (.iload_n 3, 1) := by decide +kernel
theorem dX13_breaksLayers_366 : decode cX13_breaksLayers 366 = .ok (.dup2, 1) := by decide +kernel
theorem dX13_breaksLayers_367 : decode cX13_breaksLayers 367 = .ok (.iaload, 1) := by decide +kernel
theorem dX13_breaksLayers_368 : decode cX13_breaksLayers 368 = .ok (.iload 4, 2) := by decide +kernel
theorem dX13_breaksLayers_370 : decode cX13_breaksLayers 370 = .ok (.iadd, 1) := by decide +kernel
theorem dX13_breaksLayers_371 : decode cX13_breaksLayers 371 = .ok (.iastore, 1) := by decide +kernel
theorem dX13_breaksLayers_372 : decode cX13_breaksLayers 372 = .ok (.iinc 3 1, 3) := by decide +kernel
theorem dX13_breaksLayers_375 : decode cX13_breaksLayers 375 = .ok (.goto (-126), 3) := by decide +kernel
theorem dX13_breaksLayers_378 : decode cX13_breaksLayers 378 = .ok (.return_, 1) := by decide +kernel
theorem dX13_breakLine_0 : decode cX13_breakLine 0 = .ok (.aload_n 0, 1) := by decide +kernel
theorem dX13_breakLine_1 : decode cX13_breakLine 1 = .ok (.iload_n 1, 1) := by decide +kernel
theorem dX13_breakLine_2 : decode cX13_breakLine 2 = .ok (.invokevirtual 191, 3) := by decide +kernel
theorem dX13_breakLine_5 : decode cX13_breakLine 5 = .ok (.istore_n 3, 1) := by decide +kernel
theorem dX13_breakLine_6 : decode cX13_breakLine 6 = .ok (.aload_n 0, 1) := by decide +kernel
theorem dX13_breakLine_7 : decode cX13_breakLine 7 = .ok (.iload_n 3, 1) := by decide +kernel
theorem dX13_breakLine_8 : decode cX13_breakLine 8 = .ok (.ifCond .ne 7, 3) := by decide +kernel
theorem dX13_breakLine_11 : decode cX13_breakLine 11 = .ok (.iconst 1, 1) := by decide +kernel
theorem dX13_breakLine_12 : decode cX13_breakLine 12 = .ok (.goto 35, 3) := by decide +kernel
theorem dX13_breakLine_15 : decode cX13_breakLine 15 = .ok (.iload_n 2, 1) := by decide +kernel
theorem dX13_breakLine_16 : decode cX13_breakLine 16 = .ok (.iconst 0, 1) := by decide +kernel
theorem dX13_breakLine_17 : decode cX13_breakLine 17 = .ok (.aload_n 0, 1) := by decide +kernel
theorem dX13_breakLine_18 : decode cX13_breakLine 18 = .ok (.getfield 13, 3) := by decide +kernel
theorem dX13_breakLine_21 : decode cX13_breakLine 21 = .ok (.iload_n 1, 1) := by decide +kernel
theorem dX13_breakLine_22 : decode cX13_breakLine 22 = .ok (.iaload, 1) := by decide +kernel
theorem dX13_breakLine_23 : decode cX13_breakLine 23 = .ok (.invokestatic 187, 3) := by decide +kernel
theorem dX13_breakLine_26 : decode cX13_breakLine 26 = .ok (.ifCond .ne 7, 3) := by decide +kernel
theorem dX13_breakLine_29 : decode cX13_breakLine 29 = .ok (.iconst 2, 1) := by decide +kernel
theorem dX13_breakLine_30 : decode cX13_breakLine 30 = .ok (.goto 17, 3) := by decide +kernel
theorem dX13_breakLine_33 : decode cX13_breakLine 33 = .ok (.aload_n 0, 1) := by decide +kernel
theorem dX13_breakLine_34 : decode cX13_breakLine 34 = .ok (.getfield 20, 3) := by decide +kernel
theorem dX13_breakLine_37 : decode cX13_breakLine 37 = .ok (.bipush 60, 2) := by decide +kernel
theorem dX13_breakLine_39 : decode cX13_breakLine 39 = .ok (.if_icmp .ne 7, 3) := by decide +kernel
theorem dX13_breakLine_42 : decode cX13_breakLine 42 = .ok (.iconst 3, 1) := by decide +kernel
theorem dX13_breakLine_43 : decode cX13_breakLine 43 = .ok (.goto 4, 3) := by decide +kernel
theorem dX13_breakLine_46 : decode cX13_breakLine 46 = .ok (.iconst 0, 1) := by decide +kernel
theorem dX13_breakLine_47 : decode cX13_breakLine 47 = .ok (.invokevirtual 195, 3) := by decide +kernel
theorem dX13_breakLine_50 : decode cX13_breakLine 50 = .ok (.ifCond .ne 5, 3) := by decide +kernel
theorem dX13_breakLine_53 : decode cX13_breakLine 53 = .ok (.iconst 0, 1) := by decide +kernel
theorem dX13_breakLine_54 : decode cX13_breakLine 54 = .ok (.ireturn, 1) := by decide +kernel
theorem dX13_breakLine_55 : decode cX13_breakLine 55 = .ok (.aload_n 0, 1) := by decide +kernel
theorem dX13_breakLine_56 : decode cX13_breakLine 56 = .ok (.getfield 20, 3) := by decide +kernel
theorem dX13_breakLine_59 : decode cX13_breakLine 59 = .ok (.istore 4, 2) := by decide +kernel
theorem dX13_breakLine_61 : decode cX13_breakLine 61 = .ok (.iload 4, 2) := by decide +kernel
theorem dX13_breakLine_63 : decode cX13_breakLine 63 = .ok (.iload_n 1, 1) := by decide +kernel
theorem dX13_breakLine_64 : decode cX13_breakLine 64 = .ok (.iconst 1, 1) := by decide +kernel
theorem dX13_breakLine_65 : decode cX13_breakLine 65 = .ok (.iadd, 1) := by decide +kernel
theorem dX13_breakLine_66 : decode cX13_breakLine 66 = .ok (.if_icmp .le 19, 3) := by decide +kernel
theorem dX13_breakLine_69 : decode cX13_breakLine 69 = .ok (.aload_n 0, 1) := by decide +kernel
theorem dX13_breakLine_70 : decode cX13_breakLine 70 = .ok (.iload 4, 2) := by decide +kernel
theorem dX13_breakLine_72 : decode cX13_breakLine 72 = .ok (.iconst 1, 1) := by decide +kernel
theorem dX13_breakLine_73 : decode cX13_breakLine 73 = .ok (.isub, 1) := by decide +kernel
theorem dX13_breakLine_74 : decode cX13_breakLine 74 = .ok (.iload 4, 2) := by decide +kernel
theorem dX13_breakLine_76 : decode cX13_breakLine 76 = .ok (.invokevirtual 224, 3) := by decide +kernel
theorem dX13_breakLine_79 : decode cX13_breakLine 79 = .ok (.iinc 4 (-1), 3) := by decide +kernel
theorem dX13_breakLine_82 : decode cX13_breakLine 82 = .ok (.goto (-21), 3) := by decide +kernel
theorem dX13_breakLine_85 : decode cX13_breakLine 85 = .ok (.aload_n 0, 1) := by decide +kernel
theorem dX13_breakLine_86 : decode cX13_breakLine 86 = .ok (.dup, 1) := by decide +kernel
theorem dX13_breakLine_87 : decode cX13_breakLine 87 = .ok (.getfield 20, 3) := by decide +kernel
theorem dX13_breakLine_90 : decode cX13_breakLine 90 = .ok (.iconst 1, 1) := by decide +kernel
theorem dX13_breakLine_91 : decode cX13_breakLine 91 = .ok (.iadd, 1) := by decide +kernel
theorem dX13_breakLine_92 : decode cX13_breakLine 92 = .ok (.putfield 20, 3) := by decide +kernel
theorem dX13_breakLine_95 : decode cX13_breakLine 95 = .ok (.aload_n 0, 1) := by decide +kernel
theorem dX13_breakLine_96 : decode cX13_breakLine 96 = .ok (.getfield 13, 3) := by decide +kernel
theorem dX13_breakLine_99 : decode cX13_breakLine 99 = .ok (.iload_n 1, 1) := by decide +kernel
theorem dX13_breakLine_100 : decode cX13_breakLine 100 = .ok (.iconst 1, 1) := by decide +kernel
theorem dX13_breakLine_101 : decode cX13_breakLine 101 = .ok (.iadd, 1) := by decide +kernel
theorem dX13_breakLine_102 : decode cX13_breakLine 102 = .ok (.aload_n 0, 1) := by decide +kernel
theorem dX13_breakLine_103 : decode cX13_breakLine 103 = .ok (.getfield 13, 3) := by decide +kernel
theorem dX13_breakLine_106 : decode cX13_breakLine 106 = .ok (.iload_n 1, 1) := by decide +kernel
theorem dX13_breakLine_107 : decode cX13_breakLine 107 = .ok (.iaload, 1) := by decide +kernel
theorem dX13_breakLine_108 : decode cX13_breakLine 108 = .ok (.iload_n 2, 1) := by decide +kernel
theorem dX13_breakLine_109 : decode cX13_breakLine 109 = .ok (.isub, 1) := by decide +kernel
theorem dX13_breakLine_110 : decode cX13_breakLine 110 = .ok (.iastore, 1) := by decide +kernel
theorem dX13_breakLine_111 : decode cX13_breakLine 111 = .ok (.aload_n 0, 1) := by decide +kernel
theorem dX13_breakLine_112 : decode cX13_breakLine 112 = .ok (.getfield 16, 3) := by decide +kernel
theorem dX13_breakLine_115 : decode cX13_breakLine 115 = .ok (.iload_n 1, 1) := by decide +kernel
theorem dX13_breakLine_116 : decode cX13_breakLine 116 = .ok (.iconst 1, 1) := by decide +kernel
theorem dX13_breakLine_117 : decode cX13_breakLine 117 = .ok (.iadd, 1) := by decide +kernel
theorem dX13_breakLine_118 : decode cX13_breakLine 118 = .ok (.iconst 0, 1) := by decide +kernel
theorem dX13_breakLine_119 : decode cX13_breakLine 119 = .ok (.bastore, 1) := by decide +kernel
theorem dX13_breakLine_120 : decode cX13_breakLine 120 = .ok (.iconst 0, 1) := by decide +kernel
theorem dX13_breakLine_121 : decode cX13_breakLine 121 = .ok (.istore 4, 2) := by decide +kernel
theorem dX13_breakLine_123 : decode cX13_breakLine 123 = .ok (.iload 4, 2) := by decide +kernel
theorem dX13_breakLine_125 : decode cX13_breakLine 125 = .ok (.aload_n 0, 1) := by decide +kernel
theorem dX13_breakLine_126 : decode cX13_breakLine 126 = .ok (.getfield 13, 3) := by decide +kernel
theorem dX13_breakLine_129 : decode cX13_breakLine 129 = .ok (.iload_n 1, 1) := by decide +kernel
theorem dX13_breakLine_130 : decode cX13_breakLine 130 = .ok (.iconst 1, 1) := by decide +kernel
theorem dX13_breakLine_131 : decode cX13_breakLine 131 = .ok (.iadd, 1) := by decide +kernel
theorem dX13_breakLine_132 : decode cX13_breakLine 132 = .ok (.iaload, 1) := by decide +kernel
theorem dX13_breakLine_133 : decode cX13_breakLine 133 = .ok (.if_icmp .ge 37, 3) := by decide +kernel
theorem dX13_breakLine_136 : decode cX13_breakLine 136 = .ok (.aload_n 0, 1) := by decide +kernel
theorem dX13_breakLine_137 : decode cX13_breakLine 137 = .ok (.getfield 7, 3) := by decide +kernel
theorem dX13_breakLine_140 : decode cX13_breakLine 140 = .ok (.bipush 80, 2) := by decide +kernel
theorem dX13_breakLine_142 : decode cX13_breakLine 142 = .ok (.iload_n 1, 1) := by decide +kernel
theorem dX13_breakLine_143 : decode cX13_breakLine 143 = .ok (.iconst 1, 1) := by decide +kernel
theorem dX13_breakLine_144 : decode cX13_breakLine 144 = .ok (.iadd, 1) := by decide +kernel
theorem dX13_breakLine_145 : decode cX13_breakLine 145 = .ok (.imul, 1) := by decide +kernel
theorem dX13_breakLine_146 : decode cX13_breakLine 146 = .ok (.iload 4, 2) := by decide +kernel
theorem dX13_breakLine_148 : decode cX13_breakLine 148 = .ok (.iadd, 1) := by decide +kernel
theorem dX13_breakLine_149 : decode cX13_breakLine 149 = .ok (.aload_n 0, 1) := by decide +kernel
theorem dX13_breakLine_150 : decode cX13_breakLine 150 = .ok (.getfield 7, 3) := by decide +kernel
theorem dX13_breakLine_153 : decode cX13_breakLine 153 = .ok (.bipush 80, 2) := by decide +kernel
theorem dX13_breakLine_155 : decode cX13_breakLine 155 = .ok (.iload_n 1, 1) := by decide +kernel
theorem dX13_breakLine_156 : decode cX13_breakLine 156 = .ok (.imul, 1) := by decide +kernel
theorem dX13_breakLine_157 : decode cX13_breakLine 157 = .ok (.iload_n 2, 1) := by decide +kernel
theorem dX13_breakLine_158 : decode cX13_breakLine 158 = .ok (.iadd, 1) := by decide +kernel
theorem dX13_breakLine_159 : decode cX13_breakLine 159 = .ok (.iload 4, 2) := by decide +kernel
theorem dX13_breakLine_161 : decode cX13_breakLine 161 = .ok (.iadd, 1) := by decide +kernel
theorem dX13_breakLine_162 : decode cX13_breakLine 162 = .ok (.iaload, 1) := by decide +kernel
theorem dX13_breakLine_163 : decode cX13_breakLine 163 = .ok (.iastore, 1) := by decide +kernel
theorem dX13_breakLine_164 : decode cX13_breakLine 164 = .ok (.iinc 4 1, 3) := by decide +kernel
theorem dX13_breakLine_167 : decode cX13_breakLine 167 = .ok (.goto (-44), 3) := by decide +kernel
theorem dX13_breakLine_170 : decode cX13_breakLine 170 = .ok (.aload_n 0, 1) := by decide +kernel
theorem dX13_breakLine_171 : decode cX13_breakLine 171 = .ok (.getfield 13, 3) := by decide +kernel
theorem dX13_breakLine_174 : decode cX13_breakLine 174 = .ok (.iload_n 1, 1) := by decide +kernel
theorem dX13_breakLine_175 : decode cX13_breakLine 175 = .ok (.iload_n 2, 1) := by decide +kernel
theorem dX13_breakLine_176 : decode cX13_breakLine 176 = .ok (.iastore, 1) := by decide +kernel
theorem dX13_breakLine_177 : decode cX13_breakLine 177 = .ok (.aload_n 0, 1) := by decide +kernel
theorem dX13_breakLine_178 : decode cX13_breakLine 178 = .ok (.iload_n 1, 1) := by decide +kernel
theorem dX13_breakLine_179 : decode cX13_breakLine 179 = .ok (.iload_n 2, 1) := by decide +kernel
theorem dX13_breakLine_180 : decode cX13_breakLine 180 = .ok (.invokevirtual 227, 3) := by decide +kernel
theorem dX13_breakLine_183 : decode cX13_breakLine 183 = .ok (.aload_n 0, 1) := by decide +kernel
theorem dX13_breakLine_184 : decode cX13_breakLine 184 = .ok (.getfield 20, 3) := by decide +kernel
theorem dX13_breakLine_187 : decode cX13_breakLine 187 = .ok (.ireturn, 1) := by decide +kernel
theorem dX13_dropsFold_0 : decode cX13_dropsFold 0 = .ok (.aload_n 0, 1) := by decide +kernel
theorem dX13_dropsFold_1 : decode cX13_dropsFold 1 = .ok (.getfield 70, 3) := by decide +kernel
theorem dX13_dropsFold_4 : decode cX13_dropsFold 4 = .ok (.iload_n 1, 1) := by decide +kernel
theorem dX13_dropsFold_5 : decode cX13_dropsFold 5 = .ok (.dup2, 1) := by decide +kernel
theorem dX13_dropsFold_6 : decode cX13_dropsFold 6 = .ok (.iaload, 1) := by decide +kernel
theorem dX13_dropsFold_7 : decode cX13_dropsFold 7 = .ok (.iconst 1, 1) := by decide +kernel
theorem dX13_dropsFold_8 : decode cX13_dropsFold 8 = .ok (.isub, 1) := by decide +kernel
theorem dX13_dropsFold_9 : decode cX13_dropsFold 9 = .ok (.iastore, 1) := by decide +kernel
theorem dX13_dropsFold_10 : decode cX13_dropsFold 10 = .ok (.bipush 6, 2) := by decide +kernel
theorem dX13_dropsFold_12 : decode cX13_dropsFold 12 = .ok (.iload_n 1, 1) := by decide +kernel
theorem dX13_dropsFold_13 : decode cX13_dropsFold 13 = .ok (.imul, 1) := by decide +kernel
theorem dX13_dropsFold_14 : decode cX13_dropsFold 14 = .ok (.iload_n 2, 1) := by decide +kernel
theorem dX13_dropsFold_15 : decode cX13_dropsFold 15 = .ok (.iadd, 1) := by decide +kernel
theorem dX13_dropsFold_16 : decode cX13_dropsFold 16 = .ok (.istore_n 3, 1) := by decide +kernel
theorem dX13_dropsFold_17 : decode cX13_dropsFold 17 = .ok (.iload_n 3, 1) := by decide +kernel
theorem dX13_dropsFold_18 : decode cX13_dropsFold 18 = .ok (.bipush 6, 2) := by decide +kernel
theorem dX13_dropsFold_20 : decode cX13_dropsFold 20 = .ok (.iload_n 1, 1) := by decide +kernel
theorem dX13_dropsFold_21 : decode cX13_dropsFold 21 = .ok (.imul, 1) := by decide +kernel
theorem dX13_dropsFold_22 : decode cX13_dropsFold 22 = .ok (.aload_n 0, 1) := by decide +kernel
theorem dX13_dropsFold_23 : decode cX13_dropsFold 23 = .ok (.getfield 70, 3) := by decide +kernel
theorem dX13_dropsFold_26 : decode cX13_dropsFold 26 = .ok (.iload_n 1, 1) := by decide +kernel
theorem dX13_dropsFold_27 : decode cX13_dropsFold 27 = .ok (.iaload, 1) := by decide +kernel
theorem dX13_dropsFold_28 : decode cX13_dropsFold 28 = .ok (.iadd, 1) := by decide +kernel
theorem dX13_dropsFold_29 : decode cX13_dropsFold 29 = .ok (.if_icmp .ge 51, 3) := by decide +kernel
theorem dX13_dropsFold_32 : decode cX13_dropsFold 32 = .ok (.aload_n 0, 1) := by decide +kernel
theorem dX13_dropsFold_33 : decode cX13_dropsFold 33 = .ok (.getfield 73, 3) := by decide +kernel
theorem dX13_dropsFold_36 : decode cX13_dropsFold 36 = .ok (.iload_n 3, 1) := by decide +kernel
theorem dX13_dropsFold_37 : decode cX13_dropsFold 37 = .ok (.aload_n 0, 1) := by decide +kernel
theorem dX13_dropsFold_38 : decode cX13_dropsFold 38 = .ok (.getfield 73, 3) := by decide +kernel
theorem dX13_dropsFold_41 : decode cX13_dropsFold 41 = .ok (.iload_n 3, 1) := by decide +kernel
theorem dX13_dropsFold_42 : decode cX13_dropsFold 42 = .ok (.iconst 1, 1) := by decide +kernel
theorem dX13_dropsFold_43 : decode cX13_dropsFold 43 = .ok (.iadd, 1) := by decide +kernel
theorem dX13_dropsFold_44 : decode cX13_dropsFold 44 = .ok (.iaload, 1) := by decide +kernel
theorem dX13_dropsFold_45 : decode cX13_dropsFold 45 = .ok (.iastore, 1) := by decide +kernel
theorem dX13_dropsFold_46 : decode cX13_dropsFold 46 = .ok (.aload_n 0, 1) := by decide +kernel
theorem dX13_dropsFold_47 : decode cX13_dropsFold 47 = .ok (.getfield 76, 3) := by decide +kernel
theorem dX13_dropsFold_50 : decode cX13_dropsFold 50 = .ok (.iload_n 3, 1) := by decide +kernel
theorem dX13_dropsFold_51 : decode cX13_dropsFold 51 = .ok (.aload_n 0, 1) := by decide +kernel
theorem dX13_dropsFold_52 : decode cX13_dropsFold 52 = .ok (.getfield 76, 3) := by decide +kernel
theorem dX13_dropsFold_55 : decode cX13_dropsFold 55 = .ok (.iload_n 3, 1) := by decide +kernel
theorem dX13_dropsFold_56 : decode cX13_dropsFold 56 = .ok (.iconst 1, 1) := by decide +kernel
theorem dX13_dropsFold_57 : decode cX13_dropsFold 57 = .ok (.iadd, 1) := by decide +kernel
theorem dX13_dropsFold_58 : decode cX13_dropsFold 58 = .ok (.iaload, 1) := by decide +kernel
theorem dX13_dropsFold_59 : decode cX13_dropsFold 59 = .ok (.iastore, 1) := by decide +kernel
theorem dX13_dropsFold_60 : decode cX13_dropsFold 60 = .ok (.aload_n 0, 1) := by decide +kernel
theorem dX13_dropsFold_61 : decode cX13_dropsFold 61 = .ok (.getfield 79, 3) := by decide +kernel
theorem dX13_dropsFold_64 : decode cX13_dropsFold 64 = .ok (.iload_n 3, 1) := by decide +kernel
theorem dX13_dropsFold_65 : decode cX13_dropsFold 65 = .ok (.aload_n 0, 1) := by decide +kernel
theorem dX13_dropsFold_66 : decode cX13_dropsFold 66 = .ok (.getfield 79, 3) := by decide +kernel
theorem dX13_dropsFold_69 : decode cX13_dropsFold 69 = .ok (.iload_n 3, 1) := by decide +kernel
theorem dX13_dropsFold_70 : decode cX13_dropsFold 70 = .ok (.iconst 1, 1) := by decide +kernel
theorem dX13_dropsFold_71 : decode cX13_dropsFold 71 = .ok (.iadd, 1) := by decide +kernel
theorem dX13_dropsFold_72 : decode cX13_dropsFold 72 = .ok (.baload, 1) := by decide +kernel
theorem dX13_dropsFold_73 : decode cX13_dropsFold 73 = .ok (.bastore, 1) := by decide +kernel
theorem dX13_dropsFold_74 : decode cX13_dropsFold 74 = .ok (.iinc 3 1, 3) := by decide +kernel
theorem dX13_dropsFold_77 : decode cX13_dropsFold 77 = .ok (.goto (-60), 3) := by decide +kernel
theorem dX13_dropsFold_80 : decode cX13_dropsFold 80 = .ok (.return_, 1) := by decide +kernel
theorem dX13_joinsLayers_0 : decode cX13_joinsLayers 0 = .ok (.iconst 0, 1) := by decide +kernel
theorem dX13_joinsLayers_1 : decode cX13_joinsLayers 1 = .ok (.istore_n 3, 1) := by decide +kernel
theorem dX13_joinsLayers_2 : decode cX13_joinsLayers 2 = .ok (.iload_n 3, 1) := by decide +kernel
theorem dX13_joinsLayers_3 : decode cX13_joinsLayers 3 = .ok (.bipush 24, 2) := by decide +kernel
theorem dX13_joinsLayers_5 : decode cX13_joinsLayers 5 = .ok (.if_icmp .ge 172, 3) := by decide +kernel
theorem dX13_joinsLayers_8 : decode cX13_joinsLayers 8 = .ok (.aload_n 0, 1) := by decide +kernel
theorem dX13_joinsLayers_9 : decode cX13_joinsLayers 9 = .ok (.getfield 48, 3) := by decide +kernel
theorem dX13_joinsLayers_12 : decode cX13_joinsLayers 12 = .ok (.iload_n 3, 1) := by decide +kernel
theorem dX13_joinsLayers_13 : decode cX13_joinsLayers 13 = .ok (.iaload, 1) := by decide +kernel
theorem dX13_joinsLayers_14 : decode cX13_joinsLayers 14 = .ok (.iload_n 1, 1) := by decide +kernel
theorem dX13_joinsLayers_15 : decode cX13_joinsLayers 15 = .ok (.iconst 1, 1) := by decide +kernel
theorem dX13_joinsLayers_16 : decode cX13_joinsLayers 16 = .ok (.iadd, 1) := by decide +kernel
theorem dX13_joinsLayers_17 : decode cX13_joinsLayers 17 = .ok (.if_icmp .ne 7, 3) := by decide +kernel
theorem dX13_joinsLayers_20 : decode cX13_joinsLayers 20 = .ok (.iload_n 2, 1) := by decide +kernel
theorem dX13_joinsLayers_21 : decode cX13_joinsLayers 21 = .ok (.goto 4, 3) := by decide +kernel
theorem dX13_joinsLayers_24 : decode cX13_joinsLayers 24 = .ok (.iconst 0, 1) := by decide +kernel
theorem dX13_joinsLayers_25 : decode cX13_joinsLayers 25 = .ok (.istore 4, 2) := by decide +kernel
theorem dX13_joinsLayers_27 : decode cX13_joinsLayers 27 = .ok (.aload_n 0, 1) := by decide +kernel
theorem dX13_joinsLayers_28 : decode cX13_joinsLayers 28 = .ok (.getfield 51, 3) := by decide +kernel
theorem dX13_joinsLayers_31 : decode cX13_joinsLayers 31 = .ok (.iload_n 3, 1) := by decide +kernel
theorem dX13_joinsLayers_32 : decode cX13_joinsLayers 32 = .ok (.dup2, 1) := by decide +kernel
theorem dX13_joinsLayers_33 : decode cX13_joinsLayers 33 = .ok (.iaload, 1) := by decide +kernel
theorem dX13_joinsLayers_34 : decode cX13_joinsLayers 34 = .ok (.iload 4, 2) := by decide +kernel
theorem dX13_joinsLayers_36 : decode cX13_joinsLayers 36 = .ok (.iadd, 1) := by decide +kernel
theorem dX13_joinsLayers_37 : decode cX13_joinsLayers 37 = .ok (.iastore, 1) := by decide +kernel
theorem dX13_joinsLayers_38 : decode cX13_joinsLayers 38 = .ok (.aload_n 0, 1) := by decide +kernel
theorem dX13_joinsLayers_39 : decode cX13_joinsLayers 39 = .ok (.getfield 54, 3) := by decide +kernel
theorem dX13_joinsLayers_42 : decode cX13_joinsLayers 42 = .ok (.iload_n 3, 1) := by decide +kernel
theorem dX13_joinsLayers_43 : decode cX13_joinsLayers 43 = .ok (.dup2, 1) := by decide +kernel
theorem dX13_joinsLayers_44 : decode cX13_joinsLayers 44 = .ok (.iaload, 1) := by decide +kernel
theorem dX13_joinsLayers_45 : decode cX13_joinsLayers 45 = .ok (.iload 4, 2) := by decide +kernel
theorem dX13_joinsLayers_47 : decode cX13_joinsLayers 47 = .ok (.iadd, 1) := by decide +kernel
theorem dX13_joinsLayers_48 : decode cX13_joinsLayers 48 = .ok (.iastore, 1) := by decide +kernel
theorem dX13_joinsLayers_49 : decode cX13_joinsLayers 49 = .ok (.aload_n 0, 1) := by decide +kernel
theorem dX13_joinsLayers_50 : decode cX13_joinsLayers 50 = .ok (.getfield 48, 3) := by decide +kernel
theorem dX13_joinsLayers_53 : decode cX13_joinsLayers 53 = .ok (.iload_n 3, 1) := by decide +kernel
theorem dX13_joinsLayers_54 : decode cX13_joinsLayers 54 = .ok (.dup2, 1) := by decide +kernel
theorem dX13_joinsLayers_55 : decode cX13_joinsLayers 55 = .ok (.iaload, 1) := by decide +kernel
theorem dX13_joinsLayers_56 : decode cX13_joinsLayers 56 = .ok (.aload_n 0, 1) := by decide +kernel
theorem dX13_joinsLayers_57 : decode cX13_joinsLayers 57 = .ok (.getfield 48, 3) := by decide +kernel
theorem dX13_joinsLayers_60 : decode cX13_joinsLayers 60 = .ok (.iload_n 3, 1) := by decide +kernel
theorem dX13_joinsLayers_61 : decode cX13_joinsLayers 61 = .ok (.iaload, 1) := by decide +kernel
theorem dX13_joinsLayers_62 : decode cX13_joinsLayers 62 = .ok (.iload_n 1, 1) := by decide +kernel
theorem dX13_joinsLayers_63 : decode cX13_joinsLayers 63 = .ok (.if_icmp .le 7, 3) := by decide +kernel
theorem dX13_joinsLayers_66 : decode cX13_joinsLayers 66 = .ok (.iconst 1, 1) := by decide +kernel
theorem dX13_joinsLayers_67 : decode cX13_joinsLayers 67 = .ok (.goto 4, 3) := by decide +kernel
theorem dX13_joinsLayers_70 : decode cX13_joinsLayers 70 = .ok (.iconst 0, 1) := by decide +kernel
theorem dX13_joinsLayers_71 : decode cX13_joinsLayers 71 = .ok (.isub, 1) := by decide +kernel
theorem dX13_joinsLayers_72 : decode cX13_joinsLayers 72 = .ok (.iastore, 1) := by decide +kernel
theorem dX13_joinsLayers_73 : decode cX13_joinsLayers 73 = .ok (.aload_n 0, 1) := by decide +kernel
theorem dX13_joinsLayers_74 : decode cX13_joinsLayers 74 = .ok (.getfield 63, 3) := by decide +kernel
theorem dX13_joinsLayers_77 : decode cX13_joinsLayers 77 = .ok (.iload_n 3, 1) := by decide +kernel
theorem dX13_joinsLayers_78 : decode cX13_joinsLayers 78 = .ok (.dup2, 1) := by decide +kernel
theorem dX13_joinsLayers_79 : decode cX13_joinsLayers 79 = .ok (.iaload, 1) := by decide +kernel
theorem dX13_joinsLayers_80 : decode cX13_joinsLayers 80 = .ok (.aload_n 0, 1) := by decide +kernel
theorem dX13_joinsLayers_81 : decode cX13_joinsLayers 81 = .ok (.getfield 60, 3) := by decide +kernel
theorem dX13_joinsLayers_84 : decode cX13_joinsLayers 84 = .ok (.iload_n 3, 1) := by decide +kernel
theorem dX13_joinsLayers_85 : decode cX13_joinsLayers 85 = .ok (.iaload, 1) := by decide +kernel
theorem dX13_joinsLayers_86 : decode cX13_joinsLayers 86 = .ok (.iload_n 1, 1) := by decide +kernel
theorem dX13_joinsLayers_87 : decode cX13_joinsLayers 87 = .ok (.iconst 1, 1) := by decide +kernel
theorem dX13_joinsLayers_88 : decode cX13_joinsLayers 88 = .ok (.iadd, 1) := by decide +kernel
theorem dX13_joinsLayers_89 : decode cX13_joinsLayers 89 = .ok (.if_icmp .ne 7, 3) := by decide +kernel
theorem dX13_joinsLayers_92 : decode cX13_joinsLayers 92 = .ok (.iload_n 2, 1) := by decide +kernel
theorem dX13_joinsLayers_93 : decode cX13_joinsLayers 93 = .ok (.goto 4, 3) := by decide +kernel
theorem dX13_joinsLayers_96 : decode cX13_joinsLayers 96 = .ok (.iconst 0, 1) := by decide +kernel
theorem dX13_joinsLayers_97 : decode cX13_joinsLayers 97 = .ok (.iadd, 1) := by decide +kernel
theorem dX13_joinsLayers_98 : decode cX13_joinsLayers 98 = .ok (.iastore, 1) := by decide +kernel
theorem dX13_joinsLayers_99 : decode cX13_joinsLayers 99 = .ok (.aload_n 0, 1) := by decide +kernel
theorem dX13_joinsLayers_100 : decode cX13_joinsLayers 100 = .ok (.getfield 60, 3) := by decide +kernel
theorem dX13_joinsLayers_103 : decode cX13_joinsLayers 103 = .ok (.iload_n 3, 1) := by decide +kernel
theorem dX13_joinsLayers_104 : decode cX13_joinsLayers 104 = .ok (.dup2, 1) := by decide +kernel
theorem dX13_joinsLayers_105 : decode cX13_joinsLayers 105 = .ok (.iaload, 1) := by decide +kernel
theorem dX13_joinsLayers_106 : decode cX13_joinsLayers 106 = .ok (.aload_n 0, 1) := by decide +kernel
theorem dX13_joinsLayers_107 : decode cX13_joinsLayers 107 = .ok (.getfield 60, 3) := by decide +kernel
theorem dX13_joinsLayers_110 : decode cX13_joinsLayers 110 = .ok (.iload_n 3, 1) := by decide +kernel
theorem dX13_joinsLayers_111 : decode cX13_joinsLayers 111 = .ok (.iaload, 1) := by decide +kernel
theorem dX13_joinsLayers_112 : decode cX13_joinsLayers 112 = .ok (.iload_n 1, 1) := by decide +kernel
theorem dX13_joinsLayers_113 : decode cX13_joinsLayers 113 = .ok (.if_icmp .le 7, 3) := by decide +kernel
theorem dX13_joinsLayers_116 : decode cX13_joinsLayers 116 = .ok (.iconst 1, 1) := by decide +kernel
theorem dX13_joinsLayers_117 : decode cX13_joinsLayers 117 = .ok (.goto 4, 3) := by decide +kernel
theorem dX13_joinsLayers_120 : decode cX13_joinsLayers 120 = .ok (.iconst 0, 1) := by decide +kernel
theorem dX13_joinsLayers_121 : decode cX13_joinsLayers 121 = .ok (.isub, 1) := by decide +kernel
theorem dX13_joinsLayers_122 : decode cX13_joinsLayers 122 = .ok (.iastore, 1) := by decide +kernel
theorem dX13_joinsLayers_123 : decode cX13_joinsLayers 123 = .ok (.aload_n 0, 1) := by decide +kernel
theorem dX13_joinsLayers_124 : decode cX13_joinsLayers 124 = .ok (.getfield 73, 3) := by decide +kernel
theorem dX13_joinsLayers_127 : decode cX13_joinsLayers 127 = .ok (.iload_n 3, 1) := by decide +kernel
theorem dX13_joinsLayers_128 : decode cX13_joinsLayers 128 = .ok (.dup2, 1) := by decide +kernel
theorem dX13_joinsLayers_129 : decode cX13_joinsLayers 129 = .ok (.iaload, 1) := by decide +kernel
theorem dX13_joinsLayers_130 : decode cX13_joinsLayers 130 = .ok (.aload_n 0, 1) := by decide +kernel
theorem dX13_joinsLayers_131 : decode cX13_joinsLayers 131 = .ok (.getfield 73, 3) := by decide +kernel
theorem dX13_joinsLayers_134 : decode cX13_joinsLayers 134 = .ok (.iload_n 3, 1) := by decide +kernel
theorem dX13_joinsLayers_135 : decode cX13_joinsLayers 135 = .ok (.iaload, 1) := by decide +kernel
theorem dX13_joinsLayers_136 : decode cX13_joinsLayers 136 = .ok (.iload_n 1, 1) := by decide +kernel
theorem dX13_joinsLayers_137 : decode cX13_joinsLayers 137 = .ok (.if_icmp .le 7, 3) := by decide +kernel
theorem dX13_joinsLayers_140 : decode cX13_joinsLayers 140 = .ok (.iconst 1, 1) := by decide +kernel
theorem dX13_joinsLayers_141 : decode cX13_joinsLayers 141 = .ok (.goto 4, 3) := by decide +kernel
theorem dX13_joinsLayers_144 : decode cX13_joinsLayers 144 = .ok (.iconst 0, 1) := by decide +kernel
theorem dX13_joinsLayers_145 : decode cX13_joinsLayers 145 = .ok (.isub, 1) := by decide +kernel
theorem dX13_joinsLayers_146 : decode cX13_joinsLayers 146 = .ok (.iastore, 1) := by decide +kernel
theorem dX13_joinsLayers_147 : decode cX13_joinsLayers 147 = .ok (.aload_n 0, 1) := by decide +kernel
theorem dX13_joinsLayers_148 : decode cX13_joinsLayers 148 = .ok (.getfield 76, 3) := by decide +kernel
theorem dX13_joinsLayers_151 : decode cX13_joinsLayers 151 = .ok (.iload_n 3, 1) := by decide +kernel
theorem dX13_joinsLayers_152 : decode cX13_joinsLayers 152 = .ok (.dup2, 1) := by decide +kernel
theorem dX13_joinsLayers_153 : decode cX13_joinsLayers 153 = .ok (.iaload, 1) := by decide +kernel
theorem dX13_joinsLayers_154 : decode cX13_joinsLayers 154 = .ok (.aload_n 0, 1) := by decide +kernel
theorem dX13_joinsLayers_155 : decode cX13_joinsLayers 155 = .ok (.getfield 76, 3) := by decide +kernel
theorem dX13_joinsLayers_158 : decode cX13_joinsLayers 158 = .ok (.iload_n 3, 1) := by decide +kernel
theorem dX13_joinsLayers_159 : decode cX13_joinsLayers 159 = .ok (.iaload, 1) := by decide +kernel
theorem dX13_joinsLayers_160 : decode cX13_joinsLayers 160 = .ok (.iload_n 1, 1) := by decide +kernel
theorem dX13_joinsLayers_161 : decode cX13_joinsLayers 161 = .ok (.if_icmp .le 7, 3) := by decide +kernel
theorem dX13_joinsLayers_164 : decode cX13_joinsLayers 164 = .ok (.iconst 1, 1) := by decide +kernel
theorem dX13_joinsLayers_165 : decode cX13_joinsLayers 165 = .ok (.goto 4, 3) := by decide +kernel
theorem dX13_joinsLayers_168 : decode cX13_joinsLayers 168 = .ok (.iconst 0, 1) := by decide +kernel
theorem dX13_joinsLayers_169 : decode cX13_joinsLayers 169 = .ok (.isub, 1) := by decide +kernel
theorem dX13_joinsLayers_170 : decode cX13_joinsLayers 170 = .ok (.iastore, 1) := by decide +kernel
theorem dX13_joinsLayers_171 : decode cX13_joinsLayers 171 = .ok (.iinc 3 1, 3) := by decide +kernel
theorem dX13_joinsLayers_174 : decode cX13_joinsLayers 174 = .ok (.goto (-172), 3) := by decide +kernel
theorem dX13_joinsLayers_177 : decode cX13_joinsLayers 177 = .ok (.iconst 0, 1) := by decide +kernel
theorem dX13_joinsLayers_178 : decode cX13_joinsLayers 178 = .ok (.istore_n 3, 1) := by decide +kernel
theorem dX13_joinsLayers_179 : decode cX13_joinsLayers 179 = .ok (.iload_n 3, 1) := by decide +kernel
theorem dX13_joinsLayers_180 : decode cX13_joinsLayers 180 = .ok (.iconst 4, 1) := by decide +kernel
theorem dX13_joinsLayers_181 : decode cX13_joinsLayers 181 = .ok (.if_icmp .ge 164, 3) := by decide +kernel
theorem dX13_joinsLayers_184 : decode cX13_joinsLayers 184 = .ok (.aload_n 0, 1) := by decide +kernel
theorem dX13_joinsLayers_185 : decode cX13_joinsLayers 185 = .ok (.getfield 85, 3) := by decide +kernel
theorem dX13_joinsLayers_188 : decode cX13_joinsLayers 188 = .ok (.iload_n 3, 1) := by decide +kernel
theorem dX13_joinsLayers_189 : decode cX13_joinsLayers 189 = .ok (.dup2, 1) := by decide +kernel
theorem dX13_joinsLayers_190 : decode cX13_joinsLayers 190 = .ok (.iaload, 1) := by decide +kernel
theorem dX13_joinsLayers_191 : decode cX13_joinsLayers 191 = .ok (.aload_n 0, 1) := by decide +kernel
theorem dX13_joinsLayers_192 : decode cX13_joinsLayers 192 = .ok (.getfield 82, 3) := by decide +kernel
theorem dX13_joinsLayers_195 : decode cX13_joinsLayers 195 = .ok (.iload_n 3, 1) := by decide +kernel
theorem dX13_joinsLayers_196 : decode cX13_joinsLayers 196 = .ok (.iaload, 1) := by decide +kernel
theorem dX13_joinsLayers_197 : decode cX13_joinsLayers 197 = .ok (.iload_n 1, 1) := by decide +kernel
theorem dX13_joinsLayers_198 : decode cX13_joinsLayers 198 = .ok (.iconst 1, 1) := by decide +kernel
theorem dX13_joinsLayers_199 : decode cX13_joinsLayers 199 = .ok (.iadd, 1) := by decide +kernel
theorem dX13_joinsLayers_200 : decode cX13_joinsLayers 200 = .ok (.if_icmp .ne 7, 3) := by decide +kernel
theorem dX13_joinsLayers_203 : decode cX13_joinsLayers 203 = .ok (.iload_n 2, 1) := by decide +kernel
theorem dX13_joinsLayers_204 : decode cX13_joinsLayers 204 = .ok (.goto 4, 3) := by decide +kernel
theorem dX13_joinsLayers_207 : decode cX13_joinsLayers 207 = .ok (.iconst 0, 1) := by decide +kernel
theorem dX13_joinsLayers_208 : decode cX13_joinsLayers 208 = .ok (.iadd, 1) := by decide +kernel
theorem dX13_joinsLayers_209 : decode cX13_joinsLayers 209 = .ok (.iastore, 1) := by decide +kernel
theorem dX13_joinsLayers_210 : decode cX13_joinsLayers 210 = .ok (.aload_n 0, 1) := by decide +kernel
theorem dX13_joinsLayers_211 : decode cX13_joinsLayers 211 = .ok (.getfield 82, 3) := by decide +kernel
theorem dX13_joinsLayers_214 : decode cX13_joinsLayers 214 = .ok (.iload_n 3, 1) := by decide +kernel
theorem dX13_joinsLayers_215 : decode cX13_joinsLayers 215 = .ok (.dup2, 1) := by decide +kernel
theorem dX13_joinsLayers_216 : decode cX13_joinsLayers 216 = .ok (.iaload, 1) := by decide +kernel
theorem dX13_joinsLayers_217 : decode cX13_joinsLayers 217 = .ok (.aload_n 0, 1) := by decide +kernel
theorem dX13_joinsLayers_218 : decode cX13_joinsLayers 218 = .ok (.getfield 82, 3) := by decide +kernel
theorem dX13_joinsLayers_221 : decode cX13_joinsLayers 221 = .ok (.iload_n 3, 1) := by decide +kernel
theorem dX13_joinsLayers_222 : decode cX13_joinsLayers 222 = .ok (.iaload, 1) := by decide +kernel
theorem dX13_joinsLayers_223 : decode cX13_joinsLayers 223 = .ok (.iload_n 1, 1) := by decide +kernel
theorem dX13_joinsLayers_224 : decode cX13_joinsLayers 224 = .ok (.if_icmp .le 7, 3) := by decide +kernel
theorem dX13_joinsLayers_227 : decode cX13_joinsLayers 227 = .ok (.iconst 1, 1) := by decide +kernel
theorem dX13_joinsLayers_228 : decode cX13_joinsLayers 228 = .ok (.goto 4, 3) := by decide +kernel
theorem dX13_joinsLayers_231 : decode cX13_joinsLayers 231 = .ok (.iconst 0, 1) := by decide +kernel
theorem dX13_joinsLayers_232 : decode cX13_joinsLayers 232 = .ok (.isub, 1) := by decide +kernel
theorem dX13_joinsLayers_233 : decode cX13_joinsLayers 233 = .ok (.iastore, 1) := by decide +kernel
theorem dX13_joinsLayers_234 : decode cX13_joinsLayers 234 = .ok (.aload_n 0, 1) := by decide +kernel
theorem dX13_joinsLayers_235 : decode cX13_joinsLayers 235 = .ok (.getfield 94, 3) := by decide +kernel
theorem dX13_joinsLayers_238 : decode cX13_joinsLayers 238 = .ok (.iload_n 3, 1) := by decide +kernel
theorem dX13_joinsLayers_239 : decode cX13_joinsLayers 239 = .ok (.dup2, 1) := by decide +kernel
theorem dX13_joinsLayers_240 : decode cX13_joinsLayers 240 = .ok (.iaload, 1) := by decide +kernel
theorem dX13_joinsLayers_241 : decode cX13_joinsLayers 241 = .ok (.aload_n 0, 1) := by decide +kernel
theorem dX13_joinsLayers_242 : decode cX13_joinsLayers 242 = .ok (.getfield 91, 3) := by decide +kernel
theorem dX13_joinsLayers_245 : decode cX13_joinsLayers 245 = .ok (.iload_n 3, 1) := by decide +kernel
theorem dX13_joinsLayers_246 : decode cX13_joinsLayers 246 = .ok (.iaload, 1) := by decide +kernel
theorem dX13_joinsLayers_247 : decode cX13_joinsLayers 247 = .ok (.iload_n 1, 1) := by decide +kernel
theorem dX13_joinsLayers_248 : decode cX13_joinsLayers 248 = .ok (.iconst 1, 1) := by decide +kernel
theorem dX13_joinsLayers_249 : decode cX13_joinsLayers 249 = .ok (.iadd, 1) := by decide +kernel
theorem dX13_joinsLayers_250 : decode cX13_joinsLayers 250 = .ok (.if_icmp .ne 7, 3) := by decide +kernel
theorem dX13_joinsLayers_253 : decode cX13_joinsLayers 253 = .ok (.iload_n 2, 1) := by decide +kernel
theorem dX13_joinsLayers_254 : decode cX13_joinsLayers 254 = .ok (.goto 4, 3) := by decide +kernel
theorem dX13_joinsLayers_257 : decode cX13_joinsLayers 257 = .ok (.iconst 0, 1) := by decide +kernel
theorem dX13_joinsLayers_258 : decode cX13_joinsLayers 258 = .ok (.iadd, 1) := by decide +kernel
theorem dX13_joinsLayers_259 : decode cX13_joinsLayers 259 = .ok (.iastore, 1) := by decide +kernel
theorem dX13_joinsLayers_260 : decode cX13_joinsLayers 260 = .ok (.aload_n 0, 1) := by decide +kernel
theorem dX13_joinsLayers_261 : decode cX13_joinsLayers 261 = .ok (.getfield 91, 3) := by decide +kernel
theorem dX13_joinsLayers_264 : decode cX13_joinsLayers 264 = .ok (.iload_n 3, 1) := by decide +kernel
theorem dX13_joinsLayers_265 : decode cX13_joinsLayers 265 = .ok (.dup2, 1) := by decide +kernel
theorem dX13_joinsLayers_266 : decode cX13_joinsLayers 266 = .ok (.iaload, 1) := by decide +kernel
theorem dX13_joinsLayers_267 : decode cX13_joinsLayers 267 = .ok (.aload_n 0, 1) := by decide +kernel
theorem dX13_joinsLayers_268 : decode cX13_joinsLayers 268 = .ok (.getfield 91, 3) := by decide +kernel
theorem dX13_joinsLayers_271 : decode cX13_joinsLayers 271 = .ok (.iload_n 3, 1) := by decide +kernel
theorem dX13_joinsLayers_272 : decode cX13_joinsLayers 272 = .ok (.iaload, 1) := by decide +kernel
theorem dX13_joinsLayers_273 : decode cX13_joinsLayers 273 = .ok (.iload_n 1, 1) := by decide +kernel
theorem dX13_joinsLayers_274 : decode cX13_joinsLayers 274 = .ok (.if_icmp .le 7, 3) := by decide +kernel
theorem dX13_joinsLayers_277 : decode cX13_joinsLayers 277 = .ok (.iconst 1, 1) := by decide +kernel
theorem dX13_joinsLayers_278 : decode cX13_joinsLayers 278 = .ok (.goto 4, 3) := by decide +kernel
theorem dX13_joinsLayers_281 : decode cX13_joinsLayers 281 = .ok (.iconst 0, 1) := by decide +kernel
theorem dX13_joinsLayers_282 : decode cX13_joinsLayers 282 = .ok (.isub, 1) := by decide +kernel
theorem dX13_joinsLayers_283 : decode cX13_joinsLayers 283 = .ok (.iastore, 1) := by decide +kernel
theorem dX13_joinsLayers_284 : decode cX13_joinsLayers 284 = .ok (.aload_n 0, 1) := by decide +kernel
theorem dX13_joinsLayers_285 : decode cX13_joinsLayers 285 = .ok (.getfield 70, 3) := by decide +kernel
theorem dX13_joinsLayers_288 : decode cX13_joinsLayers 288 = .ok (.iload_n 3, 1) := by decide +kernel
theorem dX13_joinsLayers_289 : decode cX13_joinsLayers 289 = .ok (.iaload, 1) := by decide +kernel
theorem dX13_joinsLayers_290 : decode cX13_joinsLayers 290 = .ok (.iconst 1, 1) := by decide +kernel
theorem dX13_joinsLayers_291 : decode cX13_joinsLayers 291 = .ok (.isub, 1) := by decide +kernel
theorem dX13_joinsLayers_292 : decode cX13_joinsLayers 292 = .ok (.istore 4, 2) := by decide +kernel
theorem dX13_joinsLayers_294 : decode cX13_joinsLayers 294 = .ok (.iload 4, 2) := by decide +kernel
theorem dX13_joinsLayers_296 : decode cX13_joinsLayers 296 = .ok (.ifCond .lt 43, 3) := by decide +kernel
theorem dX13_joinsLayers_299 : decode cX13_joinsLayers 299 = .ok (.aload_n 0, 1) := by decide +kernel
theorem dX13_joinsLayers_300 : decode cX13_joinsLayers 300 = .ok (.getfield 73, 3) := by decide +kernel
theorem dX13_joinsLayers_303 : decode cX13_joinsLayers 303 = .ok (.bipush 6, 2) := by decide +kernel
theorem dX13_joinsLayers_305 : decode cX13_joinsLayers 305 = .ok (.iload_n 3, 1) := by decide +kernel
theorem dX13_joinsLayers_306 : decode cX13_joinsLayers 306 = .ok (.imul, 1) := by decide +kernel
theorem dX13_joinsLayers_307 : decode cX13_joinsLayers 307 = .ok (.iload 4, 2) := by decide +kernel
theorem dX13_joinsLayers_309 : decode cX13_joinsLayers 309 = .ok (.iadd, 1) := by decide +kernel
theorem dX13_joinsLayers_310 : decode cX13_joinsLayers 310 = .ok (.iaload, 1) := by decide +kernel
theorem dX13_joinsLayers_311 : decode cX13_joinsLayers 311 = .ok (.aload_n 0, 1) := by decide +kernel
theorem dX13_joinsLayers_312 : decode cX13_joinsLayers 312 = .ok (.getfield 76, 3) := by decide +kernel
theorem dX13_joinsLayers_315 : decode cX13_joinsLayers 315 = .ok (.bipush 6, 2) := by decide +kernel
theorem dX13_joinsLayers_317 : decode cX13_joinsLayers 317 = .ok (.iload_n 3, 1) := by decide +kernel
theorem dX13_joinsLayers_318 : decode cX13_joinsLayers 318 = .ok (.imul, 1) := by decide +kernel
theorem dX13_joinsLayers_319 : decode cX13_joinsLayers 319 = .ok (.iload 4, 2) := by decide +kernel
theorem dX13_joinsLayers_321 : decode cX13_joinsLayers 321 = .ok (.iadd, 1) := by decide +kernel
theorem dX13_joinsLayers_322 : decode cX13_joinsLayers 322 = .ok (.iaload, 1) := by decide +kernel
theorem dX13_joinsLayers_323 : decode cX13_joinsLayers 323 = .ok (.if_icmp .ne 10, 3) := by decide +kernel
theorem dX13_joinsLayers_326 : decode cX13_joinsLayers 326 = .ok (.aload_n 0, 1) := by decide +kernel
theorem dX13_joinsLayers_327 : decode cX13_joinsLayers 327 = .ok (.iload_n 3, 1) := by decide +kernel
theorem dX13_joinsLayers_328 : decode cX13_joinsLayers 328 = .ok (.iload 4, 2) := by decide +kernel
theorem dX13_joinsLayers_330 : decode cX13_joinsLayers 330 = .ok (.invokevirtual 230, 3) := by decide +kernel
theorem dX13_joinsLayers_333 : decode cX13_joinsLayers 333 = .ok (.iinc 4 (-1), 3) := by decide +kernel
theorem dX13_joinsLayers_336 : decode cX13_joinsLayers 336 = .ok (.goto (-42), 3) := by decide +kernel
theorem dX13_joinsLayers_339 : decode cX13_joinsLayers 339 = .ok (.iinc 3 1, 3) := by decide +kernel
theorem dX13_joinsLayers_342 : decode cX13_joinsLayers 342 = .ok (.goto (-163), 3) := by decide +kernel
theorem dX13_joinsLayers_345 : decode cX13_joinsLayers 345 = .ok (.return_, 1) := by decide +kernel
theorem dX13_join_0 : decode cX13_join 0 = .ok (.aload_n 0, 1) := by decide +kernel
theorem dX13_join_1 : decode cX13_join 1 = .ok (.iload_n 1, 1) := by decide +kernel
theorem dX13_join_2 : decode cX13_join 2 = .ok (.invokevirtual 191, 3) := by decide +kernel
theorem dX13_join_5 : decode cX13_join 5 = .ok (.ifCond .eq 17, 3) := by decide +kernel
theorem dX13_join_8 : decode cX13_join 8 = .ok (.aload_n 0, 1) := by decide +kernel
theorem dX13_join_9 : decode cX13_join 9 = .ok (.iload_n 1, 1) := by decide +kernel
theorem dX13_join_10 : decode cX13_join 10 = .ok (.iconst 1, 1) := by decide +kernel
theorem dX13_join_11 : decode cX13_join 11 = .ok (.iadd, 1) := by decide +kernel
theorem dX13_join_12 : decode cX13_join 12 = .ok (.invokevirtual 191, 3) := by decide +kernel
theorem dX13_join_15 : decode cX13_join 15 = .ok (.ifCond .eq 7, 3) := by decide +kernel
theorem dX13_join_18 : decode cX13_join 18 = .ok (.iconst 1, 1) := by decide +kernel
theorem dX13_join_19 : decode cX13_join 19 = .ok (.goto 4, 3) := by decide +kernel
theorem dX13_join_22 : decode cX13_join 22 = .ok (.iconst 0, 1) := by decide +kernel
theorem dX13_join_23 : decode cX13_join 23 = .ok (.istore_n 2, 1) := by decide +kernel
theorem dX13_join_24 : decode cX13_join 24 = .ok (.aload_n 0, 1) := by decide +kernel
theorem dX13_join_25 : decode cX13_join 25 = .ok (.iload_n 2, 1) := by decide +kernel
theorem dX13_join_26 : decode cX13_join 26 = .ok (.ifCond .ne 7, 3) := by decide +kernel
theorem dX13_join_29 : decode cX13_join 29 = .ok (.iconst 1, 1) := by decide +kernel
theorem dX13_join_30 : decode cX13_join 30 = .ok (.goto 28, 3) := by decide +kernel
theorem dX13_join_33 : decode cX13_join 33 = .ok (.aload_n 0, 1) := by decide +kernel
theorem dX13_join_34 : decode cX13_join 34 = .ok (.getfield 13, 3) := by decide +kernel
theorem dX13_join_37 : decode cX13_join 37 = .ok (.iload_n 1, 1) := by decide +kernel
theorem dX13_join_38 : decode cX13_join 38 = .ok (.iaload, 1) := by decide +kernel
theorem dX13_join_39 : decode cX13_join 39 = .ok (.aload_n 0, 1) := by decide +kernel
theorem dX13_join_40 : decode cX13_join 40 = .ok (.getfield 13, 3) := by decide +kernel
theorem dX13_join_43 : decode cX13_join 43 = .ok (.iload_n 1, 1) := by decide +kernel
theorem dX13_join_44 : decode cX13_join 44 = .ok (.iconst 1, 1) := by decide +kernel
theorem dX13_join_45 : decode cX13_join 45 = .ok (.iadd, 1) := by decide +kernel
theorem dX13_join_46 : decode cX13_join 46 = .ok (.iaload, 1) := by decide +kernel
theorem dX13_join_47 : decode cX13_join 47 = .ok (.iadd, 1) := by decide +kernel
theorem dX13_join_48 : decode cX13_join 48 = .ok (.bipush 80, 2) := by decide +kernel
theorem dX13_join_50 : decode cX13_join 50 = .ok (.if_icmp .le 7, 3) := by decide +kernel
theorem dX13_join_53 : decode cX13_join 53 = .ok (.iconst 2, 1) := by decide +kernel
theorem dX13_join_54 : decode cX13_join 54 = .ok (.goto 4, 3) := by decide +kernel
theorem dX13_join_57 : decode cX13_join 57 = .ok (.iconst 0, 1) := by decide +kernel
theorem dX13_join_58 : decode cX13_join 58 = .ok (.invokevirtual 195, 3) := by decide +kernel
theorem dX13_join_61 : decode cX13_join 61 = .ok (.ifCond .ne 5, 3) := by decide +kernel
theorem dX13_join_64 : decode cX13_join 64 = .ok (.iconst 0, 1) := by decide +kernel
theorem dX13_join_65 : decode cX13_join 65 = .ok (.ireturn, 1) := by decide +kernel
theorem dX13_join_66 : decode cX13_join 66 = .ok (.aload_n 0, 1) := by decide +kernel
theorem dX13_join_67 : decode cX13_join 67 = .ok (.getfield 13, 3) := by decide +kernel
theorem dX13_join_70 : decode cX13_join 70 = .ok (.iload_n 1, 1) := by decide +kernel
theorem dX13_join_71 : decode cX13_join 71 = .ok (.iaload, 1) := by decide +kernel
theorem dX13_join_72 : decode cX13_join 72 = .ok (.istore_n 3, 1) := by decide +kernel
theorem dX13_join_73 : decode cX13_join 73 = .ok (.iconst 0, 1) := by decide +kernel
theorem dX13_join_74 : decode cX13_join 74 = .ok (.istore 4, 2) := by decide +kernel
theorem dX13_join_76 : decode cX13_join 76 = .ok (.iload 4, 2) := by decide +kernel
theorem dX13_join_78 : decode cX13_join 78 = .ok (.aload_n 0, 1) := by decide +kernel
theorem dX13_join_79 : decode cX13_join 79 = .ok (.getfield 13, 3) := by decide +kernel
theorem dX13_join_82 : decode cX13_join 82 = .ok (.iload_n 1, 1) := by decide +kernel
theorem dX13_join_83 : decode cX13_join 83 = .ok (.iconst 1, 1) := by decide +kernel
theorem dX13_join_84 : decode cX13_join 84 = .ok (.iadd, 1) := by decide +kernel
theorem dX13_join_85 : decode cX13_join 85 = .ok (.iaload, 1) := by decide +kernel
theorem dX13_join_86 : decode cX13_join 86 = .ok (.if_icmp .ge 37, 3) := by decide +kernel
theorem dX13_join_89 : decode cX13_join 89 = .ok (.aload_n 0, 1) := by decide +kernel
theorem dX13_join_90 : decode cX13_join 90 = .ok (.getfield 7, 3) := by decide +kernel
theorem dX13_join_93 : decode cX13_join 93 = .ok (.bipush 80, 2) := by decide +kernel
theorem dX13_join_95 : decode cX13_join 95 = .ok (.iload_n 1, 1) := by decide +kernel
theorem dX13_join_96 : decode cX13_join 96 = .ok (.imul, 1) := by decide +kernel
theorem dX13_join_97 : decode cX13_join 97 = .ok (.iload_n 3, 1) := by decide +kernel
theorem dX13_join_98 : decode cX13_join 98 = .ok (.iadd, 1) := by decide +kernel
theorem dX13_join_99 : decode cX13_join 99 = .ok (.iload 4, 2) := by decide +kernel
theorem dX13_join_101 : decode cX13_join 101 = .ok (.iadd, 1) := by decide +kernel
theorem dX13_join_102 : decode cX13_join 102 = .ok (.aload_n 0, 1) := by decide +kernel
theorem dX13_join_103 : decode cX13_join 103 = .ok (.getfield 7, 3) := by decide +kernel
theorem dX13_join_106 : decode cX13_join 106 = .ok (.bipush 80, 2) := by decide +kernel
theorem dX13_join_108 : decode cX13_join 108 = .ok (.iload_n 1, 1) := by decide +kernel
theorem dX13_join_109 : decode cX13_join 109 = .ok (.iconst 1, 1) := by decide +kernel
theorem dX13_join_110 : decode cX13_join 110 = .ok (.iadd, 1) := by decide +kernel
theorem dX13_join_111 : decode cX13_join 111 = .ok (.imul, 1) := by decide +kernel
theorem dX13_join_112 : decode cX13_join 112 = .ok (.iload 4, 2) := by decide +kernel
theorem dX13_join_114 : decode cX13_join 114 = .ok (.iadd, 1) := by decide +kernel
theorem dX13_join_115 : decode cX13_join 115 = .ok (.iaload, 1) := by decide +kernel
theorem dX13_join_116 : decode cX13_join 116 = .ok (.iastore, 1) := by decide +kernel
theorem dX13_join_117 : decode cX13_join 117 = .ok (.iinc 4 1, 3) := by decide +kernel
theorem dX13_join_120 : decode cX13_join 120 = .ok (.goto (-44), 3) := by decide +kernel
theorem dX13_join_123 : decode cX13_join 123 = .ok (.aload_n 0, 1) := by decide +kernel
theorem dX13_join_124 : decode cX13_join 124 = .ok (.getfield 13, 3) := by decide +kernel
theorem dX13_join_127 : decode cX13_join 127 = .ok (.iload_n 1, 1) := by decide +kernel
theorem dX13_join_128 : decode cX13_join 128 = .ok (.dup2, 1) := by decide +kernel
theorem dX13_join_129 : decode cX13_join 129 = .ok (.iaload, 1) := by decide +kernel
theorem dX13_join_130 : decode cX13_join 130 = .ok (.aload_n 0, 1) := by decide +kernel
theorem dX13_join_131 : decode cX13_join 131 = .ok (.getfield 13, 3) := by decide +kernel
theorem dX13_join_134 : decode cX13_join 134 = .ok (.iload_n 1, 1) := by decide +kernel
theorem dX13_join_135 : decode cX13_join 135 = .ok (.iconst 1, 1) := by decide +kernel
theorem dX13_join_136 : decode cX13_join 136 = .ok (.iadd, 1) := by decide +kernel
theorem dX13_join_137 : decode cX13_join 137 = .ok (.iaload, 1) := by decide +kernel
theorem dX13_join_138 : decode cX13_join 138 = .ok (.iadd, 1) := by decide +kernel
theorem dX13_join_139 : decode cX13_join 139 = .ok (.iastore, 1) := by decide +kernel
theorem dX13_join_140 : decode cX13_join 140 = .ok (.aload_n 0, 1) := by decide +kernel
theorem dX13_join_141 : decode cX13_join 141 = .ok (.getfield 16, 3) := by decide +kernel
theorem dX13_join_144 : decode cX13_join 144 = .ok (.iload_n 1, 1) := by decide +kernel
theorem dX13_join_145 : decode cX13_join 145 = .ok (.aload_n 0, 1) := by decide +kernel
theorem dX13_join_146 : decode cX13_join 146 = .ok (.getfield 16, 3) := by decide +kernel
theorem dX13_join_149 : decode cX13_join 149 = .ok (.iload_n 1, 1) := by decide +kernel
theorem dX13_join_150 : decode cX13_join 150 = .ok (.baload, 1) := by decide +kernel
theorem dX13_join_151 : decode cX13_join 151 = .ok (.ifCond .ne 14, 3) := by decide +kernel
theorem dX13_join_154 : decode cX13_join 154 = .ok (.aload_n 0, 1) := by decide +kernel
theorem dX13_join_155 : decode cX13_join 155 = .ok (.getfield 16, 3) := by decide +kernel
theorem dX13_join_158 : decode cX13_join 158 = .ok (.iload_n 1, 1) := by decide +kernel
theorem dX13_join_159 : decode cX13_join 159 = .ok (.iconst 1, 1) := by decide +kernel
theorem dX13_join_160 : decode cX13_join 160 = .ok (.iadd, 1) := by decide +kernel
theorem dX13_join_161 : decode cX13_join 161 = .ok (.baload, 1) := by decide +kernel
theorem dX13_join_162 : decode cX13_join 162 = .ok (.ifCond .eq 7, 3) := by decide +kernel
theorem dX13_join_165 : decode cX13_join 165 = .ok (.iconst 1, 1) := by decide +kernel
theorem dX13_join_166 : decode cX13_join 166 = .ok (.goto 4, 3) := by decide +kernel
theorem dX13_join_169 : decode cX13_join 169 = .ok (.iconst 0, 1) := by decide +kernel
theorem dX13_join_170 : decode cX13_join 170 = .ok (.bastore, 1) := by decide +kernel
theorem dX13_join_171 : decode cX13_join 171 = .ok (.aload_n 0, 1) := by decide +kernel
theorem dX13_join_172 : decode cX13_join 172 = .ok (.dup, 1) := by decide +kernel
theorem dX13_join_173 : decode cX13_join 173 = .ok (.getfield 20, 3) := by decide +kernel
theorem dX13_join_176 : decode cX13_join 176 = .ok (.iconst 1, 1) := by decide +kernel
theorem dX13_join_177 : decode cX13_join 177 = .ok (.isub, 1) := by decide +kernel
theorem dX13_join_178 : decode cX13_join 178 = .ok (.putfield 20, 3) := by decide +kernel
theorem dX13_join_181 : decode cX13_join 181 = .ok (.iload_n 1, 1) := by decide +kernel
theorem dX13_join_182 : decode cX13_join 182 = .ok (.iconst 1, 1) := by decide +kernel
theorem dX13_join_183 : decode cX13_join 183 = .ok (.iadd, 1) := by decide +kernel
theorem dX13_join_184 : decode cX13_join 184 = .ok (.istore 4, 2) := by decide +kernel
theorem dX13_join_186 : decode cX13_join 186 = .ok (.iload 4, 2) := by decide +kernel
theorem dX13_join_188 : decode cX13_join 188 = .ok (.aload_n 0, 1) := by decide +kernel
theorem dX13_join_189 : decode cX13_join 189 = .ok (.getfield 20, 3) := by decide +kernel
theorem dX13_join_192 : decode cX13_join 192 = .ok (.if_icmp .ge 19, 3) := by decide +kernel
theorem dX13_join_195 : decode cX13_join 195 = .ok (.aload_n 0, 1) := by decide +kernel
theorem dX13_join_196 : decode cX13_join 196 = .ok (.iload 4, 2) := by decide +kernel
theorem dX13_join_198 : decode cX13_join 198 = .ok (.iconst 1, 1) := by decide +kernel
theorem dX13_join_199 : decode cX13_join 199 = .ok (.iadd, 1) := by decide +kernel
theorem dX13_join_200 : decode cX13_join 200 = .ok (.iload 4, 2) := by decide +kernel
theorem dX13_join_202 : decode cX13_join 202 = .ok (.invokevirtual 224, 3) := by decide +kernel
theorem dX13_join_205 : decode cX13_join 205 = .ok (.iinc 4 1, 3) := by decide +kernel
theorem dX13_join_208 : decode cX13_join 208 = .ok (.goto (-22), 3) := by decide +kernel
theorem dX13_join_211 : decode cX13_join 211 = .ok (.aload_n 0, 1) := by decide +kernel
theorem dX13_join_212 : decode cX13_join 212 = .ok (.iload_n 1, 1) := by decide +kernel
theorem dX13_join_213 : decode cX13_join 213 = .ok (.iload_n 3, 1) := by decide +kernel
theorem dX13_join_214 : decode cX13_join 214 = .ok (.invokevirtual 233, 3) := by decide +kernel
theorem dX13_join_217 : decode cX13_join 217 = .ok (.aload_n 0, 1) := by decide +kernel
theorem dX13_join_218 : decode cX13_join 218 = .ok (.getfield 13, 3) := by decide +kernel
theorem dX13_join_221 : decode cX13_join 221 = .ok (.iload_n 1, 1) := by decide +kernel
theorem dX13_join_222 : decode cX13_join 222 = .ok (.iaload, 1) := by decide +kernel
theorem dX13_join_223 : decode cX13_join 223 = .ok (.ireturn, 1) := by decide +kernel
theorem dX13_setMark_0 : decode cX13_setMark 0 = .ok (.aload_n 0, 1) := by decide +kernel
theorem dX13_setMark_1 : decode cX13_setMark 1 = .ok (.aload_n 0, 1) := by decide +kernel
theorem dX13_setMark_2 : decode cX13_setMark 2 = .ok (.iload_n 1, 1) := by decide +kernel
theorem dX13_setMark_3 : decode cX13_setMark 3 = .ok (.invokevirtual 191, 3) := by decide +kernel
theorem dX13_setMark_6 : decode cX13_setMark 6 = .ok (.ifCond .eq 7, 3) := by decide +kernel
theorem dX13_setMark_9 : decode cX13_setMark 9 = .ok (.iconst 0, 1) := by decide +kernel
theorem dX13_setMark_10 : decode cX13_setMark 10 = .ok (.goto 4, 3) := by decide +kernel
theorem dX13_setMark_13 : decode cX13_setMark 13 = .ok (.iconst 1, 1) := by decide +kernel
theorem dX13_setMark_14 : decode cX13_setMark 14 = .ok (.invokevirtual 195, 3) := by decide +kernel
theorem dX13_setMark_17 : decode cX13_setMark 17 = .ok (.ifCond .ne 5, 3) := by decide +kernel
theorem dX13_setMark_20 : decode cX13_setMark 20 = .ok (.iconst 0, 1) := by decide +kernel
theorem dX13_setMark_21 : decode cX13_setMark 21 = .ok (.ireturn, 1) := by decide +kernel
theorem dX13_setMark_22 : decode cX13_setMark 22 = .ok (.aload_n 0, 1) := by decide +kernel
theorem dX13_setMark_23 : decode cX13_setMark 23 = .ok (.getfield 16, 3) := by decide +kernel
theorem dX13_setMark_26 : decode cX13_setMark 26 = .ok (.iload_n 1, 1) := by decide +kernel
theorem dX13_setMark_27 : decode cX13_setMark 27 = .ok (.baload, 1) := by decide +kernel
theorem dX13_setMark_28 : decode cX13_setMark 28 = .ok (.istore_n 3, 1) := by decide +kernel
theorem dX13_setMark_29 : decode cX13_setMark 29 = .ok (.aload_n 0, 1) := by decide +kernel
theorem dX13_setMark_30 : decode cX13_setMark 30 = .ok (.getfield 16, 3) := by decide +kernel
theorem dX13_setMark_33 : decode cX13_setMark 33 = .ok (.iload_n 1, 1) := by decide +kernel
theorem dX13_setMark_34 : decode cX13_setMark 34 = .ok (.iload_n 2, 1) := by decide +kernel
theorem dX13_setMark_35 : decode cX13_setMark 35 = .ok (.bastore, 1) := by decide +kernel
theorem dX13_setMark_36 : decode cX13_setMark 36 = .ok (.iload_n 3, 1) := by decide +kernel
theorem dX13_setMark_37 : decode cX13_setMark 37 = .ok (.ireturn, 1) := by decide +kernel
theorem dX13_shape_0 : decode cX13_shape 0 = .ok (.iload_n 2, 1) := by decide +kernel
theorem dX13_shape_1 : decode cX13_shape 1 = .ok (.bipush 10, 2) := by decide +kernel
theorem dX13_shape_3 : decode cX13_shape 3 = .ok (.bipush 40, 2) := by decide +kernel
theorem dX13_shape_5 : decode cX13_shape 5 = .ok (.invokestatic 187, 3) := by decide +kernel
theorem dX13_shape_8 : decode cX13_shape 8 = .ok (.ifCond .eq 26, 3) := by decide +kernel
theorem dX13_shape_11 : decode cX13_shape 11 = .ok (.iload_n 3, 1) := by decide +kernel
theorem dX13_shape_12 : decode cX13_shape 12 = .ok (.iconst 0, 1) := by decide +kernel
theorem dX13_shape_13 : decode cX13_shape 13 = .ok (.iconst 4, 1) := by decide +kernel
theorem dX13_shape_14 : decode cX13_shape 14 = .ok (.invokestatic 187, 3) := by decide +kernel
theorem dX13_shape_17 : decode cX13_shape 17 = .ok (.ifCond .eq 17, 3) := by decide +kernel
theorem dX13_shape_20 : decode cX13_shape 20 = .ok (.iload 4, 2) := by decide +kernel
theorem dX13_shape_22 : decode cX13_shape 22 = .ok (.iconst 0, 1) := by decide +kernel
theorem dX13_shape_23 : decode cX13_shape 23 = .ok (.iconst 3, 1) := by decide +kernel
theorem dX13_shape_24 : decode cX13_shape 24 = .ok (.invokestatic 187, 3) := by decide +kernel
theorem dX13_shape_27 : decode cX13_shape 27 = .ok (.ifCond .eq 7, 3) := by decide +kernel
theorem dX13_shape_30 : decode cX13_shape 30 = .ok (.iconst 1, 1) := by decide +kernel
theorem dX13_shape_31 : decode cX13_shape 31 = .ok (.goto 4, 3) := by decide +kernel
theorem dX13_shape_34 : decode cX13_shape 34 = .ok (.iconst 0, 1) := by decide +kernel
theorem dX13_shape_35 : decode cX13_shape 35 = .ok (.istore 5, 2) := by decide +kernel
theorem dX13_shape_37 : decode cX13_shape 37 = .ok (.aload_n 0, 1) := by decide +kernel
theorem dX13_shape_38 : decode cX13_shape 38 = .ok (.iload_n 1, 1) := by decide +kernel
theorem dX13_shape_39 : decode cX13_shape 39 = .ok (.invokestatic 236, 3) := by decide +kernel
theorem dX13_shape_42 : decode cX13_shape 42 = .ok (.ifCond .ne 7, 3) := by decide +kernel
theorem dX13_shape_45 : decode cX13_shape 45 = .ok (.iconst 1, 1) := by decide +kernel
theorem dX13_shape_46 : decode cX13_shape 46 = .ok (.goto 13, 3) := by decide +kernel
theorem dX13_shape_49 : decode cX13_shape 49 = .ok (.iload 5, 2) := by decide +kernel
theorem dX13_shape_51 : decode cX13_shape 51 = .ok (.ifCond .ne 7, 3) := by decide +kernel
theorem dX13_shape_54 : decode cX13_shape 54 = .ok (.iconst 2, 1) := by decide +kernel
theorem dX13_shape_55 : decode cX13_shape 55 = .ok (.goto 4, 3) := by decide +kernel
theorem dX13_shape_58 : decode cX13_shape 58 = .ok (.iconst 0, 1) := by decide +kernel
theorem dX13_shape_59 : decode cX13_shape 59 = .ok (.invokevirtual 195, 3) := by decide +kernel
theorem dX13_shape_62 : decode cX13_shape 62 = .ok (.ifCond .eq 25, 3) := by decide +kernel
theorem dX13_shape_65 : decode cX13_shape 65 = .ok (.aload_n 0, 1) := by decide +kernel
theorem dX13_shape_66 : decode cX13_shape 66 = .ok (.getfield 24, 3) := by decide +kernel
theorem dX13_shape_69 : decode cX13_shape 69 = .ok (.iload_n 1, 1) := by decide +kernel
theorem dX13_shape_70 : decode cX13_shape 70 = .ok (.iload_n 2, 1) := by decide +kernel
theorem dX13_shape_71 : decode cX13_shape 71 = .ok (.iastore, 1) := by decide +kernel
theorem dX13_shape_72 : decode cX13_shape 72 = .ok (.aload_n 0, 1) := by decide +kernel
theorem dX13_shape_73 : decode cX13_shape 73 = .ok (.getfield 27, 3) := by decide +kernel
theorem dX13_shape_76 : decode cX13_shape 76 = .ok (.iload_n 1, 1) := by decide +kernel
theorem dX13_shape_77 : decode cX13_shape 77 = .ok (.iload_n 3, 1) := by decide +kernel
theorem dX13_shape_78 : decode cX13_shape 78 = .ok (.iastore, 1) := by decide +kernel
theorem dX13_shape_79 : decode cX13_shape 79 = .ok (.aload_n 0, 1) := by decide +kernel
theorem dX13_shape_80 : decode cX13_shape 80 = .ok (.getfield 30, 3) := by decide +kernel
theorem dX13_shape_83 : decode cX13_shape 83 = .ok (.iload_n 1, 1) := by decide +kernel
theorem dX13_shape_84 : decode cX13_shape 84 = .ok (.iload 4, 2) := by decide +kernel
theorem dX13_shape_86 : decode cX13_shape 86 = .ok (.iastore, 1) := by decide +kernel
theorem dX13_shape_87 : decode cX13_shape 87 = .ok (.return_, 1) := by decide +kernel
theorem dX13_hide_0 : decode cX13_hide 0 = .ok (.iload_n 1, 1) := by decide +kernel
theorem dX13_hide_1 : decode cX13_hide 1 = .ok (.invokestatic 236, 3) := by decide +kernel
theorem dX13_hide_4 : decode cX13_hide 4 = .ok (.ifCond .eq 15, 3) := by decide +kernel
theorem dX13_hide_7 : decode cX13_hide 7 = .ok (.aload_n 0, 1) := by decide +kernel
theorem dX13_hide_8 : decode cX13_hide 8 = .ok (.iload_n 2, 1) := by decide +kernel
theorem dX13_hide_9 : decode cX13_hide 9 = .ok (.invokevirtual 191, 3) := by decide +kernel
theorem dX13_hide_12 : decode cX13_hide 12 = .ok (.ifCond .eq 7, 3) := by decide +kernel
theorem dX13_hide_15 : decode cX13_hide 15 = .ok (.iconst 1, 1) := by decide +kernel
theorem dX13_hide_16 : decode cX13_hide 16 = .ok (.goto 4, 3) := by decide +kernel
theorem dX13_hide_19 : decode cX13_hide 19 = .ok (.iconst 0, 1) := by decide +kernel
theorem dX13_hide_20 : decode cX13_hide 20 = .ok (.istore 5, 2) := by decide +kernel
theorem dX13_hide_22 : decode cX13_hide 22 = .ok (.iload 5, 2) := by decide +kernel
theorem dX13_hide_24 : decode cX13_hide 24 = .ok (.ifCond .eq 34, 3) := by decide +kernel
theorem dX13_hide_27 : decode cX13_hide 27 = .ok (.iload 4, 2) := by decide +kernel
theorem dX13_hide_29 : decode cX13_hide 29 = .ok (.iconst 1, 1) := by decide +kernel
theorem dX13_hide_30 : decode cX13_hide 30 = .ok (.aload_n 0, 1) := by decide +kernel
theorem dX13_hide_31 : decode cX13_hide 31 = .ok (.getfield 13, 3) := by decide +kernel
theorem dX13_hide_34 : decode cX13_hide 34 = .ok (.iload_n 2, 1) := by decide +kernel
theorem dX13_hide_35 : decode cX13_hide 35 = .ok (.iaload, 1) := by decide +kernel
theorem dX13_hide_36 : decode cX13_hide 36 = .ok (.invokestatic 187, 3) := by decide +kernel
theorem dX13_hide_39 : decode cX13_hide 39 = .ok (.ifCond .eq 19, 3) := by decide +kernel
theorem dX13_hide_42 : decode cX13_hide 42 = .ok (.iload_n 3, 1) := by decide +kernel
theorem dX13_hide_43 : decode cX13_hide 43 = .ok (.iconst 0, 1) := by decide +kernel
theorem dX13_hide_44 : decode cX13_hide 44 = .ok (.iload 4, 2) := by decide +kernel
theorem dX13_hide_46 : decode cX13_hide 46 = .ok (.iconst 1, 1) := by decide +kernel
theorem dX13_hide_47 : decode cX13_hide 47 = .ok (.isub, 1) := by decide +kernel
theorem dX13_hide_48 : decode cX13_hide 48 = .ok (.invokestatic 187, 3) := by decide +kernel
theorem dX13_hide_51 : decode cX13_hide 51 = .ok (.ifCond .eq 7, 3) := by decide +kernel
theorem dX13_hide_54 : decode cX13_hide 54 = .ok (.iconst 1, 1) := by decide +kernel
theorem dX13_hide_55 : decode cX13_hide 55 = .ok (.goto 4, 3) := by decide +kernel
theorem dX13_hide_58 : decode cX13_hide 58 = .ok (.iconst 0, 1) := by decide +kernel
theorem dX13_hide_59 : decode cX13_hide 59 = .ok (.istore 6, 2) := by decide +kernel
theorem dX13_hide_61 : decode cX13_hide 61 = .ok (.aload_n 0, 1) := by decide +kernel
theorem dX13_hide_62 : decode cX13_hide 62 = .ok (.iload 5, 2) := by decide +kernel
theorem dX13_hide_64 : decode cX13_hide 64 = .ok (.ifCond .ne 7, 3) := by decide +kernel
theorem dX13_hide_67 : decode cX13_hide 67 = .ok (.iconst 1, 1) := by decide +kernel
theorem dX13_hide_68 : decode cX13_hide 68 = .ok (.goto 28, 3) := by decide +kernel
theorem dX13_hide_71 : decode cX13_hide 71 = .ok (.iload 6, 2) := by decide +kernel
theorem dX13_hide_73 : decode cX13_hide 73 = .ok (.ifCond .ne 7, 3) := by decide +kernel
theorem dX13_hide_76 : decode cX13_hide 76 = .ok (.iconst 2, 1) := by decide +kernel
theorem dX13_hide_77 : decode cX13_hide 77 = .ok (.goto 19, 3) := by decide +kernel
theorem dX13_hide_80 : decode cX13_hide 80 = .ok (.aload_n 0, 1) := by decide +kernel
theorem dX13_hide_81 : decode cX13_hide 81 = .ok (.getfield 45, 3) := by decide +kernel
theorem dX13_hide_84 : decode cX13_hide 84 = .ok (.iload_n 1, 1) := by decide +kernel
theorem dX13_hide_85 : decode cX13_hide 85 = .ok (.iaload, 1) := by decide +kernel
theorem dX13_hide_86 : decode cX13_hide 86 = .ok (.bipush 6, 2) := by decide +kernel
theorem dX13_hide_88 : decode cX13_hide 88 = .ok (.if_icmp .ne 7, 3) := by decide +kernel
theorem dX13_hide_91 : decode cX13_hide 91 = .ok (.iconst 3, 1) := by decide +kernel
theorem dX13_hide_92 : decode cX13_hide 92 = .ok (.goto 4, 3) := by decide +kernel
theorem dX13_hide_95 : decode cX13_hide 95 = .ok (.iconst 0, 1) := by decide +kernel
theorem dX13_hide_96 : decode cX13_hide 96 = .ok (.invokevirtual 195, 3) := by decide +kernel
theorem dX13_hide_99 : decode cX13_hide 99 = .ok (.ifCond .ne 5, 3) := by decide +kernel
theorem dX13_hide_102 : decode cX13_hide 102 = .ok (.iconst 0, 1) := by decide +kernel
theorem dX13_hide_103 : decode cX13_hide 103 = .ok (.ireturn, 1) := by decide +kernel
theorem dX13_hide_104 : decode cX13_hide 104 = .ok (.bipush 6, 2) := by decide +kernel
theorem dX13_hide_106 : decode cX13_hide 106 = .ok (.iload_n 1, 1) := by decide +kernel
theorem dX13_hide_107 : decode cX13_hide 107 = .ok (.imul, 1) := by decide +kernel
theorem dX13_hide_108 : decode cX13_hide 108 = .ok (.aload_n 0, 1) := by decide +kernel
theorem dX13_hide_109 : decode cX13_hide 109 = .ok (.getfield 45, 3) := by decide +kernel
theorem dX13_hide_112 : decode cX13_hide 112 = .ok (.iload_n 1, 1) := by decide +kernel
theorem dX13_hide_113 : decode cX13_hide 113 = .ok (.iaload, 1) := by decide +kernel
theorem dX13_hide_114 : decode cX13_hide 114 = .ok (.iadd, 1) := by decide +kernel
theorem dX13_hide_115 : decode cX13_hide 115 = .ok (.istore 7, 2) := by decide +kernel
theorem dX13_hide_117 : decode cX13_hide 117 = .ok (.aload_n 0, 1) := by decide +kernel
theorem dX13_hide_118 : decode cX13_hide 118 = .ok (.getfield 48, 3) := by decide +kernel
theorem dX13_hide_121 : decode cX13_hide 121 = .ok (.iload 7, 2) := by decide +kernel
theorem dX13_hide_123 : decode cX13_hide 123 = .ok (.iload_n 2, 1) := by decide +kernel
theorem dX13_hide_124 : decode cX13_hide 124 = .ok (.iastore, 1) := by decide +kernel
theorem dX13_hide_125 : decode cX13_hide 125 = .ok (.aload_n 0, 1) := by decide +kernel
theorem dX13_hide_126 : decode cX13_hide 126 = .ok (.getfield 51, 3) := by decide +kernel
theorem dX13_hide_129 : decode cX13_hide 129 = .ok (.iload 7, 2) := by decide +kernel
theorem dX13_hide_131 : decode cX13_hide 131 = .ok (.iload_n 3, 1) := by decide +kernel
theorem dX13_hide_132 : decode cX13_hide 132 = .ok (.iastore, 1) := by decide +kernel
theorem dX13_hide_133 : decode cX13_hide 133 = .ok (.aload_n 0, 1) := by decide +kernel
theorem dX13_hide_134 : decode cX13_hide 134 = .ok (.getfield 54, 3) := by decide +kernel
theorem dX13_hide_137 : decode cX13_hide 137 = .ok (.iload 7, 2) := by decide +kernel
theorem dX13_hide_139 : decode cX13_hide 139 = .ok (.iload 4, 2) := by decide +kernel
theorem dX13_hide_141 : decode cX13_hide 141 = .ok (.iastore, 1) := by decide +kernel
theorem dX13_hide_142 : decode cX13_hide 142 = .ok (.aload_n 0, 1) := by decide +kernel
theorem dX13_hide_143 : decode cX13_hide 143 = .ok (.getfield 45, 3) := by decide +kernel
theorem dX13_hide_146 : decode cX13_hide 146 = .ok (.iload_n 1, 1) := by decide +kernel
theorem dX13_hide_147 : decode cX13_hide 147 = .ok (.dup2, 1) := by decide +kernel
theorem dX13_hide_148 : decode cX13_hide 148 = .ok (.iaload, 1) := by decide +kernel
theorem dX13_hide_149 : decode cX13_hide 149 = .ok (.iconst 1, 1) := by decide +kernel
theorem dX13_hide_150 : decode cX13_hide 150 = .ok (.iadd, 1) := by decide +kernel
theorem dX13_hide_151 : decode cX13_hide 151 = .ok (.iastore, 1) := by decide +kernel
theorem dX13_hide_152 : decode cX13_hide 152 = .ok (.aload_n 0, 1) := by decide +kernel
theorem dX13_hide_153 : decode cX13_hide 153 = .ok (.getfield 45, 3) := by decide +kernel
theorem dX13_hide_156 : decode cX13_hide 156 = .ok (.iload_n 1, 1) := by decide +kernel
theorem dX13_hide_157 : decode cX13_hide 157 = .ok (.iaload, 1) := by decide +kernel
theorem dX13_hide_158 : decode cX13_hide 158 = .ok (.ireturn, 1) := by decide +kernel
theorem dX13_show_0 : decode cX13_show 0 = .ok (.iload_n 1, 1) := by decide +kernel
theorem dX13_show_1 : decode cX13_show 1 = .ok (.invokestatic 236, 3) := by decide +kernel
theorem dX13_show_4 : decode cX13_show 4 = .ok (.ifCond .eq 23, 3) := by decide +kernel
theorem dX13_show_7 : decode cX13_show 7 = .ok (.iload_n 2, 1) := by decide +kernel
theorem dX13_show_8 : decode cX13_show 8 = .ok (.iconst 0, 1) := by decide +kernel
theorem dX13_show_9 : decode cX13_show 9 = .ok (.aload_n 0, 1) := by decide +kernel
theorem dX13_show_10 : decode cX13_show 10 = .ok (.getfield 45, 3) := by decide +kernel
theorem dX13_show_13 : decode cX13_show 13 = .ok (.iload_n 1, 1) := by decide +kernel
theorem dX13_show_14 : decode cX13_show 14 = .ok (.iaload, 1) := by decide +kernel
theorem dX13_show_15 : decode cX13_show 15 = .ok (.iconst 1, 1) := by decide +kernel
theorem dX13_show_16 : decode cX13_show 16 = .ok (.isub, 1) := by decide +kernel
theorem dX13_show_17 : decode cX13_show 17 = .ok (.invokestatic 187, 3) := by decide +kernel
theorem dX13_show_20 : decode cX13_show 20 = .ok (.ifCond .eq 7, 3) := by decide +kernel
theorem dX13_show_23 : decode cX13_show 23 = .ok (.iconst 1, 1) := by decide +kernel
theorem dX13_show_24 : decode cX13_show 24 = .ok (.goto 4, 3) := by decide +kernel
theorem dX13_show_27 : decode cX13_show 27 = .ok (.iconst 0, 1) := by decide +kernel
theorem dX13_show_28 : decode cX13_show 28 = .ok (.istore_n 3, 1) := by decide +kernel
theorem dX13_show_29 : decode cX13_show 29 = .ok (.aload_n 0, 1) := by decide +kernel
theorem dX13_show_30 : decode cX13_show 30 = .ok (.iload_n 3, 1) := by decide +kernel
theorem dX13_show_31 : decode cX13_show 31 = .ok (.ifCond .eq 7, 3) := by decide +kernel
theorem dX13_show_34 : decode cX13_show 34 = .ok (.iconst 0, 1) := by decide +kernel
theorem dX13_show_35 : decode cX13_show 35 = .ok (.goto 4, 3) := by decide +kernel
theorem dX13_show_38 : decode cX13_show 38 = .ok (.iconst 1, 1) := by decide +kernel
theorem dX13_show_39 : decode cX13_show 39 = .ok (.invokevirtual 195, 3) := by decide +kernel
theorem dX13_show_42 : decode cX13_show 42 = .ok (.ifCond .ne 5, 3) := by decide +kernel
theorem dX13_show_45 : decode cX13_show 45 = .ok (.iconst 0, 1) := by decide +kernel
theorem dX13_show_46 : decode cX13_show 46 = .ok (.ireturn, 1) := by decide +kernel
theorem dX13_show_47 : decode cX13_show 47 = .ok (.aload_n 0, 1) := by decide +kernel
theorem dX13_show_48 : decode cX13_show 48 = .ok (.iload_n 1, 1) := by decide +kernel
theorem dX13_show_49 : decode cX13_show 49 = .ok (.iload_n 2, 1) := by decide +kernel
theorem dX13_show_50 : decode cX13_show 50 = .ok (.invokevirtual 205, 3) := by decide +kernel
theorem dX13_show_53 : decode cX13_show 53 = .ok (.aload_n 0, 1) := by decide +kernel
theorem dX13_show_54 : decode cX13_show 54 = .ok (.getfield 45, 3) := by decide +kernel
theorem dX13_show_57 : decode cX13_show 57 = .ok (.iload_n 1, 1) := by decide +kernel
theorem dX13_show_58 : decode cX13_show 58 = .ok (.iaload, 1) := by decide +kernel
theorem dX13_show_59 : decode cX13_show 59 = .ok (.ireturn, 1) := by decide +kernel
theorem dX13_countOf_0 : decode cX13_countOf 0 = .ok (.iconst 0, 1) := by decide +kernel
theorem dX13_countOf_1 : decode cX13_countOf 1 = .ok (.istore_n 2, 1) := by decide +kernel
theorem dX13_countOf_2 : decode cX13_countOf 2 = .ok (.iconst 1, 1) := by decide +kernel
theorem dX13_countOf_3 : decode cX13_countOf 3 = .ok (.istore_n 3, 1) := by decide +kernel
theorem dX13_countOf_4 : decode cX13_countOf 4 = .ok (.iconst 0, 1) := by decide +kernel
theorem dX13_countOf_5 : decode cX13_countOf 5 = .ok (.istore 4, 2) := by decide +kernel
theorem dX13_countOf_7 : decode cX13_countOf 7 = .ok (.iload 4, 2) := by decide +kernel
theorem dX13_countOf_9 : decode cX13_countOf 9 = .ok (.bipush 64, 2) := by decide +kernel
theorem dX13_countOf_11 : decode cX13_countOf 11 = .ok (.if_icmp .ge 69, 3) := by decide +kernel
theorem dX13_countOf_14 : decode cX13_countOf 14 = .ok (.lload_n 0, 1) := by decide +kernel
theorem dX13_countOf_15 : decode cX13_countOf 15 = .ok (.iload 4, 2) := by decide +kernel
theorem dX13_countOf_17 : decode cX13_countOf 17 = .ok (.lshr, 1) := by decide +kernel
theorem dX13_countOf_18 : decode cX13_countOf 18 = .ok (.ldc2_w 239, 3) := by decide +kernel
theorem dX13_countOf_21 : decode cX13_countOf 21 = .ok (.land, 1) := by decide +kernel
theorem dX13_countOf_22 : decode cX13_countOf 22 = .ok (.l2i, 1) := by decide +kernel
theorem dX13_countOf_23 : decode cX13_countOf 23 = .ok (.istore 5, 2) := by decide +kernel
theorem dX13_countOf_25 : decode cX13_countOf 25 = .ok (.iload_n 3, 1) := by decide +kernel
theorem dX13_countOf_26 : decode cX13_countOf 26 = .ok (.ifCond .eq 33, 3) := by decide +kernel
theorem dX13_countOf_29 : decode cX13_countOf 29 = .ok (.iload 5, 2) := by decide +kernel
theorem dX13_countOf_31 : decode cX13_countOf 31 = .ok (.ifCond .eq 24, 3) := by decide +kernel
theorem dX13_countOf_34 : decode cX13_countOf 34 = .ok (.iload_n 2, 1) := by decide +kernel
theorem dX13_countOf_35 : decode cX13_countOf 35 = .ok (.iload 4, 2) := by decide +kernel
theorem dX13_countOf_37 : decode cX13_countOf 37 = .ok (.bipush 8, 2) := by decide +kernel
theorem dX13_countOf_39 : decode cX13_countOf 39 = .ok (.idiv, 1) := by decide +kernel
theorem dX13_countOf_40 : decode cX13_countOf 40 = .ok (.if_icmp .ne 19, 3) := by decide +kernel
theorem dX13_countOf_43 : decode cX13_countOf 43 = .ok (.iload 5, 2) := by decide +kernel
theorem dX13_countOf_45 : decode cX13_countOf 45 = .ok (.bipush 32, 2) := by decide +kernel
theorem dX13_countOf_47 : decode cX13_countOf 47 = .ok (.bipush 125, 2) := by decide +kernel
theorem dX13_countOf_49 : decode cX13_countOf 49 = .ok (.invokestatic 187, 3) := by decide +kernel
theorem dX13_countOf_52 : decode cX13_countOf 52 = .ok (.ifCond .eq 7, 3) := by decide +kernel
theorem dX13_countOf_55 : decode cX13_countOf 55 = .ok (.iconst 1, 1) := by decide +kernel
theorem dX13_countOf_56 : decode cX13_countOf 56 = .ok (.goto 4, 3) := by decide +kernel
theorem dX13_countOf_59 : decode cX13_countOf 59 = .ok (.iconst 0, 1) := by decide +kernel
theorem dX13_countOf_60 : decode cX13_countOf 60 = .ok (.istore_n 3, 1) := by decide +kernel
theorem dX13_countOf_61 : decode cX13_countOf 61 = .ok (.iload_n 2, 1) := by decide +kernel
theorem dX13_countOf_62 : decode cX13_countOf 62 = .ok (.iload 5, 2) := by decide +kernel
theorem dX13_countOf_64 : decode cX13_countOf 64 = .ok (.ifCond .ne 7, 3) := by decide +kernel
theorem dX13_countOf_67 : decode cX13_countOf 67 = .ok (.iconst 0, 1) := by decide +kernel
theorem dX13_countOf_68 : decode cX13_countOf 68 = .ok (.goto 4, 3) := by decide +kernel
theorem dX13_countOf_71 : decode cX13_countOf 71 = .ok (.iconst 1, 1) := by decide +kernel
theorem dX13_countOf_72 : decode cX13_countOf 72 = .ok (.iadd, 1) := by decide +kernel
theorem dX13_countOf_73 : decode cX13_countOf 73 = .ok (.istore_n 2, 1) := by decide +kernel
theorem dX13_countOf_74 : decode cX13_countOf 74 = .ok (.iinc 4 8, 3) := by decide +kernel
theorem dX13_countOf_77 : decode cX13_countOf 77 = .ok (.goto (-70), 3) := by decide +kernel
theorem dX13_countOf_80 : decode cX13_countOf 80 = .ok (.iload_n 3, 1) := by decide +kernel
theorem dX13_countOf_81 : decode cX13_countOf 81 = .ok (.ifCond .eq 7, 3) := by decide +kernel
theorem dX13_countOf_84 : decode cX13_countOf 84 = .ok (.iload_n 2, 1) := by decide +kernel
theorem dX13_countOf_85 : decode cX13_countOf 85 = .ok (.goto 4, 3) := by decide +kernel
theorem dX13_countOf_88 : decode cX13_countOf 88 = .ok (.iconst 0, 1) := by decide +kernel
theorem dX13_countOf_89 : decode cX13_countOf 89 = .ok (.ireturn, 1) := by decide +kernel
theorem dX13_addVirtual_0 : decode cX13_addVirtual 0 = .ok (.iload_n 1, 1) := by decide +kernel
theorem dX13_addVirtual_1 : decode cX13_addVirtual 1 = .ok (.invokestatic 236, 3) := by decide +kernel
theorem dX13_addVirtual_4 : decode cX13_addVirtual 4 = .ok (.ifCond .eq 15, 3) := by decide +kernel
theorem dX13_addVirtual_7 : decode cX13_addVirtual 7 = .ok (.aload_n 0, 1) := by decide +kernel
theorem dX13_addVirtual_8 : decode cX13_addVirtual 8 = .ok (.iload_n 2, 1) := by decide +kernel
theorem dX13_addVirtual_9 : decode cX13_addVirtual 9 = .ok (.invokevirtual 191, 3) := by decide +kernel
theorem dX13_addVirtual_12 : decode cX13_addVirtual 12 = .ok (.ifCond .eq 7, 3) := by decide +kernel
theorem dX13_addVirtual_15 : decode cX13_addVirtual 15 = .ok (.iconst 1, 1) := by decide +kernel
theorem dX13_addVirtual_16 : decode cX13_addVirtual 16 = .ok (.goto 4, 3) := by decide +kernel
theorem dX13_addVirtual_19 : decode cX13_addVirtual 19 = .ok (.iconst 0, 1) := by decide +kernel
theorem dX13_addVirtual_20 : decode cX13_addVirtual 20 = .ok (.istore 6, 2) := by decide +kernel
theorem dX13_addVirtual_22 : decode cX13_addVirtual 22 = .ok (.iload 6, 2) := by decide +kernel
theorem dX13_addVirtual_24 : decode cX13_addVirtual 24 = .ok (.ifCond .eq 29, 3) := by decide +kernel
theorem dX13_addVirtual_27 : decode cX13_addVirtual 27 = .ok (.iload_n 3, 1) := by decide +kernel
theorem dX13_addVirtual_28 : decode cX13_addVirtual 28 = .ok (.iconst 0, 1) := by decide +kernel
theorem dX13_addVirtual_29 : decode cX13_addVirtual 29 = .ok (.aload_n 0, 1) := by decide +kernel
theorem dX13_addVirtual_30 : decode cX13_addVirtual 30 = .ok (.getfield 13, 3) := by decide +kernel
theorem dX13_addVirtual_33 : decode cX13_addVirtual 33 = .ok (.iload_n 2, 1) := by decide +kernel
theorem dX13_addVirtual_34 : decode cX13_addVirtual 34 = .ok (.iaload, 1) := by decide +kernel
theorem dX13_addVirtual_35 : decode cX13_addVirtual 35 = .ok (.invokestatic 187, 3) := by decide +kernel
theorem dX13_addVirtual_38 : decode cX13_addVirtual 38 = .ok (.ifCond .eq 15, 3) := by decide +kernel
theorem dX13_addVirtual_41 : decode cX13_addVirtual 41 = .ok (.lload 4, 2) := by decide +kernel
theorem dX13_addVirtual_43 : decode cX13_addVirtual 43 = .ok (.invokestatic 241, 3) := by decide +kernel
theorem dX13_addVirtual_46 : decode cX13_addVirtual 46 = .ok (.ifCond .le 7, 3) := by decide +kernel
theorem dX13_addVirtual_49 : decode cX13_addVirtual 49 = .ok (.iconst 1, 1) := by decide +kernel
theorem dX13_addVirtual_50 : decode cX13_addVirtual 50 = .ok (.goto 4, 3) := by decide +kernel
theorem dX13_addVirtual_53 : decode cX13_addVirtual 53 = .ok (.iconst 0, 1) := by decide +kernel
theorem dX13_addVirtual_54 : decode cX13_addVirtual 54 = .ok (.istore 7, 2) := by decide +kernel
theorem dX13_addVirtual_56 : decode cX13_addVirtual 56 = .ok (.aload_n 0, 1) := by decide +kernel
theorem dX13_addVirtual_57 : decode cX13_addVirtual 57 = .ok (.iload 6, 2) := by decide +kernel
theorem dX13_addVirtual_59 : decode cX13_addVirtual 59 = .ok (.ifCond .ne 7, 3) := by decide +kernel
theorem dX13_addVirtual_62 : decode cX13_addVirtual 62 = .ok (.iconst 1, 1) := by decide +kernel
theorem dX13_addVirtual_63 : decode cX13_addVirtual 63 = .ok (.goto 28, 3) := by decide +kernel
theorem dX13_addVirtual_66 : decode cX13_addVirtual 66 = .ok (.iload 7, 2) := by decide +kernel
theorem dX13_addVirtual_68 : decode cX13_addVirtual 68 = .ok (.ifCond .ne 7, 3) := by decide +kernel
theorem dX13_addVirtual_71 : decode cX13_addVirtual 71 = .ok (.iconst 2, 1) := by decide +kernel
theorem dX13_addVirtual_72 : decode cX13_addVirtual 72 = .ok (.goto 19, 3) := by decide +kernel
theorem dX13_addVirtual_75 : decode cX13_addVirtual 75 = .ok (.aload_n 0, 1) := by decide +kernel
theorem dX13_addVirtual_76 : decode cX13_addVirtual 76 = .ok (.getfield 57, 3) := by decide +kernel
theorem dX13_addVirtual_79 : decode cX13_addVirtual 79 = .ok (.iload_n 1, 1) := by decide +kernel
theorem dX13_addVirtual_80 : decode cX13_addVirtual 80 = .ok (.iaload, 1) := by decide +kernel
theorem dX13_addVirtual_81 : decode cX13_addVirtual 81 = .ok (.bipush 6, 2) := by decide +kernel
theorem dX13_addVirtual_83 : decode cX13_addVirtual 83 = .ok (.if_icmp .ne 7, 3) := by decide +kernel
theorem dX13_addVirtual_86 : decode cX13_addVirtual 86 = .ok (.iconst 3, 1) := by decide +kernel
theorem dX13_addVirtual_87 : decode cX13_addVirtual 87 = .ok (.goto 4, 3) := by decide +kernel
theorem dX13_addVirtual_90 : decode cX13_addVirtual 90 = .ok (.iconst 0, 1) := by decide +kernel
theorem dX13_addVirtual_91 : decode cX13_addVirtual 91 = .ok (.invokevirtual 195, 3) := by decide +kernel
theorem dX13_addVirtual_94 : decode cX13_addVirtual 94 = .ok (.ifCond .ne 5, 3) := by decide +kernel
theorem dX13_addVirtual_97 : decode cX13_addVirtual 97 = .ok (.iconst 0, 1) := by decide +kernel
theorem dX13_addVirtual_98 : decode cX13_addVirtual 98 = .ok (.ireturn, 1) := by decide +kernel
theorem dX13_addVirtual_99 : decode cX13_addVirtual 99 = .ok (.bipush 6, 2) := by decide +kernel
theorem dX13_addVirtual_101 : decode cX13_addVirtual 101 = .ok (.iload_n 1, 1) := by decide +kernel
theorem dX13_addVirtual_102 : decode cX13_addVirtual 102 = .ok (.imul, 1) := by decide +kernel
theorem dX13_addVirtual_103 : decode cX13_addVirtual 103 = .ok (.aload_n 0, 1) := by decide +kernel
theorem dX13_addVirtual_104 : decode cX13_addVirtual 104 = .ok (.getfield 57, 3) := by decide +kernel
theorem dX13_addVirtual_107 : decode cX13_addVirtual 107 = .ok (.iload_n 1, 1) := by decide +kernel
theorem dX13_addVirtual_108 : decode cX13_addVirtual 108 = .ok (.iaload, 1) := by decide +kernel
theorem dX13_addVirtual_109 : decode cX13_addVirtual 109 = .ok (.iadd, 1) := by decide +kernel
theorem dX13_addVirtual_110 : decode cX13_addVirtual 110 = .ok (.istore 8, 2) := by decide +kernel
theorem dX13_addVirtual_112 : decode cX13_addVirtual 112 = .ok (.aload_n 0, 1) := by decide +kernel
theorem dX13_addVirtual_113 : decode cX13_addVirtual 113 = .ok (.getfield 60, 3) := by decide +kernel
theorem dX13_addVirtual_116 : decode cX13_addVirtual 116 = .ok (.iload 8, 2) := by decide +kernel
theorem dX13_addVirtual_118 : decode cX13_addVirtual 118 = .ok (.iload_n 2, 1) := by decide +kernel
theorem dX13_addVirtual_119 : decode cX13_addVirtual 119 = .ok (.iastore, 1) := by decide +kernel
theorem dX13_addVirtual_120 : decode cX13_addVirtual 120 = .ok (.aload_n 0, 1) := by decide +kernel
theorem dX13_addVirtual_121 : decode cX13_addVirtual 121 = .ok (.getfield 63, 3) := by decide +kernel
theorem dX13_addVirtual_124 : decode cX13_addVirtual 124 = .ok (.iload 8, 2) := by decide +kernel
theorem dX13_addVirtual_126 : decode cX13_addVirtual 126 = .ok (.iload_n 3, 1) := by decide +kernel
theorem dX13_addVirtual_127 : decode cX13_addVirtual 127 = .ok (.iastore, 1) := by decide +kernel
theorem dX13_addVirtual_128 : decode cX13_addVirtual 128 = .ok (.aload_n 0, 1) := by decide +kernel
theorem dX13_addVirtual_129 : decode cX13_addVirtual 129 = .ok (.getfield 66, 3) := by decide +kernel
theorem dX13_addVirtual_132 : decode cX13_addVirtual 132 = .ok (.iload 8, 2) := by decide +kernel
theorem dX13_addVirtual_134 : decode cX13_addVirtual 134 = .ok (.lload 4, 2) := by decide +kernel
theorem dX13_addVirtual_136 : decode cX13_addVirtual 136 = .ok (.lastore, 1) := by decide +kernel
theorem dX13_addVirtual_137 : decode cX13_addVirtual 137 = .ok (.aload_n 0, 1) := by decide +kernel
theorem dX13_addVirtual_138 : decode cX13_addVirtual 138 = .ok (.getfield 57, 3) := by decide +kernel
theorem dX13_addVirtual_141 : decode cX13_addVirtual 141 = .ok (.iload_n 1, 1) := by decide +kernel
theorem dX13_addVirtual_142 : decode cX13_addVirtual 142 = .ok (.dup2, 1) := by decide +kernel
theorem dX13_addVirtual_143 : decode cX13_addVirtual 143 = .ok (.iaload, 1) := by decide +kernel
theorem dX13_addVirtual_144 : decode cX13_addVirtual 144 = .ok (.iconst 1, 1) := by decide +kernel
theorem dX13_addVirtual_145 : decode cX13_addVirtual 145 = .ok (.iadd, 1) := by decide +kernel
theorem dX13_addVirtual_146 : decode cX13_addVirtual 146 = .ok (.iastore, 1) := by decide +kernel
theorem dX13_addVirtual_147 : decode cX13_addVirtual 147 = .ok (.aload_n 0, 1) := by decide +kernel
theorem dX13_addVirtual_148 : decode cX13_addVirtual 148 = .ok (.getfield 57, 3) := by decide +kernel
theorem dX13_addVirtual_151 : decode cX13_addVirtual 151 = .ok (.iload_n 1, 1) := by decide +kernel
theorem dX13_addVirtual_152 : decode cX13_addVirtual 152 = .ok (.iaload, 1) := by decide +kernel
theorem dX13_addVirtual_153 : decode cX13_addVirtual 153 = .ok (.ireturn, 1) := by decide +kernel
theorem dX13_dropVirtual_0 : decode cX13_dropVirtual 0 = .ok (.iload_n 1, 1) := by decide +kernel
theorem dX13_dropVirtual_1 : decode cX13_dropVirtual 1 = .ok (.invokestatic 236, 3) := by decide +kernel
theorem dX13_dropVirtual_4 : decode cX13_dropVirtual 4 = .ok (.istore_n 3, 1) := by decide +kernel
theorem dX13_dropVirtual_5 : decode cX13_dropVirtual 5 = .ok (.aload_n 0, 1) := by decide +kernel
theorem dX13_dropVirtual_6 : decode cX13_dropVirtual 6 = .ok (.iload_n 3, 1) := by decide +kernel
theorem dX13_dropVirtual_7 : decode cX13_dropVirtual 7 = .ok (.ifCond .ne 7, 3) := by decide +kernel
theorem dX13_dropVirtual_10 : decode cX13_dropVirtual 10 = .ok (.iconst 1, 1) := by decide +kernel
theorem dX13_dropVirtual_11 : decode cX13_dropVirtual 11 = .ok (.goto 24, 3) := by decide +kernel
theorem dX13_dropVirtual_14 : decode cX13_dropVirtual 14 = .ok (.iload_n 2, 1) := by decide +kernel
theorem dX13_dropVirtual_15 : decode cX13_dropVirtual 15 = .ok (.iconst 0, 1) := by decide +kernel
theorem dX13_dropVirtual_16 : decode cX13_dropVirtual 16 = .ok (.aload_n 0, 1) := by decide +kernel
theorem dX13_dropVirtual_17 : decode cX13_dropVirtual 17 = .ok (.getfield 57, 3) := by decide +kernel
theorem dX13_dropVirtual_20 : decode cX13_dropVirtual 20 = .ok (.iload_n 1, 1) := by decide +kernel
theorem dX13_dropVirtual_21 : decode cX13_dropVirtual 21 = .ok (.iaload, 1) := by decide +kernel
theorem dX13_dropVirtual_22 : decode cX13_dropVirtual 22 = .ok (.iconst 1, 1) := by decide +kernel
theorem dX13_dropVirtual_23 : decode cX13_dropVirtual 23 = .ok (.isub, 1) := by decide +kernel
theorem dX13_dropVirtual_24 : decode cX13_dropVirtual 24 = .ok (.invokestatic 187, 3) := by decide +kernel
theorem dX13_dropVirtual_27 : decode cX13_dropVirtual 27 = .ok (.ifCond .ne 7, 3) := by decide +kernel
theorem dX13_dropVirtual_30 : decode cX13_dropVirtual 30 = .ok (.iconst 2, 1) := by decide +kernel
theorem dX13_dropVirtual_31 : decode cX13_dropVirtual 31 = .ok (.goto 4, 3) := by decide +kernel
theorem dX13_dropVirtual_34 : decode cX13_dropVirtual 34 = .ok (.iconst 0, 1) := by decide +kernel
theorem dX13_dropVirtual_35 : decode cX13_dropVirtual 35 = .ok (.invokevirtual 195, 3) := by decide +kernel
theorem dX13_dropVirtual_38 : decode cX13_dropVirtual 38 = .ok (.ifCond .ne 5, 3) := by decide +kernel
theorem dX13_dropVirtual_41 : decode cX13_dropVirtual 41 = .ok (.iconst 0, 1) := by decide +kernel
theorem dX13_dropVirtual_42 : decode cX13_dropVirtual 42 = .ok (.ireturn, 1) := by decide +kernel
theorem dX13_dropVirtual_43 : decode cX13_dropVirtual 43 = .ok (.aload_n 0, 1) := by decide +kernel
theorem dX13_dropVirtual_44 : decode cX13_dropVirtual 44 = .ok (.getfield 57, 3) := by decide +kernel
theorem dX13_dropVirtual_47 : decode cX13_dropVirtual 47 = .ok (.iload_n 1, 1) := by decide +kernel
theorem dX13_dropVirtual_48 : decode cX13_dropVirtual 48 = .ok (.dup2, 1) := by decide +kernel
theorem dX13_dropVirtual_49 : decode cX13_dropVirtual 49 = .ok (.iaload, 1) := by decide +kernel
theorem dX13_dropVirtual_50 : decode cX13_dropVirtual 50 = .ok (.iconst 1, 1) := by decide +kernel
theorem dX13_dropVirtual_51 : decode cX13_dropVirtual 51 = .ok (.isub, 1) := by decide +kernel
theorem dX13_dropVirtual_52 : decode cX13_dropVirtual 52 = .ok (.iastore, 1) := by decide +kernel
theorem dX13_dropVirtual_53 : decode cX13_dropVirtual 53 = .ok (.bipush 6, 2) := by decide +kernel
theorem dX13_dropVirtual_55 : decode cX13_dropVirtual 55 = .ok (.iload_n 1, 1) := by decide +kernel
theorem dX13_dropVirtual_56 : decode cX13_dropVirtual 56 = .ok (.imul, 1) := by decide +kernel
theorem dX13_dropVirtual_57 : decode cX13_dropVirtual 57 = .ok (.iload_n 2, 1) := by decide +kernel
theorem dX13_dropVirtual_58 : decode cX13_dropVirtual 58 = .ok (.iadd, 1) := by decide +kernel
theorem dX13_dropVirtual_59 : decode cX13_dropVirtual 59 = .ok (.istore 4, 2) := by decide +kernel
theorem dX13_dropVirtual_61 : decode cX13_dropVirtual 61 = .ok (.iload 4, 2) := by decide +kernel
theorem dX13_dropVirtual_63 : decode cX13_dropVirtual 63 = .ok (.bipush 6, 2) := by decide +kernel
theorem dX13_dropVirtual_65 : decode cX13_dropVirtual 65 = .ok (.iload_n 1, 1) := by decide +kernel
theorem dX13_dropVirtual_66 : decode cX13_dropVirtual 66 = .ok (.imul, 1) := by decide +kernel
theorem dX13_dropVirtual_67 : decode cX13_dropVirtual 67 = .ok (.aload_n 0, 1) := by decide +kernel
theorem dX13_dropVirtual_68 : decode cX13_dropVirtual 68 = .ok (.getfield 57, 3) := by decide +kernel
theorem dX13_dropVirtual_71 : decode cX13_dropVirtual 71 = .ok (.iload_n 1, 1) := by decide +kernel
theorem dX13_dropVirtual_72 : decode cX13_dropVirtual 72 = .ok (.iaload, 1) := by decide +kernel
theorem dX13_dropVirtual_73 : decode cX13_dropVirtual 73 = .ok (.iadd, 1) := by decide +kernel
theorem dX13_dropVirtual_74 : decode cX13_dropVirtual 74 = .ok (.if_icmp .ge 57, 3) := by decide +kernel
theorem dX13_dropVirtual_77 : decode cX13_dropVirtual 77 = .ok (.aload_n 0, 1) := by decide +kernel
theorem dX13_dropVirtual_78 : decode cX13_dropVirtual 78 = .ok (.getfield 60, 3) := by decide +kernel
theorem dX13_dropVirtual_81 : decode cX13_dropVirtual 81 = .ok (.iload 4, 2) := by decide +kernel
theorem dX13_dropVirtual_83 : decode cX13_dropVirtual 83 = .ok (.aload_n 0, 1) := by decide +kernel
theorem dX13_dropVirtual_84 : decode cX13_dropVirtual 84 = .ok (.getfield 60, 3) := by decide +kernel
theorem dX13_dropVirtual_87 : decode cX13_dropVirtual 87 = .ok (.iload 4, 2) := by decide +kernel
theorem dX13_dropVirtual_89 : decode cX13_dropVirtual 89 = .ok (.iconst 1, 1) := by decide +kernel
theorem dX13_dropVirtual_90 : decode cX13_dropVirtual 90 = .ok (.iadd, 1) := by decide +kernel
theorem dX13_dropVirtual_91 : decode cX13_dropVirtual 91 = .ok (.iaload, 1) := by decide +kernel
theorem dX13_dropVirtual_92 : decode cX13_dropVirtual 92 = .ok (.iastore, 1) := by decide +kernel
theorem dX13_dropVirtual_93 : decode cX13_dropVirtual 93 = .ok (.aload_n 0, 1) := by decide +kernel
theorem dX13_dropVirtual_94 : decode cX13_dropVirtual 94 = .ok (.getfield 63, 3) := by decide +kernel
theorem dX13_dropVirtual_97 : decode cX13_dropVirtual 97 = .ok (.iload 4, 2) := by decide +kernel
theorem dX13_dropVirtual_99 : decode cX13_dropVirtual 99 = .ok (.aload_n 0, 1) := by decide +kernel
theorem dX13_dropVirtual_100 : decode cX13_dropVirtual 100 = .ok (.getfield 63, 3) := by decide +kernel
theorem dX13_dropVirtual_103 : decode cX13_dropVirtual 103 = .ok (.iload 4, 2) := by decide +kernel
theorem dX13_dropVirtual_105 : decode cX13_dropVirtual 105 = .ok (.iconst 1, 1) := by decide +kernel
theorem dX13_dropVirtual_106 : decode cX13_dropVirtual 106 = .ok (.iadd, 1) := by decide +kernel
theorem dX13_dropVirtual_107 : decode cX13_dropVirtual 107 = .ok (.iaload, 1) := by decide +kernel
theorem dX13_dropVirtual_108 : decode cX13_dropVirtual 108 = .ok (.iastore, 1) := by decide +kernel
theorem dX13_dropVirtual_109 : decode cX13_dropVirtual 109 = .ok (.aload_n 0, 1) := by decide +kernel
theorem dX13_dropVirtual_110 : decode cX13_dropVirtual 110 = .ok (.getfield 66, 3) := by decide +kernel
theorem dX13_dropVirtual_113 : decode cX13_dropVirtual 113 = .ok (.iload 4, 2) := by decide +kernel
theorem dX13_dropVirtual_115 : decode cX13_dropVirtual 115 = .ok (.aload_n 0, 1) := by decide +kernel
theorem dX13_dropVirtual_116 : decode cX13_dropVirtual 116 = .ok (.getfield 66, 3) := by decide +kernel
theorem dX13_dropVirtual_119 : decode cX13_dropVirtual 119 = .ok (.iload 4, 2) := by decide +kernel
theorem dX13_dropVirtual_121 : decode cX13_dropVirtual 121 = .ok (.iconst 1, 1) := by decide +kernel
theorem dX13_dropVirtual_122 : decode cX13_dropVirtual 122 = .ok (.iadd, 1) := by decide +kernel
theorem dX13_dropVirtual_123 : decode cX13_dropVirtual 123 = .ok (.laload, 1) := by decide +kernel
theorem dX13_dropVirtual_124 : decode cX13_dropVirtual 124 = .ok (.lastore, 1) := by decide +kernel
theorem dX13_dropVirtual_125 : decode cX13_dropVirtual 125 = .ok (.iinc 4 1, 3) := by decide +kernel
theorem dX13_dropVirtual_128 : decode cX13_dropVirtual 128 = .ok (.goto (-67), 3) := by decide +kernel
theorem dX13_dropVirtual_131 : decode cX13_dropVirtual 131 = .ok (.aload_n 0, 1) := by decide +kernel
theorem dX13_dropVirtual_132 : decode cX13_dropVirtual 132 = .ok (.getfield 57, 3) := by decide +kernel
theorem dX13_dropVirtual_135 : decode cX13_dropVirtual 135 = .ok (.iload_n 1, 1) := by decide +kernel
theorem dX13_dropVirtual_136 : decode cX13_dropVirtual 136 = .ok (.iaload, 1) := by decide +kernel
theorem dX13_dropVirtual_137 : decode cX13_dropVirtual 137 = .ok (.ireturn, 1) := by decide +kernel
theorem dX13_addFold_0 : decode cX13_addFold 0 = .ok (.iload_n 1, 1) := by decide +kernel
theorem dX13_addFold_1 : decode cX13_addFold 1 = .ok (.invokestatic 236, 3) := by decide +kernel
theorem dX13_addFold_4 : decode cX13_addFold 4 = .ok (.ifCond .eq 23, 3) := by decide +kernel
theorem dX13_addFold_7 : decode cX13_addFold 7 = .ok (.aload_n 0, 1) := by decide +kernel
theorem dX13_addFold_8 : decode cX13_addFold 8 = .ok (.iload_n 2, 1) := by decide +kernel
theorem dX13_addFold_9 : decode cX13_addFold 9 = .ok (.invokevirtual 191, 3) := by decide +kernel
theorem dX13_addFold_12 : decode cX13_addFold 12 = .ok (.ifCond .eq 15, 3) := by decide +kernel
theorem dX13_addFold_15 : decode cX13_addFold 15 = .ok (.aload_n 0, 1) := by decide +kernel
theorem dX13_addFold_16 : decode cX13_addFold 16 = .ok (.iload_n 3, 1) := by decide +kernel
theorem dX13_addFold_17 : decode cX13_addFold 17 = .ok (.invokevirtual 191, 3) := by decide +kernel
theorem dX13_addFold_20 : decode cX13_addFold 20 = .ok (.ifCond .eq 7, 3) := by decide +kernel
theorem dX13_addFold_23 : decode cX13_addFold 23 = .ok (.iconst 1, 1) := by decide +kernel
theorem dX13_addFold_24 : decode cX13_addFold 24 = .ok (.goto 4, 3) := by decide +kernel
theorem dX13_addFold_27 : decode cX13_addFold 27 = .ok (.iconst 0, 1) := by decide +kernel
theorem dX13_addFold_28 : decode cX13_addFold 28 = .ok (.istore 4, 2) := by decide +kernel
theorem dX13_addFold_30 : decode cX13_addFold 30 = .ok (.aload_n 0, 1) := by decide +kernel
theorem dX13_addFold_31 : decode cX13_addFold 31 = .ok (.iload 4, 2) := by decide +kernel
theorem dX13_addFold_33 : decode cX13_addFold 33 = .ok (.ifCond .ne 7, 3) := by decide +kernel
theorem dX13_addFold_36 : decode cX13_addFold 36 = .ok (.iconst 1, 1) := by decide +kernel
theorem dX13_addFold_37 : decode cX13_addFold 37 = .ok (.goto 28, 3) := by decide +kernel
theorem dX13_addFold_40 : decode cX13_addFold 40 = .ok (.iload_n 3, 1) := by decide +kernel
theorem dX13_addFold_41 : decode cX13_addFold 41 = .ok (.iload_n 2, 1) := by decide +kernel
theorem dX13_addFold_42 : decode cX13_addFold 42 = .ok (.if_icmp .gt 7, 3) := by decide +kernel
theorem dX13_addFold_45 : decode cX13_addFold 45 = .ok (.iconst 2, 1) := by decide +kernel
theorem dX13_addFold_46 : decode cX13_addFold 46 = .ok (.goto 19, 3) := by decide +kernel
theorem dX13_addFold_49 : decode cX13_addFold 49 = .ok (.aload_n 0, 1) := by decide +kernel
theorem dX13_addFold_50 : decode cX13_addFold 50 = .ok (.getfield 70, 3) := by decide +kernel
theorem dX13_addFold_53 : decode cX13_addFold 53 = .ok (.iload_n 1, 1) := by decide +kernel
theorem dX13_addFold_54 : decode cX13_addFold 54 = .ok (.iaload, 1) := by decide +kernel
theorem dX13_addFold_55 : decode cX13_addFold 55 = .ok (.bipush 6, 2) := by decide +kernel
theorem dX13_addFold_57 : decode cX13_addFold 57 = .ok (.if_icmp .ne 7, 3) := by decide +kernel
theorem dX13_addFold_60 : decode cX13_addFold 60 = .ok (.iconst 3, 1) := by decide +kernel
theorem dX13_addFold_61 : decode cX13_addFold 61 = .ok (.goto 4, 3) := by decide +kernel
theorem dX13_addFold_64 : decode cX13_addFold 64 = .ok (.iconst 0, 1) := by decide +kernel
theorem dX13_addFold_65 : decode cX13_addFold 65 = .ok (.invokevirtual 195, 3) := by decide +kernel
theorem dX13_addFold_68 : decode cX13_addFold 68 = .ok (.ifCond .ne 5, 3) := by decide +kernel
theorem dX13_addFold_71 : decode cX13_addFold 71 = .ok (.iconst 0, 1) := by decide +kernel
theorem dX13_addFold_72 : decode cX13_addFold 72 = .ok (.ireturn, 1) := by decide +kernel
theorem dX13_addFold_73 : decode cX13_addFold 73 = .ok (.bipush 6, 2) := by decide +kernel
theorem dX13_addFold_75 : decode cX13_addFold 75 = .ok (.iload_n 1, 1) := by decide +kernel
theorem dX13_addFold_76 : decode cX13_addFold 76 = .ok (.imul, 1) := by decide +kernel
theorem dX13_addFold_77 : decode cX13_addFold 77 = .ok (.aload_n 0, 1) := by decide +kernel
theorem dX13_addFold_78 : decode cX13_addFold 78 = .ok (.getfield 70, 3) := by decide +kernel
theorem dX13_addFold_81 : decode cX13_addFold 81 = .ok (.iload_n 1, 1) := by decide +kernel
theorem dX13_addFold_82 : decode cX13_addFold 82 = .ok (.iaload, 1) := by decide +kernel
theorem dX13_addFold_83 : decode cX13_addFold 83 = .ok (.iadd, 1) := by decide +kernel
theorem dX13_addFold_84 : decode cX13_addFold 84 = .ok (.istore 5, 2) := by decide +kernel
theorem dX13_addFold_86 : decode cX13_addFold 86 = .ok (.aload_n 0, 1) := by decide +kernel
theorem dX13_addFold_87 : decode cX13_addFold 87 = .ok (.getfield 73, 3) := by decide +kernel
theorem dX13_addFold_90 : decode cX13_addFold 90 = .ok (.iload 5, 2) := by decide +kernel
theorem dX13_addFold_92 : decode cX13_addFold 92 = .ok (.iload_n 2, 1) := by decide +kernel
theorem dX13_addFold_93 : decode cX13_addFold 93 = .ok (.iastore, 1) := by decide +kernel
theorem dX13_addFold_94 : decode cX13_addFold 94 = .ok (.aload_n 0, 1) := by decide +kernel
theorem dX13_addFold_95 : decode cX13_addFold 95 = .ok (.getfield 76, 3) := by decide +kernel
theorem dX13_addFold_98 : decode cX13_addFold 98 = .ok (.iload 5, 2) := by decide +kernel
theorem dX13_addFold_100 : decode cX13_addFold 100 = .ok (.iload_n 3, 1) := by decide +kernel
theorem dX13_addFold_101 : decode cX13_addFold 101 = .ok (.iastore, 1) := by decide +kernel
theorem dX13_addFold_102 : decode cX13_addFold 102 = .ok (.aload_n 0, 1) := by decide +kernel
theorem dX13_addFold_103 : decode cX13_addFold 103 = .ok (.getfield 79, 3) := by decide +kernel
theorem dX13_addFold_106 : decode cX13_addFold 106 = .ok (.iload 5, 2) := by decide +kernel
theorem dX13_addFold_108 : decode cX13_addFold 108 = .ok (.iconst 0, 1) := by decide +kernel
theorem dX13_addFold_109 : decode cX13_addFold 109 = .ok (.bastore, 1) := by decide +kernel
theorem dX13_addFold_110 : decode cX13_addFold 110 = .ok (.aload_n 0, 1) := by decide +kernel
theorem dX13_addFold_111 : decode cX13_addFold 111 = .ok (.getfield 70, 3) := by decide +kernel
theorem dX13_addFold_114 : decode cX13_addFold 114 = .ok (.iload_n 1, 1) := by decide +kernel
theorem dX13_addFold_115 : decode cX13_addFold 115 = .ok (.dup2, 1) := by decide +kernel
theorem dX13_addFold_116 : decode cX13_addFold 116 = .ok (.iaload, 1) := by decide +kernel
theorem dX13_addFold_117 : decode cX13_addFold 117 = .ok (.iconst 1, 1) := by decide +kernel
theorem dX13_addFold_118 : decode cX13_addFold 118 = .ok (.iadd, 1) := by decide +kernel
theorem dX13_addFold_119 : decode cX13_addFold 119 = .ok (.iastore, 1) := by decide +kernel
theorem dX13_addFold_120 : decode cX13_addFold 120 = .ok (.aload_n 0, 1) := by decide +kernel
theorem dX13_addFold_121 : decode cX13_addFold 121 = .ok (.getfield 70, 3) := by decide +kernel
theorem dX13_addFold_124 : decode cX13_addFold 124 = .ok (.iload_n 1, 1) := by decide +kernel
theorem dX13_addFold_125 : decode cX13_addFold 125 = .ok (.iaload, 1) := by decide +kernel
theorem dX13_addFold_126 : decode cX13_addFold 126 = .ok (.ireturn, 1) := by decide +kernel
theorem dX13_setClosed_0 : decode cX13_setClosed 0 = .ok (.iload_n 1, 1) := by decide +kernel
theorem dX13_setClosed_1 : decode cX13_setClosed 1 = .ok (.invokestatic 236, 3) := by decide +kernel
theorem dX13_setClosed_4 : decode cX13_setClosed 4 = .ok (.istore 4, 2) := by decide +kernel
theorem dX13_setClosed_6 : decode cX13_setClosed 6 = .ok (.aload_n 0, 1) := by decide +kernel
theorem dX13_setClosed_7 : decode cX13_setClosed 7 = .ok (.iload 4, 2) := by decide +kernel
theorem dX13_setClosed_9 : decode cX13_setClosed 9 = .ok (.ifCond .ne 7, 3) := by decide +kernel
theorem dX13_setClosed_12 : decode cX13_setClosed 12 = .ok (.iconst 1, 1) := by decide +kernel
theorem dX13_setClosed_13 : decode cX13_setClosed 13 = .ok (.goto 24, 3) := by decide +kernel
theorem dX13_setClosed_16 : decode cX13_setClosed 16 = .ok (.iload_n 2, 1) := by decide +kernel
theorem dX13_setClosed_17 : decode cX13_setClosed 17 = .ok (.iconst 0, 1) := by decide +kernel
theorem dX13_setClosed_18 : decode cX13_setClosed 18 = .ok (.aload_n 0, 1) := by decide +kernel
theorem dX13_setClosed_19 : decode cX13_setClosed 19 = .ok (.getfield 70, 3) := by decide +kernel
theorem dX13_setClosed_22 : decode cX13_setClosed 22 = .ok (.iload_n 1, 1) := by decide +kernel
theorem dX13_setClosed_23 : decode cX13_setClosed 23 = .ok (.iaload, 1) := by decide +kernel
theorem dX13_setClosed_24 : decode cX13_setClosed 24 = .ok (.iconst 1, 1) := by decide +kernel
theorem dX13_setClosed_25 : decode cX13_setClosed 25 = .ok (.isub, 1) := by decide +kernel
theorem dX13_setClosed_26 : decode cX13_setClosed 26 = .ok (.invokestatic 187, 3) := by decide +kernel
theorem dX13_setClosed_29 : decode cX13_setClosed 29 = .ok (.ifCond .ne 7, 3) := by decide +kernel
theorem dX13_setClosed_32 : decode cX13_setClosed 32 = .ok (.iconst 2, 1) := by decide +kernel
theorem dX13_setClosed_33 : decode cX13_setClosed 33 = .ok (.goto 4, 3) := by decide +kernel
theorem dX13_setClosed_36 : decode cX13_setClosed 36 = .ok (.iconst 0, 1) := by decide +kernel
theorem dX13_setClosed_37 : decode cX13_setClosed 37 = .ok (.invokevirtual 195, 3) := by decide +kernel
theorem dX13_setClosed_40 : decode cX13_setClosed 40 = .ok (.ifCond .ne 5, 3) := by decide +kernel
theorem dX13_setClosed_43 : decode cX13_setClosed 43 = .ok (.iconst 0, 1) := by decide +kernel
theorem dX13_setClosed_44 : decode cX13_setClosed 44 = .ok (.ireturn, 1) := by decide +kernel
theorem dX13_setClosed_45 : decode cX13_setClosed 45 = .ok (.aload_n 0, 1) := by decide +kernel
theorem dX13_setClosed_46 : decode cX13_setClosed 46 = .ok (.getfield 79, 3) := by decide +kernel
theorem dX13_setClosed_49 : decode cX13_setClosed 49 = .ok (.bipush 6, 2) := by decide +kernel
theorem dX13_setClosed_51 : decode cX13_setClosed 51 = .ok (.iload_n 1, 1) := by decide +kernel
theorem dX13_setClosed_52 : decode cX13_setClosed 52 = .ok (.imul, 1) := by decide +kernel
theorem dX13_setClosed_53 : decode cX13_setClosed 53 = .ok (.iload_n 2, 1) := by decide +kernel
theorem dX13_setClosed_54 : decode cX13_setClosed 54 = .ok (.iadd, 1) := by decide +kernel
theorem dX13_setClosed_55 : decode cX13_setClosed 55 = .ok (.baload, 1) := by decide +kernel
theorem dX13_setClosed_56 : decode cX13_setClosed 56 = .ok (.istore 5, 2) := by decide +kernel
theorem dX13_setClosed_58 : decode cX13_setClosed 58 = .ok (.aload_n 0, 1) := by decide +kernel
theorem dX13_setClosed_59 : decode cX13_setClosed 59 = .ok (.getfield 79, 3) := by decide +kernel
theorem dX13_setClosed_62 : decode cX13_setClosed 62 = .ok (.bipush 6, 2) := by decide +kernel
theorem dX13_setClosed_64 : decode cX13_setClosed 64 = .ok (.iload_n 1, 1) := by decide +kernel
theorem dX13_setClosed_65 : decode cX13_setClosed 65 = .ok (.imul, 1) := by decide +kernel
theorem dX13_setClosed_66 : decode cX13_setClosed 66 = .ok (.iload_n 2, 1) := by decide +kernel
theorem dX13_setClosed_67 : decode cX13_setClosed 67 = .ok (.iadd, 1) := by decide +kernel
theorem dX13_setClosed_68 : decode cX13_setClosed 68 = .ok (.iload_n 3, 1) := by decide +kernel
theorem dX13_setClosed_69 : decode cX13_setClosed 69 = .ok (.bastore, 1) := by decide +kernel
theorem dX13_setClosed_70 : decode cX13_setClosed 70 = .ok (.iload 5, 2) := by decide +kernel
theorem dX13_setClosed_72 : decode cX13_setClosed 72 = .ok (.ireturn, 1) := by decide +kernel
theorem dX13_isHidden_0 : decode cX13_isHidden 0 = .ok (.iconst 0, 1) := by decide +kernel
theorem dX13_isHidden_1 : decode cX13_isHidden 1 = .ok (.istore 4, 2) := by decide +kernel
theorem dX13_isHidden_3 : decode cX13_isHidden 3 = .ok (.bipush 6, 2) := by decide +kernel
theorem dX13_isHidden_5 : decode cX13_isHidden 5 = .ok (.iload_n 1, 1) := by decide +kernel
theorem dX13_isHidden_6 : decode cX13_isHidden 6 = .ok (.imul, 1) := by decide +kernel
theorem dX13_isHidden_7 : decode cX13_isHidden 7 = .ok (.istore 5, 2) := by decide +kernel
theorem dX13_isHidden_9 : decode cX13_isHidden 9 = .ok (.iload 5, 2) := by decide +kernel
theorem dX13_isHidden_11 : decode cX13_isHidden 11 = .ok (.bipush 6, 2) := by decide +kernel
theorem dX13_isHidden_13 : decode cX13_isHidden 13 = .ok (.iload_n 1, 1) := by decide +kernel
theorem dX13_isHidden_14 : decode cX13_isHidden 14 = .ok (.imul, 1) := by decide +kernel
theorem dX13_isHidden_15 : decode cX13_isHidden 15 = .ok (.aload_n 0, 1) := by decide +kernel
theorem dX13_isHidden_16 : decode cX13_isHidden 16 = .ok (.getfield 45, 3) := by decide +kernel
theorem dX13_isHidden_19 : decode cX13_isHidden 19 = .ok (.iload_n 1, 1) := by decide +kernel
theorem dX13_isHidden_20 : decode cX13_isHidden 20 = .ok (.iaload, 1) := by decide +kernel
theorem dX13_isHidden_21 : decode cX13_isHidden 21 = .ok (.iadd, 1) := by decide +kernel
theorem dX13_isHidden_22 : decode cX13_isHidden 22 = .ok (.if_icmp .ge 55, 3) := by decide +kernel
theorem dX13_isHidden_25 : decode cX13_isHidden 25 = .ok (.iload 4, 2) := by decide +kernel
theorem dX13_isHidden_27 : decode cX13_isHidden 27 = .ok (.ifCond .ne 37, 3) := by decide +kernel
theorem dX13_isHidden_30 : decode cX13_isHidden 30 = .ok (.aload_n 0, 1) := by decide +kernel
theorem dX13_isHidden_31 : decode cX13_isHidden 31 = .ok (.getfield 48, 3) := by decide +kernel
theorem dX13_isHidden_34 : decode cX13_isHidden 34 = .ok (.iload 5, 2) := by decide +kernel
theorem dX13_isHidden_36 : decode cX13_isHidden 36 = .ok (.iaload, 1) := by decide +kernel
theorem dX13_isHidden_37 : decode cX13_isHidden 37 = .ok (.iload_n 2, 1) := by decide +kernel
theorem dX13_isHidden_38 : decode cX13_isHidden 38 = .ok (.if_icmp .ne 30, 3) := by decide +kernel
theorem dX13_isHidden_41 : decode cX13_isHidden 41 = .ok (.iload_n 3, 1) := by decide +kernel
theorem dX13_isHidden_42 : decode cX13_isHidden 42 = .ok (.aload_n 0, 1) := by decide +kernel
theorem dX13_isHidden_43 : decode cX13_isHidden 43 = .ok (.getfield 51, 3) := by decide +kernel
theorem dX13_isHidden_46 : decode cX13_isHidden 46 = .ok (.iload 5, 2) := by decide +kernel
theorem dX13_isHidden_48 : decode cX13_isHidden 48 = .ok (.iaload, 1) := by decide +kernel
theorem dX13_isHidden_49 : decode cX13_isHidden 49 = .ok (.aload_n 0, 1) := by decide +kernel
theorem dX13_isHidden_50 : decode cX13_isHidden 50 = .ok (.getfield 54, 3) := by decide +kernel
theorem dX13_isHidden_53 : decode cX13_isHidden 53 = .ok (.iload 5, 2) := by decide +kernel
theorem dX13_isHidden_55 : decode cX13_isHidden 55 = .ok (.iaload, 1) := by decide +kernel
theorem dX13_isHidden_56 : decode cX13_isHidden 56 = .ok (.iconst 1, 1) := by decide +kernel
theorem dX13_isHidden_57 : decode cX13_isHidden 57 = .ok (.isub, 1) := by decide +kernel
theorem dX13_isHidden_58 : decode cX13_isHidden 58 = .ok (.invokestatic 187, 3) := by decide +kernel
theorem dX13_isHidden_61 : decode cX13_isHidden 61 = .ok (.ifCond .eq 7, 3) := by decide +kernel
theorem dX13_isHidden_64 : decode cX13_isHidden 64 = .ok (.iconst 1, 1) := by decide +kernel
theorem dX13_isHidden_65 : decode cX13_isHidden 65 = .ok (.goto 4, 3) := by decide +kernel
theorem dX13_isHidden_68 : decode cX13_isHidden 68 = .ok (.iconst 0, 1) := by decide +kernel
theorem dX13_isHidden_69 : decode cX13_isHidden 69 = .ok (.istore 4, 2) := by decide +kernel
theorem dX13_isHidden_71 : decode cX13_isHidden 71 = .ok (.iinc 5 1, 3) := by decide +kernel
theorem dX13_isHidden_74 : decode cX13_isHidden 74 = .ok (.goto (-65), 3) := by decide +kernel
theorem dX13_isHidden_77 : decode cX13_isHidden 77 = .ok (.iload 4, 2) := by decide +kernel
theorem dX13_isHidden_79 : decode cX13_isHidden 79 = .ok (.ireturn, 1) := by decide +kernel
theorem dX13_isInvisible_0 : decode cX13_isInvisible 0 = .ok (.iconst 0, 1) := by decide +kernel
theorem dX13_isInvisible_1 : decode cX13_isInvisible 1 = .ok (.istore_n 3, 1) := by decide +kernel
theorem dX13_isInvisible_2 : decode cX13_isInvisible 2 = .ok (.bipush 6, 2) := by decide +kernel
theorem dX13_isInvisible_4 : decode cX13_isInvisible 4 = .ok (.iload_n 1, 1) := by decide +kernel
theorem dX13_isInvisible_5 : decode cX13_isInvisible 5 = .ok (.imul, 1) := by decide +kernel
theorem dX13_isInvisible_6 : decode cX13_isInvisible 6 = .ok (.istore 4, 2) := by decide +kernel
theorem dX13_isInvisible_8 : decode cX13_isInvisible 8 = .ok (.iload 4, 2) := by decide +kernel
theorem dX13_isInvisible_10 : decode cX13_isInvisible 10 = .ok (.bipush 6, 2) := by decide +kernel
theorem dX13_isInvisible_12 : decode cX13_isInvisible 12 = .ok (.iload_n 1, 1) := by decide +kernel
theorem dX13_isInvisible_13 : decode cX13_isInvisible 13 = .ok (.imul, 1) := by decide +kernel
theorem dX13_isInvisible_14 : decode cX13_isInvisible 14 = .ok (.aload_n 0, 1) := by decide +kernel
theorem dX13_isInvisible_15 : decode cX13_isInvisible 15 = .ok (.getfield 70, 3) := by decide +kernel
theorem dX13_isInvisible_18 : decode cX13_isInvisible 18 = .ok (.iload_n 1, 1) := by decide +kernel
theorem dX13_isInvisible_19 : decode cX13_isInvisible 19 = .ok (.iaload, 1) := by decide +kernel
theorem dX13_isInvisible_20 : decode cX13_isInvisible 20 = .ok (.iadd, 1) := by decide +kernel
theorem dX13_isInvisible_21 : decode cX13_isInvisible 21 = .ok (.if_icmp .ge 51, 3) := by decide +kernel
theorem dX13_isInvisible_24 : decode cX13_isInvisible 24 = .ok (.iload_n 3, 1) := by decide +kernel
theorem dX13_isInvisible_25 : decode cX13_isInvisible 25 = .ok (.ifCond .ne 35, 3) := by decide +kernel
theorem dX13_isInvisible_28 : decode cX13_isInvisible 28 = .ok (.aload_n 0, 1) := by decide +kernel
theorem dX13_isInvisible_29 : decode cX13_isInvisible 29 = .ok (.getfield 79, 3) := by decide +kernel
theorem dX13_isInvisible_32 : decode cX13_isInvisible 32 = .ok (.iload 4, 2) := by decide +kernel
theorem dX13_isInvisible_34 : decode cX13_isInvisible 34 = .ok (.baload, 1) := by decide +kernel
theorem dX13_isInvisible_35 : decode cX13_isInvisible 35 = .ok (.ifCond .eq 29, 3) := by decide +kernel
theorem dX13_isInvisible_38 : decode cX13_isInvisible 38 = .ok (.iload_n 2, 1) := by decide +kernel
theorem dX13_isInvisible_39 : decode cX13_isInvisible 39 = .ok (.aload_n 0, 1) := by decide +kernel
theorem dX13_isInvisible_40 : decode cX13_isInvisible 40 = .ok (.getfield 73, 3) := by decide +kernel
theorem dX13_isInvisible_43 : decode cX13_isInvisible 43 = .ok (.iload 4, 2) := by decide +kernel
theorem dX13_isInvisible_45 : decode cX13_isInvisible 45 = .ok (.iaload, 1) := by decide +kernel
theorem dX13_isInvisible_46 : decode cX13_isInvisible 46 = .ok (.if_icmp .le 18, 3) := by decide +kernel
theorem dX13_isInvisible_49 : decode cX13_isInvisible 49 = .ok (.iload_n 2, 1) := by decide +kernel
theorem dX13_isInvisible_50 : decode cX13_isInvisible 50 = .ok (.aload_n 0, 1) := by decide +kernel
theorem dX13_isInvisible_51 : decode cX13_isInvisible 51 = .ok (.getfield 76, 3) := by decide +kernel
theorem dX13_isInvisible_54 : decode cX13_isInvisible 54 = .ok (.iload 4, 2) := by decide +kernel
theorem dX13_isInvisible_56 : decode cX13_isInvisible 56 = .ok (.iaload, 1) := by decide +kernel
theorem dX13_isInvisible_57 : decode cX13_isInvisible 57 = .ok (.if_icmp .gt 7, 3) := by decide +kernel
theorem dX13_isInvisible_60 : decode cX13_isInvisible 60 = .ok (.iconst 1, 1) := by decide +kernel
theorem dX13_isInvisible_61 : decode cX13_isInvisible 61 = .ok (.goto 4, 3) := by decide +kernel
theorem dX13_isInvisible_64 : decode cX13_isInvisible 64 = .ok (.iconst 0, 1) := by decide +kernel
theorem dX13_isInvisible_65 : decode cX13_isInvisible 65 = .ok (.istore_n 3, 1) := by decide +kernel
theorem dX13_isInvisible_66 : decode cX13_isInvisible 66 = .ok (.iinc 4 1, 3) := by decide +kernel
theorem dX13_isInvisible_69 : decode cX13_isInvisible 69 = .ok (.goto (-61), 3) := by decide +kernel
theorem dX13_isInvisible_72 : decode cX13_isInvisible 72 = .ok (.iload_n 3, 1) := by decide +kernel
theorem dX13_isInvisible_73 : decode cX13_isInvisible 73 = .ok (.ireturn, 1) := by decide +kernel
theorem dX13_isFirstOfClosed_0 : decode cX13_isFirstOfClosed 0 = .ok (.iconst 0, 1) := by decide +kernel
theorem dX13_isFirstOfClosed_1 : decode cX13_isFirstOfClosed 1 = .ok (.istore_n 3, 1) := by decide +kernel
theorem dX13_isFirstOfClosed_2 : decode cX13_isFirstOfClosed 2 = .ok (.bipush 6, 2) := by decide +kernel
theorem dX13_isFirstOfClosed_4 : decode cX13_isFirstOfClosed 4 = .ok (.iload_n 1, 1) := by decide +kernel
theorem dX13_isFirstOfClosed_5 : decode cX13_isFirstOfClosed 5 = .ok (.imul, 1) := by decide +kernel
theorem dX13_isFirstOfClosed_6 : decode cX13_isFirstOfClosed 6 = .ok (.istore 4, 2) := by decide +kernel
theorem dX13_isFirstOfClosed_8 : decode cX13_isFirstOfClosed 8 = .ok (.iload 4, 2) := by decide +kernel
theorem dX13_isFirstOfClosed_10 : decode cX13_isFirstOfClosed 10 = .ok (.bipush 6, 2) := by decide +kernel
theorem dX13_isFirstOfClosed_12 : decode cX13_isFirstOfClosed 12 = .ok (.iload_n 1, 1) := by decide +kernel
theorem dX13_isFirstOfClosed_13 : decode cX13_isFirstOfClosed 13 = .ok (.imul, 1) := by decide +kernel
theorem dX13_isFirstOfClosed_14 : decode cX13_isFirstOfClosed 14 = .ok (.aload_n 0, 1) := by decide +kernel
theorem dX13_isFirstOfClosed_15 : decode cX13_isFirstOfClosed 15 = .ok (.getfield 70, 3) := by decide +kernel
theorem dX13_isFirstOfClosed_18 : decode cX13_isFirstOfClosed 18 = .ok (.iload_n 1, 1) := by decide +kernel
theorem dX13_isFirstOfClosed_19 : decode cX13_isFirstOfClosed 19 = .ok (.iaload, 1) := by decide +kernel
theorem dX13_isFirstOfClosed_20 : decode cX13_isFirstOfClosed 20 = .ok (.iadd, 1) := by decide +kernel
theorem dX13_isFirstOfClosed_21 : decode cX13_isFirstOfClosed 21 = .ok (.if_icmp .ge 40, 3) := by decide +kernel
theorem dX13_isFirstOfClosed_24 : decode cX13_isFirstOfClosed 24 = .ok (.iload_n 3, 1) := by decide +kernel
theorem dX13_isFirstOfClosed_25 : decode cX13_isFirstOfClosed 25 = .ok (.ifCond .ne 24, 3) := by decide +kernel
theorem dX13_isFirstOfClosed_28 : decode cX13_isFirstOfClosed 28 = .ok (.aload_n 0, 1) := by decide +kernel
theorem dX13_isFirstOfClosed_29 : decode cX13_isFirstOfClosed 29 = .ok (.getfield 79, 3) := by decide +kernel
theorem dX13_isFirstOfClosed_32 : decode cX13_isFirstOfClosed 32 = .ok (.iload 4, 2) := by decide +kernel
theorem dX13_isFirstOfClosed_34 : decode cX13_isFirstOfClosed 34 = .ok (.baload, 1) := by decide +kernel
theorem dX13_isFirstOfClosed_35 : decode cX13_isFirstOfClosed 35 = .ok (.ifCond .eq 18, 3) := by decide +kernel
theorem dX13_isFirstOfClosed_38 : decode cX13_isFirstOfClosed 38 = .ok (.iload_n 2, 1) := by decide +kernel
theorem dX13_isFirstOfClosed_39 : decode cX13_isFirstOfClosed 39 = .ok (.aload_n 0, 1) := by decide +kernel
theorem dX13_isFirstOfClosed_40 : decode cX13_isFirstOfClosed 40 = .ok (.getfield 73, 3) := by decide +kernel
theorem dX13_isFirstOfClosed_43 : decode cX13_isFirstOfClosed 43 = .ok (.iload 4, 2) := by decide +kernel
theorem dX13_isFirstOfClosed_45 : decode cX13_isFirstOfClosed 45 = .ok (.iaload, 1) := by decide +kernel
theorem dX13_isFirstOfClosed_46 : decode cX13_isFirstOfClosed 46 = .ok (.if_icmp .ne 7, 3) := by decide +kernel
theorem dX13_isFirstOfClosed_49 : decode cX13_isFirstOfClosed 49 = .ok (.iconst 1, 1) := by decide +kernel
theorem dX13_isFirstOfClosed_50 : decode cX13_isFirstOfClosed 50 = .ok (.goto 4, 3) := by decide +kernel
theorem dX13_isFirstOfClosed_53 : decode cX13_isFirstOfClosed 53 = .ok (.iconst 0, 1) := by decide +kernel
theorem dX13_isFirstOfClosed_54 : decode cX13_isFirstOfClosed 54 = .ok (.istore_n 3, 1) := by decide +kernel
theorem dX13_isFirstOfClosed_55 : decode cX13_isFirstOfClosed 55 = .ok (.iinc 4 1, 3) := by decide +kernel
theorem dX13_isFirstOfClosed_58 : decode cX13_isFirstOfClosed 58 = .ok (.goto (-50), 3) := by decide +kernel
theorem dX13_isFirstOfClosed_61 : decode cX13_isFirstOfClosed 61 = .ok (.iload_n 3, 1) := by decide +kernel
theorem dX13_isFirstOfClosed_62 : decode cX13_isFirstOfClosed 62 = .ok (.ireturn, 1) := by decide +kernel
theorem dX13_adds_0 : decode cX13_adds 0 = .ok (.aload_n 0, 1) := by decide +kernel
theorem dX13_adds_1 : decode cX13_adds 1 = .ok (.getfield 100, 3) := by decide +kernel
theorem dX13_adds_4 : decode cX13_adds 4 = .ok (.aload_n 0, 1) := by decide +kernel
theorem dX13_adds_5 : decode cX13_adds 5 = .ok (.getfield 245, 3) := by decide +kernel
theorem dX13_adds_8 : decode cX13_adds 8 = .ok (.iload_n 1, 1) := by decide +kernel
theorem dX13_adds_9 : decode cX13_adds 9 = .ok (.iastore, 1) := by decide +kernel
theorem dX13_adds_10 : decode cX13_adds 10 = .ok (.aload_n 0, 1) := by decide +kernel
theorem dX13_adds_11 : decode cX13_adds 11 = .ok (.getfield 103, 3) := by decide +kernel
theorem dX13_adds_14 : decode cX13_adds 14 = .ok (.aload_n 0, 1) := by decide +kernel
theorem dX13_adds_15 : decode cX13_adds 15 = .ok (.getfield 245, 3) := by decide +kernel
theorem dX13_adds_18 : decode cX13_adds 18 = .ok (.iload_n 2, 1) := by decide +kernel
theorem dX13_adds_19 : decode cX13_adds 19 = .ok (.iastore, 1) := by decide +kernel
theorem dX13_adds_20 : decode cX13_adds 20 = .ok (.aload_n 0, 1) := by decide +kernel
theorem dX13_adds_21 : decode cX13_adds 21 = .ok (.getfield 106, 3) := by decide +kernel
theorem dX13_adds_24 : decode cX13_adds 24 = .ok (.aload_n 0, 1) := by decide +kernel
theorem dX13_adds_25 : decode cX13_adds 25 = .ok (.getfield 245, 3) := by decide +kernel
theorem dX13_adds_28 : decode cX13_adds 28 = .ok (.iload_n 3, 1) := by decide +kernel
theorem dX13_adds_29 : decode cX13_adds 29 = .ok (.iastore, 1) := by decide +kernel
theorem dX13_adds_30 : decode cX13_adds 30 = .ok (.aload_n 0, 1) := by decide +kernel
theorem dX13_adds_31 : decode cX13_adds 31 = .ok (.getfield 109, 3) := by decide +kernel
theorem dX13_adds_34 : decode cX13_adds 34 = .ok (.aload_n 0, 1) := by decide +kernel
theorem dX13_adds_35 : decode cX13_adds 35 = .ok (.getfield 245, 3) := by decide +kernel
theorem dX13_adds_38 : decode cX13_adds 38 = .ok (.iload 4, 2) := by decide +kernel
theorem dX13_adds_40 : decode cX13_adds 40 = .ok (.iastore, 1) := by decide +kernel
theorem dX13_adds_41 : decode cX13_adds 41 = .ok (.aload_n 0, 1) := by decide +kernel
theorem dX13_adds_42 : decode cX13_adds 42 = .ok (.dup, 1) := by decide +kernel
theorem dX13_adds_43 : decode cX13_adds 43 = .ok (.getfield 245, 3) := by decide +kernel
theorem dX13_adds_46 : decode cX13_adds 46 = .ok (.iconst 1, 1) := by decide +kernel
theorem dX13_adds_47 : decode cX13_adds 47 = .ok (.iadd, 1) := by decide +kernel
theorem dX13_adds_48 : decode cX13_adds 48 = .ok (.putfield 245, 3) := by decide +kernel
theorem dX13_adds_51 : decode cX13_adds 51 = .ok (.return_, 1) := by decide +kernel
theorem dX13_addsVirtuals_0 : decode cX13_addsVirtuals 0 = .ok (.bipush 6, 2) := by decide +kernel
theorem dX13_addsVirtuals_2 : decode cX13_addsVirtuals 2 = .ok (.iload_n 1, 1) := by decide +kernel
theorem dX13_addsVirtuals_3 : decode cX13_addsVirtuals 3 = .ok (.imul, 1) := by decide +kernel
theorem dX13_addsVirtuals_4 : decode cX13_addsVirtuals 4 = .ok (.istore 5, 2) := by decide +kernel
theorem dX13_addsVirtuals_6 : decode cX13_addsVirtuals 6 = .ok (.iload 5, 2) := by decide +kernel
theorem dX13_addsVirtuals_8 : decode cX13_addsVirtuals 8 = .ok (.bipush 6, 2) := by decide +kernel
theorem dX13_addsVirtuals_10 : decode cX13_addsVirtuals 10 = .ok (.iload_n 1, 1) := by decide +kernel
theorem dX13_addsVirtuals_11 : decode cX13_addsVirtuals 11 = .ok (.imul, 1) := by decide +kernel
theorem dX13_addsVirtuals_12 : decode cX13_addsVirtuals 12 = .ok (.aload_n 0, 1) := by decide +kernel
theorem dX13_addsVirtuals_13 : decode cX13_addsVirtuals 13 = .ok (.getfield 57, 3) := by decide +kernel
theorem dX13_addsVirtuals_16 : decode cX13_addsVirtuals 16 = .ok (.iload_n 1, 1) := by decide +kernel
theorem dX13_addsVirtuals_17 : decode cX13_addsVirtuals 17 = .ok (.iaload, 1) := by decide +kernel
theorem dX13_addsVirtuals_18 : decode cX13_addsVirtuals 18 = .ok (.iadd, 1) := by decide +kernel
theorem dX13_addsVirtuals_19 : decode cX13_addsVirtuals 19 = .ok (.if_icmp .ge 89, 3) := by decide +kernel
theorem dX13_addsVirtuals_22 : decode cX13_addsVirtuals 22 = .ok (.iconst 0, 1) := by decide +kernel
theorem dX13_addsVirtuals_23 : decode cX13_addsVirtuals 23 = .ok (.istore 6, 2) := by decide +kernel
theorem dX13_addsVirtuals_25 : decode cX13_addsVirtuals 25 = .ok (.iload 6, 2) := by decide +kernel
theorem dX13_addsVirtuals_27 : decode cX13_addsVirtuals 27 = .ok (.bipush 64, 2) := by decide +kernel
theorem dX13_addsVirtuals_29 : decode cX13_addsVirtuals 29 = .ok (.if_icmp .ge 73, 3) := by decide +kernel
theorem dX13_addsVirtuals_32 : decode cX13_addsVirtuals 32 = .ok (.aload_n 0, 1) := by decide +kernel
theorem dX13_addsVirtuals_33 : decode cX13_addsVirtuals 33 = .ok (.getfield 60, 3) := by decide +kernel
theorem dX13_addsVirtuals_36 : decode cX13_addsVirtuals 36 = .ok (.iload 5, 2) := by decide +kernel
theorem dX13_addsVirtuals_38 : decode cX13_addsVirtuals 38 = .ok (.iaload, 1) := by decide +kernel
theorem dX13_addsVirtuals_39 : decode cX13_addsVirtuals 39 = .ok (.iload_n 2, 1) := by decide +kernel
theorem dX13_addsVirtuals_40 : decode cX13_addsVirtuals 40 = .ok (.if_icmp .ne 62, 3) := by decide +kernel
theorem dX13_addsVirtuals_43 : decode cX13_addsVirtuals 43 = .ok (.aload_n 0, 1) := by decide +kernel
theorem dX13_addsVirtuals_44 : decode cX13_addsVirtuals 44 = .ok (.getfield 63, 3) := by decide +kernel
theorem dX13_addsVirtuals_47 : decode cX13_addsVirtuals 47 = .ok (.iload 5, 2) := by decide +kernel
theorem dX13_addsVirtuals_49 : decode cX13_addsVirtuals 49 = .ok (.iaload, 1) := by decide +kernel
theorem dX13_addsVirtuals_50 : decode cX13_addsVirtuals 50 = .ok (.iload_n 3, 1) := by decide +kernel
theorem dX13_addsVirtuals_51 : decode cX13_addsVirtuals 51 = .ok (.iload 4, 2) := by decide +kernel
theorem dX13_addsVirtuals_53 : decode cX13_addsVirtuals 53 = .ok (.invokestatic 187, 3) := by decide +kernel
theorem dX13_addsVirtuals_56 : decode cX13_addsVirtuals 56 = .ok (.ifCond .eq 46, 3) := by decide +kernel
theorem dX13_addsVirtuals_59 : decode cX13_addsVirtuals 59 = .ok (.aload_n 0, 1) := by decide +kernel
theorem dX13_addsVirtuals_60 : decode cX13_addsVirtuals 60 = .ok (.getfield 66, 3) := by decide +kernel
theorem dX13_addsVirtuals_63 : decode cX13_addsVirtuals 63 = .ok (.iload 5, 2) := by decide +kernel
theorem dX13_addsVirtuals_65 : decode cX13_addsVirtuals 65 = .ok (.laload, 1) := by decide +kernel
theorem dX13_addsVirtuals_66 : decode cX13_addsVirtuals 66 = .ok (.iload 6, 2) := by decide +kernel
theorem dX13_addsVirtuals_68 : decode cX13_addsVirtuals 68 = .ok (.lshr, 1) := by decide +kernel
theorem dX13_addsVirtuals_69 : decode cX13_addsVirtuals 69 = .ok (.ldc2_w 239, 3) := by decide +kernel
theorem dX13_addsVirtuals_72 : decode cX13_addsVirtuals 72 = .ok (.land, 1) := by decide +kernel
theorem dX13_addsVirtuals_73 : decode cX13_addsVirtuals 73 = .ok (.l2i, 1) := by decide +kernel
theorem dX13_addsVirtuals_74 : decode cX13_addsVirtuals 74 = .ok (.istore 7, 2) := by decide +kernel
theorem dX13_addsVirtuals_76 : decode cX13_addsVirtuals 76 = .ok (.iload 7, 2) := by decide +kernel
theorem dX13_addsVirtuals_78 : decode cX13_addsVirtuals 78 = .ok (.ifCond .le 18, 3) := by decide +kernel
theorem dX13_addsVirtuals_81 : decode cX13_addsVirtuals 81 = .ok (.aload_n 0, 1) := by decide +kernel
theorem dX13_addsVirtuals_82 : decode cX13_addsVirtuals 82 = .ok (.iload 7, 2) := by decide +kernel
theorem dX13_addsVirtuals_84 : decode cX13_addsVirtuals 84 = .ok (.iconst 1, 1) := by decide +kernel
theorem dX13_addsVirtuals_85 : decode cX13_addsVirtuals 85 = .ok (.iconst (-1), 1) := by decide +kernel
theorem dX13_addsVirtuals_86 : decode cX13_addsVirtuals 86 = .ok (.aload_n 0, 1) := by decide +kernel
theorem dX13_addsVirtuals_87 : decode cX13_addsVirtuals 87 = .ok (.getfield 63, 3) := by decide +kernel
theorem dX13_addsVirtuals_90 : decode cX13_addsVirtuals 90 = .ok (.iload 5, 2) := by decide +kernel
theorem dX13_addsVirtuals_92 : decode cX13_addsVirtuals 92 = .ok (.iaload, 1) := by decide +kernel
theorem dX13_addsVirtuals_93 : decode cX13_addsVirtuals 93 = .ok (.invokevirtual 248, 3) := by decide +kernel
theorem dX13_addsVirtuals_96 : decode cX13_addsVirtuals 96 = .ok (.iinc 6 8, 3) := by decide +kernel
theorem dX13_addsVirtuals_99 : decode cX13_addsVirtuals 99 = .ok (.goto (-74), 3) := by decide +kernel
theorem dX13_addsVirtuals_102 : decode cX13_addsVirtuals 102 = .ok (.iinc 5 1, 3) := by decide +kernel
theorem dX13_addsVirtuals_105 : decode cX13_addsVirtuals 105 = .ok (.goto (-99), 3) := by decide +kernel
theorem dX13_addsVirtuals_108 : decode cX13_addsVirtuals 108 = .ok (.return_, 1) := by decide +kernel
theorem dX13_findsClusters_0 : decode cX13_findsClusters 0 = .ok (.aload_n 0, 1) := by decide +kernel
theorem dX13_findsClusters_1 : decode cX13_findsClusters 1 = .ok (.iconst 0, 1) := by decide +kernel
theorem dX13_findsClusters_2 : decode cX13_findsClusters 2 = .ok (.putfield 245, 3) := by decide +kernel
theorem dX13_findsClusters_5 : decode cX13_findsClusters 5 = .ok (.iconst 0, 1) := by decide +kernel
theorem dX13_findsClusters_6 : decode cX13_findsClusters 6 = .ok (.istore_n 3, 1) := by decide +kernel
theorem dX13_findsClusters_7 : decode cX13_findsClusters 7 = .ok (.iconst 0, 1) := by decide +kernel
theorem dX13_findsClusters_8 : decode cX13_findsClusters 8 = .ok (.istore 4, 2) := by decide +kernel
theorem dX13_findsClusters_10 : decode cX13_findsClusters 10 = .ok (.iload 4, 2) := by decide +kernel
theorem dX13_findsClusters_12 : decode cX13_findsClusters 12 = .ok (.aload_n 0, 1) := by decide +kernel
theorem dX13_findsClusters_13 : decode cX13_findsClusters 13 = .ok (.getfield 13, 3) := by decide +kernel
theorem dX13_findsClusters_16 : decode cX13_findsClusters 16 = .ok (.iload_n 2, 1) := by decide +kernel
theorem dX13_findsClusters_17 : decode cX13_findsClusters 17 = .ok (.iaload, 1) := by decide +kernel
theorem dX13_findsClusters_18 : decode cX13_findsClusters 18 = .ok (.if_icmp .ge 100, 3) := by decide +kernel
theorem dX13_findsClusters_21 : decode cX13_findsClusters 21 = .ok (.iload 4, 2) := by decide +kernel
theorem dX13_findsClusters_23 : decode cX13_findsClusters 23 = .ok (.iconst 1, 1) := by decide +kernel
theorem dX13_findsClusters_24 : decode cX13_findsClusters 24 = .ok (.iadd, 1) := by decide +kernel
theorem dX13_findsClusters_25 : decode cX13_findsClusters 25 = .ok (.istore 5, 2) := by decide +kernel
theorem dX13_findsClusters_27 : decode cX13_findsClusters 27 = .ok (.iload 5, 2) := by decide +kernel
theorem dX13_findsClusters_29 : decode cX13_findsClusters 29 = .ok (.aload_n 0, 1) := by decide +kernel
theorem dX13_findsClusters_30 : decode cX13_findsClusters 30 = .ok (.getfield 13, 3) := by decide +kernel
theorem dX13_findsClusters_33 : decode cX13_findsClusters 33 = .ok (.iload_n 2, 1) := by decide +kernel
theorem dX13_findsClusters_34 : decode cX13_findsClusters 34 = .ok (.iaload, 1) := by decide +kernel
theorem dX13_findsClusters_35 : decode cX13_findsClusters 35 = .ok (.if_icmp .ge 26, 3) := by decide +kernel
theorem dX13_findsClusters_38 : decode cX13_findsClusters 38 = .ok (.aload_n 0, 1) := by decide +kernel
theorem dX13_findsClusters_39 : decode cX13_findsClusters 39 = .ok (.getfield 7, 3) := by decide +kernel
theorem dX13_findsClusters_42 : decode cX13_findsClusters 42 = .ok (.bipush 80, 2) := by decide +kernel
theorem dX13_findsClusters_44 : decode cX13_findsClusters 44 = .ok (.iload_n 2, 1) := by decide +kernel
theorem dX13_findsClusters_45 : decode cX13_findsClusters 45 = .ok (.imul, 1) := by decide +kernel
theorem dX13_findsClusters_46 : decode cX13_findsClusters 46 = .ok (.iload 5, 2) := by decide +kernel
theorem dX13_findsClusters_48 : decode cX13_findsClusters 48 = .ok (.iadd, 1) := by decide +kernel
theorem dX13_findsClusters_49 : decode cX13_findsClusters 49 = .ok (.iaload, 1) := by decide +kernel
theorem dX13_findsClusters_50 : decode cX13_findsClusters 50 = .ok (.bipush 126, 2) := by decide +kernel
theorem dX13_findsClusters_52 : decode cX13_findsClusters 52 = .ok (.if_icmp .ne 9, 3) := by decide +kernel
theorem dX13_findsClusters_55 : decode cX13_findsClusters 55 = .ok (.iinc 5 1, 3) := by decide +kernel
theorem dX13_findsClusters_58 : decode cX13_findsClusters 58 = .ok (.goto (-31), 3) := by decide +kernel
theorem dX13_findsClusters_61 : decode cX13_findsClusters 61 = .ok (.aload_n 0, 1) := by decide +kernel
theorem dX13_findsClusters_62 : decode cX13_findsClusters 62 = .ok (.iload_n 1, 1) := by decide +kernel
theorem dX13_findsClusters_63 : decode cX13_findsClusters 63 = .ok (.iload_n 2, 1) := by decide +kernel
theorem dX13_findsClusters_64 : decode cX13_findsClusters 64 = .ok (.iload_n 3, 1) := by decide +kernel
theorem dX13_findsClusters_65 : decode cX13_findsClusters 65 = .ok (.iload 4, 2) := by decide +kernel
theorem dX13_findsClusters_67 : decode cX13_findsClusters 67 = .ok (.invokevirtual 252, 3) := by decide +kernel
theorem dX13_findsClusters_70 : decode cX13_findsClusters 70 = .ok (.aload_n 0, 1) := by decide +kernel
theorem dX13_findsClusters_71 : decode cX13_findsClusters 71 = .ok (.iload_n 1, 1) := by decide +kernel
theorem dX13_findsClusters_72 : decode cX13_findsClusters 72 = .ok (.iload_n 2, 1) := by decide +kernel
theorem dX13_findsClusters_73 : decode cX13_findsClusters 73 = .ok (.iload 4, 2) := by decide +kernel
theorem dX13_findsClusters_75 : decode cX13_findsClusters 75 = .ok (.invokevirtual 255, 3) := by decide +kernel
theorem dX13_findsClusters_78 : decode cX13_findsClusters 78 = .ok (.ifCond .ne 28, 3) := by decide +kernel
theorem dX13_findsClusters_81 : decode cX13_findsClusters 81 = .ok (.aload_n 0, 1) := by decide +kernel
theorem dX13_findsClusters_82 : decode cX13_findsClusters 82 = .ok (.aload_n 0, 1) := by decide +kernel
theorem dX13_findsClusters_83 : decode cX13_findsClusters 83 = .ok (.getfield 7, 3) := by decide +kernel
theorem dX13_findsClusters_86 : decode cX13_findsClusters 86 = .ok (.bipush 80, 2) := by decide +kernel
theorem dX13_findsClusters_88 : decode cX13_findsClusters 88 = .ok (.iload_n 2, 1) := by decide +kernel
theorem dX13_findsClusters_89 : decode cX13_findsClusters 89 = .ok (.imul, 1) := by decide +kernel
theorem dX13_findsClusters_90 : decode cX13_findsClusters 90 = .ok (.iload 4, 2) := by decide +kernel
theorem dX13_findsClusters_92 : decode cX13_findsClusters 92 = .ok (.iadd, 1) := by decide +kernel
theorem dX13_findsClusters_93 : decode cX13_findsClusters 93 = .ok (.iaload, 1) := by decide +kernel
theorem dX13_findsClusters_94 : decode cX13_findsClusters 94 = .ok (.iload 5, 2) := by decide +kernel
theorem dX13_findsClusters_96 : decode cX13_findsClusters 96 = .ok (.iload 4, 2) := by decide +kernel
theorem dX13_findsClusters_98 : decode cX13_findsClusters 98 = .ok (.isub, 1) := by decide +kernel
theorem dX13_findsClusters_99 : decode cX13_findsClusters 99 = .ok (.iload 4, 2) := by decide +kernel
theorem dX13_findsClusters_101 : decode cX13_findsClusters 101 = .ok (.iload 4, 2) := by decide +kernel
theorem dX13_findsClusters_103 : decode cX13_findsClusters 103 = .ok (.invokevirtual 248, 3) := by decide +kernel
theorem dX13_findsClusters_106 : decode cX13_findsClusters 106 = .ok (.iload 4, 2) := by decide +kernel
theorem dX13_findsClusters_108 : decode cX13_findsClusters 108 = .ok (.iconst 1, 1) := by decide +kernel
theorem dX13_findsClusters_109 : decode cX13_findsClusters 109 = .ok (.iadd, 1) := by decide +kernel
theorem dX13_findsClusters_110 : decode cX13_findsClusters 110 = .ok (.istore_n 3, 1) := by decide +kernel
theorem dX13_findsClusters_111 : decode cX13_findsClusters 111 = .ok (.iload 5, 2) := by decide +kernel
theorem dX13_findsClusters_113 : decode cX13_findsClusters 113 = .ok (.istore 4, 2) := by decide +kernel
theorem dX13_findsClusters_115 : decode cX13_findsClusters 115 = .ok (.goto (-105), 3) := by decide +kernel
theorem dX13_findsClusters_118 : decode cX13_findsClusters 118 = .ok (.aload_n 0, 1) := by decide +kernel
theorem dX13_findsClusters_119 : decode cX13_findsClusters 119 = .ok (.iload_n 1, 1) := by decide +kernel
theorem dX13_findsClusters_120 : decode cX13_findsClusters 120 = .ok (.iload_n 2, 1) := by decide +kernel
theorem dX13_findsClusters_121 : decode cX13_findsClusters 121 = .ok (.iload_n 3, 1) := by decide +kernel
theorem dX13_findsClusters_122 : decode cX13_findsClusters 122 = .ok (.bipush 80, 2) := by decide +kernel
theorem dX13_findsClusters_124 : decode cX13_findsClusters 124 = .ok (.invokevirtual 252, 3) := by decide +kernel
theorem dX13_findsClusters_127 : decode cX13_findsClusters 127 = .ok (.iconst 0, 1) := by decide +kernel
theorem dX13_findsClusters_128 : decode cX13_findsClusters 128 = .ok (.istore 5, 2) := by decide +kernel
theorem dX13_findsClusters_130 : decode cX13_findsClusters 130 = .ok (.iload 5, 2) := by decide +kernel
theorem dX13_findsClusters_132 : decode cX13_findsClusters 132 = .ok (.iconst 3, 1) := by decide +kernel
theorem dX13_findsClusters_133 : decode cX13_findsClusters 133 = .ok (.if_icmp .ge 32, 3) := by decide +kernel
theorem dX13_findsClusters_136 : decode cX13_findsClusters 136 = .ok (.aload_n 0, 1) := by decide +kernel
theorem dX13_findsClusters_137 : decode cX13_findsClusters 137 = .ok (.iload_n 1, 1) := by decide +kernel
theorem dX13_findsClusters_138 : decode cX13_findsClusters 138 = .ok (.iload_n 2, 1) := by decide +kernel
theorem dX13_findsClusters_139 : decode cX13_findsClusters 139 = .ok (.invokevirtual 258, 3) := by decide +kernel
theorem dX13_findsClusters_142 : decode cX13_findsClusters 142 = .ok (.ifCond .eq 23, 3) := by decide +kernel
theorem dX13_findsClusters_145 : decode cX13_findsClusters 145 = .ok (.aload_n 0, 1) := by decide +kernel
theorem dX13_findsClusters_146 : decode cX13_findsClusters 146 = .ok (.bipush 46, 2) := by decide +kernel
theorem dX13_findsClusters_148 : decode cX13_findsClusters 148 = .ok (.iconst 1, 1) := by decide +kernel
theorem dX13_findsClusters_149 : decode cX13_findsClusters 149 = .ok (.iconst (-1), 1) := by decide +kernel
theorem dX13_findsClusters_150 : decode cX13_findsClusters 150 = .ok (.aload_n 0, 1) := by decide +kernel
theorem dX13_findsClusters_151 : decode cX13_findsClusters 151 = .ok (.getfield 13, 3) := by decide +kernel
theorem dX13_findsClusters_154 : decode cX13_findsClusters 154 = .ok (.iload_n 2, 1) := by decide +kernel
theorem dX13_findsClusters_155 : decode cX13_findsClusters 155 = .ok (.iaload, 1) := by decide +kernel
theorem dX13_findsClusters_156 : decode cX13_findsClusters 156 = .ok (.invokevirtual 248, 3) := by decide +kernel
theorem dX13_findsClusters_159 : decode cX13_findsClusters 159 = .ok (.iinc 5 1, 3) := by decide +kernel
theorem dX13_findsClusters_162 : decode cX13_findsClusters 162 = .ok (.goto (-32), 3) := by decide +kernel
theorem dX13_findsClusters_165 : decode cX13_findsClusters 165 = .ok (.return_, 1) := by decide +kernel
theorem dX13_isBlank_0 : decode cX13_isBlank 0 = .ok (.aload_n 0, 1) := by decide +kernel
theorem dX13_isBlank_1 : decode cX13_isBlank 1 = .ok (.getfield 100, 3) := by decide +kernel
theorem dX13_isBlank_4 : decode cX13_isBlank 4 = .ok (.iload_n 1, 1) := by decide +kernel
theorem dX13_isBlank_5 : decode cX13_isBlank 5 = .ok (.iaload, 1) := by decide +kernel
theorem dX13_isBlank_6 : decode cX13_isBlank 6 = .ok (.bipush 32, 2) := by decide +kernel
theorem dX13_isBlank_8 : decode cX13_isBlank 8 = .ok (.if_icmp .eq 14, 3) := by decide +kernel
theorem dX13_isBlank_11 : decode cX13_isBlank 11 = .ok (.aload_n 0, 1) := by decide +kernel
theorem dX13_isBlank_12 : decode cX13_isBlank 12 = .ok (.getfield 100, 3) := by decide +kernel
theorem dX13_isBlank_15 : decode cX13_isBlank 15 = .ok (.iload_n 1, 1) := by decide +kernel
theorem dX13_isBlank_16 : decode cX13_isBlank 16 = .ok (.iaload, 1) := by decide +kernel
theorem dX13_isBlank_17 : decode cX13_isBlank 17 = .ok (.bipush 9, 2) := by decide +kernel
theorem dX13_isBlank_19 : decode cX13_isBlank 19 = .ok (.if_icmp .ne 7, 3) := by decide +kernel
theorem dX13_isBlank_22 : decode cX13_isBlank 22 = .ok (.iconst 1, 1) := by decide +kernel
theorem dX13_isBlank_23 : decode cX13_isBlank 23 = .ok (.goto 4, 3) := by decide +kernel
theorem dX13_isBlank_26 : decode cX13_isBlank 26 = .ok (.iconst 0, 1) := by decide +kernel
theorem dX13_isBlank_27 : decode cX13_isBlank 27 = .ok (.ireturn, 1) := by decide +kernel
theorem dX13_widthOf_0 : decode cX13_widthOf 0 = .ok (.aload_n 0, 1) := by decide +kernel
theorem dX13_widthOf_1 : decode cX13_widthOf 1 = .ok (.getfield 100, 3) := by decide +kernel
theorem dX13_widthOf_4 : decode cX13_widthOf 4 = .ok (.iload_n 1, 1) := by decide +kernel
theorem dX13_widthOf_5 : decode cX13_widthOf 5 = .ok (.iaload, 1) := by decide +kernel
theorem dX13_widthOf_6 : decode cX13_widthOf 6 = .ok (.bipush 9, 2) := by decide +kernel
theorem dX13_widthOf_8 : decode cX13_widthOf 8 = .ok (.if_icmp .ne 11, 3) := by decide +kernel
theorem dX13_widthOf_11 : decode cX13_widthOf 11 = .ok (.iconst 4, 1) := by decide +kernel
theorem dX13_widthOf_12 : decode cX13_widthOf 12 = .ok (.iload_n 2, 1) := by decide +kernel
theorem dX13_widthOf_13 : decode cX13_widthOf 13 = .ok (.iconst 4, 1) := by decide +kernel
theorem dX13_widthOf_14 : decode cX13_widthOf 14 = .ok (.irem, 1) := by decide +kernel
theorem dX13_widthOf_15 : decode cX13_widthOf 15 = .ok (.isub, 1) := by decide +kernel
theorem dX13_widthOf_16 : decode cX13_widthOf 16 = .ok (.goto 24, 3) := by decide +kernel
theorem dX13_widthOf_19 : decode cX13_widthOf 19 = .ok (.aload_n 0, 1) := by decide +kernel
theorem dX13_widthOf_20 : decode cX13_widthOf 20 = .ok (.getfield 100, 3) := by decide +kernel
theorem dX13_widthOf_23 : decode cX13_widthOf 23 = .ok (.iload_n 1, 1) := by decide +kernel
theorem dX13_widthOf_24 : decode cX13_widthOf 24 = .ok (.iaload, 1) := by decide +kernel
theorem dX13_widthOf_25 : decode cX13_widthOf 25 = .ok (.bipush 65, 2) := by decide +kernel
theorem dX13_widthOf_27 : decode cX13_widthOf 27 = .ok (.bipush 90, 2) := by decide +kernel
theorem dX13_widthOf_29 : decode cX13_widthOf 29 = .ok (.invokestatic 187, 3) := by decide +kernel
theorem dX13_widthOf_32 : decode cX13_widthOf 32 = .ok (.ifCond .eq 7, 3) := by decide +kernel
theorem dX13_widthOf_35 : decode cX13_widthOf 35 = .ok (.iconst 2, 1) := by decide +kernel
theorem dX13_widthOf_36 : decode cX13_widthOf 36 = .ok (.goto 4, 3) := by decide +kernel
theorem dX13_widthOf_39 : decode cX13_widthOf 39 = .ok (.iconst 1, 1) := by decide +kernel
theorem dX13_widthOf_40 : decode cX13_widthOf 40 = .ok (.ireturn, 1) := by decide +kernel
theorem dX13_laysRows_0 : decode cX13_laysRows 0 = .ok (.aload_n 0, 1) := by decide +kernel
theorem dX13_laysRows_1 : decode cX13_laysRows 1 = .ok (.iconst 0, 1) := by decide +kernel
theorem dX13_laysRows_2 : decode cX13_laysRows 2 = .ok (.putfield 262, 3) := by decide +kernel
theorem dX13_laysRows_5 : decode cX13_laysRows 5 = .ok (.iconst 0, 1) := by decide +kernel
theorem dX13_laysRows_6 : decode cX13_laysRows 6 = .ok (.istore_n 2, 1) := by decide +kernel
theorem dX13_laysRows_7 : decode cX13_laysRows 7 = .ok (.iload_n 2, 1) := by decide +kernel
theorem dX13_laysRows_8 : decode cX13_laysRows 8 = .ok (.aload_n 0, 1) := by decide +kernel
theorem dX13_laysRows_9 : decode cX13_laysRows 9 = .ok (.getfield 245, 3) := by decide +kernel
theorem dX13_laysRows_12 : decode cX13_laysRows 12 = .ok (.if_icmp .lt 10, 3) := by decide +kernel
theorem dX13_laysRows_15 : decode cX13_laysRows 15 = .ok (.aload_n 0, 1) := by decide +kernel
theorem dX13_laysRows_16 : decode cX13_laysRows 16 = .ok (.getfield 262, 3) := by decide +kernel
theorem dX13_laysRows_19 : decode cX13_laysRows 19 = .ok (.ifCond .ne 170, 3) := by decide +kernel
theorem dX13_laysRows_22 : decode cX13_laysRows 22 = .ok (.aload_n 0, 1) := by decide +kernel
theorem dX13_laysRows_23 : decode cX13_laysRows 23 = .ok (.getfield 127, 3) := by decide +kernel
theorem dX13_laysRows_26 : decode cX13_laysRows 26 = .ok (.aload_n 0, 1) := by decide +kernel
theorem dX13_laysRows_27 : decode cX13_laysRows 27 = .ok (.getfield 262, 3) := by decide +kernel
theorem dX13_laysRows_30 : decode cX13_laysRows 30 = .ok (.iload_n 2, 1) := by decide +kernel
theorem dX13_laysRows_31 : decode cX13_laysRows 31 = .ok (.iastore, 1) := by decide +kernel
theorem dX13_laysRows_32 : decode cX13_laysRows 32 = .ok (.aload_n 0, 1) := by decide +kernel
theorem dX13_laysRows_33 : decode cX13_laysRows 33 = .ok (.getfield 262, 3) := by decide +kernel
theorem dX13_laysRows_36 : decode cX13_laysRows 36 = .ok (.ifCond .ne 7, 3) := by decide +kernel
theorem dX13_laysRows_39 : decode cX13_laysRows 39 = .ok (.iconst 0, 1) := by decide +kernel
theorem dX13_laysRows_40 : decode cX13_laysRows 40 = .ok (.goto 9, 3) := by decide +kernel
theorem dX13_laysRows_43 : decode cX13_laysRows 43 = .ok (.aload_n 0, 1) := by decide +kernel
theorem dX13_laysRows_44 : decode cX13_laysRows 44 = .ok (.getfield 27, 3) := by decide +kernel
theorem dX13_laysRows_47 : decode cX13_laysRows 47 = .ok (.iload_n 1, 1) := by decide +kernel
theorem dX13_laysRows_48 : decode cX13_laysRows 48 = .ok (.iaload, 1) := by decide +kernel
theorem dX13_laysRows_49 : decode cX13_laysRows 49 = .ok (.istore_n 3, 1) := by decide +kernel
theorem dX13_laysRows_50 : decode cX13_laysRows 50 = .ok (.iconst (-1), 1) := by decide +kernel
theorem dX13_laysRows_51 : decode cX13_laysRows 51 = .ok (.istore 4, 2) := by decide +kernel
theorem dX13_laysRows_53 : decode cX13_laysRows 53 = .ok (.iload_n 2, 1) := by decide +kernel
theorem dX13_laysRows_54 : decode cX13_laysRows 54 = .ok (.aload_n 0, 1) := by decide +kernel
theorem dX13_laysRows_55 : decode cX13_laysRows 55 = .ok (.getfield 245, 3) := by decide +kernel
theorem dX13_laysRows_58 : decode cX13_laysRows 58 = .ok (.if_icmp .ge 65, 3) := by decide +kernel
theorem dX13_laysRows_61 : decode cX13_laysRows 61 = .ok (.iload_n 3, 1) := by decide +kernel
theorem dX13_laysRows_62 : decode cX13_laysRows 62 = .ok (.aload_n 0, 1) := by decide +kernel
theorem dX13_laysRows_63 : decode cX13_laysRows 63 = .ok (.iload_n 2, 1) := by decide +kernel
theorem dX13_laysRows_64 : decode cX13_laysRows 64 = .ok (.iload_n 3, 1) := by decide +kernel
theorem dX13_laysRows_65 : decode cX13_laysRows 65 = .ok (.invokevirtual 265, 3) := by decide +kernel
theorem dX13_laysRows_68 : decode cX13_laysRows 68 = .ok (.iadd, 1) := by decide +kernel
theorem dX13_laysRows_69 : decode cX13_laysRows 69 = .ok (.aload_n 0, 1) := by decide +kernel
theorem dX13_laysRows_70 : decode cX13_laysRows 70 = .ok (.getfield 24, 3) := by decide +kernel
theorem dX13_laysRows_73 : decode cX13_laysRows 73 = .ok (.iload_n 1, 1) := by decide +kernel
theorem dX13_laysRows_74 : decode cX13_laysRows 74 = .ok (.iaload, 1) := by decide +kernel
theorem dX13_laysRows_75 : decode cX13_laysRows 75 = .ok (.if_icmp .gt 48, 3) := by decide +kernel
theorem dX13_laysRows_78 : decode cX13_laysRows 78 = .ok (.aload_n 0, 1) := by decide +kernel
theorem dX13_laysRows_79 : decode cX13_laysRows 79 = .ok (.getfield 112, 3) := by decide +kernel
theorem dX13_laysRows_82 : decode cX13_laysRows 82 = .ok (.iload_n 2, 1) := by decide +kernel
theorem dX13_laysRows_83 : decode cX13_laysRows 83 = .ok (.aload_n 0, 1) := by decide +kernel
theorem dX13_laysRows_84 : decode cX13_laysRows 84 = .ok (.iload_n 2, 1) := by decide +kernel
theorem dX13_laysRows_85 : decode cX13_laysRows 85 = .ok (.iload_n 3, 1) := by decide +kernel
theorem dX13_laysRows_86 : decode cX13_laysRows 86 = .ok (.invokevirtual 265, 3) := by decide +kernel
theorem dX13_laysRows_89 : decode cX13_laysRows 89 = .ok (.iastore, 1) := by decide +kernel
theorem dX13_laysRows_90 : decode cX13_laysRows 90 = .ok (.iload_n 3, 1) := by decide +kernel
theorem dX13_laysRows_91 : decode cX13_laysRows 91 = .ok (.aload_n 0, 1) := by decide +kernel
theorem dX13_laysRows_92 : decode cX13_laysRows 92 = .ok (.getfield 112, 3) := by decide +kernel
theorem dX13_laysRows_95 : decode cX13_laysRows 95 = .ok (.iload_n 2, 1) := by decide +kernel
theorem dX13_laysRows_96 : decode cX13_laysRows 96 = .ok (.iaload, 1) := by decide +kernel
theorem dX13_laysRows_97 : decode cX13_laysRows 97 = .ok (.iadd, 1) := by decide +kernel
theorem dX13_laysRows_98 : decode cX13_laysRows 98 = .ok (.istore_n 3, 1) := by decide +kernel
theorem dX13_laysRows_99 : decode cX13_laysRows 99 = .ok (.aload_n 0, 1) := by decide +kernel
theorem dX13_laysRows_100 : decode cX13_laysRows 100 = .ok (.iload_n 2, 1) := by decide +kernel
theorem dX13_laysRows_101 : decode cX13_laysRows 101 = .ok (.invokevirtual 268, 3) := by decide +kernel
theorem dX13_laysRows_104 : decode cX13_laysRows 104 = .ok (.ifCond .eq 9, 3) := by decide +kernel
theorem dX13_laysRows_107 : decode cX13_laysRows 107 = .ok (.iload_n 2, 1) := by decide +kernel
theorem dX13_laysRows_108 : decode cX13_laysRows 108 = .ok (.iconst 1, 1) := by decide +kernel
theorem dX13_laysRows_109 : decode cX13_laysRows 109 = .ok (.iadd, 1) := by decide +kernel
theorem dX13_laysRows_110 : decode cX13_laysRows 110 = .ok (.goto 5, 3) := by decide +kernel
theorem dX13_laysRows_113 : decode cX13_laysRows 113 = .ok (.iload 4, 2) := by decide +kernel
theorem dX13_laysRows_115 : decode cX13_laysRows 115 = .ok (.istore 4, 2) := by decide +kernel
theorem dX13_laysRows_117 : decode cX13_laysRows 117 = .ok (.iinc 2 1, 3) := by decide +kernel
theorem dX13_laysRows_120 : decode cX13_laysRows 120 = .ok (.goto (-67), 3) := by decide +kernel
theorem dX13_laysRows_123 : decode cX13_laysRows 123 = .ok (.iload_n 2, 1) := by decide +kernel
theorem dX13_laysRows_124 : decode cX13_laysRows 124 = .ok (.aload_n 0, 1) := by decide +kernel
theorem dX13_laysRows_125 : decode cX13_laysRows 125 = .ok (.getfield 245, 3) := by decide +kernel
theorem dX13_laysRows_128 : decode cX13_laysRows 128 = .ok (.if_icmp .ge 27, 3) := by decide +kernel
theorem dX13_laysRows_131 : decode cX13_laysRows 131 = .ok (.aload_n 0, 1) := by decide +kernel
theorem dX13_laysRows_132 : decode cX13_laysRows 132 = .ok (.iload_n 2, 1) := by decide +kernel
theorem dX13_laysRows_133 : decode cX13_laysRows 133 = .ok (.invokevirtual 268, 3) := by decide +kernel
theorem dX13_laysRows_136 : decode cX13_laysRows 136 = .ok (.ifCond .eq 19, 3) := by decide +kernel
theorem dX13_laysRows_139 : decode cX13_laysRows 139 = .ok (.aload_n 0, 1) := by decide +kernel
theorem dX13_laysRows_140 : decode cX13_laysRows 140 = .ok (.getfield 112, 3) := by decide +kernel
theorem dX13_laysRows_143 : decode cX13_laysRows 143 = .ok (.iload_n 2, 1) := by decide +kernel
theorem dX13_laysRows_144 : decode cX13_laysRows 144 = .ok (.iconst 0, 1) := by decide +kernel
theorem dX13_laysRows_145 : decode cX13_laysRows 145 = .ok (.iastore, 1) := by decide +kernel
theorem dX13_laysRows_146 : decode cX13_laysRows 146 = .ok (.iinc 2 1, 3) := by decide +kernel
theorem dX13_laysRows_149 : decode cX13_laysRows 149 = .ok (.iload_n 2, 1) := by decide +kernel
theorem dX13_laysRows_150 : decode cX13_laysRows 150 = .ok (.istore 4, 2) := by decide +kernel
theorem dX13_laysRows_152 : decode cX13_laysRows 152 = .ok (.goto (-29), 3) := by decide +kernel
theorem dX13_laysRows_155 : decode cX13_laysRows 155 = .ok (.iload_n 2, 1) := by decide +kernel
theorem dX13_laysRows_156 : decode cX13_laysRows 156 = .ok (.aload_n 0, 1) := by decide +kernel
theorem dX13_laysRows_157 : decode cX13_laysRows 157 = .ok (.getfield 245, 3) := by decide +kernel
theorem dX13_laysRows_160 : decode cX13_laysRows 160 = .ok (.if_icmp .ge 14, 3) := by decide +kernel
theorem dX13_laysRows_163 : decode cX13_laysRows 163 = .ok (.iload 4, 2) := by decide +kernel
theorem dX13_laysRows_165 : decode cX13_laysRows 165 = .ok (.iconst (-1), 1) := by decide +kernel
theorem dX13_laysRows_166 : decode cX13_laysRows 166 = .ok (.if_icmp .eq 8, 3) := by decide +kernel
theorem dX13_laysRows_169 : decode cX13_laysRows 169 = .ok (.iload 4, 2) := by decide +kernel
theorem dX13_laysRows_171 : decode cX13_laysRows 171 = .ok (.goto 4, 3) := by decide +kernel
theorem dX13_laysRows_174 : decode cX13_laysRows 174 = .ok (.iload_n 2, 1) := by decide +kernel
theorem dX13_laysRows_175 : decode cX13_laysRows 175 = .ok (.istore_n 2, 1) := by decide +kernel
theorem dX13_laysRows_176 : decode cX13_laysRows 176 = .ok (.aload_n 0, 1) := by decide +kernel
theorem dX13_laysRows_177 : decode cX13_laysRows 177 = .ok (.dup, 1) := by decide +kernel
theorem dX13_laysRows_178 : decode cX13_laysRows 178 = .ok (.getfield 262, 3) := by decide +kernel
theorem dX13_laysRows_181 : decode cX13_laysRows 181 = .ok (.iconst 1, 1) := by decide +kernel
theorem dX13_laysRows_182 : decode cX13_laysRows 182 = .ok (.iadd, 1) := by decide +kernel
theorem dX13_laysRows_183 : decode cX13_laysRows 183 = .ok (.putfield 262, 3) := by decide +kernel
theorem dX13_laysRows_186 : decode cX13_laysRows 186 = .ok (.goto (-179), 3) := by decide +kernel
theorem dX13_laysRows_189 : decode cX13_laysRows 189 = .ok (.aload_n 0, 1) := by decide +kernel
theorem dX13_laysRows_190 : decode cX13_laysRows 190 = .ok (.getfield 127, 3) := by decide +kernel
theorem dX13_laysRows_193 : decode cX13_laysRows 193 = .ok (.aload_n 0, 1) := by decide +kernel
theorem dX13_laysRows_194 : decode cX13_laysRows 194 = .ok (.getfield 262, 3) := by decide +kernel
theorem dX13_laysRows_197 : decode cX13_laysRows 197 = .ok (.aload_n 0, 1) := by decide +kernel
theorem dX13_laysRows_198 : decode cX13_laysRows 198 = .ok (.getfield 245, 3) := by decide +kernel
theorem dX13_laysRows_201 : decode cX13_laysRows 201 = .ok (.iastore, 1) := by decide +kernel
theorem dX13_laysRows_202 : decode cX13_laysRows 202 = .ok (.iconst 0, 1) := by decide +kernel
theorem dX13_laysRows_203 : decode cX13_laysRows 203 = .ok (.istore_n 3, 1) := by decide +kernel
theorem dX13_laysRows_204 : decode cX13_laysRows 204 = .ok (.iload_n 3, 1) := by decide +kernel
theorem dX13_laysRows_205 : decode cX13_laysRows 205 = .ok (.aload_n 0, 1) := by decide +kernel
theorem dX13_laysRows_206 : decode cX13_laysRows 206 = .ok (.getfield 262, 3) := by decide +kernel
theorem dX13_laysRows_209 : decode cX13_laysRows 209 = .ok (.if_icmp .ge 44, 3) := by decide +kernel
theorem dX13_laysRows_212 : decode cX13_laysRows 212 = .ok (.aload_n 0, 1) := by decide +kernel
theorem dX13_laysRows_213 : decode cX13_laysRows 213 = .ok (.getfield 127, 3) := by decide +kernel
theorem dX13_laysRows_216 : decode cX13_laysRows 216 = .ok (.iload_n 3, 1) := by decide +kernel
theorem dX13_laysRows_217 : decode cX13_laysRows 217 = .ok (.iaload, 1) := by decide +kernel
theorem dX13_laysRows_218 : decode cX13_laysRows 218 = .ok (.istore 4, 2) := by decide +kernel
theorem dX13_laysRows_220 : decode cX13_laysRows 220 = .ok (.iload 4, 2) := by decide +kernel
theorem dX13_laysRows_222 : decode cX13_laysRows 222 = .ok (.aload_n 0, 1) := by decide +kernel
theorem dX13_laysRows_223 : decode cX13_laysRows 223 = .ok (.getfield 127, 3) := by decide +kernel
theorem dX13_laysRows_226 : decode cX13_laysRows 226 = .ok (.iload_n 3, 1) := by decide +kernel
theorem dX13_laysRows_227 : decode cX13_laysRows 227 = .ok (.iconst 1, 1) := by decide +kernel
theorem dX13_laysRows_228 : decode cX13_laysRows 228 = .ok (.iadd, 1) := by decide +kernel
theorem dX13_laysRows_229 : decode cX13_laysRows 229 = .ok (.iaload, 1) := by decide +kernel
theorem dX13_laysRows_230 : decode cX13_laysRows 230 = .ok (.if_icmp .ge 17, 3) := by decide +kernel
theorem dX13_laysRows_233 : decode cX13_laysRows 233 = .ok (.aload_n 0, 1) := by decide +kernel
theorem dX13_laysRows_234 : decode cX13_laysRows 234 = .ok (.getfield 121, 3) := by decide +kernel
theorem dX13_laysRows_237 : decode cX13_laysRows 237 = .ok (.iload 4, 2) := by decide +kernel
theorem dX13_laysRows_239 : decode cX13_laysRows 239 = .ok (.iload_n 3, 1) := by decide +kernel
theorem dX13_laysRows_240 : decode cX13_laysRows 240 = .ok (.iastore, 1) := by decide +kernel
theorem dX13_laysRows_241 : decode cX13_laysRows 241 = .ok (.iinc 4 1, 3) := by decide +kernel
theorem dX13_laysRows_244 : decode cX13_laysRows 244 = .ok (.goto (-24), 3) := by decide +kernel
theorem dX13_laysRows_247 : decode cX13_laysRows 247 = .ok (.iinc 3 1, 3) := by decide +kernel
theorem dX13_laysRows_250 : decode cX13_laysRows 250 = .ok (.goto (-46), 3) := by decide +kernel
theorem dX13_laysRows_253 : decode cX13_laysRows 253 = .ok (.return_, 1) := by decide +kernel
theorem dX13_isLeft_0 : decode cX13_isLeft 0 = .ok (.iload_n 0, 1) := by decide +kernel
theorem dX13_isLeft_1 : decode cX13_isLeft 1 = .ok (.bipush 97, 2) := by decide +kernel
theorem dX13_isLeft_3 : decode cX13_isLeft 3 = .ok (.bipush 109, 2) := by decide +kernel
theorem dX13_isLeft_5 : decode cX13_isLeft 5 = .ok (.invokestatic 187, 3) := by decide +kernel
theorem dX13_isLeft_8 : decode cX13_isLeft 8 = .ok (.ifCond .ne 14, 3) := by decide +kernel
theorem dX13_isLeft_11 : decode cX13_isLeft 11 = .ok (.iload_n 0, 1) := by decide +kernel
theorem dX13_isLeft_12 : decode cX13_isLeft 12 = .ok (.bipush 65, 2) := by decide +kernel
theorem dX13_isLeft_14 : decode cX13_isLeft 14 = .ok (.bipush 77, 2) := by decide +kernel
theorem dX13_isLeft_16 : decode cX13_isLeft 16 = .ok (.invokestatic 187, 3) := by decide +kernel
theorem dX13_isLeft_19 : decode cX13_isLeft 19 = .ok (.ifCond .eq 7, 3) := by decide +kernel
theorem dX13_isLeft_22 : decode cX13_isLeft 22 = .ok (.iconst 1, 1) := by decide +kernel
theorem dX13_isLeft_23 : decode cX13_isLeft 23 = .ok (.goto 4, 3) := by decide +kernel
theorem dX13_isLeft_26 : decode cX13_isLeft 26 = .ok (.iconst 0, 1) := by decide +kernel
theorem dX13_isLeft_27 : decode cX13_isLeft 27 = .ok (.ireturn, 1) := by decide +kernel
theorem dX13_isRight_0 : decode cX13_isRight 0 = .ok (.iload_n 0, 1) := by decide +kernel
theorem dX13_isRight_1 : decode cX13_isRight 1 = .ok (.bipush 110, 2) := by decide +kernel
theorem dX13_isRight_3 : decode cX13_isRight 3 = .ok (.bipush 122, 2) := by decide +kernel
theorem dX13_isRight_5 : decode cX13_isRight 5 = .ok (.invokestatic 187, 3) := by decide +kernel
theorem dX13_isRight_8 : decode cX13_isRight 8 = .ok (.ifCond .ne 14, 3) := by decide +kernel
theorem dX13_isRight_11 : decode cX13_isRight 11 = .ok (.iload_n 0, 1) := by decide +kernel
theorem dX13_isRight_12 : decode cX13_isRight 12 = .ok (.bipush 78, 2) := by decide +kernel
theorem dX13_isRight_14 : decode cX13_isRight 14 = .ok (.bipush 90, 2) := by decide +kernel
theorem dX13_isRight_16 : decode cX13_isRight 16 = .ok (.invokestatic 187, 3) := by decide +kernel
theorem dX13_isRight_19 : decode cX13_isRight 19 = .ok (.ifCond .eq 7, 3) := by decide +kernel
theorem dX13_isRight_22 : decode cX13_isRight 22 = .ok (.iconst 1, 1) := by decide +kernel
theorem dX13_isRight_23 : decode cX13_isRight 23 = .ok (.goto 4, 3) := by decide +kernel
theorem dX13_isRight_26 : decode cX13_isRight 26 = .ok (.iconst 0, 1) := by decide +kernel
theorem dX13_isRight_27 : decode cX13_isRight 27 = .ok (.ireturn, 1) := by decide +kernel
theorem dX13_isFigure_0 : decode cX13_isFigure 0 = .ok (.iload_n 0, 1) := by decide +kernel
theorem dX13_isFigure_1 : decode cX13_isFigure 1 = .ok (.bipush 48, 2) := by decide +kernel
theorem dX13_isFigure_3 : decode cX13_isFigure 3 = .ok (.bipush 57, 2) := by decide +kernel
theorem dX13_isFigure_5 : decode cX13_isFigure 5 = .ok (.invokestatic 187, 3) := by decide +kernel
theorem dX13_isFigure_8 : decode cX13_isFigure 8 = .ok (.ireturn, 1) := by decide +kernel
theorem dX13_closing_0 : decode cX13_closing 0 = .ok (.iload_n 0, 1) := by decide +kernel
theorem dX13_closing_1 : decode cX13_closing 1 = .ok (.bipush 40, 2) := by decide +kernel
theorem dX13_closing_3 : decode cX13_closing 3 = .ok (.if_icmp .ne 8, 3) := by decide +kernel
theorem dX13_closing_6 : decode cX13_closing 6 = .ok (.bipush 41, 2) := by decide +kernel
theorem dX13_closing_8 : decode cX13_closing 8 = .ok (.goto 15, 3) := by decide +kernel
theorem dX13_closing_11 : decode cX13_closing 11 = .ok (.iload_n 0, 1) := by decide +kernel
theorem dX13_closing_12 : decode cX13_closing 12 = .ok (.bipush 91, 2) := by decide +kernel
theorem dX13_closing_14 : decode cX13_closing 14 = .ok (.if_icmp .ne 8, 3) := by decide +kernel
theorem dX13_closing_17 : decode cX13_closing 17 = .ok (.bipush 93, 2) := by decide +kernel
theorem dX13_closing_19 : decode cX13_closing 19 = .ok (.goto 4, 3) := by decide +kernel
theorem dX13_closing_22 : decode cX13_closing 22 = .ok (.iconst (-1), 1) := by decide +kernel
theorem dX13_closing_23 : decode cX13_closing 23 = .ok (.ireturn, 1) := by decide +kernel
theorem dX13_encloses_0 : decode cX13_encloses 0 = .ok (.iconst 0, 1) := by decide +kernel
theorem dX13_encloses_1 : decode cX13_encloses 1 = .ok (.istore_n 1, 1) := by decide +kernel
theorem dX13_encloses_2 : decode cX13_encloses 2 = .ok (.iconst 0, 1) := by decide +kernel
theorem dX13_encloses_3 : decode cX13_encloses 3 = .ok (.istore_n 2, 1) := by decide +kernel
theorem dX13_encloses_4 : decode cX13_encloses 4 = .ok (.iload_n 2, 1) := by decide +kernel
theorem dX13_encloses_5 : decode cX13_encloses 5 = .ok (.aload_n 0, 1) := by decide +kernel
theorem dX13_encloses_6 : decode cX13_encloses 6 = .ok (.getfield 245, 3) := by decide +kernel
theorem dX13_encloses_9 : decode cX13_encloses 9 = .ok (.if_icmp .ge 82, 3) := by decide +kernel
theorem dX13_encloses_12 : decode cX13_encloses 12 = .ok (.aload_n 0, 1) := by decide +kernel
theorem dX13_encloses_13 : decode cX13_encloses 13 = .ok (.getfield 136, 3) := by decide +kernel
theorem dX13_encloses_16 : decode cX13_encloses 16 = .ok (.iload_n 2, 1) := by decide +kernel
theorem dX13_encloses_17 : decode cX13_encloses 17 = .ok (.iconst (-1), 1) := by decide +kernel
theorem dX13_encloses_18 : decode cX13_encloses 18 = .ok (.iastore, 1) := by decide +kernel
theorem dX13_encloses_19 : decode cX13_encloses 19 = .ok (.aload_n 0, 1) := by decide +kernel
theorem dX13_encloses_20 : decode cX13_encloses 20 = .ok (.getfield 100, 3) := by decide +kernel
theorem dX13_encloses_23 : decode cX13_encloses 23 = .ok (.iload_n 2, 1) := by decide +kernel
theorem dX13_encloses_24 : decode cX13_encloses 24 = .ok (.iaload, 1) := by decide +kernel
theorem dX13_encloses_25 : decode cX13_encloses 25 = .ok (.bipush 60, 2) := by decide +kernel
theorem dX13_encloses_27 : decode cX13_encloses 27 = .ok (.if_icmp .ne 16, 3) := by decide +kernel
theorem dX13_encloses_30 : decode cX13_encloses 30 = .ok (.aload_n 0, 1) := by decide +kernel
theorem dX13_encloses_31 : decode cX13_encloses 31 = .ok (.getfield 142, 3) := by decide +kernel
theorem dX13_encloses_34 : decode cX13_encloses 34 = .ok (.iload_n 1, 1) := by decide +kernel
theorem dX13_encloses_35 : decode cX13_encloses 35 = .ok (.iload_n 2, 1) := by decide +kernel
theorem dX13_encloses_36 : decode cX13_encloses 36 = .ok (.iastore, 1) := by decide +kernel
theorem dX13_encloses_37 : decode cX13_encloses 37 = .ok (.iinc 1 1, 3) := by decide +kernel
theorem dX13_encloses_40 : decode cX13_encloses 40 = .ok (.goto 45, 3) := by decide +kernel
theorem dX13_encloses_43 : decode cX13_encloses 43 = .ok (.aload_n 0, 1) := by decide +kernel
theorem dX13_encloses_44 : decode cX13_encloses 44 = .ok (.getfield 100, 3) := by decide +kernel
theorem dX13_encloses_47 : decode cX13_encloses 47 = .ok (.iload_n 2, 1) := by decide +kernel
theorem dX13_encloses_48 : decode cX13_encloses 48 = .ok (.iaload, 1) := by decide +kernel
theorem dX13_encloses_49 : decode cX13_encloses 49 = .ok (.bipush 62, 2) := by decide +kernel
theorem dX13_encloses_51 : decode cX13_encloses 51 = .ok (.if_icmp .ne 34, 3) := by decide +kernel
theorem dX13_encloses_54 : decode cX13_encloses 54 = .ok (.iload_n 1, 1) := by decide +kernel
theorem dX13_encloses_55 : decode cX13_encloses 55 = .ok (.ifCond .le 30, 3) := by decide +kernel
theorem dX13_encloses_58 : decode cX13_encloses 58 = .ok (.iinc 1 (-1), 3) := by decide +kernel
theorem dX13_encloses_61 : decode cX13_encloses 61 = .ok (.aload_n 0, 1) := by decide +kernel
theorem dX13_encloses_62 : decode cX13_encloses 62 = .ok (.getfield 136, 3) := by decide +kernel
theorem dX13_encloses_65 : decode cX13_encloses 65 = .ok (.iload_n 2, 1) := by decide +kernel
theorem dX13_encloses_66 : decode cX13_encloses 66 = .ok (.aload_n 0, 1) := by decide +kernel
theorem dX13_encloses_67 : decode cX13_encloses 67 = .ok (.getfield 142, 3) := by decide +kernel
theorem dX13_encloses_70 : decode cX13_encloses 70 = .ok (.iload_n 1, 1) := by decide +kernel
theorem dX13_encloses_71 : decode cX13_encloses 71 = .ok (.iaload, 1) := by decide +kernel
theorem dX13_encloses_72 : decode cX13_encloses 72 = .ok (.iastore, 1) := by decide +kernel
theorem dX13_encloses_73 : decode cX13_encloses 73 = .ok (.aload_n 0, 1) := by decide +kernel
theorem dX13_encloses_74 : decode cX13_encloses 74 = .ok (.getfield 136, 3) := by decide +kernel
theorem dX13_encloses_77 : decode cX13_encloses 77 = .ok (.aload_n 0, 1) := by decide +kernel
theorem dX13_encloses_78 : decode cX13_encloses 78 = .ok (.getfield 142, 3) := by decide +kernel
theorem dX13_encloses_81 : decode cX13_encloses 81 = .ok (.iload_n 1, 1) := by decide +kernel
theorem dX13_encloses_82 : decode cX13_encloses 82 = .ok (.iaload, 1) := by decide +kernel
theorem dX13_encloses_83 : decode cX13_encloses 83 = .ok (.iload_n 2, 1) := by decide +kernel
theorem dX13_encloses_84 : decode cX13_encloses 84 = .ok (.iastore, 1) := by decide +kernel
theorem dX13_encloses_85 : decode cX13_encloses 85 = .ok (.iinc 2 1, 3) := by decide +kernel
theorem dX13_encloses_88 : decode cX13_encloses 88 = .ok (.goto (-84), 3) := by decide +kernel
theorem dX13_encloses_91 : decode cX13_encloses 91 = .ok (.iconst 0, 1) := by decide +kernel
theorem dX13_encloses_92 : decode cX13_encloses 92 = .ok (.istore_n 1, 1) := by decide +kernel
theorem dX13_encloses_93 : decode cX13_encloses 93 = .ok (.iconst 0, 1) := by decide +kernel
theorem dX13_encloses_94 : decode cX13_encloses 94 = .ok (.istore_n 2, 1) := by decide +kernel
theorem dX13_encloses_95 : decode cX13_encloses 95 = .ok (.iload_n 2, 1) := by decide +kernel
theorem dX13_encloses_96 : decode cX13_encloses 96 = .ok (.aload_n 0, 1) := by decide +kernel
theorem dX13_encloses_97 : decode cX13_encloses 97 = .ok (.getfield 245, 3) := by decide +kernel
theorem dX13_encloses_100 : decode cX13_encloses 100 = .ok (.if_icmp .ge 117, 3) := by decide +kernel
theorem dX13_encloses_103 : decode cX13_encloses 103 = .ok (.aload_n 0, 1) := by decide +kernel
theorem dX13_encloses_104 : decode cX13_encloses 104 = .ok (.getfield 136, 3) := by decide +kernel
theorem dX13_encloses_107 : decode cX13_encloses 107 = .ok (.iload_n 2, 1) := by decide +kernel
theorem dX13_encloses_108 : decode cX13_encloses 108 = .ok (.iaload, 1) := by decide +kernel
theorem dX13_encloses_109 : decode cX13_encloses 109 = .ok (.iconst (-1), 1) := by decide +kernel
theorem dX13_encloses_110 : decode cX13_encloses 110 = .ok (.if_icmp .eq 29, 3) := by decide +kernel
theorem dX13_encloses_113 : decode cX13_encloses 113 = .ok (.aload_n 0, 1) := by decide +kernel
theorem dX13_encloses_114 : decode cX13_encloses 114 = .ok (.getfield 100, 3) := by decide +kernel
theorem dX13_encloses_117 : decode cX13_encloses 117 = .ok (.iload_n 2, 1) := by decide +kernel
theorem dX13_encloses_118 : decode cX13_encloses 118 = .ok (.iaload, 1) := by decide +kernel
theorem dX13_encloses_119 : decode cX13_encloses 119 = .ok (.bipush 60, 2) := by decide +kernel
theorem dX13_encloses_121 : decode cX13_encloses 121 = .ok (.if_icmp .eq 14, 3) := by decide +kernel
theorem dX13_encloses_124 : decode cX13_encloses 124 = .ok (.aload_n 0, 1) := by decide +kernel
theorem dX13_encloses_125 : decode cX13_encloses 125 = .ok (.getfield 100, 3) := by decide +kernel
theorem dX13_encloses_128 : decode cX13_encloses 128 = .ok (.iload_n 2, 1) := by decide +kernel
theorem dX13_encloses_129 : decode cX13_encloses 129 = .ok (.iaload, 1) := by decide +kernel
theorem dX13_encloses_130 : decode cX13_encloses 130 = .ok (.bipush 62, 2) := by decide +kernel
theorem dX13_encloses_132 : decode cX13_encloses 132 = .ok (.if_icmp .ne 7, 3) := by decide +kernel
theorem dX13_encloses_135 : decode cX13_encloses 135 = .ok (.iconst 1, 1) := by decide +kernel
theorem dX13_encloses_136 : decode cX13_encloses 136 = .ok (.goto 4, 3) := by decide +kernel
theorem dX13_encloses_139 : decode cX13_encloses 139 = .ok (.iconst 0, 1) := by decide +kernel
theorem dX13_encloses_140 : decode cX13_encloses 140 = .ok (.istore_n 3, 1) := by decide +kernel
theorem dX13_encloses_141 : decode cX13_encloses 141 = .ok (.iload_n 1, 1) := by decide +kernel
theorem dX13_encloses_142 : decode cX13_encloses 142 = .ok (.iload_n 3, 1) := by decide +kernel
theorem dX13_encloses_143 : decode cX13_encloses 143 = .ok (.ifCond .eq 18, 3) := by decide +kernel
theorem dX13_encloses_146 : decode cX13_encloses 146 = .ok (.aload_n 0, 1) := by decide +kernel
theorem dX13_encloses_147 : decode cX13_encloses 147 = .ok (.getfield 100, 3) := by decide +kernel
theorem dX13_encloses_150 : decode cX13_encloses 150 = .ok (.iload_n 2, 1) := by decide +kernel
theorem dX13_encloses_151 : decode cX13_encloses 151 = .ok (.iaload, 1) := by decide +kernel
theorem dX13_encloses_152 : decode cX13_encloses 152 = .ok (.bipush 62, 2) := by decide +kernel
theorem dX13_encloses_154 : decode cX13_encloses 154 = .ok (.if_icmp .ne 7, 3) := by decide +kernel
theorem dX13_encloses_157 : decode cX13_encloses 157 = .ok (.iconst 1, 1) := by decide +kernel
theorem dX13_encloses_158 : decode cX13_encloses 158 = .ok (.goto 4, 3) := by decide +kernel
theorem dX13_encloses_161 : decode cX13_encloses 161 = .ok (.iconst 0, 1) := by decide +kernel
theorem dX13_encloses_162 : decode cX13_encloses 162 = .ok (.isub, 1) := by decide +kernel
theorem dX13_encloses_163 : decode cX13_encloses 163 = .ok (.istore_n 1, 1) := by decide +kernel
theorem dX13_encloses_164 : decode cX13_encloses 164 = .ok (.aload_n 0, 1) := by decide +kernel
theorem dX13_encloses_165 : decode cX13_encloses 165 = .ok (.getfield 133, 3) := by decide +kernel
theorem dX13_encloses_168 : decode cX13_encloses 168 = .ok (.iload_n 2, 1) := by decide +kernel
theorem dX13_encloses_169 : decode cX13_encloses 169 = .ok (.iload_n 1, 1) := by decide +kernel
theorem dX13_encloses_170 : decode cX13_encloses 170 = .ok (.ifCond .ne 7, 3) := by decide +kernel
theorem dX13_encloses_173 : decode cX13_encloses 173 = .ok (.iconst (-1), 1) := by decide +kernel
theorem dX13_encloses_174 : decode cX13_encloses 174 = .ok (.goto 11, 3) := by decide +kernel
theorem dX13_encloses_177 : decode cX13_encloses 177 = .ok (.aload_n 0, 1) := by decide +kernel
theorem dX13_encloses_178 : decode cX13_encloses 178 = .ok (.getfield 142, 3) := by decide +kernel
theorem dX13_encloses_181 : decode cX13_encloses 181 = .ok (.iload_n 1, 1) := by decide +kernel
theorem dX13_encloses_182 : decode cX13_encloses 182 = .ok (.iconst 1, 1) := by decide +kernel
theorem dX13_encloses_183 : decode cX13_encloses 183 = .ok (.isub, 1) := by decide +kernel
theorem dX13_encloses_184 : decode cX13_encloses 184 = .ok (.iaload, 1) := by decide +kernel
theorem dX13_encloses_185 : decode cX13_encloses 185 = .ok (.iastore, 1) := by decide +kernel
theorem dX13_encloses_186 : decode cX13_encloses 186 = .ok (.iload_n 3, 1) := by decide +kernel
theorem dX13_encloses_187 : decode cX13_encloses 187 = .ok (.ifCond .eq 24, 3) := by decide +kernel
theorem dX13_encloses_190 : decode cX13_encloses 190 = .ok (.aload_n 0, 1) := by decide +kernel
theorem dX13_encloses_191 : decode cX13_encloses 191 = .ok (.getfield 100, 3) := by decide +kernel
theorem dX13_encloses_194 : decode cX13_encloses 194 = .ok (.iload_n 2, 1) := by decide +kernel
theorem dX13_encloses_195 : decode cX13_encloses 195 = .ok (.iaload, 1) := by decide +kernel
theorem dX13_encloses_196 : decode cX13_encloses 196 = .ok (.bipush 60, 2) := by decide +kernel
theorem dX13_encloses_198 : decode cX13_encloses 198 = .ok (.if_icmp .ne 13, 3) := by decide +kernel
theorem dX13_encloses_201 : decode cX13_encloses 201 = .ok (.aload_n 0, 1) := by decide +kernel
theorem dX13_encloses_202 : decode cX13_encloses 202 = .ok (.getfield 142, 3) := by decide +kernel
theorem dX13_encloses_205 : decode cX13_encloses 205 = .ok (.iload_n 1, 1) := by decide +kernel
theorem dX13_encloses_206 : decode cX13_encloses 206 = .ok (.iload_n 2, 1) := by decide +kernel
theorem dX13_encloses_207 : decode cX13_encloses 207 = .ok (.iastore, 1) := by decide +kernel
theorem dX13_encloses_208 : decode cX13_encloses 208 = .ok (.iinc 1 1, 3) := by decide +kernel
theorem dX13_encloses_211 : decode cX13_encloses 211 = .ok (.iinc 2 1, 3) := by decide +kernel
theorem dX13_encloses_214 : decode cX13_encloses 214 = .ok (.goto (-119), 3) := by decide +kernel
theorem dX13_encloses_217 : decode cX13_encloses 217 = .ok (.return_, 1) := by decide +kernel
theorem dX13_firstWay_0 : decode cX13_firstWay 0 = .ok (.iconst 0, 1) := by decide +kernel
theorem dX13_firstWay_1 : decode cX13_firstWay 1 = .ok (.istore_n 2, 1) := by decide +kernel
theorem dX13_firstWay_2 : decode cX13_firstWay 2 = .ok (.iload_n 2, 1) := by decide +kernel
theorem dX13_firstWay_3 : decode cX13_firstWay 3 = .ok (.aload_n 0, 1) := by decide +kernel
theorem dX13_firstWay_4 : decode cX13_firstWay 4 = .ok (.getfield 245, 3) := by decide +kernel
theorem dX13_firstWay_7 : decode cX13_firstWay 7 = .ok (.if_icmp .ge 61, 3) := by decide +kernel
theorem dX13_firstWay_10 : decode cX13_firstWay 10 = .ok (.aload_n 0, 1) := by decide +kernel
theorem dX13_firstWay_11 : decode cX13_firstWay 11 = .ok (.getfield 133, 3) := by decide +kernel
theorem dX13_firstWay_14 : decode cX13_firstWay 14 = .ok (.iload_n 2, 1) := by decide +kernel
theorem dX13_firstWay_15 : decode cX13_firstWay 15 = .ok (.iaload, 1) := by decide +kernel
theorem dX13_firstWay_16 : decode cX13_firstWay 16 = .ok (.iload_n 1, 1) := by decide +kernel
theorem dX13_firstWay_17 : decode cX13_firstWay 17 = .ok (.if_icmp .ne 45, 3) := by decide +kernel
theorem dX13_firstWay_20 : decode cX13_firstWay 20 = .ok (.aload_n 0, 1) := by decide +kernel
theorem dX13_firstWay_21 : decode cX13_firstWay 21 = .ok (.getfield 100, 3) := by decide +kernel
theorem dX13_firstWay_24 : decode cX13_firstWay 24 = .ok (.iload_n 2, 1) := by decide +kernel
theorem dX13_firstWay_25 : decode cX13_firstWay 25 = .ok (.iaload, 1) := by decide +kernel
theorem dX13_firstWay_26 : decode cX13_firstWay 26 = .ok (.invokestatic 271, 3) := by decide +kernel
theorem dX13_firstWay_29 : decode cX13_firstWay 29 = .ok (.ifCond .ne 15, 3) := by decide +kernel
theorem dX13_firstWay_32 : decode cX13_firstWay 32 = .ok (.aload_n 0, 1) := by decide +kernel
theorem dX13_firstWay_33 : decode cX13_firstWay 33 = .ok (.getfield 100, 3) := by decide +kernel
theorem dX13_firstWay_36 : decode cX13_firstWay 36 = .ok (.iload_n 2, 1) := by decide +kernel
theorem dX13_firstWay_37 : decode cX13_firstWay 37 = .ok (.iaload, 1) := by decide +kernel
theorem dX13_firstWay_38 : decode cX13_firstWay 38 = .ok (.invokestatic 274, 3) := by decide +kernel
theorem dX13_firstWay_41 : decode cX13_firstWay 41 = .ok (.ifCond .eq 21, 3) := by decide +kernel
theorem dX13_firstWay_44 : decode cX13_firstWay 44 = .ok (.aload_n 0, 1) := by decide +kernel
theorem dX13_firstWay_45 : decode cX13_firstWay 45 = .ok (.getfield 100, 3) := by decide +kernel
theorem dX13_firstWay_48 : decode cX13_firstWay 48 = .ok (.iload_n 2, 1) := by decide +kernel
theorem dX13_firstWay_49 : decode cX13_firstWay 49 = .ok (.iaload, 1) := by decide +kernel
theorem dX13_firstWay_50 : decode cX13_firstWay 50 = .ok (.invokestatic 274, 3) := by decide +kernel
theorem dX13_firstWay_53 : decode cX13_firstWay 53 = .ok (.ifCond .eq 7, 3) := by decide +kernel
theorem dX13_firstWay_56 : decode cX13_firstWay 56 = .ok (.iconst 1, 1) := by decide +kernel
theorem dX13_firstWay_57 : decode cX13_firstWay 57 = .ok (.goto 4, 3) := by decide +kernel
theorem dX13_firstWay_60 : decode cX13_firstWay 60 = .ok (.iconst 0, 1) := by decide +kernel
theorem dX13_firstWay_61 : decode cX13_firstWay 61 = .ok (.ireturn, 1) := by decide +kernel
theorem dX13_firstWay_62 : decode cX13_firstWay 62 = .ok (.iinc 2 1, 3) := by decide +kernel
theorem dX13_firstWay_65 : decode cX13_firstWay 65 = .ok (.goto (-63), 3) := by decide +kernel
theorem dX13_firstWay_68 : decode cX13_firstWay 68 = .ok (.iconst (-1), 1) := by decide +kernel
theorem dX13_firstWay_69 : decode cX13_firstWay 69 = .ok (.ireturn, 1) := by decide +kernel
theorem dX13_pairs_0 : decode cX13_pairs 0 = .ok (.iconst 0, 1) := by decide +kernel
theorem dX13_pairs_1 : decode cX13_pairs 1 = .ok (.istore_n 2, 1) := by decide +kernel
theorem dX13_pairs_2 : decode cX13_pairs 2 = .ok (.iconst 0, 1) := by decide +kernel
theorem dX13_pairs_3 : decode cX13_pairs 3 = .ok (.istore_n 3, 1) := by decide +kernel
theorem dX13_pairs_4 : decode cX13_pairs 4 = .ok (.iload_n 3, 1) := by decide +kernel
theorem dX13_pairs_5 : decode cX13_pairs 5 = .ok (.aload_n 0, 1) := by decide +kernel
theorem dX13_pairs_6 : decode cX13_pairs 6 = .ok (.getfield 245, 3) := by decide +kernel
theorem dX13_pairs_9 : decode cX13_pairs 9 = .ok (.if_icmp .ge 165, 3) := by decide +kernel
theorem dX13_pairs_12 : decode cX13_pairs 12 = .ok (.aload_n 0, 1) := by decide +kernel
theorem dX13_pairs_13 : decode cX13_pairs 13 = .ok (.getfield 133, 3) := by decide +kernel
theorem dX13_pairs_16 : decode cX13_pairs 16 = .ok (.iload_n 3, 1) := by decide +kernel
theorem dX13_pairs_17 : decode cX13_pairs 17 = .ok (.iaload, 1) := by decide +kernel
theorem dX13_pairs_18 : decode cX13_pairs 18 = .ok (.iload_n 1, 1) := by decide +kernel
theorem dX13_pairs_19 : decode cX13_pairs 19 = .ok (.if_icmp .ne 36, 3) := by decide +kernel
theorem dX13_pairs_22 : decode cX13_pairs 22 = .ok (.aload_n 0, 1) := by decide +kernel
theorem dX13_pairs_23 : decode cX13_pairs 23 = .ok (.getfield 100, 3) := by decide +kernel
theorem dX13_pairs_26 : decode cX13_pairs 26 = .ok (.iload_n 3, 1) := by decide +kernel
theorem dX13_pairs_27 : decode cX13_pairs 27 = .ok (.iaload, 1) := by decide +kernel
theorem dX13_pairs_28 : decode cX13_pairs 28 = .ok (.invokestatic 277, 3) := by decide +kernel
theorem dX13_pairs_31 : decode cX13_pairs 31 = .ok (.iconst (-1), 1) := by decide +kernel
theorem dX13_pairs_32 : decode cX13_pairs 32 = .ok (.if_icmp .eq 23, 3) := by decide +kernel
theorem dX13_pairs_35 : decode cX13_pairs 35 = .ok (.aload_n 0, 1) := by decide +kernel
theorem dX13_pairs_36 : decode cX13_pairs 36 = .ok (.getfield 136, 3) := by decide +kernel
theorem dX13_pairs_39 : decode cX13_pairs 39 = .ok (.iload_n 3, 1) := by decide +kernel
theorem dX13_pairs_40 : decode cX13_pairs 40 = .ok (.iconst (-1), 1) := by decide +kernel
theorem dX13_pairs_41 : decode cX13_pairs 41 = .ok (.iastore, 1) := by decide +kernel
theorem dX13_pairs_42 : decode cX13_pairs 42 = .ok (.aload_n 0, 1) := by decide +kernel
theorem dX13_pairs_43 : decode cX13_pairs 43 = .ok (.getfield 142, 3) := by decide +kernel
theorem dX13_pairs_46 : decode cX13_pairs 46 = .ok (.iload_n 2, 1) := by decide +kernel
theorem dX13_pairs_47 : decode cX13_pairs 47 = .ok (.iload_n 3, 1) := by decide +kernel
theorem dX13_pairs_48 : decode cX13_pairs 48 = .ok (.iastore, 1) := by decide +kernel
theorem dX13_pairs_49 : decode cX13_pairs 49 = .ok (.iinc 2 1, 3) := by decide +kernel
theorem dX13_pairs_52 : decode cX13_pairs 52 = .ok (.goto 116, 3) := by decide +kernel
theorem dX13_pairs_55 : decode cX13_pairs 55 = .ok (.aload_n 0, 1) := by decide +kernel
theorem dX13_pairs_56 : decode cX13_pairs 56 = .ok (.getfield 133, 3) := by decide +kernel
theorem dX13_pairs_59 : decode cX13_pairs 59 = .ok (.iload_n 3, 1) := by decide +kernel
theorem dX13_pairs_60 : decode cX13_pairs 60 = .ok (.iaload, 1) := by decide +kernel
theorem dX13_pairs_61 : decode cX13_pairs 61 = .ok (.iload_n 1, 1) := by decide +kernel
theorem dX13_pairs_62 : decode cX13_pairs 62 = .ok (.if_icmp .ne 106, 3) := by decide +kernel
theorem dX13_pairs_65 : decode cX13_pairs 65 = .ok (.aload_n 0, 1) := by decide +kernel
theorem dX13_pairs_66 : decode cX13_pairs 66 = .ok (.getfield 100, 3) := by decide +kernel
theorem dX13_pairs_69 : decode cX13_pairs 69 = .ok (.iload_n 3, 1) := by decide +kernel
theorem dX13_pairs_70 : decode cX13_pairs 70 = .ok (.iaload, 1) := by decide +kernel
theorem dX13_pairs_71 : decode cX13_pairs 71 = .ok (.bipush 41, 2) := by decide +kernel
theorem dX13_pairs_73 : decode cX13_pairs 73 = .ok (.if_icmp .eq 14, 3) := by decide +kernel
theorem dX13_pairs_76 : decode cX13_pairs 76 = .ok (.aload_n 0, 1) := by decide +kernel
theorem dX13_pairs_77 : decode cX13_pairs 77 = .ok (.getfield 100, 3) := by decide +kernel
theorem dX13_pairs_80 : decode cX13_pairs 80 = .ok (.iload_n 3, 1) := by decide +kernel
theorem dX13_pairs_81 : decode cX13_pairs 81 = .ok (.iaload, 1) := by decide +kernel
theorem dX13_pairs_82 : decode cX13_pairs 82 = .ok (.bipush 93, 2) := by decide +kernel
theorem dX13_pairs_84 : decode cX13_pairs 84 = .ok (.if_icmp .ne 84, 3) := by decide +kernel
theorem dX13_pairs_87 : decode cX13_pairs 87 = .ok (.aload_n 0, 1) := by decide +kernel
theorem dX13_pairs_88 : decode cX13_pairs 88 = .ok (.getfield 136, 3) := by decide +kernel
theorem dX13_pairs_91 : decode cX13_pairs 91 = .ok (.iload_n 3, 1) := by decide +kernel
theorem dX13_pairs_92 : decode cX13_pairs 92 = .ok (.iconst (-1), 1) := by decide +kernel
theorem dX13_pairs_93 : decode cX13_pairs 93 = .ok (.iastore, 1) := by decide +kernel
theorem dX13_pairs_94 : decode cX13_pairs 94 = .ok (.iload_n 2, 1) := by decide +kernel
theorem dX13_pairs_95 : decode cX13_pairs 95 = .ok (.iconst 1, 1) := by decide +kernel
theorem dX13_pairs_96 : decode cX13_pairs 96 = .ok (.isub, 1) := by decide +kernel
theorem dX13_pairs_97 : decode cX13_pairs 97 = .ok (.istore 4, 2) := by decide +kernel
theorem dX13_pairs_99 : decode cX13_pairs 99 = .ok (.iload 4, 2) := by decide +kernel
theorem dX13_pairs_101 : decode cX13_pairs 101 = .ok (.ifCond .lt 33, 3) := by decide +kernel
theorem dX13_pairs_104 : decode cX13_pairs 104 = .ok (.aload_n 0, 1) := by decide +kernel
theorem dX13_pairs_105 : decode cX13_pairs 105 = .ok (.getfield 100, 3) := by decide +kernel
theorem dX13_pairs_108 : decode cX13_pairs 108 = .ok (.aload_n 0, 1) := by decide +kernel
theorem dX13_pairs_109 : decode cX13_pairs 109 = .ok (.getfield 142, 3) := by decide +kernel
theorem dX13_pairs_112 : decode cX13_pairs 112 = .ok (.iload 4, 2) := by decide +kernel
theorem dX13_pairs_114 : decode cX13_pairs 114 = .ok (.iaload, 1) := by decide +kernel
theorem dX13_pairs_115 : decode cX13_pairs 115 = .ok (.iaload, 1) := by decide +kernel
theorem dX13_pairs_116 : decode cX13_pairs 116 = .ok (.invokestatic 277, 3) := by decide +kernel
theorem dX13_pairs_119 : decode cX13_pairs 119 = .ok (.aload_n 0, 1) := by decide +kernel
theorem dX13_pairs_120 : decode cX13_pairs 120 = .ok (.getfield 100, 3) := by decide +kernel
theorem dX13_pairs_123 : decode cX13_pairs 123 = .ok (.iload_n 3, 1) := by decide +kernel
theorem dX13_pairs_124 : decode cX13_pairs 124 = .ok (.iaload, 1) := by decide +kernel
theorem dX13_pairs_125 : decode cX13_pairs 125 = .ok (.if_icmp .eq 9, 3) := by decide +kernel
theorem dX13_pairs_128 : decode cX13_pairs 128 = .ok (.iinc 4 (-1), 3) := by decide +kernel
theorem dX13_pairs_131 : decode cX13_pairs 131 = .ok (.goto (-32), 3) := by decide +kernel
theorem dX13_pairs_134 : decode cX13_pairs 134 = .ok (.iload 4, 2) := by decide +kernel
theorem dX13_pairs_136 : decode cX13_pairs 136 = .ok (.ifCond .lt 32, 3) := by decide +kernel
theorem dX13_pairs_139 : decode cX13_pairs 139 = .ok (.aload_n 0, 1) := by decide +kernel
theorem dX13_pairs_140 : decode cX13_pairs 140 = .ok (.getfield 136, 3) := by decide +kernel
theorem dX13_pairs_143 : decode cX13_pairs 143 = .ok (.iload_n 3, 1) := by decide +kernel
theorem dX13_pairs_144 : decode cX13_pairs 144 = .ok (.aload_n 0, 1) := by decide +kernel
theorem dX13_pairs_145 : decode cX13_pairs 145 = .ok (.getfield 142, 3) := by decide +kernel
theorem dX13_pairs_148 : decode cX13_pairs 148 = .ok (.iload 4, 2) := by decide +kernel
theorem dX13_pairs_150 : decode cX13_pairs 150 = .ok (.iaload, 1) := by decide +kernel
theorem dX13_pairs_151 : decode cX13_pairs 151 = .ok (.iastore, 1) := by decide +kernel
theorem dX13_pairs_152 : decode cX13_pairs 152 = .ok (.aload_n 0, 1) := by decide +kernel
theorem dX13_pairs_153 : decode cX13_pairs 153 = .ok (.getfield 136, 3) := by decide +kernel
theorem dX13_pairs_156 : decode cX13_pairs 156 = .ok (.aload_n 0, 1) := by decide +kernel
theorem dX13_pairs_157 : decode cX13_pairs 157 = .ok (.getfield 142, 3) := by decide +kernel
theorem dX13_pairs_160 : decode cX13_pairs 160 = .ok (.iload 4, 2) := by decide +kernel
theorem dX13_pairs_162 : decode cX13_pairs 162 = .ok (.iaload, 1) := by decide +kernel
theorem dX13_pairs_163 : decode cX13_pairs 163 = .ok (.iload_n 3, 1) := by decide +kernel
theorem dX13_pairs_164 : decode cX13_pairs 164 = .ok (.iastore, 1) := by decide +kernel
theorem dX13_pairs_165 : decode cX13_pairs 165 = .ok (.iload 4, 2) := by decide +kernel
theorem dX13_pairs_167 : decode cX13_pairs 167 = .ok (.istore_n 2, 1) := by decide +kernel
theorem dX13_pairs_168 : decode cX13_pairs 168 = .ok (.iinc 3 1, 3) := by decide +kernel
theorem dX13_pairs_171 : decode cX13_pairs 171 = .ok (.goto (-167), 3) := by decide +kernel
theorem dX13_pairs_174 : decode cX13_pairs 174 = .ok (.return_, 1) := by decide +kernel
theorem dX13_strong_0 : decode cX13_strong 0 = .ok (.iload_n 2, 1) := by decide +kernel
theorem dX13_strong_1 : decode cX13_strong 1 = .ok (.istore_n 3, 1) := by decide +kernel
theorem dX13_strong_2 : decode cX13_strong 2 = .ok (.iconst 0, 1) := by decide +kernel
theorem dX13_strong_3 : decode cX13_strong 3 = .ok (.istore 4, 2) := by decide +kernel
theorem dX13_strong_5 : decode cX13_strong 5 = .ok (.iload 4, 2) := by decide +kernel
theorem dX13_strong_7 : decode cX13_strong 7 = .ok (.aload_n 0, 1) := by decide +kernel
theorem dX13_strong_8 : decode cX13_strong 8 = .ok (.getfield 245, 3) := by decide +kernel
theorem dX13_strong_11 : decode cX13_strong 11 = .ok (.if_icmp .ge 111, 3) := by decide +kernel
theorem dX13_strong_14 : decode cX13_strong 14 = .ok (.aload_n 0, 1) := by decide +kernel
theorem dX13_strong_15 : decode cX13_strong 15 = .ok (.getfield 133, 3) := by decide +kernel
theorem dX13_strong_18 : decode cX13_strong 18 = .ok (.iload 4, 2) := by decide +kernel
theorem dX13_strong_20 : decode cX13_strong 20 = .ok (.iaload, 1) := by decide +kernel
theorem dX13_strong_21 : decode cX13_strong 21 = .ok (.iload_n 1, 1) := by decide +kernel
theorem dX13_strong_22 : decode cX13_strong 22 = .ok (.if_icmp .ne 94, 3) := by decide +kernel
theorem dX13_strong_25 : decode cX13_strong 25 = .ok (.aload_n 0, 1) := by decide +kernel
theorem dX13_strong_26 : decode cX13_strong 26 = .ok (.getfield 100, 3) := by decide +kernel
theorem dX13_strong_29 : decode cX13_strong 29 = .ok (.iload 4, 2) := by decide +kernel
theorem dX13_strong_31 : decode cX13_strong 31 = .ok (.iaload, 1) := by decide +kernel
theorem dX13_strong_32 : decode cX13_strong 32 = .ok (.invokestatic 271, 3) := by decide +kernel
theorem dX13_strong_35 : decode cX13_strong 35 = .ok (.ifCond .ne 16, 3) := by decide +kernel
theorem dX13_strong_38 : decode cX13_strong 38 = .ok (.aload_n 0, 1) := by decide +kernel
theorem dX13_strong_39 : decode cX13_strong 39 = .ok (.getfield 100, 3) := by decide +kernel
theorem dX13_strong_42 : decode cX13_strong 42 = .ok (.iload 4, 2) := by decide +kernel
theorem dX13_strong_44 : decode cX13_strong 44 = .ok (.iaload, 1) := by decide +kernel
theorem dX13_strong_45 : decode cX13_strong 45 = .ok (.invokestatic 274, 3) := by decide +kernel
theorem dX13_strong_48 : decode cX13_strong 48 = .ok (.ifCond .eq 7, 3) := by decide +kernel
theorem dX13_strong_51 : decode cX13_strong 51 = .ok (.iconst 1, 1) := by decide +kernel
theorem dX13_strong_52 : decode cX13_strong 52 = .ok (.goto 4, 3) := by decide +kernel
theorem dX13_strong_55 : decode cX13_strong 55 = .ok (.iconst 0, 1) := by decide +kernel
theorem dX13_strong_56 : decode cX13_strong 56 = .ok (.istore 5, 2) := by decide +kernel
theorem dX13_strong_58 : decode cX13_strong 58 = .ok (.iload 5, 2) := by decide +kernel
theorem dX13_strong_60 : decode cX13_strong 60 = .ok (.ifCond .eq 24, 3) := by decide +kernel
theorem dX13_strong_63 : decode cX13_strong 63 = .ok (.aload_n 0, 1) := by decide +kernel
theorem dX13_strong_64 : decode cX13_strong 64 = .ok (.getfield 100, 3) := by decide +kernel
theorem dX13_strong_67 : decode cX13_strong 67 = .ok (.iload 4, 2) := by decide +kernel
theorem dX13_strong_69 : decode cX13_strong 69 = .ok (.iaload, 1) := by decide +kernel
theorem dX13_strong_70 : decode cX13_strong 70 = .ok (.invokestatic 274, 3) := by decide +kernel
theorem dX13_strong_73 : decode cX13_strong 73 = .ok (.ifCond .eq 7, 3) := by decide +kernel
theorem dX13_strong_76 : decode cX13_strong 76 = .ok (.iconst 1, 1) := by decide +kernel
theorem dX13_strong_77 : decode cX13_strong 77 = .ok (.goto 8, 3) := by decide +kernel
theorem dX13_strong_80 : decode cX13_strong 80 = .ok (.iconst 0, 1) := by decide +kernel
theorem dX13_strong_81 : decode cX13_strong 81 = .ok (.goto 4, 3) := by decide +kernel
theorem dX13_strong_84 : decode cX13_strong 84 = .ok (.iload_n 3, 1) := by decide +kernel
theorem dX13_strong_85 : decode cX13_strong 85 = .ok (.istore_n 3, 1) := by decide +kernel
theorem dX13_strong_86 : decode cX13_strong 86 = .ok (.aload_n 0, 1) := by decide +kernel
theorem dX13_strong_87 : decode cX13_strong 87 = .ok (.getfield 130, 3) := by decide +kernel
theorem dX13_strong_90 : decode cX13_strong 90 = .ok (.iload 4, 2) := by decide +kernel
theorem dX13_strong_92 : decode cX13_strong 92 = .ok (.iload 5, 2) := by decide +kernel
theorem dX13_strong_94 : decode cX13_strong 94 = .ok (.ifCond .ne 16, 3) := by decide +kernel
theorem dX13_strong_97 : decode cX13_strong 97 = .ok (.aload_n 0, 1) := by decide +kernel
theorem dX13_strong_98 : decode cX13_strong 98 = .ok (.getfield 100, 3) := by decide +kernel
theorem dX13_strong_101 : decode cX13_strong 101 = .ok (.iload 4, 2) := by decide +kernel
theorem dX13_strong_103 : decode cX13_strong 103 = .ok (.iaload, 1) := by decide +kernel
theorem dX13_strong_104 : decode cX13_strong 104 = .ok (.invokestatic 281, 3) := by decide +kernel
theorem dX13_strong_107 : decode cX13_strong 107 = .ok (.ifCond .eq 7, 3) := by decide +kernel
theorem dX13_strong_110 : decode cX13_strong 110 = .ok (.iload_n 3, 1) := by decide +kernel
theorem dX13_strong_111 : decode cX13_strong 111 = .ok (.goto 4, 3) := by decide +kernel
theorem dX13_strong_114 : decode cX13_strong 114 = .ok (.iconst (-1), 1) := by decide +kernel
theorem dX13_strong_115 : decode cX13_strong 115 = .ok (.iastore, 1) := by decide +kernel
theorem dX13_strong_116 : decode cX13_strong 116 = .ok (.iinc 4 1, 3) := by decide +kernel
theorem dX13_strong_119 : decode cX13_strong 119 = .ok (.goto (-114), 3) := by decide +kernel
theorem dX13_strong_122 : decode cX13_strong 122 = .ok (.return_, 1) := by decide +kernel
theorem dX13_ofPair_0 : decode cX13_ofPair 0 = .ok (.iconst 0, 1) := by decide +kernel
theorem dX13_ofPair_1 : decode cX13_ofPair 1 = .ok (.istore 4, 2) := by decide +kernel
theorem dX13_ofPair_3 : decode cX13_ofPair 3 = .ok (.iconst 0, 1) := by decide +kernel
theorem dX13_ofPair_4 : decode cX13_ofPair 4 = .ok (.istore 5, 2) := by decide +kernel
theorem dX13_ofPair_6 : decode cX13_ofPair 6 = .ok (.iload_n 2, 1) := by decide +kernel
theorem dX13_ofPair_7 : decode cX13_ofPair 7 = .ok (.iconst 1, 1) := by decide +kernel
theorem dX13_ofPair_8 : decode cX13_ofPair 8 = .ok (.iadd, 1) := by decide +kernel
theorem dX13_ofPair_9 : decode cX13_ofPair 9 = .ok (.istore 6, 2) := by decide +kernel
theorem dX13_ofPair_11 : decode cX13_ofPair 11 = .ok (.iload 6, 2) := by decide +kernel
theorem dX13_ofPair_13 : decode cX13_ofPair 13 = .ok (.aload_n 0, 1) := by decide +kernel
theorem dX13_ofPair_14 : decode cX13_ofPair 14 = .ok (.getfield 136, 3) := by decide +kernel
theorem dX13_ofPair_17 : decode cX13_ofPair 17 = .ok (.iload_n 2, 1) := by decide +kernel
theorem dX13_ofPair_18 : decode cX13_ofPair 18 = .ok (.iaload, 1) := by decide +kernel
theorem dX13_ofPair_19 : decode cX13_ofPair 19 = .ok (.if_icmp .ge 79, 3) := by decide +kernel
theorem dX13_ofPair_22 : decode cX13_ofPair 22 = .ok (.iload 4, 2) := by decide +kernel
theorem dX13_ofPair_24 : decode cX13_ofPair 24 = .ok (.ifCond .ne 25, 3) := by decide +kernel
theorem dX13_ofPair_27 : decode cX13_ofPair 27 = .ok (.aload_n 0, 1) := by decide +kernel
theorem dX13_ofPair_28 : decode cX13_ofPair 28 = .ok (.getfield 133, 3) := by decide +kernel
theorem dX13_ofPair_31 : decode cX13_ofPair 31 = .ok (.iload 6, 2) := by decide +kernel
theorem dX13_ofPair_33 : decode cX13_ofPair 33 = .ok (.iaload, 1) := by decide +kernel
theorem dX13_ofPair_34 : decode cX13_ofPair 34 = .ok (.iload_n 1, 1) := by decide +kernel
theorem dX13_ofPair_35 : decode cX13_ofPair 35 = .ok (.if_icmp .ne 18, 3) := by decide +kernel
theorem dX13_ofPair_38 : decode cX13_ofPair 38 = .ok (.aload_n 0, 1) := by decide +kernel
theorem dX13_ofPair_39 : decode cX13_ofPair 39 = .ok (.getfield 130, 3) := by decide +kernel
theorem dX13_ofPair_42 : decode cX13_ofPair 42 = .ok (.iload 6, 2) := by decide +kernel
theorem dX13_ofPair_44 : decode cX13_ofPair 44 = .ok (.iaload, 1) := by decide +kernel
theorem dX13_ofPair_45 : decode cX13_ofPair 45 = .ok (.iload_n 3, 1) := by decide +kernel
theorem dX13_ofPair_46 : decode cX13_ofPair 46 = .ok (.if_icmp .ne 7, 3) := by decide +kernel
theorem dX13_ofPair_49 : decode cX13_ofPair 49 = .ok (.iconst 1, 1) := by decide +kernel
theorem dX13_ofPair_50 : decode cX13_ofPair 50 = .ok (.goto 4, 3) := by decide +kernel
theorem dX13_ofPair_53 : decode cX13_ofPair 53 = .ok (.iconst 0, 1) := by decide +kernel
theorem dX13_ofPair_54 : decode cX13_ofPair 54 = .ok (.istore 4, 2) := by decide +kernel
theorem dX13_ofPair_56 : decode cX13_ofPair 56 = .ok (.iload 5, 2) := by decide +kernel
theorem dX13_ofPair_58 : decode cX13_ofPair 58 = .ok (.ifCond .ne 27, 3) := by decide +kernel
theorem dX13_ofPair_61 : decode cX13_ofPair 61 = .ok (.aload_n 0, 1) := by decide +kernel
theorem dX13_ofPair_62 : decode cX13_ofPair 62 = .ok (.getfield 133, 3) := by decide +kernel
theorem dX13_ofPair_65 : decode cX13_ofPair 65 = .ok (.iload 6, 2) := by decide +kernel
theorem dX13_ofPair_67 : decode cX13_ofPair 67 = .ok (.iaload, 1) := by decide +kernel
theorem dX13_ofPair_68 : decode cX13_ofPair 68 = .ok (.iload_n 1, 1) := by decide +kernel
theorem dX13_ofPair_69 : decode cX13_ofPair 69 = .ok (.if_icmp .ne 20, 3) := by decide +kernel
theorem dX13_ofPair_72 : decode cX13_ofPair 72 = .ok (.aload_n 0, 1) := by decide +kernel
theorem dX13_ofPair_73 : decode cX13_ofPair 73 = .ok (.getfield 130, 3) := by decide +kernel
theorem dX13_ofPair_76 : decode cX13_ofPair 76 = .ok (.iload 6, 2) := by decide +kernel
theorem dX13_ofPair_78 : decode cX13_ofPair 78 = .ok (.iaload, 1) := by decide +kernel
theorem dX13_ofPair_79 : decode cX13_ofPair 79 = .ok (.iconst 1, 1) := by decide +kernel
theorem dX13_ofPair_80 : decode cX13_ofPair 80 = .ok (.iload_n 3, 1) := by decide +kernel
theorem dX13_ofPair_81 : decode cX13_ofPair 81 = .ok (.isub, 1) := by decide +kernel
theorem dX13_ofPair_82 : decode cX13_ofPair 82 = .ok (.if_icmp .ne 7, 3) := by decide +kernel
theorem dX13_ofPair_85 : decode cX13_ofPair 85 = .ok (.iconst 1, 1) := by decide +kernel
theorem dX13_ofPair_86 : decode cX13_ofPair 86 = .ok (.goto 4, 3) := by decide +kernel
theorem dX13_ofPair_89 : decode cX13_ofPair 89 = .ok (.iconst 0, 1) := by decide +kernel
theorem dX13_ofPair_90 : decode cX13_ofPair 90 = .ok (.istore 5, 2) := by decide +kernel
theorem dX13_ofPair_92 : decode cX13_ofPair 92 = .ok (.iinc 6 1, 3) := by decide +kernel
theorem dX13_ofPair_95 : decode cX13_ofPair 95 = .ok (.goto (-84), 3) := by decide +kernel
theorem dX13_ofPair_98 : decode cX13_ofPair 98 = .ok (.iload_n 3, 1) := by decide +kernel
theorem dX13_ofPair_99 : decode cX13_ofPair 99 = .ok (.istore 6, 2) := by decide +kernel
theorem dX13_ofPair_101 : decode cX13_ofPair 101 = .ok (.iconst 0, 1) := by decide +kernel
theorem dX13_ofPair_102 : decode cX13_ofPair 102 = .ok (.istore 7, 2) := by decide +kernel
theorem dX13_ofPair_104 : decode cX13_ofPair 104 = .ok (.iload 7, 2) := by decide +kernel
theorem dX13_ofPair_106 : decode cX13_ofPair 106 = .ok (.iload_n 2, 1) := by decide +kernel
theorem dX13_ofPair_107 : decode cX13_ofPair 107 = .ok (.if_icmp .ge 45, 3) := by decide +kernel
theorem dX13_ofPair_110 : decode cX13_ofPair 110 = .ok (.aload_n 0, 1) := by decide +kernel
theorem dX13_ofPair_111 : decode cX13_ofPair 111 = .ok (.getfield 133, 3) := by decide +kernel
theorem dX13_ofPair_114 : decode cX13_ofPair 114 = .ok (.iload 7, 2) := by decide +kernel
theorem dX13_ofPair_116 : decode cX13_ofPair 116 = .ok (.iaload, 1) := by decide +kernel
theorem dX13_ofPair_117 : decode cX13_ofPair 117 = .ok (.iload_n 1, 1) := by decide +kernel
theorem dX13_ofPair_118 : decode cX13_ofPair 118 = .ok (.if_icmp .ne 24, 3) := by decide +kernel
theorem dX13_ofPair_121 : decode cX13_ofPair 121 = .ok (.aload_n 0, 1) := by decide +kernel
theorem dX13_ofPair_122 : decode cX13_ofPair 122 = .ok (.getfield 130, 3) := by decide +kernel
theorem dX13_ofPair_125 : decode cX13_ofPair 125 = .ok (.iload 7, 2) := by decide +kernel
theorem dX13_ofPair_127 : decode cX13_ofPair 127 = .ok (.iaload, 1) := by decide +kernel
theorem dX13_ofPair_128 : decode cX13_ofPair 128 = .ok (.iconst (-1), 1) := by decide +kernel
theorem dX13_ofPair_129 : decode cX13_ofPair 129 = .ok (.if_icmp .eq 13, 3) := by decide +kernel
theorem dX13_ofPair_132 : decode cX13_ofPair 132 = .ok (.aload_n 0, 1) := by decide +kernel
theorem dX13_ofPair_133 : decode cX13_ofPair 133 = .ok (.getfield 130, 3) := by decide +kernel
theorem dX13_ofPair_136 : decode cX13_ofPair 136 = .ok (.iload 7, 2) := by decide +kernel
theorem dX13_ofPair_138 : decode cX13_ofPair 138 = .ok (.iaload, 1) := by decide +kernel
theorem dX13_ofPair_139 : decode cX13_ofPair 139 = .ok (.goto 5, 3) := by decide +kernel
theorem dX13_ofPair_142 : decode cX13_ofPair 142 = .ok (.iload 6, 2) := by decide +kernel
theorem dX13_ofPair_144 : decode cX13_ofPair 144 = .ok (.istore 6, 2) := by decide +kernel
theorem dX13_ofPair_146 : decode cX13_ofPair 146 = .ok (.iinc 7 1, 3) := by decide +kernel
theorem dX13_ofPair_149 : decode cX13_ofPair 149 = .ok (.goto (-45), 3) := by decide +kernel
theorem dX13_ofPair_152 : decode cX13_ofPair 152 = .ok (.iload 4, 2) := by decide +kernel
theorem dX13_ofPair_154 : decode cX13_ofPair 154 = .ok (.ifCond .eq 7, 3) := by decide +kernel
theorem dX13_ofPair_157 : decode cX13_ofPair 157 = .ok (.iload_n 3, 1) := by decide +kernel
theorem dX13_ofPair_158 : decode cX13_ofPair 158 = .ok (.goto 14, 3) := by decide +kernel
theorem dX13_ofPair_161 : decode cX13_ofPair 161 = .ok (.iload 5, 2) := by decide +kernel
theorem dX13_ofPair_163 : decode cX13_ofPair 163 = .ok (.ifCond .eq 8, 3) := by decide +kernel
theorem dX13_ofPair_166 : decode cX13_ofPair 166 = .ok (.iload 6, 2) := by decide +kernel
theorem dX13_ofPair_168 : decode cX13_ofPair 168 = .ok (.goto 4, 3) := by decide +kernel
theorem dX13_ofPair_171 : decode cX13_ofPair 171 = .ok (.iconst (-1), 1) := by decide +kernel
theorem dX13_ofPair_172 : decode cX13_ofPair 172 = .ok (.ireturn, 1) := by decide +kernel
theorem dX13_brackets_0 : decode cX13_brackets 0 = .ok (.iconst 0, 1) := by decide +kernel
theorem dX13_brackets_1 : decode cX13_brackets 1 = .ok (.istore_n 3, 1) := by decide +kernel
theorem dX13_brackets_2 : decode cX13_brackets 2 = .ok (.iload_n 3, 1) := by decide +kernel
theorem dX13_brackets_3 : decode cX13_brackets 3 = .ok (.aload_n 0, 1) := by decide +kernel
theorem dX13_brackets_4 : decode cX13_brackets 4 = .ok (.getfield 245, 3) := by decide +kernel
theorem dX13_brackets_7 : decode cX13_brackets 7 = .ok (.if_icmp .ge 72, 3) := by decide +kernel
theorem dX13_brackets_10 : decode cX13_brackets 10 = .ok (.aload_n 0, 1) := by decide +kernel
theorem dX13_brackets_11 : decode cX13_brackets 11 = .ok (.getfield 133, 3) := by decide +kernel
theorem dX13_brackets_14 : decode cX13_brackets 14 = .ok (.iload_n 3, 1) := by decide +kernel
theorem dX13_brackets_15 : decode cX13_brackets 15 = .ok (.iaload, 1) := by decide +kernel
theorem dX13_brackets_16 : decode cX13_brackets 16 = .ok (.iload_n 1, 1) := by decide +kernel
theorem dX13_brackets_17 : decode cX13_brackets 17 = .ok (.if_icmp .ne 56, 3) := by decide +kernel
theorem dX13_brackets_20 : decode cX13_brackets 20 = .ok (.aload_n 0, 1) := by decide +kernel
theorem dX13_brackets_21 : decode cX13_brackets 21 = .ok (.getfield 100, 3) := by decide +kernel
theorem dX13_brackets_24 : decode cX13_brackets 24 = .ok (.iload_n 3, 1) := by decide +kernel
theorem dX13_brackets_25 : decode cX13_brackets 25 = .ok (.iaload, 1) := by decide +kernel
theorem dX13_brackets_26 : decode cX13_brackets 26 = .ok (.invokestatic 277, 3) := by decide +kernel
theorem dX13_brackets_29 : decode cX13_brackets 29 = .ok (.iconst (-1), 1) := by decide +kernel
theorem dX13_brackets_30 : decode cX13_brackets 30 = .ok (.if_icmp .eq 43, 3) := by decide +kernel
theorem dX13_brackets_33 : decode cX13_brackets 33 = .ok (.aload_n 0, 1) := by decide +kernel
theorem dX13_brackets_34 : decode cX13_brackets 34 = .ok (.getfield 136, 3) := by decide +kernel
theorem dX13_brackets_37 : decode cX13_brackets 37 = .ok (.iload_n 3, 1) := by decide +kernel
theorem dX13_brackets_38 : decode cX13_brackets 38 = .ok (.iaload, 1) := by decide +kernel
theorem dX13_brackets_39 : decode cX13_brackets 39 = .ok (.iconst (-1), 1) := by decide +kernel
theorem dX13_brackets_40 : decode cX13_brackets 40 = .ok (.if_icmp .eq 33, 3) := by decide +kernel
theorem dX13_brackets_43 : decode cX13_brackets 43 = .ok (.aload_n 0, 1) := by decide +kernel
theorem dX13_brackets_44 : decode cX13_brackets 44 = .ok (.iload_n 1, 1) := by decide +kernel
theorem dX13_brackets_45 : decode cX13_brackets 45 = .ok (.iload_n 3, 1) := by decide +kernel
theorem dX13_brackets_46 : decode cX13_brackets 46 = .ok (.iload_n 2, 1) := by decide +kernel
theorem dX13_brackets_47 : decode cX13_brackets 47 = .ok (.invokevirtual 284, 3) := by decide +kernel
theorem dX13_brackets_50 : decode cX13_brackets 50 = .ok (.istore 4, 2) := by decide +kernel
theorem dX13_brackets_52 : decode cX13_brackets 52 = .ok (.aload_n 0, 1) := by decide +kernel
theorem dX13_brackets_53 : decode cX13_brackets 53 = .ok (.getfield 130, 3) := by decide +kernel
theorem dX13_brackets_56 : decode cX13_brackets 56 = .ok (.iload_n 3, 1) := by decide +kernel
theorem dX13_brackets_57 : decode cX13_brackets 57 = .ok (.iload 4, 2) := by decide +kernel
theorem dX13_brackets_59 : decode cX13_brackets 59 = .ok (.iastore, 1) := by decide +kernel
theorem dX13_brackets_60 : decode cX13_brackets 60 = .ok (.aload_n 0, 1) := by decide +kernel
theorem dX13_brackets_61 : decode cX13_brackets 61 = .ok (.getfield 130, 3) := by decide +kernel
theorem dX13_brackets_64 : decode cX13_brackets 64 = .ok (.aload_n 0, 1) := by decide +kernel
theorem dX13_brackets_65 : decode cX13_brackets 65 = .ok (.getfield 136, 3) := by decide +kernel
theorem dX13_brackets_68 : decode cX13_brackets 68 = .ok (.iload_n 3, 1) := by decide +kernel
theorem dX13_brackets_69 : decode cX13_brackets 69 = .ok (.iaload, 1) := by decide +kernel
theorem dX13_brackets_70 : decode cX13_brackets 70 = .ok (.iload 4, 2) := by decide +kernel
theorem dX13_brackets_72 : decode cX13_brackets 72 = .ok (.iastore, 1) := by decide +kernel
theorem dX13_brackets_73 : decode cX13_brackets 73 = .ok (.iinc 3 1, 3) := by decide +kernel
theorem dX13_brackets_76 : decode cX13_brackets 76 = .ok (.goto (-74), 3) := by decide +kernel
theorem dX13_brackets_79 : decode cX13_brackets 79 = .ok (.return_, 1) := by decide +kernel
theorem dX13_neutral_0 : decode cX13_neutral 0 = .ok (.iload_n 2, 1) := by decide +kernel
theorem dX13_neutral_1 : decode cX13_neutral 1 = .ok (.istore 4, 2) := by decide +kernel
theorem dX13_neutral_3 : decode cX13_neutral 3 = .ok (.iconst 0, 1) := by decide +kernel
theorem dX13_neutral_4 : decode cX13_neutral 4 = .ok (.istore 5, 2) := by decide +kernel
theorem dX13_neutral_6 : decode cX13_neutral 6 = .ok (.iload 5, 2) := by decide +kernel
theorem dX13_neutral_8 : decode cX13_neutral 8 = .ok (.aload_n 0, 1) := by decide +kernel
theorem dX13_neutral_9 : decode cX13_neutral 9 = .ok (.getfield 245, 3) := by decide +kernel
theorem dX13_neutral_12 : decode cX13_neutral 12 = .ok (.if_icmp .ge 153, 3) := by decide +kernel
theorem dX13_neutral_15 : decode cX13_neutral 15 = .ok (.aload_n 0, 1) := by decide +kernel
theorem dX13_neutral_16 : decode cX13_neutral 16 = .ok (.getfield 133, 3) := by decide +kernel
theorem dX13_neutral_19 : decode cX13_neutral 19 = .ok (.iload 5, 2) := by decide +kernel
theorem dX13_neutral_21 : decode cX13_neutral 21 = .ok (.iaload, 1) := by decide +kernel
theorem dX13_neutral_22 : decode cX13_neutral 22 = .ok (.iload_n 1, 1) := by decide +kernel
theorem dX13_neutral_23 : decode cX13_neutral 23 = .ok (.if_icmp .ne 102, 3) := by decide +kernel
theorem dX13_neutral_26 : decode cX13_neutral 26 = .ok (.aload_n 0, 1) := by decide +kernel
theorem dX13_neutral_27 : decode cX13_neutral 27 = .ok (.getfield 130, 3) := by decide +kernel
theorem dX13_neutral_30 : decode cX13_neutral 30 = .ok (.iload 5, 2) := by decide +kernel
theorem dX13_neutral_32 : decode cX13_neutral 32 = .ok (.iaload, 1) := by decide +kernel
theorem dX13_neutral_33 : decode cX13_neutral 33 = .ok (.iconst (-1), 1) := by decide +kernel
theorem dX13_neutral_34 : decode cX13_neutral 34 = .ok (.if_icmp .ne 91, 3) := by decide +kernel
theorem dX13_neutral_37 : decode cX13_neutral 37 = .ok (.iload 5, 2) := by decide +kernel
theorem dX13_neutral_39 : decode cX13_neutral 39 = .ok (.iconst 1, 1) := by decide +kernel
theorem dX13_neutral_40 : decode cX13_neutral 40 = .ok (.iadd, 1) := by decide +kernel
theorem dX13_neutral_41 : decode cX13_neutral 41 = .ok (.istore 6, 2) := by decide +kernel
theorem dX13_neutral_43 : decode cX13_neutral 43 = .ok (.iload 6, 2) := by decide +kernel
theorem dX13_neutral_45 : decode cX13_neutral 45 = .ok (.aload_n 0, 1) := by decide +kernel
theorem dX13_neutral_46 : decode cX13_neutral 46 = .ok (.getfield 245, 3) := by decide +kernel
theorem dX13_neutral_49 : decode cX13_neutral 49 = .ok (.if_icmp .ge 31, 3) := by decide +kernel
theorem dX13_neutral_52 : decode cX13_neutral 52 = .ok (.aload_n 0, 1) := by decide +kernel
theorem dX13_neutral_53 : decode cX13_neutral 53 = .ok (.getfield 133, 3) := by decide +kernel
theorem dX13_neutral_56 : decode cX13_neutral 56 = .ok (.iload 6, 2) := by decide +kernel
theorem dX13_neutral_58 : decode cX13_neutral 58 = .ok (.iaload, 1) := by decide +kernel
theorem dX13_neutral_59 : decode cX13_neutral 59 = .ok (.iload_n 1, 1) := by decide +kernel
theorem dX13_neutral_60 : decode cX13_neutral 60 = .ok (.if_icmp .ne 14, 3) := by decide +kernel
theorem dX13_neutral_63 : decode cX13_neutral 63 = .ok (.aload_n 0, 1) := by decide +kernel
theorem dX13_neutral_64 : decode cX13_neutral 64 = .ok (.getfield 130, 3) := by decide +kernel
theorem dX13_neutral_67 : decode cX13_neutral 67 = .ok (.iload 6, 2) := by decide +kernel
theorem dX13_neutral_69 : decode cX13_neutral 69 = .ok (.iaload, 1) := by decide +kernel
theorem dX13_neutral_70 : decode cX13_neutral 70 = .ok (.iconst (-1), 1) := by decide +kernel
theorem dX13_neutral_71 : decode cX13_neutral 71 = .ok (.if_icmp .ne 9, 3) := by decide +kernel
theorem dX13_neutral_74 : decode cX13_neutral 74 = .ok (.iinc 6 1, 3) := by decide +kernel
theorem dX13_neutral_77 : decode cX13_neutral 77 = .ok (.goto (-34), 3) := by decide +kernel
theorem dX13_neutral_80 : decode cX13_neutral 80 = .ok (.iload 6, 2) := by decide +kernel
theorem dX13_neutral_82 : decode cX13_neutral 82 = .ok (.aload_n 0, 1) := by decide +kernel
theorem dX13_neutral_83 : decode cX13_neutral 83 = .ok (.getfield 245, 3) := by decide +kernel
theorem dX13_neutral_86 : decode cX13_neutral 86 = .ok (.if_icmp .ge 13, 3) := by decide +kernel
theorem dX13_neutral_89 : decode cX13_neutral 89 = .ok (.aload_n 0, 1) := by decide +kernel
theorem dX13_neutral_90 : decode cX13_neutral 90 = .ok (.getfield 130, 3) := by decide +kernel
theorem dX13_neutral_93 : decode cX13_neutral 93 = .ok (.iload 6, 2) := by decide +kernel
theorem dX13_neutral_95 : decode cX13_neutral 95 = .ok (.iaload, 1) := by decide +kernel
theorem dX13_neutral_96 : decode cX13_neutral 96 = .ok (.goto 4, 3) := by decide +kernel
theorem dX13_neutral_99 : decode cX13_neutral 99 = .ok (.iload_n 2, 1) := by decide +kernel
theorem dX13_neutral_100 : decode cX13_neutral 100 = .ok (.istore 7, 2) := by decide +kernel
theorem dX13_neutral_102 : decode cX13_neutral 102 = .ok (.aload_n 0, 1) := by decide +kernel
theorem dX13_neutral_103 : decode cX13_neutral 103 = .ok (.iload 5, 2) := by decide +kernel
theorem dX13_neutral_105 : decode cX13_neutral 105 = .ok (.iload 4, 2) := by decide +kernel
theorem dX13_neutral_107 : decode cX13_neutral 107 = .ok (.iload 7, 2) := by decide +kernel
theorem dX13_neutral_109 : decode cX13_neutral 109 = .ok (.if_icmp .ne 8, 3) := by decide +kernel
theorem dX13_neutral_112 : decode cX13_neutral 112 = .ok (.iload 4, 2) := by decide +kernel
theorem dX13_neutral_114 : decode cX13_neutral 114 = .ok (.goto 4, 3) := by decide +kernel
theorem dX13_neutral_117 : decode cX13_neutral 117 = .ok (.iload_n 2, 1) := by decide +kernel
theorem dX13_neutral_118 : decode cX13_neutral 118 = .ok (.iload_n 3, 1) := by decide +kernel
theorem dX13_neutral_119 : decode cX13_neutral 119 = .ok (.invokevirtual 287, 3) := by decide +kernel
theorem dX13_neutral_122 : decode cX13_neutral 122 = .ok (.goto 37, 3) := by decide +kernel
theorem dX13_neutral_125 : decode cX13_neutral 125 = .ok (.aload_n 0, 1) := by decide +kernel
theorem dX13_neutral_126 : decode cX13_neutral 126 = .ok (.getfield 133, 3) := by decide +kernel
theorem dX13_neutral_129 : decode cX13_neutral 129 = .ok (.iload 5, 2) := by decide +kernel
theorem dX13_neutral_131 : decode cX13_neutral 131 = .ok (.iaload, 1) := by decide +kernel
theorem dX13_neutral_132 : decode cX13_neutral 132 = .ok (.iload_n 1, 1) := by decide +kernel
theorem dX13_neutral_133 : decode cX13_neutral 133 = .ok (.if_icmp .ne 26, 3) := by decide +kernel
theorem dX13_neutral_136 : decode cX13_neutral 136 = .ok (.aload_n 0, 1) := by decide +kernel
theorem dX13_neutral_137 : decode cX13_neutral 137 = .ok (.getfield 130, 3) := by decide +kernel
theorem dX13_neutral_140 : decode cX13_neutral 140 = .ok (.iload 5, 2) := by decide +kernel
theorem dX13_neutral_142 : decode cX13_neutral 142 = .ok (.iaload, 1) := by decide +kernel
theorem dX13_neutral_143 : decode cX13_neutral 143 = .ok (.istore 4, 2) := by decide +kernel
theorem dX13_neutral_145 : decode cX13_neutral 145 = .ok (.aload_n 0, 1) := by decide +kernel
theorem dX13_neutral_146 : decode cX13_neutral 146 = .ok (.iload 5, 2) := by decide +kernel
theorem dX13_neutral_148 : decode cX13_neutral 148 = .ok (.aload_n 0, 1) := by decide +kernel
theorem dX13_neutral_149 : decode cX13_neutral 149 = .ok (.getfield 130, 3) := by decide +kernel
theorem dX13_neutral_152 : decode cX13_neutral 152 = .ok (.iload 5, 2) := by decide +kernel
theorem dX13_neutral_154 : decode cX13_neutral 154 = .ok (.iaload, 1) := by decide +kernel
theorem dX13_neutral_155 : decode cX13_neutral 155 = .ok (.iload_n 3, 1) := by decide +kernel
theorem dX13_neutral_156 : decode cX13_neutral 156 = .ok (.invokevirtual 287, 3) := by decide +kernel
theorem dX13_neutral_159 : decode cX13_neutral 159 = .ok (.iinc 5 1, 3) := by decide +kernel
theorem dX13_neutral_162 : decode cX13_neutral 162 = .ok (.goto (-156), 3) := by decide +kernel
theorem dX13_neutral_165 : decode cX13_neutral 165 = .ok (.return_, 1) := by decide +kernel
theorem dX13_levels_0 : decode cX13_levels 0 = .ok (.iload_n 3, 1) := by decide +kernel
theorem dX13_levels_1 : decode cX13_levels 1 = .ok (.iload_n 3, 1) := by decide +kernel
theorem dX13_levels_2 : decode cX13_levels 2 = .ok (.iload_n 2, 1) := by decide +kernel
theorem dX13_levels_3 : decode cX13_levels 3 = .ok (.iadd, 1) := by decide +kernel
theorem dX13_levels_4 : decode cX13_levels 4 = .ok (.iconst 2, 1) := by decide +kernel
theorem dX13_levels_5 : decode cX13_levels 5 = .ok (.irem, 1) := by decide +kernel
theorem dX13_levels_6 : decode cX13_levels 6 = .ok (.iadd, 1) := by decide +kernel
theorem dX13_levels_7 : decode cX13_levels 7 = .ok (.istore 4, 2) := by decide +kernel
theorem dX13_levels_9 : decode cX13_levels 9 = .ok (.aload_n 0, 1) := by decide +kernel
theorem dX13_levels_10 : decode cX13_levels 10 = .ok (.getfield 115, 3) := by decide +kernel
theorem dX13_levels_13 : decode cX13_levels 13 = .ok (.iload_n 1, 1) := by decide +kernel
theorem dX13_levels_14 : decode cX13_levels 14 = .ok (.iload 4, 2) := by decide +kernel
theorem dX13_levels_16 : decode cX13_levels 16 = .ok (.iload_n 2, 1) := by decide +kernel
theorem dX13_levels_17 : decode cX13_levels 17 = .ok (.iconst 1, 1) := by decide +kernel
theorem dX13_levels_18 : decode cX13_levels 18 = .ok (.if_icmp .ne 19, 3) := by decide +kernel
theorem dX13_levels_21 : decode cX13_levels 21 = .ok (.aload_n 0, 1) := by decide +kernel
theorem dX13_levels_22 : decode cX13_levels 22 = .ok (.getfield 100, 3) := by decide +kernel
theorem dX13_levels_25 : decode cX13_levels 25 = .ok (.iload_n 1, 1) := by decide +kernel
theorem dX13_levels_26 : decode cX13_levels 26 = .ok (.iaload, 1) := by decide +kernel
theorem dX13_levels_27 : decode cX13_levels 27 = .ok (.invokestatic 281, 3) := by decide +kernel
theorem dX13_levels_30 : decode cX13_levels 30 = .ok (.ifCond .eq 7, 3) := by decide +kernel
theorem dX13_levels_33 : decode cX13_levels 33 = .ok (.iconst 1, 1) := by decide +kernel
theorem dX13_levels_34 : decode cX13_levels 34 = .ok (.goto 4, 3) := by decide +kernel
theorem dX13_levels_37 : decode cX13_levels 37 = .ok (.iconst 0, 1) := by decide +kernel
theorem dX13_levels_38 : decode cX13_levels 38 = .ok (.iadd, 1) := by decide +kernel
theorem dX13_levels_39 : decode cX13_levels 39 = .ok (.iastore, 1) := by decide +kernel
theorem dX13_levels_40 : decode cX13_levels 40 = .ok (.return_, 1) := by decide +kernel
theorem dX13_levelsOf_0 : decode cX13_levelsOf 0 = .ok (.iload_n 2, 1) := by decide +kernel
theorem dX13_levelsOf_1 : decode cX13_levelsOf 1 = .ok (.iconst 2, 1) := by decide +kernel
theorem dX13_levelsOf_2 : decode cX13_levelsOf 2 = .ok (.irem, 1) := by decide +kernel
theorem dX13_levelsOf_3 : decode cX13_levelsOf 3 = .ok (.istore_n 3, 1) := by decide +kernel
theorem dX13_levelsOf_4 : decode cX13_levelsOf 4 = .ok (.aload_n 0, 1) := by decide +kernel
theorem dX13_levelsOf_5 : decode cX13_levelsOf 5 = .ok (.iload_n 1, 1) := by decide +kernel
theorem dX13_levelsOf_6 : decode cX13_levelsOf 6 = .ok (.invokevirtual 290, 3) := by decide +kernel
theorem dX13_levelsOf_9 : decode cX13_levelsOf 9 = .ok (.aload_n 0, 1) := by decide +kernel
theorem dX13_levelsOf_10 : decode cX13_levelsOf 10 = .ok (.iload_n 1, 1) := by decide +kernel
theorem dX13_levelsOf_11 : decode cX13_levelsOf 11 = .ok (.iload_n 3, 1) := by decide +kernel
theorem dX13_levelsOf_12 : decode cX13_levelsOf 12 = .ok (.invokevirtual 294, 3) := by decide +kernel
theorem dX13_levelsOf_15 : decode cX13_levelsOf 15 = .ok (.aload_n 0, 1) := by decide +kernel
theorem dX13_levelsOf_16 : decode cX13_levelsOf 16 = .ok (.iload_n 1, 1) := by decide +kernel
theorem dX13_levelsOf_17 : decode cX13_levelsOf 17 = .ok (.iload_n 3, 1) := by decide +kernel
theorem dX13_levelsOf_18 : decode cX13_levelsOf 18 = .ok (.invokevirtual 297, 3) := by decide +kernel
theorem dX13_levelsOf_21 : decode cX13_levelsOf 21 = .ok (.aload_n 0, 1) := by decide +kernel
theorem dX13_levelsOf_22 : decode cX13_levelsOf 22 = .ok (.iload_n 1, 1) := by decide +kernel
theorem dX13_levelsOf_23 : decode cX13_levelsOf 23 = .ok (.iload_n 3, 1) := by decide +kernel
theorem dX13_levelsOf_24 : decode cX13_levelsOf 24 = .ok (.iload_n 2, 1) := by decide +kernel
theorem dX13_levelsOf_25 : decode cX13_levelsOf 25 = .ok (.invokevirtual 300, 3) := by decide +kernel
theorem dX13_levelsOf_28 : decode cX13_levelsOf 28 = .ok (.return_, 1) := by decide +kernel
theorem dX13_findsLevels_0 : decode cX13_findsLevels 0 = .ok (.aload_n 0, 1) := by decide +kernel
theorem dX13_findsLevels_1 : decode cX13_findsLevels 1 = .ok (.invokevirtual 303, 3) := by decide +kernel
theorem dX13_findsLevels_4 : decode cX13_findsLevels 4 = .ok (.aload_n 0, 1) := by decide +kernel
theorem dX13_findsLevels_5 : decode cX13_findsLevels 5 = .ok (.aload_n 0, 1) := by decide +kernel
theorem dX13_findsLevels_6 : decode cX13_findsLevels 6 = .ok (.iconst (-1), 1) := by decide +kernel
theorem dX13_findsLevels_7 : decode cX13_findsLevels 7 = .ok (.invokevirtual 306, 3) := by decide +kernel
theorem dX13_findsLevels_10 : decode cX13_findsLevels 10 = .ok (.iconst 1, 1) := by decide +kernel
theorem dX13_findsLevels_11 : decode cX13_findsLevels 11 = .ok (.if_icmp .ne 7, 3) := by decide +kernel
theorem dX13_findsLevels_14 : decode cX13_findsLevels 14 = .ok (.iconst 1, 1) := by decide +kernel
theorem dX13_findsLevels_15 : decode cX13_findsLevels 15 = .ok (.goto 4, 3) := by decide +kernel
theorem dX13_findsLevels_18 : decode cX13_findsLevels 18 = .ok (.iconst 0, 1) := by decide +kernel
theorem dX13_findsLevels_19 : decode cX13_findsLevels 19 = .ok (.putfield 309, 3) := by decide +kernel
theorem dX13_findsLevels_22 : decode cX13_findsLevels 22 = .ok (.iconst 0, 1) := by decide +kernel
theorem dX13_findsLevels_23 : decode cX13_findsLevels 23 = .ok (.istore_n 1, 1) := by decide +kernel
theorem dX13_findsLevels_24 : decode cX13_findsLevels 24 = .ok (.iload_n 1, 1) := by decide +kernel
theorem dX13_findsLevels_25 : decode cX13_findsLevels 25 = .ok (.aload_n 0, 1) := by decide +kernel
theorem dX13_findsLevels_26 : decode cX13_findsLevels 26 = .ok (.getfield 245, 3) := by decide +kernel
theorem dX13_findsLevels_29 : decode cX13_findsLevels 29 = .ok (.if_icmp .ge 16, 3) := by decide +kernel
theorem dX13_findsLevels_32 : decode cX13_findsLevels 32 = .ok (.aload_n 0, 1) := by decide +kernel
theorem dX13_findsLevels_33 : decode cX13_findsLevels 33 = .ok (.getfield 139, 3) := by decide +kernel
theorem dX13_findsLevels_36 : decode cX13_findsLevels 36 = .ok (.iload_n 1, 1) := by decide +kernel
theorem dX13_findsLevels_37 : decode cX13_findsLevels 37 = .ok (.iconst (-1), 1) := by decide +kernel
theorem dX13_findsLevels_38 : decode cX13_findsLevels 38 = .ok (.iastore, 1) := by decide +kernel
theorem dX13_findsLevels_39 : decode cX13_findsLevels 39 = .ok (.iinc 1 1, 3) := by decide +kernel
theorem dX13_findsLevels_42 : decode cX13_findsLevels 42 = .ok (.goto (-18), 3) := by decide +kernel
theorem dX13_findsLevels_45 : decode cX13_findsLevels 45 = .ok (.aload_n 0, 1) := by decide +kernel
theorem dX13_findsLevels_46 : decode cX13_findsLevels 46 = .ok (.iconst (-1), 1) := by decide +kernel
theorem dX13_findsLevels_47 : decode cX13_findsLevels 47 = .ok (.aload_n 0, 1) := by decide +kernel
theorem dX13_findsLevels_48 : decode cX13_findsLevels 48 = .ok (.getfield 309, 3) := by decide +kernel
theorem dX13_findsLevels_51 : decode cX13_findsLevels 51 = .ok (.invokevirtual 312, 3) := by decide +kernel
theorem dX13_findsLevels_54 : decode cX13_findsLevels 54 = .ok (.iconst 0, 1) := by decide +kernel
theorem dX13_findsLevels_55 : decode cX13_findsLevels 55 = .ok (.istore_n 1, 1) := by decide +kernel
theorem dX13_findsLevels_56 : decode cX13_findsLevels 56 = .ok (.iload_n 1, 1) := by decide +kernel
theorem dX13_findsLevels_57 : decode cX13_findsLevels 57 = .ok (.aload_n 0, 1) := by decide +kernel
theorem dX13_findsLevels_58 : decode cX13_findsLevels 58 = .ok (.getfield 245, 3) := by decide +kernel
theorem dX13_findsLevels_61 : decode cX13_findsLevels 61 = .ok (.if_icmp .ge 102, 3) := by decide +kernel
theorem dX13_findsLevels_64 : decode cX13_findsLevels 64 = .ok (.aload_n 0, 1) := by decide +kernel
theorem dX13_findsLevels_65 : decode cX13_findsLevels 65 = .ok (.getfield 100, 3) := by decide +kernel
theorem dX13_findsLevels_68 : decode cX13_findsLevels 68 = .ok (.iload_n 1, 1) := by decide +kernel
theorem dX13_findsLevels_69 : decode cX13_findsLevels 69 = .ok (.iaload, 1) := by decide +kernel
theorem dX13_findsLevels_70 : decode cX13_findsLevels 70 = .ok (.bipush 60, 2) := by decide +kernel
theorem dX13_findsLevels_72 : decode cX13_findsLevels 72 = .ok (.if_icmp .ne 85, 3) := by decide +kernel
theorem dX13_findsLevels_75 : decode cX13_findsLevels 75 = .ok (.aload_n 0, 1) := by decide +kernel
theorem dX13_findsLevels_76 : decode cX13_findsLevels 76 = .ok (.getfield 136, 3) := by decide +kernel
theorem dX13_findsLevels_79 : decode cX13_findsLevels 79 = .ok (.iload_n 1, 1) := by decide +kernel
theorem dX13_findsLevels_80 : decode cX13_findsLevels 80 = .ok (.iaload, 1) := by decide +kernel
theorem dX13_findsLevels_81 : decode cX13_findsLevels 81 = .ok (.iconst (-1), 1) := by decide +kernel
theorem dX13_findsLevels_82 : decode cX13_findsLevels 82 = .ok (.if_icmp .eq 75, 3) := by decide +kernel
theorem dX13_findsLevels_85 : decode cX13_findsLevels 85 = .ok (.aload_n 0, 1) := by decide +kernel
theorem dX13_findsLevels_86 : decode cX13_findsLevels 86 = .ok (.getfield 133, 3) := by decide +kernel
theorem dX13_findsLevels_89 : decode cX13_findsLevels 89 = .ok (.iload_n 1, 1) := by decide +kernel
theorem dX13_findsLevels_90 : decode cX13_findsLevels 90 = .ok (.iaload, 1) := by decide +kernel
theorem dX13_findsLevels_91 : decode cX13_findsLevels 91 = .ok (.iconst (-1), 1) := by decide +kernel
theorem dX13_findsLevels_92 : decode cX13_findsLevels 92 = .ok (.if_icmp .ne 10, 3) := by decide +kernel
theorem dX13_findsLevels_95 : decode cX13_findsLevels 95 = .ok (.aload_n 0, 1) := by decide +kernel
theorem dX13_findsLevels_96 : decode cX13_findsLevels 96 = .ok (.getfield 309, 3) := by decide +kernel
theorem dX13_findsLevels_99 : decode cX13_findsLevels 99 = .ok (.goto 14, 3) := by decide +kernel
theorem dX13_findsLevels_102 : decode cX13_findsLevels 102 = .ok (.aload_n 0, 1) := by decide +kernel
theorem dX13_findsLevels_103 : decode cX13_findsLevels 103 = .ok (.getfield 139, 3) := by decide +kernel
theorem dX13_findsLevels_106 : decode cX13_findsLevels 106 = .ok (.aload_n 0, 1) := by decide +kernel
theorem dX13_findsLevels_107 : decode cX13_findsLevels 107 = .ok (.getfield 133, 3) := by decide +kernel
theorem dX13_findsLevels_110 : decode cX13_findsLevels 110 = .ok (.iload_n 1, 1) := by decide +kernel
theorem dX13_findsLevels_111 : decode cX13_findsLevels 111 = .ok (.iaload, 1) := by decide +kernel
theorem dX13_findsLevels_112 : decode cX13_findsLevels 112 = .ok (.iaload, 1) := by decide +kernel
theorem dX13_findsLevels_113 : decode cX13_findsLevels 113 = .ok (.istore_n 2, 1) := by decide +kernel
theorem dX13_findsLevels_114 : decode cX13_findsLevels 114 = .ok (.aload_n 0, 1) := by decide +kernel
theorem dX13_findsLevels_115 : decode cX13_findsLevels 115 = .ok (.iload_n 1, 1) := by decide +kernel
theorem dX13_findsLevels_116 : decode cX13_findsLevels 116 = .ok (.invokevirtual 306, 3) := by decide +kernel
theorem dX13_findsLevels_119 : decode cX13_findsLevels 119 = .ok (.iconst 1, 1) := by decide +kernel
theorem dX13_findsLevels_120 : decode cX13_findsLevels 120 = .ok (.if_icmp .ne 7, 3) := by decide +kernel
theorem dX13_findsLevels_123 : decode cX13_findsLevels 123 = .ok (.iconst 1, 1) := by decide +kernel
theorem dX13_findsLevels_124 : decode cX13_findsLevels 124 = .ok (.goto 4, 3) := by decide +kernel
theorem dX13_findsLevels_127 : decode cX13_findsLevels 127 = .ok (.iconst 0, 1) := by decide +kernel
theorem dX13_findsLevels_128 : decode cX13_findsLevels 128 = .ok (.istore_n 3, 1) := by decide +kernel
theorem dX13_findsLevels_129 : decode cX13_findsLevels 129 = .ok (.aload_n 0, 1) := by decide +kernel
theorem dX13_findsLevels_130 : decode cX13_findsLevels 130 = .ok (.getfield 139, 3) := by decide +kernel
theorem dX13_findsLevels_133 : decode cX13_findsLevels 133 = .ok (.iload_n 1, 1) := by decide +kernel
theorem dX13_findsLevels_134 : decode cX13_findsLevels 134 = .ok (.iload_n 2, 1) := by decide +kernel
theorem dX13_findsLevels_135 : decode cX13_findsLevels 135 = .ok (.iconst 1, 1) := by decide +kernel
theorem dX13_findsLevels_136 : decode cX13_findsLevels 136 = .ok (.iadd, 1) := by decide +kernel
theorem dX13_findsLevels_137 : decode cX13_findsLevels 137 = .ok (.iload_n 2, 1) := by decide +kernel
theorem dX13_findsLevels_138 : decode cX13_findsLevels 138 = .ok (.iconst 1, 1) := by decide +kernel
theorem dX13_findsLevels_139 : decode cX13_findsLevels 139 = .ok (.iadd, 1) := by decide +kernel
theorem dX13_findsLevels_140 : decode cX13_findsLevels 140 = .ok (.iload_n 3, 1) := by decide +kernel
theorem dX13_findsLevels_141 : decode cX13_findsLevels 141 = .ok (.iadd, 1) := by decide +kernel
theorem dX13_findsLevels_142 : decode cX13_findsLevels 142 = .ok (.iconst 2, 1) := by decide +kernel
theorem dX13_findsLevels_143 : decode cX13_findsLevels 143 = .ok (.irem, 1) := by decide +kernel
theorem dX13_findsLevels_144 : decode cX13_findsLevels 144 = .ok (.iadd, 1) := by decide +kernel
theorem dX13_findsLevels_145 : decode cX13_findsLevels 145 = .ok (.iastore, 1) := by decide +kernel
theorem dX13_findsLevels_146 : decode cX13_findsLevels 146 = .ok (.aload_n 0, 1) := by decide +kernel
theorem dX13_findsLevels_147 : decode cX13_findsLevels 147 = .ok (.iload_n 1, 1) := by decide +kernel
theorem dX13_findsLevels_148 : decode cX13_findsLevels 148 = .ok (.aload_n 0, 1) := by decide +kernel
theorem dX13_findsLevels_149 : decode cX13_findsLevels 149 = .ok (.getfield 139, 3) := by decide +kernel
theorem dX13_findsLevels_152 : decode cX13_findsLevels 152 = .ok (.iload_n 1, 1) := by decide +kernel
theorem dX13_findsLevels_153 : decode cX13_findsLevels 153 = .ok (.iaload, 1) := by decide +kernel
theorem dX13_findsLevels_154 : decode cX13_findsLevels 154 = .ok (.invokevirtual 312, 3) := by decide +kernel
theorem dX13_findsLevels_157 : decode cX13_findsLevels 157 = .ok (.iinc 1 1, 3) := by decide +kernel
theorem dX13_findsLevels_160 : decode cX13_findsLevels 160 = .ok (.goto (-104), 3) := by decide +kernel
theorem dX13_findsLevels_163 : decode cX13_findsLevels 163 = .ok (.return_, 1) := by decide +kernel
theorem dX13_turns_0 : decode cX13_turns 0 = .ok (.iload_n 1, 1) := by decide +kernel
theorem dX13_turns_1 : decode cX13_turns 1 = .ok (.istore_n 3, 1) := by decide +kernel
theorem dX13_turns_2 : decode cX13_turns 2 = .ok (.iload_n 2, 1) := by decide +kernel
theorem dX13_turns_3 : decode cX13_turns 3 = .ok (.iconst 1, 1) := by decide +kernel
theorem dX13_turns_4 : decode cX13_turns 4 = .ok (.isub, 1) := by decide +kernel
theorem dX13_turns_5 : decode cX13_turns 5 = .ok (.istore 4, 2) := by decide +kernel
theorem dX13_turns_7 : decode cX13_turns 7 = .ok (.iload_n 3, 1) := by decide +kernel
theorem dX13_turns_8 : decode cX13_turns 8 = .ok (.iload 4, 2) := by decide +kernel
theorem dX13_turns_10 : decode cX13_turns 10 = .ok (.if_icmp .ge 42, 3) := by decide +kernel
theorem dX13_turns_13 : decode cX13_turns 13 = .ok (.aload_n 0, 1) := by decide +kernel
theorem dX13_turns_14 : decode cX13_turns 14 = .ok (.getfield 124, 3) := by decide +kernel
theorem dX13_turns_17 : decode cX13_turns 17 = .ok (.iload_n 3, 1) := by decide +kernel
theorem dX13_turns_18 : decode cX13_turns 18 = .ok (.iaload, 1) := by decide +kernel
theorem dX13_turns_19 : decode cX13_turns 19 = .ok (.istore 5, 2) := by decide +kernel
theorem dX13_turns_21 : decode cX13_turns 21 = .ok (.aload_n 0, 1) := by decide +kernel
theorem dX13_turns_22 : decode cX13_turns 22 = .ok (.getfield 124, 3) := by decide +kernel
theorem dX13_turns_25 : decode cX13_turns 25 = .ok (.iload_n 3, 1) := by decide +kernel
theorem dX13_turns_26 : decode cX13_turns 26 = .ok (.aload_n 0, 1) := by decide +kernel
theorem dX13_turns_27 : decode cX13_turns 27 = .ok (.getfield 124, 3) := by decide +kernel
theorem dX13_turns_30 : decode cX13_turns 30 = .ok (.iload 4, 2) := by decide +kernel
theorem dX13_turns_32 : decode cX13_turns 32 = .ok (.iaload, 1) := by decide +kernel
theorem dX13_turns_33 : decode cX13_turns 33 = .ok (.iastore, 1) := by decide +kernel
theorem dX13_turns_34 : decode cX13_turns 34 = .ok (.aload_n 0, 1) := by decide +kernel
theorem dX13_turns_35 : decode cX13_turns 35 = .ok (.getfield 124, 3) := by decide +kernel
theorem dX13_turns_38 : decode cX13_turns 38 = .ok (.iload 4, 2) := by decide +kernel
theorem dX13_turns_40 : decode cX13_turns 40 = .ok (.iload 5, 2) := by decide +kernel
theorem dX13_turns_42 : decode cX13_turns 42 = .ok (.iastore, 1) := by decide +kernel
theorem dX13_turns_43 : decode cX13_turns 43 = .ok (.iinc 3 1, 3) := by decide +kernel
theorem dX13_turns_46 : decode cX13_turns 46 = .ok (.iinc 4 (-1), 3) := by decide +kernel
theorem dX13_turns_49 : decode cX13_turns 49 = .ok (.goto (-42), 3) := by decide +kernel
theorem dX13_turns_52 : decode cX13_turns 52 = .ok (.return_, 1) := by decide +kernel
theorem dX13_orders_0 : decode cX13_orders 0 = .ok (.aload_n 0, 1) := by decide +kernel
theorem dX13_orders_1 : decode cX13_orders 1 = .ok (.getfield 127, 3) := by decide +kernel
theorem dX13_orders_4 : decode cX13_orders 4 = .ok (.iload_n 2, 1) := by decide +kernel
theorem dX13_orders_5 : decode cX13_orders 5 = .ok (.iaload, 1) := by decide +kernel
theorem dX13_orders_6 : decode cX13_orders 6 = .ok (.istore_n 3, 1) := by decide +kernel
theorem dX13_orders_7 : decode cX13_orders 7 = .ok (.aload_n 0, 1) := by decide +kernel
theorem dX13_orders_8 : decode cX13_orders 8 = .ok (.getfield 127, 3) := by decide +kernel
theorem dX13_orders_11 : decode cX13_orders 11 = .ok (.iload_n 2, 1) := by decide +kernel
theorem dX13_orders_12 : decode cX13_orders 12 = .ok (.iconst 1, 1) := by decide +kernel
theorem dX13_orders_13 : decode cX13_orders 13 = .ok (.iadd, 1) := by decide +kernel
theorem dX13_orders_14 : decode cX13_orders 14 = .ok (.iaload, 1) := by decide +kernel
theorem dX13_orders_15 : decode cX13_orders 15 = .ok (.istore 4, 2) := by decide +kernel
theorem dX13_orders_17 : decode cX13_orders 17 = .ok (.iload 4, 2) := by decide +kernel
theorem dX13_orders_19 : decode cX13_orders 19 = .ok (.iconst 1, 1) := by decide +kernel
theorem dX13_orders_20 : decode cX13_orders 20 = .ok (.isub, 1) := by decide +kernel
theorem dX13_orders_21 : decode cX13_orders 21 = .ok (.istore 5, 2) := by decide +kernel
theorem dX13_orders_23 : decode cX13_orders 23 = .ok (.iload 5, 2) := by decide +kernel
theorem dX13_orders_25 : decode cX13_orders 25 = .ok (.iload_n 3, 1) := by decide +kernel
theorem dX13_orders_26 : decode cX13_orders 26 = .ok (.if_icmp .lt 29, 3) := by decide +kernel
theorem dX13_orders_29 : decode cX13_orders 29 = .ok (.aload_n 0, 1) := by decide +kernel
theorem dX13_orders_30 : decode cX13_orders 30 = .ok (.iload 5, 2) := by decide +kernel
theorem dX13_orders_32 : decode cX13_orders 32 = .ok (.invokevirtual 268, 3) := by decide +kernel
theorem dX13_orders_35 : decode cX13_orders 35 = .ok (.ifCond .eq 20, 3) := by decide +kernel
theorem dX13_orders_38 : decode cX13_orders 38 = .ok (.aload_n 0, 1) := by decide +kernel
theorem dX13_orders_39 : decode cX13_orders 39 = .ok (.getfield 115, 3) := by decide +kernel
theorem dX13_orders_42 : decode cX13_orders 42 = .ok (.iload 5, 2) := by decide +kernel
theorem dX13_orders_44 : decode cX13_orders 44 = .ok (.aload_n 0, 1) := by decide +kernel
theorem dX13_orders_45 : decode cX13_orders 45 = .ok (.getfield 309, 3) := by decide +kernel
theorem dX13_orders_48 : decode cX13_orders 48 = .ok (.iastore, 1) := by decide +kernel
theorem dX13_orders_49 : decode cX13_orders 49 = .ok (.iinc 5 (-1), 3) := by decide +kernel
theorem dX13_orders_52 : decode cX13_orders 52 = .ok (.goto (-29), 3) := by decide +kernel
theorem dX13_orders_55 : decode cX13_orders 55 = .ok (.iconst 0, 1) := by decide +kernel
theorem dX13_orders_56 : decode cX13_orders 56 = .ok (.istore 5, 2) := by decide +kernel
theorem dX13_orders_58 : decode cX13_orders 58 = .ok (.iload_n 3, 1) := by decide +kernel
theorem dX13_orders_59 : decode cX13_orders 59 = .ok (.istore 6, 2) := by decide +kernel
theorem dX13_orders_61 : decode cX13_orders 61 = .ok (.iload 6, 2) := by decide +kernel
theorem dX13_orders_63 : decode cX13_orders 63 = .ok (.iload 4, 2) := by decide +kernel
theorem dX13_orders_65 : decode cX13_orders 65 = .ok (.if_icmp .ge 32, 3) := by decide +kernel
theorem dX13_orders_68 : decode cX13_orders 68 = .ok (.aload_n 0, 1) := by decide +kernel
theorem dX13_orders_69 : decode cX13_orders 69 = .ok (.getfield 124, 3) := by decide +kernel
theorem dX13_orders_72 : decode cX13_orders 72 = .ok (.iload 6, 2) := by decide +kernel
theorem dX13_orders_74 : decode cX13_orders 74 = .ok (.iload 6, 2) := by decide +kernel
theorem dX13_orders_76 : decode cX13_orders 76 = .ok (.iastore, 1) := by decide +kernel
theorem dX13_orders_77 : decode cX13_orders 77 = .ok (.iload 5, 2) := by decide +kernel
theorem dX13_orders_79 : decode cX13_orders 79 = .ok (.aload_n 0, 1) := by decide +kernel
theorem dX13_orders_80 : decode cX13_orders 80 = .ok (.getfield 115, 3) := by decide +kernel
theorem dX13_orders_83 : decode cX13_orders 83 = .ok (.iload 6, 2) := by decide +kernel
theorem dX13_orders_85 : decode cX13_orders 85 = .ok (.iaload, 1) := by decide +kernel
theorem dX13_orders_86 : decode cX13_orders 86 = .ok (.invokestatic 315, 3) := by decide +kernel
theorem dX13_orders_89 : decode cX13_orders 89 = .ok (.istore 5, 2) := by decide +kernel
theorem dX13_orders_91 : decode cX13_orders 91 = .ok (.iinc 6 1, 3) := by decide +kernel
theorem dX13_orders_94 : decode cX13_orders 94 = .ok (.goto (-33), 3) := by decide +kernel
theorem dX13_orders_97 : decode cX13_orders 97 = .ok (.iload 5, 2) := by decide +kernel
theorem dX13_orders_99 : decode cX13_orders 99 = .ok (.istore 6, 2) := by decide +kernel
theorem dX13_orders_101 : decode cX13_orders 101 = .ok (.iload 6, 2) := by decide +kernel
theorem dX13_orders_103 : decode cX13_orders 103 = .ok (.ifCond .le 70, 3) := by decide +kernel
theorem dX13_orders_106 : decode cX13_orders 106 = .ok (.iload_n 3, 1) := by decide +kernel
theorem dX13_orders_107 : decode cX13_orders 107 = .ok (.istore 7, 2) := by decide +kernel
theorem dX13_orders_109 : decode cX13_orders 109 = .ok (.iload 7, 2) := by decide +kernel
theorem dX13_orders_111 : decode cX13_orders 111 = .ok (.iload 4, 2) := by decide +kernel
theorem dX13_orders_113 : decode cX13_orders 113 = .ok (.if_icmp .ge 54, 3) := by decide +kernel
theorem dX13_orders_116 : decode cX13_orders 116 = .ok (.iload 7, 2) := by decide +kernel
theorem dX13_orders_118 : decode cX13_orders 118 = .ok (.istore 8, 2) := by decide +kernel
theorem dX13_orders_120 : decode cX13_orders 120 = .ok (.iload 8, 2) := by decide +kernel
theorem dX13_orders_122 : decode cX13_orders 122 = .ok (.iload 4, 2) := by decide +kernel
theorem dX13_orders_124 : decode cX13_orders 124 = .ok (.if_icmp .ge 26, 3) := by decide +kernel
theorem dX13_orders_127 : decode cX13_orders 127 = .ok (.aload_n 0, 1) := by decide +kernel
theorem dX13_orders_128 : decode cX13_orders 128 = .ok (.getfield 115, 3) := by decide +kernel
theorem dX13_orders_131 : decode cX13_orders 131 = .ok (.aload_n 0, 1) := by decide +kernel
theorem dX13_orders_132 : decode cX13_orders 132 = .ok (.getfield 124, 3) := by decide +kernel
theorem dX13_orders_135 : decode cX13_orders 135 = .ok (.iload 8, 2) := by decide +kernel
theorem dX13_orders_137 : decode cX13_orders 137 = .ok (.iaload, 1) := by decide +kernel
theorem dX13_orders_138 : decode cX13_orders 138 = .ok (.iaload, 1) := by decide +kernel
theorem dX13_orders_139 : decode cX13_orders 139 = .ok (.iload 6, 2) := by decide +kernel
theorem dX13_orders_141 : decode cX13_orders 141 = .ok (.if_icmp .lt 9, 3) := by decide +kernel
theorem dX13_orders_144 : decode cX13_orders 144 = .ok (.iinc 8 1, 3) := by decide +kernel
theorem dX13_orders_147 : decode cX13_orders 147 = .ok (.goto (-27), 3) := by decide +kernel
theorem dX13_orders_150 : decode cX13_orders 150 = .ok (.aload_n 0, 1) := by decide +kernel
theorem dX13_orders_151 : decode cX13_orders 151 = .ok (.iload 7, 2) := by decide +kernel
theorem dX13_orders_153 : decode cX13_orders 153 = .ok (.iload 8, 2) := by decide +kernel
theorem dX13_orders_155 : decode cX13_orders 155 = .ok (.invokevirtual 318, 3) := by decide +kernel
theorem dX13_orders_158 : decode cX13_orders 158 = .ok (.iload 8, 2) := by decide +kernel
theorem dX13_orders_160 : decode cX13_orders 160 = .ok (.iconst 1, 1) := by decide +kernel
theorem dX13_orders_161 : decode cX13_orders 161 = .ok (.iadd, 1) := by decide +kernel
theorem dX13_orders_162 : decode cX13_orders 162 = .ok (.istore 7, 2) := by decide +kernel
theorem dX13_orders_164 : decode cX13_orders 164 = .ok (.goto (-55), 3) := by decide +kernel
theorem dX13_orders_167 : decode cX13_orders 167 = .ok (.iinc 6 (-1), 3) := by decide +kernel
theorem dX13_orders_170 : decode cX13_orders 170 = .ok (.goto (-69), 3) := by decide +kernel
theorem dX13_orders_173 : decode cX13_orders 173 = .ok (.iload_n 2, 1) := by decide +kernel
theorem dX13_orders_174 : decode cX13_orders 174 = .ok (.ifCond .ne 7, 3) := by decide +kernel
theorem dX13_orders_177 : decode cX13_orders 177 = .ok (.iconst 0, 1) := by decide +kernel
theorem dX13_orders_178 : decode cX13_orders 178 = .ok (.goto 9, 3) := by decide +kernel
theorem dX13_orders_181 : decode cX13_orders 181 = .ok (.aload_n 0, 1) := by decide +kernel
theorem dX13_orders_182 : decode cX13_orders 182 = .ok (.getfield 27, 3) := by decide +kernel
theorem dX13_orders_185 : decode cX13_orders 185 = .ok (.iload_n 1, 1) := by decide +kernel
theorem dX13_orders_186 : decode cX13_orders 186 = .ok (.iaload, 1) := by decide +kernel
theorem dX13_orders_187 : decode cX13_orders 187 = .ok (.istore 6, 2) := by decide +kernel
theorem dX13_orders_189 : decode cX13_orders 189 = .ok (.iload_n 3, 1) := by decide +kernel
theorem dX13_orders_190 : decode cX13_orders 190 = .ok (.istore 7, 2) := by decide +kernel
theorem dX13_orders_192 : decode cX13_orders 192 = .ok (.iload 7, 2) := by decide +kernel
theorem dX13_orders_194 : decode cX13_orders 194 = .ok (.iload 4, 2) := by decide +kernel
theorem dX13_orders_196 : decode cX13_orders 196 = .ok (.if_icmp .ge 40, 3) := by decide +kernel
theorem dX13_orders_199 : decode cX13_orders 199 = .ok (.aload_n 0, 1) := by decide +kernel
theorem dX13_orders_200 : decode cX13_orders 200 = .ok (.getfield 118, 3) := by decide +kernel
theorem dX13_orders_203 : decode cX13_orders 203 = .ok (.aload_n 0, 1) := by decide +kernel
theorem dX13_orders_204 : decode cX13_orders 204 = .ok (.getfield 124, 3) := by decide +kernel
theorem dX13_orders_207 : decode cX13_orders 207 = .ok (.iload 7, 2) := by decide +kernel
theorem dX13_orders_209 : decode cX13_orders 209 = .ok (.iaload, 1) := by decide +kernel
theorem dX13_orders_210 : decode cX13_orders 210 = .ok (.iload 6, 2) := by decide +kernel
theorem dX13_orders_212 : decode cX13_orders 212 = .ok (.iastore, 1) := by decide +kernel
theorem dX13_orders_213 : decode cX13_orders 213 = .ok (.iload 6, 2) := by decide +kernel
theorem dX13_orders_215 : decode cX13_orders 215 = .ok (.aload_n 0, 1) := by decide +kernel
theorem dX13_orders_216 : decode cX13_orders 216 = .ok (.getfield 112, 3) := by decide +kernel
theorem dX13_orders_219 : decode cX13_orders 219 = .ok (.aload_n 0, 1) := by decide +kernel
theorem dX13_orders_220 : decode cX13_orders 220 = .ok (.getfield 124, 3) := by decide +kernel
theorem dX13_orders_223 : decode cX13_orders 223 = .ok (.iload 7, 2) := by decide +kernel
theorem dX13_orders_225 : decode cX13_orders 225 = .ok (.iaload, 1) := by decide +kernel
theorem dX13_orders_226 : decode cX13_orders 226 = .ok (.iaload, 1) := by decide +kernel
theorem dX13_orders_227 : decode cX13_orders 227 = .ok (.iadd, 1) := by decide +kernel
theorem dX13_orders_228 : decode cX13_orders 228 = .ok (.istore 6, 2) := by decide +kernel
theorem dX13_orders_230 : decode cX13_orders 230 = .ok (.iinc 7 1, 3) := by decide +kernel
theorem dX13_orders_233 : decode cX13_orders 233 = .ok (.goto (-41), 3) := by decide +kernel
theorem dX13_orders_236 : decode cX13_orders 236 = .ok (.return_, 1) := by decide +kernel
theorem dX13_lays_0 : decode cX13_lays 0 = .ok (.aload_n 0, 1) := by decide +kernel
theorem dX13_lays_1 : decode cX13_lays 1 = .ok (.iload_n 1, 1) := by decide +kernel
theorem dX13_lays_2 : decode cX13_lays 2 = .ok (.iload_n 2, 1) := by decide +kernel
theorem dX13_lays_3 : decode cX13_lays 3 = .ok (.invokevirtual 321, 3) := by decide +kernel
theorem dX13_lays_6 : decode cX13_lays 6 = .ok (.aload_n 0, 1) := by decide +kernel
theorem dX13_lays_7 : decode cX13_lays 7 = .ok (.iload_n 1, 1) := by decide +kernel
theorem dX13_lays_8 : decode cX13_lays 8 = .ok (.invokevirtual 324, 3) := by decide +kernel
theorem dX13_lays_11 : decode cX13_lays 11 = .ok (.aload_n 0, 1) := by decide +kernel
theorem dX13_lays_12 : decode cX13_lays 12 = .ok (.invokevirtual 327, 3) := by decide +kernel
theorem dX13_lays_15 : decode cX13_lays 15 = .ok (.iconst 0, 1) := by decide +kernel
theorem dX13_lays_16 : decode cX13_lays 16 = .ok (.istore_n 3, 1) := by decide +kernel
theorem dX13_lays_17 : decode cX13_lays 17 = .ok (.iload_n 3, 1) := by decide +kernel
theorem dX13_lays_18 : decode cX13_lays 18 = .ok (.aload_n 0, 1) := by decide +kernel
theorem dX13_lays_19 : decode cX13_lays 19 = .ok (.getfield 262, 3) := by decide +kernel
theorem dX13_lays_22 : decode cX13_lays 22 = .ok (.if_icmp .ge 15, 3) := by decide +kernel
theorem dX13_lays_25 : decode cX13_lays 25 = .ok (.aload_n 0, 1) := by decide +kernel
theorem dX13_lays_26 : decode cX13_lays 26 = .ok (.iload_n 1, 1) := by decide +kernel
theorem dX13_lays_27 : decode cX13_lays 27 = .ok (.iload_n 3, 1) := by decide +kernel
theorem dX13_lays_28 : decode cX13_lays 28 = .ok (.invokevirtual 330, 3) := by decide +kernel
theorem dX13_lays_31 : decode cX13_lays 31 = .ok (.iinc 3 1, 3) := by decide +kernel
theorem dX13_lays_34 : decode cX13_lays 34 = .ok (.goto (-17), 3) := by decide +kernel
theorem dX13_lays_37 : decode cX13_lays 37 = .ok (.return_, 1) := by decide +kernel
theorem dX13_rowsIn_0 : decode cX13_rowsIn 0 = .ok (.aload_n 0, 1) := by decide +kernel
theorem dX13_rowsIn_1 : decode cX13_rowsIn 1 = .ok (.iload_n 1, 1) := by decide +kernel
theorem dX13_rowsIn_2 : decode cX13_rowsIn 2 = .ok (.iload_n 2, 1) := by decide +kernel
theorem dX13_rowsIn_3 : decode cX13_rowsIn 3 = .ok (.invokevirtual 333, 3) := by decide +kernel
theorem dX13_rowsIn_6 : decode cX13_rowsIn 6 = .ok (.ifCond .eq 5, 3) := by decide +kernel
theorem dX13_rowsIn_9 : decode cX13_rowsIn 9 = .ok (.iconst 0, 1) := by decide +kernel
theorem dX13_rowsIn_10 : decode cX13_rowsIn 10 = .ok (.ireturn, 1) := by decide +kernel
theorem dX13_rowsIn_11 : decode cX13_rowsIn 11 = .ok (.aload_n 0, 1) := by decide +kernel
theorem dX13_rowsIn_12 : decode cX13_rowsIn 12 = .ok (.iload_n 1, 1) := by decide +kernel
theorem dX13_rowsIn_13 : decode cX13_rowsIn 13 = .ok (.iload_n 2, 1) := by decide +kernel
theorem dX13_rowsIn_14 : decode cX13_rowsIn 14 = .ok (.invokevirtual 321, 3) := by decide +kernel
theorem dX13_rowsIn_17 : decode cX13_rowsIn 17 = .ok (.aload_n 0, 1) := by decide +kernel
theorem dX13_rowsIn_18 : decode cX13_rowsIn 18 = .ok (.iload_n 1, 1) := by decide +kernel
theorem dX13_rowsIn_19 : decode cX13_rowsIn 19 = .ok (.invokevirtual 324, 3) := by decide +kernel
theorem dX13_rowsIn_22 : decode cX13_rowsIn 22 = .ok (.aload_n 0, 1) := by decide +kernel
theorem dX13_rowsIn_23 : decode cX13_rowsIn 23 = .ok (.getfield 262, 3) := by decide +kernel
theorem dX13_rowsIn_26 : decode cX13_rowsIn 26 = .ok (.ireturn, 1) := by decide +kernel
theorem dX13_rowsAhead_0 : decode cX13_rowsAhead 0 = .ok (.iconst 0, 1) := by decide +kernel
theorem dX13_rowsAhead_1 : decode cX13_rowsAhead 1 = .ok (.istore_n 3, 1) := by decide +kernel
theorem dX13_rowsAhead_2 : decode cX13_rowsAhead 2 = .ok (.iconst 0, 1) := by decide +kernel
theorem dX13_rowsAhead_3 : decode cX13_rowsAhead 3 = .ok (.istore 4, 2) := by decide +kernel
theorem dX13_rowsAhead_5 : decode cX13_rowsAhead 5 = .ok (.iload 4, 2) := by decide +kernel
theorem dX13_rowsAhead_7 : decode cX13_rowsAhead 7 = .ok (.iload_n 2, 1) := by decide +kernel
theorem dX13_rowsAhead_8 : decode cX13_rowsAhead 8 = .ok (.if_icmp .ge 19, 3) := by decide +kernel
theorem dX13_rowsAhead_11 : decode cX13_rowsAhead 11 = .ok (.iload_n 3, 1) := by decide +kernel
theorem dX13_rowsAhead_12 : decode cX13_rowsAhead 12 = .ok (.aload_n 0, 1) := by decide +kernel
theorem dX13_rowsAhead_13 : decode cX13_rowsAhead 13 = .ok (.iload_n 1, 1) := by decide +kernel
theorem dX13_rowsAhead_14 : decode cX13_rowsAhead 14 = .ok (.iload 4, 2) := by decide +kernel
theorem dX13_rowsAhead_16 : decode cX13_rowsAhead 16 = .ok (.invokevirtual 336, 3) := by decide +kernel
theorem dX13_rowsAhead_19 : decode cX13_rowsAhead 19 = .ok (.iadd, 1) := by decide +kernel
theorem dX13_rowsAhead_20 : decode cX13_rowsAhead 20 = .ok (.istore_n 3, 1) := by decide +kernel
theorem dX13_rowsAhead_21 : decode cX13_rowsAhead 21 = .ok (.iinc 4 1, 3) := by decide +kernel
theorem dX13_rowsAhead_24 : decode cX13_rowsAhead 24 = .ok (.goto (-19), 3) := by decide +kernel
theorem dX13_rowsAhead_27 : decode cX13_rowsAhead 27 = .ok (.iload_n 3, 1) := by decide +kernel
theorem dX13_rowsAhead_28 : decode cX13_rowsAhead 28 = .ok (.ireturn, 1) := by decide +kernel
theorem dX13_lineOf_0 : decode cX13_lineOf 0 = .ok (.iload_n 2, 1) := by decide +kernel
theorem dX13_lineOf_1 : decode cX13_lineOf 1 = .ok (.istore_n 3, 1) := by decide +kernel
theorem dX13_lineOf_2 : decode cX13_lineOf 2 = .ok (.iconst 0, 1) := by decide +kernel
theorem dX13_lineOf_3 : decode cX13_lineOf 3 = .ok (.istore 4, 2) := by decide +kernel
theorem dX13_lineOf_5 : decode cX13_lineOf 5 = .ok (.aload_n 0, 1) := by decide +kernel
theorem dX13_lineOf_6 : decode cX13_lineOf 6 = .ok (.iload_n 1, 1) := by decide +kernel
theorem dX13_lineOf_7 : decode cX13_lineOf 7 = .ok (.iconst 0, 1) := by decide +kernel
theorem dX13_lineOf_8 : decode cX13_lineOf 8 = .ok (.invokevirtual 336, 3) := by decide +kernel
theorem dX13_lineOf_11 : decode cX13_lineOf 11 = .ok (.istore 5, 2) := by decide +kernel
theorem dX13_lineOf_13 : decode cX13_lineOf 13 = .ok (.iload_n 3, 1) := by decide +kernel
theorem dX13_lineOf_14 : decode cX13_lineOf 14 = .ok (.iload 5, 2) := by decide +kernel
theorem dX13_lineOf_16 : decode cX13_lineOf 16 = .ok (.if_icmp .lt 23, 3) := by decide +kernel
theorem dX13_lineOf_19 : decode cX13_lineOf 19 = .ok (.iload_n 3, 1) := by decide +kernel
theorem dX13_lineOf_20 : decode cX13_lineOf 20 = .ok (.iload 5, 2) := by decide +kernel
theorem dX13_lineOf_22 : decode cX13_lineOf 22 = .ok (.isub, 1) := by decide +kernel
theorem dX13_lineOf_23 : decode cX13_lineOf 23 = .ok (.istore_n 3, 1) := by decide +kernel
theorem dX13_lineOf_24 : decode cX13_lineOf 24 = .ok (.iinc 4 1, 3) := by decide +kernel
theorem dX13_lineOf_27 : decode cX13_lineOf 27 = .ok (.aload_n 0, 1) := by decide +kernel
theorem dX13_lineOf_28 : decode cX13_lineOf 28 = .ok (.iload_n 1, 1) := by decide +kernel
theorem dX13_lineOf_29 : decode cX13_lineOf 29 = .ok (.iload 4, 2) := by decide +kernel
theorem dX13_lineOf_31 : decode cX13_lineOf 31 = .ok (.invokevirtual 336, 3) := by decide +kernel
theorem dX13_lineOf_34 : decode cX13_lineOf 34 = .ok (.istore 5, 2) := by decide +kernel
theorem dX13_lineOf_36 : decode cX13_lineOf 36 = .ok (.goto (-23), 3) := by decide +kernel
theorem dX13_lineOf_39 : decode cX13_lineOf 39 = .ok (.iload 4, 2) := by decide +kernel
theorem dX13_lineOf_41 : decode cX13_lineOf 41 = .ok (.ireturn, 1) := by decide +kernel
theorem dX13_isRow_0 : decode cX13_isRow 0 = .ok (.iload_n 1, 1) := by decide +kernel
theorem dX13_isRow_1 : decode cX13_isRow 1 = .ok (.invokestatic 236, 3) := by decide +kernel
theorem dX13_isRow_4 : decode cX13_isRow 4 = .ok (.ifCond .eq 26, 3) := by decide +kernel
theorem dX13_isRow_7 : decode cX13_isRow 7 = .ok (.iload_n 2, 1) := by decide +kernel
theorem dX13_isRow_8 : decode cX13_isRow 8 = .ok (.iconst 0, 1) := by decide +kernel
theorem dX13_isRow_9 : decode cX13_isRow 9 = .ok (.aload_n 0, 1) := by decide +kernel
theorem dX13_isRow_10 : decode cX13_isRow 10 = .ok (.iload_n 1, 1) := by decide +kernel
theorem dX13_isRow_11 : decode cX13_isRow 11 = .ok (.aload_n 0, 1) := by decide +kernel
theorem dX13_isRow_12 : decode cX13_isRow 12 = .ok (.getfield 20, 3) := by decide +kernel
theorem dX13_isRow_15 : decode cX13_isRow 15 = .ok (.invokevirtual 339, 3) := by decide +kernel
theorem dX13_isRow_18 : decode cX13_isRow 18 = .ok (.iconst 1, 1) := by decide +kernel
theorem dX13_isRow_19 : decode cX13_isRow 19 = .ok (.isub, 1) := by decide +kernel
theorem dX13_isRow_20 : decode cX13_isRow 20 = .ok (.invokestatic 187, 3) := by decide +kernel
theorem dX13_isRow_23 : decode cX13_isRow 23 = .ok (.ifCond .eq 7, 3) := by decide +kernel
theorem dX13_isRow_26 : decode cX13_isRow 26 = .ok (.iconst 1, 1) := by decide +kernel
theorem dX13_isRow_27 : decode cX13_isRow 27 = .ok (.goto 4, 3) := by decide +kernel
theorem dX13_isRow_30 : decode cX13_isRow 30 = .ok (.iconst 0, 1) := by decide +kernel
theorem dX13_isRow_31 : decode cX13_isRow 31 = .ok (.ireturn, 1) := by decide +kernel
theorem dX13_laysRow_0 : decode cX13_laysRow 0 = .ok (.aload_n 0, 1) := by decide +kernel
theorem dX13_laysRow_1 : decode cX13_laysRow 1 = .ok (.iload_n 1, 1) := by decide +kernel
theorem dX13_laysRow_2 : decode cX13_laysRow 2 = .ok (.iload_n 2, 1) := by decide +kernel
theorem dX13_laysRow_3 : decode cX13_laysRow 3 = .ok (.invokevirtual 342, 3) := by decide +kernel
theorem dX13_laysRow_6 : decode cX13_laysRow 6 = .ok (.istore_n 3, 1) := by decide +kernel
theorem dX13_laysRow_7 : decode cX13_laysRow 7 = .ok (.iload_n 2, 1) := by decide +kernel
theorem dX13_laysRow_8 : decode cX13_laysRow 8 = .ok (.aload_n 0, 1) := by decide +kernel
theorem dX13_laysRow_9 : decode cX13_laysRow 9 = .ok (.iload_n 1, 1) := by decide +kernel
theorem dX13_laysRow_10 : decode cX13_laysRow 10 = .ok (.iload_n 3, 1) := by decide +kernel
theorem dX13_laysRow_11 : decode cX13_laysRow 11 = .ok (.invokevirtual 339, 3) := by decide +kernel
theorem dX13_laysRow_14 : decode cX13_laysRow 14 = .ok (.isub, 1) := by decide +kernel
theorem dX13_laysRow_15 : decode cX13_laysRow 15 = .ok (.istore 4, 2) := by decide +kernel
theorem dX13_laysRow_17 : decode cX13_laysRow 17 = .ok (.aload_n 0, 1) := by decide +kernel
theorem dX13_laysRow_18 : decode cX13_laysRow 18 = .ok (.iload_n 1, 1) := by decide +kernel
theorem dX13_laysRow_19 : decode cX13_laysRow 19 = .ok (.iload_n 3, 1) := by decide +kernel
theorem dX13_laysRow_20 : decode cX13_laysRow 20 = .ok (.invokevirtual 345, 3) := by decide +kernel
theorem dX13_laysRow_23 : decode cX13_laysRow 23 = .ok (.iload 4, 2) := by decide +kernel
theorem dX13_laysRow_25 : decode cX13_laysRow 25 = .ok (.ireturn, 1) := by decide +kernel
theorem dX13_rows_0 : decode cX13_rows 0 = .ok (.aload_n 0, 1) := by decide +kernel
theorem dX13_rows_1 : decode cX13_rows 1 = .ok (.iload_n 1, 1) := by decide +kernel
theorem dX13_rows_2 : decode cX13_rows 2 = .ok (.invokestatic 236, 3) := by decide +kernel
theorem dX13_rows_5 : decode cX13_rows 5 = .ok (.ifCond .eq 7, 3) := by decide +kernel
theorem dX13_rows_8 : decode cX13_rows 8 = .ok (.iconst 0, 1) := by decide +kernel
theorem dX13_rows_9 : decode cX13_rows 9 = .ok (.goto 4, 3) := by decide +kernel
theorem dX13_rows_12 : decode cX13_rows 12 = .ok (.iconst 1, 1) := by decide +kernel
theorem dX13_rows_13 : decode cX13_rows 13 = .ok (.invokevirtual 195, 3) := by decide +kernel
theorem dX13_rows_16 : decode cX13_rows 16 = .ok (.ifCond .eq 15, 3) := by decide +kernel
theorem dX13_rows_19 : decode cX13_rows 19 = .ok (.aload_n 0, 1) := by decide +kernel
theorem dX13_rows_20 : decode cX13_rows 20 = .ok (.iload_n 1, 1) := by decide +kernel
theorem dX13_rows_21 : decode cX13_rows 21 = .ok (.aload_n 0, 1) := by decide +kernel
theorem dX13_rows_22 : decode cX13_rows 22 = .ok (.getfield 20, 3) := by decide +kernel
theorem dX13_rows_25 : decode cX13_rows 25 = .ok (.invokevirtual 339, 3) := by decide +kernel
theorem dX13_rows_28 : decode cX13_rows 28 = .ok (.goto 4, 3) := by decide +kernel
theorem dX13_rows_31 : decode cX13_rows 31 = .ok (.iconst 0, 1) := by decide +kernel
theorem dX13_rows_32 : decode cX13_rows 32 = .ok (.ireturn, 1) := by decide +kernel
theorem dX13_rowsOf_0 : decode cX13_rowsOf 0 = .ok (.aload_n 0, 1) := by decide +kernel
theorem dX13_rowsOf_1 : decode cX13_rowsOf 1 = .ok (.iload_n 1, 1) := by decide +kernel
theorem dX13_rowsOf_2 : decode cX13_rowsOf 2 = .ok (.invokestatic 236, 3) := by decide +kernel
theorem dX13_rowsOf_5 : decode cX13_rowsOf 5 = .ok (.ifCond .eq 15, 3) := by decide +kernel
theorem dX13_rowsOf_8 : decode cX13_rowsOf 8 = .ok (.aload_n 0, 1) := by decide +kernel
theorem dX13_rowsOf_9 : decode cX13_rowsOf 9 = .ok (.iload_n 2, 1) := by decide +kernel
theorem dX13_rowsOf_10 : decode cX13_rowsOf 10 = .ok (.invokevirtual 191, 3) := by decide +kernel
theorem dX13_rowsOf_13 : decode cX13_rowsOf 13 = .ok (.ifCond .eq 7, 3) := by decide +kernel
theorem dX13_rowsOf_16 : decode cX13_rowsOf 16 = .ok (.iconst 0, 1) := by decide +kernel
theorem dX13_rowsOf_17 : decode cX13_rowsOf 17 = .ok (.goto 4, 3) := by decide +kernel
theorem dX13_rowsOf_20 : decode cX13_rowsOf 20 = .ok (.iconst 1, 1) := by decide +kernel
theorem dX13_rowsOf_21 : decode cX13_rowsOf 21 = .ok (.invokevirtual 195, 3) := by decide +kernel
theorem dX13_rowsOf_24 : decode cX13_rowsOf 24 = .ok (.ifCond .eq 12, 3) := by decide +kernel
theorem dX13_rowsOf_27 : decode cX13_rowsOf 27 = .ok (.aload_n 0, 1) := by decide +kernel
theorem dX13_rowsOf_28 : decode cX13_rowsOf 28 = .ok (.iload_n 1, 1) := by decide +kernel
theorem dX13_rowsOf_29 : decode cX13_rowsOf 29 = .ok (.iload_n 2, 1) := by decide +kernel
theorem dX13_rowsOf_30 : decode cX13_rowsOf 30 = .ok (.invokevirtual 336, 3) := by decide +kernel
theorem dX13_rowsOf_33 : decode cX13_rowsOf 33 = .ok (.goto 4, 3) := by decide +kernel
theorem dX13_rowsOf_36 : decode cX13_rowsOf 36 = .ok (.iconst 0, 1) := by decide +kernel
theorem dX13_rowsOf_37 : decode cX13_rowsOf 37 = .ok (.ireturn, 1) := by decide +kernel
theorem dX13_clusters_0 : decode cX13_clusters 0 = .ok (.aload_n 0, 1) := by decide +kernel
theorem dX13_clusters_1 : decode cX13_clusters 1 = .ok (.aload_n 0, 1) := by decide +kernel
theorem dX13_clusters_2 : decode cX13_clusters 2 = .ok (.iload_n 1, 1) := by decide +kernel
theorem dX13_clusters_3 : decode cX13_clusters 3 = .ok (.iload_n 2, 1) := by decide +kernel
theorem dX13_clusters_4 : decode cX13_clusters 4 = .ok (.invokevirtual 348, 3) := by decide +kernel
theorem dX13_clusters_7 : decode cX13_clusters 7 = .ok (.ifCond .eq 7, 3) := by decide +kernel
theorem dX13_clusters_10 : decode cX13_clusters 10 = .ok (.iconst 0, 1) := by decide +kernel
theorem dX13_clusters_11 : decode cX13_clusters 11 = .ok (.goto 4, 3) := by decide +kernel
theorem dX13_clusters_14 : decode cX13_clusters 14 = .ok (.iconst 1, 1) := by decide +kernel
theorem dX13_clusters_15 : decode cX13_clusters 15 = .ok (.invokevirtual 195, 3) := by decide +kernel
theorem dX13_clusters_18 : decode cX13_clusters 18 = .ok (.ifCond .ne 5, 3) := by decide +kernel
theorem dX13_clusters_21 : decode cX13_clusters 21 = .ok (.iconst 0, 1) := by decide +kernel
theorem dX13_clusters_22 : decode cX13_clusters 22 = .ok (.ireturn, 1) := by decide +kernel
theorem dX13_clusters_23 : decode cX13_clusters 23 = .ok (.aload_n 0, 1) := by decide +kernel
theorem dX13_clusters_24 : decode cX13_clusters 24 = .ok (.iload_n 1, 1) := by decide +kernel
theorem dX13_clusters_25 : decode cX13_clusters 25 = .ok (.iload_n 2, 1) := by decide +kernel
theorem dX13_clusters_26 : decode cX13_clusters 26 = .ok (.invokevirtual 351, 3) := by decide +kernel
theorem dX13_clusters_29 : decode cX13_clusters 29 = .ok (.istore_n 3, 1) := by decide +kernel
theorem dX13_clusters_30 : decode cX13_clusters 30 = .ok (.aload_n 0, 1) := by decide +kernel
theorem dX13_clusters_31 : decode cX13_clusters 31 = .ok (.getfield 127, 3) := by decide +kernel
theorem dX13_clusters_34 : decode cX13_clusters 34 = .ok (.iload_n 3, 1) := by decide +kernel
theorem dX13_clusters_35 : decode cX13_clusters 35 = .ok (.iconst 1, 1) := by decide +kernel
theorem dX13_clusters_36 : decode cX13_clusters 36 = .ok (.iadd, 1) := by decide +kernel
theorem dX13_clusters_37 : decode cX13_clusters 37 = .ok (.iaload, 1) := by decide +kernel
theorem dX13_clusters_38 : decode cX13_clusters 38 = .ok (.aload_n 0, 1) := by decide +kernel
theorem dX13_clusters_39 : decode cX13_clusters 39 = .ok (.getfield 127, 3) := by decide +kernel
theorem dX13_clusters_42 : decode cX13_clusters 42 = .ok (.iload_n 3, 1) := by decide +kernel
theorem dX13_clusters_43 : decode cX13_clusters 43 = .ok (.iaload, 1) := by decide +kernel
theorem dX13_clusters_44 : decode cX13_clusters 44 = .ok (.isub, 1) := by decide +kernel
theorem dX13_clusters_45 : decode cX13_clusters 45 = .ok (.ireturn, 1) := by decide +kernel
theorem dX13_cell_0 : decode cX13_cell 0 = .ok (.aload_n 0, 1) := by decide +kernel
theorem dX13_cell_1 : decode cX13_cell 1 = .ok (.iload_n 1, 1) := by decide +kernel
theorem dX13_cell_2 : decode cX13_cell 2 = .ok (.iload_n 2, 1) := by decide +kernel
theorem dX13_cell_3 : decode cX13_cell 3 = .ok (.invokevirtual 348, 3) := by decide +kernel
theorem dX13_cell_6 : decode cX13_cell 6 = .ok (.istore 5, 2) := by decide +kernel
theorem dX13_cell_8 : decode cX13_cell 8 = .ok (.iload 5, 2) := by decide +kernel
theorem dX13_cell_10 : decode cX13_cell 10 = .ok (.ifCond .eq 12, 3) := by decide +kernel
theorem dX13_cell_13 : decode cX13_cell 13 = .ok (.aload_n 0, 1) := by decide +kernel
theorem dX13_cell_14 : decode cX13_cell 14 = .ok (.iload_n 1, 1) := by decide +kernel
theorem dX13_cell_15 : decode cX13_cell 15 = .ok (.iload_n 2, 1) := by decide +kernel
theorem dX13_cell_16 : decode cX13_cell 16 = .ok (.invokevirtual 351, 3) := by decide +kernel
theorem dX13_cell_19 : decode cX13_cell 19 = .ok (.goto 4, 3) := by decide +kernel
theorem dX13_cell_22 : decode cX13_cell 22 = .ok (.iconst 0, 1) := by decide +kernel
theorem dX13_cell_23 : decode cX13_cell 23 = .ok (.istore 6, 2) := by decide +kernel
theorem dX13_cell_25 : decode cX13_cell 25 = .ok (.iload 5, 2) := by decide +kernel
theorem dX13_cell_27 : decode cX13_cell 27 = .ok (.ifCond .eq 34, 3) := by decide +kernel
theorem dX13_cell_30 : decode cX13_cell 30 = .ok (.iload_n 3, 1) := by decide +kernel
theorem dX13_cell_31 : decode cX13_cell 31 = .ok (.iconst 0, 1) := by decide +kernel
theorem dX13_cell_32 : decode cX13_cell 32 = .ok (.aload_n 0, 1) := by decide +kernel
theorem dX13_cell_33 : decode cX13_cell 33 = .ok (.getfield 127, 3) := by decide +kernel
theorem dX13_cell_36 : decode cX13_cell 36 = .ok (.iload 6, 2) := by decide +kernel
theorem dX13_cell_38 : decode cX13_cell 38 = .ok (.iconst 1, 1) := by decide +kernel
theorem dX13_cell_39 : decode cX13_cell 39 = .ok (.iadd, 1) := by decide +kernel
theorem dX13_cell_40 : decode cX13_cell 40 = .ok (.iaload, 1) := by decide +kernel
theorem dX13_cell_41 : decode cX13_cell 41 = .ok (.aload_n 0, 1) := by decide +kernel
theorem dX13_cell_42 : decode cX13_cell 42 = .ok (.getfield 127, 3) := by decide +kernel
theorem dX13_cell_45 : decode cX13_cell 45 = .ok (.iload 6, 2) := by decide +kernel
theorem dX13_cell_47 : decode cX13_cell 47 = .ok (.iaload, 1) := by decide +kernel
theorem dX13_cell_48 : decode cX13_cell 48 = .ok (.isub, 1) := by decide +kernel
theorem dX13_cell_49 : decode cX13_cell 49 = .ok (.iconst 1, 1) := by decide +kernel
theorem dX13_cell_50 : decode cX13_cell 50 = .ok (.isub, 1) := by decide +kernel
theorem dX13_cell_51 : decode cX13_cell 51 = .ok (.invokestatic 187, 3) := by decide +kernel
theorem dX13_cell_54 : decode cX13_cell 54 = .ok (.ifCond .eq 7, 3) := by decide +kernel
theorem dX13_cell_57 : decode cX13_cell 57 = .ok (.iconst 1, 1) := by decide +kernel
theorem dX13_cell_58 : decode cX13_cell 58 = .ok (.goto 4, 3) := by decide +kernel
theorem dX13_cell_61 : decode cX13_cell 61 = .ok (.iconst 0, 1) := by decide +kernel
theorem dX13_cell_62 : decode cX13_cell 62 = .ok (.istore 5, 2) := by decide +kernel
theorem dX13_cell_64 : decode cX13_cell 64 = .ok (.aload_n 0, 1) := by decide +kernel
theorem dX13_cell_65 : decode cX13_cell 65 = .ok (.iload 5, 2) := by decide +kernel
theorem dX13_cell_67 : decode cX13_cell 67 = .ok (.ifCond .ne 7, 3) := by decide +kernel
theorem dX13_cell_70 : decode cX13_cell 70 = .ok (.iconst 1, 1) := by decide +kernel
theorem dX13_cell_71 : decode cX13_cell 71 = .ok (.goto 18, 3) := by decide +kernel
theorem dX13_cell_74 : decode cX13_cell 74 = .ok (.iload 4, 2) := by decide +kernel
theorem dX13_cell_76 : decode cX13_cell 76 = .ok (.iconst 0, 1) := by decide +kernel
theorem dX13_cell_77 : decode cX13_cell 77 = .ok (.iconst 5, 1) := by decide +kernel
theorem dX13_cell_78 : decode cX13_cell 78 = .ok (.invokestatic 187, 3) := by decide +kernel
theorem dX13_cell_81 : decode cX13_cell 81 = .ok (.ifCond .ne 7, 3) := by decide +kernel
theorem dX13_cell_84 : decode cX13_cell 84 = .ok (.iconst 2, 1) := by decide +kernel
theorem dX13_cell_85 : decode cX13_cell 85 = .ok (.goto 4, 3) := by decide +kernel
theorem dX13_cell_88 : decode cX13_cell 88 = .ok (.iconst 0, 1) := by decide +kernel
theorem dX13_cell_89 : decode cX13_cell 89 = .ok (.invokevirtual 195, 3) := by decide +kernel
theorem dX13_cell_92 : decode cX13_cell 92 = .ok (.ifCond .ne 5, 3) := by decide +kernel
theorem dX13_cell_95 : decode cX13_cell 95 = .ok (.iconst 0, 1) := by decide +kernel
theorem dX13_cell_96 : decode cX13_cell 96 = .ok (.ireturn, 1) := by decide +kernel
theorem dX13_cell_97 : decode cX13_cell 97 = .ok (.aload_n 0, 1) := by decide +kernel
theorem dX13_cell_98 : decode cX13_cell 98 = .ok (.getfield 124, 3) := by decide +kernel
theorem dX13_cell_101 : decode cX13_cell 101 = .ok (.aload_n 0, 1) := by decide +kernel
theorem dX13_cell_102 : decode cX13_cell 102 = .ok (.getfield 127, 3) := by decide +kernel
theorem dX13_cell_105 : decode cX13_cell 105 = .ok (.iload 6, 2) := by decide +kernel
theorem dX13_cell_107 : decode cX13_cell 107 = .ok (.iaload, 1) := by decide +kernel
theorem dX13_cell_108 : decode cX13_cell 108 = .ok (.iload_n 3, 1) := by decide +kernel
theorem dX13_cell_109 : decode cX13_cell 109 = .ok (.iadd, 1) := by decide +kernel
theorem dX13_cell_110 : decode cX13_cell 110 = .ok (.iaload, 1) := by decide +kernel
theorem dX13_cell_111 : decode cX13_cell 111 = .ok (.istore 7, 2) := by decide +kernel
theorem dX13_cell_113 : decode cX13_cell 113 = .ok (.iload 4, 2) := by decide +kernel
theorem dX13_cell_115 : decode cX13_cell 115 = .ok (.ifCond .ne 13, 3) := by decide +kernel
theorem dX13_cell_118 : decode cX13_cell 118 = .ok (.aload_n 0, 1) := by decide +kernel
theorem dX13_cell_119 : decode cX13_cell 119 = .ok (.getfield 100, 3) := by decide +kernel
theorem dX13_cell_122 : decode cX13_cell 122 = .ok (.iload 7, 2) := by decide +kernel
theorem dX13_cell_124 : decode cX13_cell 124 = .ok (.iaload, 1) := by decide +kernel
theorem dX13_cell_125 : decode cX13_cell 125 = .ok (.goto 74, 3) := by decide +kernel
theorem dX13_cell_128 : decode cX13_cell 128 = .ok (.iload 4, 2) := by decide +kernel
theorem dX13_cell_130 : decode cX13_cell 130 = .ok (.iconst 1, 1) := by decide +kernel
theorem dX13_cell_131 : decode cX13_cell 131 = .ok (.if_icmp .ne 13, 3) := by decide +kernel
theorem dX13_cell_134 : decode cX13_cell 134 = .ok (.aload_n 0, 1) := by decide +kernel
theorem dX13_cell_135 : decode cX13_cell 135 = .ok (.getfield 103, 3) := by decide +kernel
theorem dX13_cell_138 : decode cX13_cell 138 = .ok (.iload 7, 2) := by decide +kernel
theorem dX13_cell_140 : decode cX13_cell 140 = .ok (.iaload, 1) := by decide +kernel
theorem dX13_cell_141 : decode cX13_cell 141 = .ok (.goto 58, 3) := by decide +kernel
theorem dX13_cell_144 : decode cX13_cell 144 = .ok (.iload 4, 2) := by decide +kernel
theorem dX13_cell_146 : decode cX13_cell 146 = .ok (.iconst 2, 1) := by decide +kernel
theorem dX13_cell_147 : decode cX13_cell 147 = .ok (.if_icmp .ne 13, 3) := by decide +kernel
theorem dX13_cell_150 : decode cX13_cell 150 = .ok (.aload_n 0, 1) := by decide +kernel
theorem dX13_cell_151 : decode cX13_cell 151 = .ok (.getfield 118, 3) := by decide +kernel
theorem dX13_cell_154 : decode cX13_cell 154 = .ok (.iload 7, 2) := by decide +kernel
theorem dX13_cell_156 : decode cX13_cell 156 = .ok (.iaload, 1) := by decide +kernel
theorem dX13_cell_157 : decode cX13_cell 157 = .ok (.goto 42, 3) := by decide +kernel
theorem dX13_cell_160 : decode cX13_cell 160 = .ok (.iload 4, 2) := by decide +kernel
theorem dX13_cell_162 : decode cX13_cell 162 = .ok (.iconst 3, 1) := by decide +kernel
theorem dX13_cell_163 : decode cX13_cell 163 = .ok (.if_icmp .ne 13, 3) := by decide +kernel
theorem dX13_cell_166 : decode cX13_cell 166 = .ok (.aload_n 0, 1) := by decide +kernel
theorem dX13_cell_167 : decode cX13_cell 167 = .ok (.getfield 112, 3) := by decide +kernel
theorem dX13_cell_170 : decode cX13_cell 170 = .ok (.iload 7, 2) := by decide +kernel
theorem dX13_cell_172 : decode cX13_cell 172 = .ok (.iaload, 1) := by decide +kernel
theorem dX13_cell_173 : decode cX13_cell 173 = .ok (.goto 26, 3) := by decide +kernel
theorem dX13_cell_176 : decode cX13_cell 176 = .ok (.iload 4, 2) := by decide +kernel
theorem dX13_cell_178 : decode cX13_cell 178 = .ok (.iconst 4, 1) := by decide +kernel
theorem dX13_cell_179 : decode cX13_cell 179 = .ok (.if_icmp .ne 13, 3) := by decide +kernel
theorem dX13_cell_182 : decode cX13_cell 182 = .ok (.aload_n 0, 1) := by decide +kernel
theorem dX13_cell_183 : decode cX13_cell 183 = .ok (.getfield 115, 3) := by decide +kernel
theorem dX13_cell_186 : decode cX13_cell 186 = .ok (.iload 7, 2) := by decide +kernel
theorem dX13_cell_188 : decode cX13_cell 188 = .ok (.iaload, 1) := by decide +kernel
theorem dX13_cell_189 : decode cX13_cell 189 = .ok (.goto 10, 3) := by decide +kernel
theorem dX13_cell_192 : decode cX13_cell 192 = .ok (.aload_n 0, 1) := by decide +kernel
theorem dX13_cell_193 : decode cX13_cell 193 = .ok (.getfield 106, 3) := by decide +kernel
theorem dX13_cell_196 : decode cX13_cell 196 = .ok (.iload 7, 2) := by decide +kernel
theorem dX13_cell_198 : decode cX13_cell 198 = .ok (.iaload, 1) := by decide +kernel
theorem dX13_cell_199 : decode cX13_cell 199 = .ok (.ireturn, 1) := by decide +kernel
theorem dX13_taken_0 : decode cX13_taken 0 = .ok (.iconst (-1), 1) := by decide +kernel
theorem dX13_taken_1 : decode cX13_taken 1 = .ok (.istore_n 3, 1) := by decide +kernel
theorem dX13_taken_2 : decode cX13_taken 2 = .ok (.iconst (-1), 1) := by decide +kernel
theorem dX13_taken_3 : decode cX13_taken 3 = .ok (.istore 4, 2) := by decide +kernel
theorem dX13_taken_5 : decode cX13_taken 5 = .ok (.iconst (-1), 1) := by decide +kernel
theorem dX13_taken_6 : decode cX13_taken 6 = .ok (.istore 5, 2) := by decide +kernel
theorem dX13_taken_8 : decode cX13_taken 8 = .ok (.iconst (-1), 1) := by decide +kernel
theorem dX13_taken_9 : decode cX13_taken 9 = .ok (.istore 6, 2) := by decide +kernel
theorem dX13_taken_11 : decode cX13_taken 11 = .ok (.iconst 0, 1) := by decide +kernel
theorem dX13_taken_12 : decode cX13_taken 12 = .ok (.istore 7, 2) := by decide +kernel
theorem dX13_taken_14 : decode cX13_taken 14 = .ok (.iload 7, 2) := by decide +kernel
theorem dX13_taken_16 : decode cX13_taken 16 = .ok (.aload_n 0, 1) := by decide +kernel
theorem dX13_taken_17 : decode cX13_taken 17 = .ok (.getfield 245, 3) := by decide +kernel
theorem dX13_taken_20 : decode cX13_taken 20 = .ok (.if_icmp .ge 90, 3) := by decide +kernel
theorem dX13_taken_23 : decode cX13_taken 23 = .ok (.aload_n 0, 1) := by decide +kernel
theorem dX13_taken_24 : decode cX13_taken 24 = .ok (.getfield 106, 3) := by decide +kernel
theorem dX13_taken_27 : decode cX13_taken 27 = .ok (.iload 7, 2) := by decide +kernel
theorem dX13_taken_29 : decode cX13_taken 29 = .ok (.iaload, 1) := by decide +kernel
theorem dX13_taken_30 : decode cX13_taken 30 = .ok (.iconst (-1), 1) := by decide +kernel
theorem dX13_taken_31 : decode cX13_taken 31 = .ok (.if_icmp .eq 73, 3) := by decide +kernel
theorem dX13_taken_34 : decode cX13_taken 34 = .ok (.iload_n 3, 1) := by decide +kernel
theorem dX13_taken_35 : decode cX13_taken 35 = .ok (.iconst (-1), 1) := by decide +kernel
theorem dX13_taken_36 : decode cX13_taken 36 = .ok (.if_icmp .ne 19, 3) := by decide +kernel
theorem dX13_taken_39 : decode cX13_taken 39 = .ok (.aload_n 0, 1) := by decide +kernel
theorem dX13_taken_40 : decode cX13_taken 40 = .ok (.getfield 106, 3) := by decide +kernel
theorem dX13_taken_43 : decode cX13_taken 43 = .ok (.iload 7, 2) := by decide +kernel
theorem dX13_taken_45 : decode cX13_taken 45 = .ok (.iaload, 1) := by decide +kernel
theorem dX13_taken_46 : decode cX13_taken 46 = .ok (.iload_n 1, 1) := by decide +kernel
theorem dX13_taken_47 : decode cX13_taken 47 = .ok (.if_icmp .lt 8, 3) := by decide +kernel
theorem dX13_taken_50 : decode cX13_taken 50 = .ok (.iload 7, 2) := by decide +kernel
theorem dX13_taken_52 : decode cX13_taken 52 = .ok (.goto 4, 3) := by decide +kernel
theorem dX13_taken_55 : decode cX13_taken 55 = .ok (.iload_n 3, 1) := by decide +kernel
theorem dX13_taken_56 : decode cX13_taken 56 = .ok (.istore_n 3, 1) := by decide +kernel
theorem dX13_taken_57 : decode cX13_taken 57 = .ok (.aload_n 0, 1) := by decide +kernel
theorem dX13_taken_58 : decode cX13_taken 58 = .ok (.getfield 106, 3) := by decide +kernel
theorem dX13_taken_61 : decode cX13_taken 61 = .ok (.iload 7, 2) := by decide +kernel
theorem dX13_taken_63 : decode cX13_taken 63 = .ok (.iaload, 1) := by decide +kernel
theorem dX13_taken_64 : decode cX13_taken 64 = .ok (.aload_n 0, 1) := by decide +kernel
theorem dX13_taken_65 : decode cX13_taken 65 = .ok (.getfield 103, 3) := by decide +kernel
theorem dX13_taken_68 : decode cX13_taken 68 = .ok (.iload 7, 2) := by decide +kernel
theorem dX13_taken_70 : decode cX13_taken 70 = .ok (.iaload, 1) := by decide +kernel
theorem dX13_taken_71 : decode cX13_taken 71 = .ok (.iadd, 1) := by decide +kernel
theorem dX13_taken_72 : decode cX13_taken 72 = .ok (.iload_n 1, 1) := by decide +kernel
theorem dX13_taken_73 : decode cX13_taken 73 = .ok (.if_icmp .gt 8, 3) := by decide +kernel
theorem dX13_taken_76 : decode cX13_taken 76 = .ok (.iload 7, 2) := by decide +kernel
theorem dX13_taken_78 : decode cX13_taken 78 = .ok (.goto 5, 3) := by decide +kernel
theorem dX13_taken_81 : decode cX13_taken 81 = .ok (.iload 4, 2) := by decide +kernel
theorem dX13_taken_83 : decode cX13_taken 83 = .ok (.istore 4, 2) := by decide +kernel
theorem dX13_taken_85 : decode cX13_taken 85 = .ok (.iload 5, 2) := by decide +kernel
theorem dX13_taken_87 : decode cX13_taken 87 = .ok (.iconst (-1), 1) := by decide +kernel
theorem dX13_taken_88 : decode cX13_taken 88 = .ok (.if_icmp .ne 8, 3) := by decide +kernel
theorem dX13_taken_91 : decode cX13_taken 91 = .ok (.iload 7, 2) := by decide +kernel
theorem dX13_taken_93 : decode cX13_taken 93 = .ok (.goto 5, 3) := by decide +kernel
theorem dX13_taken_96 : decode cX13_taken 96 = .ok (.iload 5, 2) := by decide +kernel
theorem dX13_taken_98 : decode cX13_taken 98 = .ok (.istore 5, 2) := by decide +kernel
theorem dX13_taken_100 : decode cX13_taken 100 = .ok (.iload 7, 2) := by decide +kernel
theorem dX13_taken_102 : decode cX13_taken 102 = .ok (.istore 6, 2) := by decide +kernel
theorem dX13_taken_104 : decode cX13_taken 104 = .ok (.iinc 7 1, 3) := by decide +kernel
theorem dX13_taken_107 : decode cX13_taken 107 = .ok (.goto (-93), 3) := by decide +kernel
theorem dX13_taken_110 : decode cX13_taken 110 = .ok (.aload_n 0, 1) := by decide +kernel
theorem dX13_taken_111 : decode cX13_taken 111 = .ok (.iload_n 2, 1) := by decide +kernel
theorem dX13_taken_112 : decode cX13_taken 112 = .ok (.iconst 1, 1) := by decide +kernel
theorem dX13_taken_113 : decode cX13_taken 113 = .ok (.if_icmp .ne 17, 3) := by decide +kernel
theorem dX13_taken_116 : decode cX13_taken 116 = .ok (.iload 4, 2) := by decide +kernel
theorem dX13_taken_118 : decode cX13_taken 118 = .ok (.iconst (-1), 1) := by decide +kernel
theorem dX13_taken_119 : decode cX13_taken 119 = .ok (.if_icmp .eq 7, 3) := by decide +kernel
theorem dX13_taken_122 : decode cX13_taken 122 = .ok (.iconst 1, 1) := by decide +kernel
theorem dX13_taken_123 : decode cX13_taken 123 = .ok (.goto 17, 3) := by decide +kernel
theorem dX13_taken_126 : decode cX13_taken 126 = .ok (.iconst 0, 1) := by decide +kernel
theorem dX13_taken_127 : decode cX13_taken 127 = .ok (.goto 13, 3) := by decide +kernel
theorem dX13_taken_130 : decode cX13_taken 130 = .ok (.iload_n 3, 1) := by decide +kernel
theorem dX13_taken_131 : decode cX13_taken 131 = .ok (.iconst (-1), 1) := by decide +kernel
theorem dX13_taken_132 : decode cX13_taken 132 = .ok (.if_icmp .ne 7, 3) := by decide +kernel
theorem dX13_taken_135 : decode cX13_taken 135 = .ok (.iconst 1, 1) := by decide +kernel
theorem dX13_taken_136 : decode cX13_taken 136 = .ok (.goto 4, 3) := by decide +kernel
theorem dX13_taken_139 : decode cX13_taken 139 = .ok (.iconst 0, 1) := by decide +kernel
theorem dX13_taken_140 : decode cX13_taken 140 = .ok (.putfield 354, 3) := by decide +kernel
theorem dX13_taken_143 : decode cX13_taken 143 = .ok (.iload_n 2, 1) := by decide +kernel
theorem dX13_taken_144 : decode cX13_taken 144 = .ok (.iconst 1, 1) := by decide +kernel
theorem dX13_taken_145 : decode cX13_taken 145 = .ok (.if_icmp .ne 19, 3) := by decide +kernel
theorem dX13_taken_148 : decode cX13_taken 148 = .ok (.iload 4, 2) := by decide +kernel
theorem dX13_taken_150 : decode cX13_taken 150 = .ok (.iconst (-1), 1) := by decide +kernel
theorem dX13_taken_151 : decode cX13_taken 151 = .ok (.if_icmp .eq 8, 3) := by decide +kernel
theorem dX13_taken_154 : decode cX13_taken 154 = .ok (.iload 4, 2) := by decide +kernel
theorem dX13_taken_156 : decode cX13_taken 156 = .ok (.goto 19, 3) := by decide +kernel
theorem dX13_taken_159 : decode cX13_taken 159 = .ok (.iload 5, 2) := by decide +kernel
theorem dX13_taken_161 : decode cX13_taken 161 = .ok (.goto 14, 3) := by decide +kernel
theorem dX13_taken_164 : decode cX13_taken 164 = .ok (.iload_n 3, 1) := by decide +kernel
theorem dX13_taken_165 : decode cX13_taken 165 = .ok (.iconst (-1), 1) := by decide +kernel
theorem dX13_taken_166 : decode cX13_taken 166 = .ok (.if_icmp .eq 7, 3) := by decide +kernel
theorem dX13_taken_169 : decode cX13_taken 169 = .ok (.iload_n 3, 1) := by decide +kernel
theorem dX13_taken_170 : decode cX13_taken 170 = .ok (.goto 5, 3) := by decide +kernel
theorem dX13_taken_173 : decode cX13_taken 173 = .ok (.iload 6, 2) := by decide +kernel
theorem dX13_taken_175 : decode cX13_taken 175 = .ok (.ireturn, 1) := by decide +kernel
theorem dX13_downRow_0 : decode cX13_downRow 0 = .ok (.aload_n 0, 1) := by decide +kernel
theorem dX13_downRow_1 : decode cX13_downRow 1 = .ok (.iload_n 1, 1) := by decide +kernel
theorem dX13_downRow_2 : decode cX13_downRow 2 = .ok (.iload_n 2, 1) := by decide +kernel
theorem dX13_downRow_3 : decode cX13_downRow 3 = .ok (.invokevirtual 339, 3) := by decide +kernel
theorem dX13_downRow_6 : decode cX13_downRow 6 = .ok (.istore 5, 2) := by decide +kernel
theorem dX13_downRow_8 : decode cX13_downRow 8 = .ok (.aload_n 0, 1) := by decide +kernel
theorem dX13_downRow_9 : decode cX13_downRow 9 = .ok (.iload_n 1, 1) := by decide +kernel
theorem dX13_downRow_10 : decode cX13_downRow 10 = .ok (.iload_n 2, 1) := by decide +kernel
theorem dX13_downRow_11 : decode cX13_downRow 11 = .ok (.invokevirtual 345, 3) := by decide +kernel
theorem dX13_downRow_14 : decode cX13_downRow 14 = .ok (.aload_n 0, 1) := by decide +kernel
theorem dX13_downRow_15 : decode cX13_downRow 15 = .ok (.iload_n 3, 1) := by decide +kernel
theorem dX13_downRow_16 : decode cX13_downRow 16 = .ok (.iload 4, 2) := by decide +kernel
theorem dX13_downRow_18 : decode cX13_downRow 18 = .ok (.invokevirtual 358, 3) := by decide +kernel
theorem dX13_downRow_21 : decode cX13_downRow 21 = .ok (.istore 6, 2) := by decide +kernel
theorem dX13_downRow_23 : decode cX13_downRow 23 = .ok (.iload 6, 2) := by decide +kernel
theorem dX13_downRow_25 : decode cX13_downRow 25 = .ok (.iconst (-1), 1) := by decide +kernel
theorem dX13_downRow_26 : decode cX13_downRow 26 = .ok (.if_icmp .ne 8, 3) := by decide +kernel
theorem dX13_downRow_29 : decode cX13_downRow 29 = .ok (.iload 5, 2) := by decide +kernel
theorem dX13_downRow_31 : decode cX13_downRow 31 = .ok (.goto 13, 3) := by decide +kernel
theorem dX13_downRow_34 : decode cX13_downRow 34 = .ok (.iload 5, 2) := by decide +kernel
theorem dX13_downRow_36 : decode cX13_downRow 36 = .ok (.aload_n 0, 1) := by decide +kernel
theorem dX13_downRow_37 : decode cX13_downRow 37 = .ok (.getfield 121, 3) := by decide +kernel
theorem dX13_downRow_40 : decode cX13_downRow 40 = .ok (.iload 6, 2) := by decide +kernel
theorem dX13_downRow_42 : decode cX13_downRow 42 = .ok (.iaload, 1) := by decide +kernel
theorem dX13_downRow_43 : decode cX13_downRow 43 = .ok (.iadd, 1) := by decide +kernel
theorem dX13_downRow_44 : decode cX13_downRow 44 = .ok (.ireturn, 1) := by decide +kernel
theorem dX13_downColumn_0 : decode cX13_downColumn 0 = .ok (.aload_n 0, 1) := by decide +kernel
theorem dX13_downColumn_1 : decode cX13_downColumn 1 = .ok (.iload_n 1, 1) := by decide +kernel
theorem dX13_downColumn_2 : decode cX13_downColumn 2 = .ok (.iload_n 2, 1) := by decide +kernel
theorem dX13_downColumn_3 : decode cX13_downColumn 3 = .ok (.invokevirtual 345, 3) := by decide +kernel
theorem dX13_downColumn_6 : decode cX13_downColumn 6 = .ok (.aload_n 0, 1) := by decide +kernel
theorem dX13_downColumn_7 : decode cX13_downColumn 7 = .ok (.iload_n 3, 1) := by decide +kernel
theorem dX13_downColumn_8 : decode cX13_downColumn 8 = .ok (.iload 4, 2) := by decide +kernel
theorem dX13_downColumn_10 : decode cX13_downColumn 10 = .ok (.invokevirtual 358, 3) := by decide +kernel
theorem dX13_downColumn_13 : decode cX13_downColumn 13 = .ok (.istore 5, 2) := by decide +kernel
theorem dX13_downColumn_15 : decode cX13_downColumn 15 = .ok (.iload 5, 2) := by decide +kernel
theorem dX13_downColumn_17 : decode cX13_downColumn 17 = .ok (.iconst (-1), 1) := by decide +kernel
theorem dX13_downColumn_18 : decode cX13_downColumn 18 = .ok (.if_icmp .ne 5, 3) := by decide +kernel
theorem dX13_downColumn_21 : decode cX13_downColumn 21 = .ok (.iconst 0, 1) := by decide +kernel
theorem dX13_downColumn_22 : decode cX13_downColumn 22 = .ok (.ireturn, 1) := by decide +kernel
theorem dX13_downColumn_23 : decode cX13_downColumn 23 = .ok (.aload_n 0, 1) := by decide +kernel
theorem dX13_downColumn_24 : decode cX13_downColumn 24 = .ok (.getfield 118, 3) := by decide +kernel
theorem dX13_downColumn_27 : decode cX13_downColumn 27 = .ok (.iload 5, 2) := by decide +kernel
theorem dX13_downColumn_29 : decode cX13_downColumn 29 = .ok (.iaload, 1) := by decide +kernel
theorem dX13_downColumn_30 : decode cX13_downColumn 30 = .ok (.aload_n 0, 1) := by decide +kernel
theorem dX13_downColumn_31 : decode cX13_downColumn 31 = .ok (.getfield 354, 3) := by decide +kernel
theorem dX13_downColumn_34 : decode cX13_downColumn 34 = .ok (.aload_n 0, 1) := by decide +kernel
theorem dX13_downColumn_35 : decode cX13_downColumn 35 = .ok (.getfield 115, 3) := by decide +kernel
theorem dX13_downColumn_38 : decode cX13_downColumn 38 = .ok (.iload 5, 2) := by decide +kernel
theorem dX13_downColumn_40 : decode cX13_downColumn 40 = .ok (.iaload, 1) := by decide +kernel
theorem dX13_downColumn_41 : decode cX13_downColumn 41 = .ok (.iconst 2, 1) := by decide +kernel
theorem dX13_downColumn_42 : decode cX13_downColumn 42 = .ok (.irem, 1) := by decide +kernel
theorem dX13_downColumn_43 : decode cX13_downColumn 43 = .ok (.ifCond .ne 7, 3) := by decide +kernel
theorem dX13_downColumn_46 : decode cX13_downColumn 46 = .ok (.iconst 1, 1) := by decide +kernel
theorem dX13_downColumn_47 : decode cX13_downColumn 47 = .ok (.goto 4, 3) := by decide +kernel
theorem dX13_downColumn_50 : decode cX13_downColumn 50 = .ok (.iconst 0, 1) := by decide +kernel
theorem dX13_downColumn_51 : decode cX13_downColumn 51 = .ok (.if_icmp .ne 13, 3) := by decide +kernel
theorem dX13_downColumn_54 : decode cX13_downColumn 54 = .ok (.aload_n 0, 1) := by decide +kernel
theorem dX13_downColumn_55 : decode cX13_downColumn 55 = .ok (.getfield 112, 3) := by decide +kernel
theorem dX13_downColumn_58 : decode cX13_downColumn 58 = .ok (.iload 5, 2) := by decide +kernel
theorem dX13_downColumn_60 : decode cX13_downColumn 60 = .ok (.iaload, 1) := by decide +kernel
theorem dX13_downColumn_61 : decode cX13_downColumn 61 = .ok (.goto 4, 3) := by decide +kernel
theorem dX13_downColumn_64 : decode cX13_downColumn 64 = .ok (.iconst 0, 1) := by decide +kernel
theorem dX13_downColumn_65 : decode cX13_downColumn 65 = .ok (.iadd, 1) := by decide +kernel
theorem dX13_downColumn_66 : decode cX13_downColumn 66 = .ok (.ireturn, 1) := by decide +kernel
theorem dX13_isPlace_0 : decode cX13_isPlace 0 = .ok (.iload_n 2, 1) := by decide +kernel
theorem dX13_isPlace_1 : decode cX13_isPlace 1 = .ok (.iconst 0, 1) := by decide +kernel
theorem dX13_isPlace_2 : decode cX13_isPlace 2 = .ok (.aload_n 0, 1) := by decide +kernel
theorem dX13_isPlace_3 : decode cX13_isPlace 3 = .ok (.getfield 13, 3) := by decide +kernel
theorem dX13_isPlace_6 : decode cX13_isPlace 6 = .ok (.iload_n 1, 1) := by decide +kernel
theorem dX13_isPlace_7 : decode cX13_isPlace 7 = .ok (.iaload, 1) := by decide +kernel
theorem dX13_isPlace_8 : decode cX13_isPlace 8 = .ok (.invokestatic 187, 3) := by decide +kernel
theorem dX13_isPlace_11 : decode cX13_isPlace 11 = .ok (.ifCond .eq 16, 3) := by decide +kernel
theorem dX13_isPlace_14 : decode cX13_isPlace 14 = .ok (.iload_n 3, 1) := by decide +kernel
theorem dX13_isPlace_15 : decode cX13_isPlace 15 = .ok (.iconst 0, 1) := by decide +kernel
theorem dX13_isPlace_16 : decode cX13_isPlace 16 = .ok (.iconst 1, 1) := by decide +kernel
theorem dX13_isPlace_17 : decode cX13_isPlace 17 = .ok (.invokestatic 187, 3) := by decide +kernel
theorem dX13_isPlace_20 : decode cX13_isPlace 20 = .ok (.ifCond .eq 7, 3) := by decide +kernel
theorem dX13_isPlace_23 : decode cX13_isPlace 23 = .ok (.iconst 1, 1) := by decide +kernel
theorem dX13_isPlace_24 : decode cX13_isPlace 24 = .ok (.goto 4, 3) := by decide +kernel
theorem dX13_isPlace_27 : decode cX13_isPlace 27 = .ok (.iconst 0, 1) := by decide +kernel
theorem dX13_isPlace_28 : decode cX13_isPlace 28 = .ok (.ireturn, 1) := by decide +kernel
theorem dX13_rowAt_0 : decode cX13_rowAt 0 = .ok (.iload_n 1, 1) := by decide +kernel
theorem dX13_rowAt_1 : decode cX13_rowAt 1 = .ok (.invokestatic 236, 3) := by decide +kernel
theorem dX13_rowAt_4 : decode cX13_rowAt 4 = .ok (.ifCond .eq 15, 3) := by decide +kernel
theorem dX13_rowAt_7 : decode cX13_rowAt 7 = .ok (.aload_n 0, 1) := by decide +kernel
theorem dX13_rowAt_8 : decode cX13_rowAt 8 = .ok (.iload_n 2, 1) := by decide +kernel
theorem dX13_rowAt_9 : decode cX13_rowAt 9 = .ok (.invokevirtual 191, 3) := by decide +kernel
theorem dX13_rowAt_12 : decode cX13_rowAt 12 = .ok (.ifCond .eq 7, 3) := by decide +kernel
theorem dX13_rowAt_15 : decode cX13_rowAt 15 = .ok (.iconst 1, 1) := by decide +kernel
theorem dX13_rowAt_16 : decode cX13_rowAt 16 = .ok (.goto 4, 3) := by decide +kernel
theorem dX13_rowAt_19 : decode cX13_rowAt 19 = .ok (.iconst 0, 1) := by decide +kernel
theorem dX13_rowAt_20 : decode cX13_rowAt 20 = .ok (.istore 5, 2) := by decide +kernel
theorem dX13_rowAt_22 : decode cX13_rowAt 22 = .ok (.aload_n 0, 1) := by decide +kernel
theorem dX13_rowAt_23 : decode cX13_rowAt 23 = .ok (.iload 5, 2) := by decide +kernel
theorem dX13_rowAt_25 : decode cX13_rowAt 25 = .ok (.ifCond .ne 7, 3) := by decide +kernel
theorem dX13_rowAt_28 : decode cX13_rowAt 28 = .ok (.iconst 1, 1) := by decide +kernel
theorem dX13_rowAt_29 : decode cX13_rowAt 29 = .ok (.goto 19, 3) := by decide +kernel
theorem dX13_rowAt_32 : decode cX13_rowAt 32 = .ok (.aload_n 0, 1) := by decide +kernel
theorem dX13_rowAt_33 : decode cX13_rowAt 33 = .ok (.iload_n 2, 1) := by decide +kernel
theorem dX13_rowAt_34 : decode cX13_rowAt 34 = .ok (.iload_n 3, 1) := by decide +kernel
theorem dX13_rowAt_35 : decode cX13_rowAt 35 = .ok (.iload 4, 2) := by decide +kernel
theorem dX13_rowAt_37 : decode cX13_rowAt 37 = .ok (.invokevirtual 361, 3) := by decide +kernel
theorem dX13_rowAt_40 : decode cX13_rowAt 40 = .ok (.ifCond .ne 7, 3) := by decide +kernel
theorem dX13_rowAt_43 : decode cX13_rowAt 43 = .ok (.iconst 2, 1) := by decide +kernel
theorem dX13_rowAt_44 : decode cX13_rowAt 44 = .ok (.goto 4, 3) := by decide +kernel
theorem dX13_rowAt_47 : decode cX13_rowAt 47 = .ok (.iconst 0, 1) := by decide +kernel
theorem dX13_rowAt_48 : decode cX13_rowAt 48 = .ok (.invokevirtual 195, 3) := by decide +kernel
theorem dX13_rowAt_51 : decode cX13_rowAt 51 = .ok (.ifCond .ne 5, 3) := by decide +kernel
theorem dX13_rowAt_54 : decode cX13_rowAt 54 = .ok (.iconst 0, 1) := by decide +kernel
theorem dX13_rowAt_55 : decode cX13_rowAt 55 = .ok (.ireturn, 1) := by decide +kernel
theorem dX13_rowAt_56 : decode cX13_rowAt 56 = .ok (.aload_n 0, 1) := by decide +kernel
theorem dX13_rowAt_57 : decode cX13_rowAt 57 = .ok (.iload_n 1, 1) := by decide +kernel
theorem dX13_rowAt_58 : decode cX13_rowAt 58 = .ok (.iload_n 2, 1) := by decide +kernel
theorem dX13_rowAt_59 : decode cX13_rowAt 59 = .ok (.invokevirtual 333, 3) := by decide +kernel
theorem dX13_rowAt_62 : decode cX13_rowAt 62 = .ok (.ifCond .eq 7, 3) := by decide +kernel
theorem dX13_rowAt_65 : decode cX13_rowAt 65 = .ok (.iconst (-1), 1) := by decide +kernel
theorem dX13_rowAt_66 : decode cX13_rowAt 66 = .ok (.goto 12, 3) := by decide +kernel
theorem dX13_rowAt_69 : decode cX13_rowAt 69 = .ok (.aload_n 0, 1) := by decide +kernel
theorem dX13_rowAt_70 : decode cX13_rowAt 70 = .ok (.iload_n 1, 1) := by decide +kernel
theorem dX13_rowAt_71 : decode cX13_rowAt 71 = .ok (.iload_n 2, 1) := by decide +kernel
theorem dX13_rowAt_72 : decode cX13_rowAt 72 = .ok (.iload_n 3, 1) := by decide +kernel
theorem dX13_rowAt_73 : decode cX13_rowAt 73 = .ok (.iload 4, 2) := by decide +kernel
theorem dX13_rowAt_75 : decode cX13_rowAt 75 = .ok (.invokevirtual 364, 3) := by decide +kernel
theorem dX13_rowAt_78 : decode cX13_rowAt 78 = .ok (.ireturn, 1) := by decide +kernel
theorem dX13_columnAt_0 : decode cX13_columnAt 0 = .ok (.iload_n 1, 1) := by decide +kernel
theorem dX13_columnAt_1 : decode cX13_columnAt 1 = .ok (.invokestatic 236, 3) := by decide +kernel
theorem dX13_columnAt_4 : decode cX13_columnAt 4 = .ok (.ifCond .eq 15, 3) := by decide +kernel
theorem dX13_columnAt_7 : decode cX13_columnAt 7 = .ok (.aload_n 0, 1) := by decide +kernel
theorem dX13_columnAt_8 : decode cX13_columnAt 8 = .ok (.iload_n 2, 1) := by decide +kernel
theorem dX13_columnAt_9 : decode cX13_columnAt 9 = .ok (.invokevirtual 191, 3) := by decide +kernel
theorem dX13_columnAt_12 : decode cX13_columnAt 12 = .ok (.ifCond .eq 7, 3) := by decide +kernel
theorem dX13_columnAt_15 : decode cX13_columnAt 15 = .ok (.iconst 1, 1) := by decide +kernel
theorem dX13_columnAt_16 : decode cX13_columnAt 16 = .ok (.goto 4, 3) := by decide +kernel
theorem dX13_columnAt_19 : decode cX13_columnAt 19 = .ok (.iconst 0, 1) := by decide +kernel
theorem dX13_columnAt_20 : decode cX13_columnAt 20 = .ok (.istore 5, 2) := by decide +kernel
theorem dX13_columnAt_22 : decode cX13_columnAt 22 = .ok (.aload_n 0, 1) := by decide +kernel
theorem dX13_columnAt_23 : decode cX13_columnAt 23 = .ok (.iload 5, 2) := by decide +kernel
theorem dX13_columnAt_25 : decode cX13_columnAt 25 = .ok (.ifCond .ne 7, 3) := by decide +kernel
theorem dX13_columnAt_28 : decode cX13_columnAt 28 = .ok (.iconst 1, 1) := by decide +kernel
theorem dX13_columnAt_29 : decode cX13_columnAt 29 = .ok (.goto 19, 3) := by decide +kernel
theorem dX13_columnAt_32 : decode cX13_columnAt 32 = .ok (.aload_n 0, 1) := by decide +kernel
theorem dX13_columnAt_33 : decode cX13_columnAt 33 = .ok (.iload_n 2, 1) := by decide +kernel
theorem dX13_columnAt_34 : decode cX13_columnAt 34 = .ok (.iload_n 3, 1) := by decide +kernel
theorem dX13_columnAt_35 : decode cX13_columnAt 35 = .ok (.iload 4, 2) := by decide +kernel
theorem dX13_columnAt_37 : decode cX13_columnAt 37 = .ok (.invokevirtual 361, 3) := by decide +kernel
theorem dX13_columnAt_40 : decode cX13_columnAt 40 = .ok (.ifCond .ne 7, 3) := by decide +kernel
theorem dX13_columnAt_43 : decode cX13_columnAt 43 = .ok (.iconst 2, 1) := by decide +kernel
theorem dX13_columnAt_44 : decode cX13_columnAt 44 = .ok (.goto 4, 3) := by decide +kernel
theorem dX13_columnAt_47 : decode cX13_columnAt 47 = .ok (.iconst 0, 1) := by decide +kernel
theorem dX13_columnAt_48 : decode cX13_columnAt 48 = .ok (.invokevirtual 195, 3) := by decide +kernel
theorem dX13_columnAt_51 : decode cX13_columnAt 51 = .ok (.ifCond .ne 5, 3) := by decide +kernel
theorem dX13_columnAt_54 : decode cX13_columnAt 54 = .ok (.iconst 0, 1) := by decide +kernel
theorem dX13_columnAt_55 : decode cX13_columnAt 55 = .ok (.ireturn, 1) := by decide +kernel
theorem dX13_columnAt_56 : decode cX13_columnAt 56 = .ok (.aload_n 0, 1) := by decide +kernel
theorem dX13_columnAt_57 : decode cX13_columnAt 57 = .ok (.iload_n 1, 1) := by decide +kernel
theorem dX13_columnAt_58 : decode cX13_columnAt 58 = .ok (.iload_n 2, 1) := by decide +kernel
theorem dX13_columnAt_59 : decode cX13_columnAt 59 = .ok (.invokevirtual 333, 3) := by decide +kernel
theorem dX13_columnAt_62 : decode cX13_columnAt 62 = .ok (.ifCond .eq 7, 3) := by decide +kernel
theorem dX13_columnAt_65 : decode cX13_columnAt 65 = .ok (.iconst (-1), 1) := by decide +kernel
theorem dX13_columnAt_66 : decode cX13_columnAt 66 = .ok (.goto 12, 3) := by decide +kernel
theorem dX13_columnAt_69 : decode cX13_columnAt 69 = .ok (.aload_n 0, 1) := by decide +kernel
theorem dX13_columnAt_70 : decode cX13_columnAt 70 = .ok (.iload_n 1, 1) := by decide +kernel
theorem dX13_columnAt_71 : decode cX13_columnAt 71 = .ok (.iload_n 2, 1) := by decide +kernel
theorem dX13_columnAt_72 : decode cX13_columnAt 72 = .ok (.iload_n 3, 1) := by decide +kernel
theorem dX13_columnAt_73 : decode cX13_columnAt 73 = .ok (.iload 4, 2) := by decide +kernel
theorem dX13_columnAt_75 : decode cX13_columnAt 75 = .ok (.invokevirtual 367, 3) := by decide +kernel
theorem dX13_columnAt_78 : decode cX13_columnAt 78 = .ok (.ireturn, 1) := by decide +kernel
theorem dX13_lineAt_0 : decode cX13_lineAt 0 = .ok (.aload_n 0, 1) := by decide +kernel
theorem dX13_lineAt_1 : decode cX13_lineAt 1 = .ok (.aload_n 0, 1) := by decide +kernel
theorem dX13_lineAt_2 : decode cX13_lineAt 2 = .ok (.iload_n 1, 1) := by decide +kernel
theorem dX13_lineAt_3 : decode cX13_lineAt 3 = .ok (.iload_n 2, 1) := by decide +kernel
theorem dX13_lineAt_4 : decode cX13_lineAt 4 = .ok (.invokevirtual 348, 3) := by decide +kernel
theorem dX13_lineAt_7 : decode cX13_lineAt 7 = .ok (.ifCond .eq 7, 3) := by decide +kernel
theorem dX13_lineAt_10 : decode cX13_lineAt 10 = .ok (.iconst 0, 1) := by decide +kernel
theorem dX13_lineAt_11 : decode cX13_lineAt 11 = .ok (.goto 4, 3) := by decide +kernel
theorem dX13_lineAt_14 : decode cX13_lineAt 14 = .ok (.iconst 1, 1) := by decide +kernel
theorem dX13_lineAt_15 : decode cX13_lineAt 15 = .ok (.invokevirtual 195, 3) := by decide +kernel
theorem dX13_lineAt_18 : decode cX13_lineAt 18 = .ok (.ifCond .eq 12, 3) := by decide +kernel
theorem dX13_lineAt_21 : decode cX13_lineAt 21 = .ok (.aload_n 0, 1) := by decide +kernel
theorem dX13_lineAt_22 : decode cX13_lineAt 22 = .ok (.iload_n 1, 1) := by decide +kernel
theorem dX13_lineAt_23 : decode cX13_lineAt 23 = .ok (.iload_n 2, 1) := by decide +kernel
theorem dX13_lineAt_24 : decode cX13_lineAt 24 = .ok (.invokevirtual 342, 3) := by decide +kernel
theorem dX13_lineAt_27 : decode cX13_lineAt 27 = .ok (.goto 4, 3) := by decide +kernel
theorem dX13_lineAt_30 : decode cX13_lineAt 30 = .ok (.iconst 0, 1) := by decide +kernel
theorem dX13_lineAt_31 : decode cX13_lineAt 31 = .ok (.ireturn, 1) := by decide +kernel
theorem dX13_goesUp_0 : decode cX13_goesUp 0 = .ok (.aload_n 0, 1) := by decide +kernel
theorem dX13_goesUp_1 : decode cX13_goesUp 1 = .ok (.iload_n 1, 1) := by decide +kernel
theorem dX13_goesUp_2 : decode cX13_goesUp 2 = .ok (.iload_n 2, 1) := by decide +kernel
theorem dX13_goesUp_3 : decode cX13_goesUp 3 = .ok (.invokevirtual 342, 3) := by decide +kernel
theorem dX13_goesUp_6 : decode cX13_goesUp 6 = .ok (.istore 4, 2) := by decide +kernel
theorem dX13_goesUp_8 : decode cX13_goesUp 8 = .ok (.aload_n 0, 1) := by decide +kernel
theorem dX13_goesUp_9 : decode cX13_goesUp 9 = .ok (.iload_n 1, 1) := by decide +kernel
theorem dX13_goesUp_10 : decode cX13_goesUp 10 = .ok (.iload_n 2, 1) := by decide +kernel
theorem dX13_goesUp_11 : decode cX13_goesUp 11 = .ok (.invokevirtual 351, 3) := by decide +kernel
theorem dX13_goesUp_14 : decode cX13_goesUp 14 = .ok (.istore 5, 2) := by decide +kernel
theorem dX13_goesUp_16 : decode cX13_goesUp 16 = .ok (.aload_n 0, 1) := by decide +kernel
theorem dX13_goesUp_17 : decode cX13_goesUp 17 = .ok (.getfield 127, 3) := by decide +kernel
theorem dX13_goesUp_20 : decode cX13_goesUp 20 = .ok (.iload 5, 2) := by decide +kernel
theorem dX13_goesUp_22 : decode cX13_goesUp 22 = .ok (.iaload, 1) := by decide +kernel
theorem dX13_goesUp_23 : decode cX13_goesUp 23 = .ok (.istore 6, 2) := by decide +kernel
theorem dX13_goesUp_25 : decode cX13_goesUp 25 = .ok (.aload_n 0, 1) := by decide +kernel
theorem dX13_goesUp_26 : decode cX13_goesUp 26 = .ok (.getfield 127, 3) := by decide +kernel
theorem dX13_goesUp_29 : decode cX13_goesUp 29 = .ok (.iload 5, 2) := by decide +kernel
theorem dX13_goesUp_31 : decode cX13_goesUp 31 = .ok (.iconst 1, 1) := by decide +kernel
theorem dX13_goesUp_32 : decode cX13_goesUp 32 = .ok (.iadd, 1) := by decide +kernel
theorem dX13_goesUp_33 : decode cX13_goesUp 33 = .ok (.iaload, 1) := by decide +kernel
theorem dX13_goesUp_34 : decode cX13_goesUp 34 = .ok (.istore 7, 2) := by decide +kernel
theorem dX13_goesUp_36 : decode cX13_goesUp 36 = .ok (.iload 6, 2) := by decide +kernel
theorem dX13_goesUp_38 : decode cX13_goesUp 38 = .ok (.iload 7, 2) := by decide +kernel
theorem dX13_goesUp_40 : decode cX13_goesUp 40 = .ok (.if_icmp .ne 11, 3) := by decide +kernel
theorem dX13_goesUp_43 : decode cX13_goesUp 43 = .ok (.aload_n 0, 1) := by decide +kernel
theorem dX13_goesUp_44 : decode cX13_goesUp 44 = .ok (.getfield 13, 3) := by decide +kernel
theorem dX13_goesUp_47 : decode cX13_goesUp 47 = .ok (.iload 4, 2) := by decide +kernel
theorem dX13_goesUp_49 : decode cX13_goesUp 49 = .ok (.iaload, 1) := by decide +kernel
theorem dX13_goesUp_50 : decode cX13_goesUp 50 = .ok (.ireturn, 1) := by decide +kernel
theorem dX13_goesUp_51 : decode cX13_goesUp 51 = .ok (.iconst (-1), 1) := by decide +kernel
theorem dX13_goesUp_52 : decode cX13_goesUp 52 = .ok (.istore 8, 2) := by decide +kernel
theorem dX13_goesUp_54 : decode cX13_goesUp 54 = .ok (.aload_n 0, 1) := by decide +kernel
theorem dX13_goesUp_55 : decode cX13_goesUp 55 = .ok (.getfield 124, 3) := by decide +kernel
theorem dX13_goesUp_58 : decode cX13_goesUp 58 = .ok (.iload 7, 2) := by decide +kernel
theorem dX13_goesUp_60 : decode cX13_goesUp 60 = .ok (.iconst 1, 1) := by decide +kernel
theorem dX13_goesUp_61 : decode cX13_goesUp 61 = .ok (.isub, 1) := by decide +kernel
theorem dX13_goesUp_62 : decode cX13_goesUp 62 = .ok (.iaload, 1) := by decide +kernel
theorem dX13_goesUp_63 : decode cX13_goesUp 63 = .ok (.istore 9, 2) := by decide +kernel
theorem dX13_goesUp_65 : decode cX13_goesUp 65 = .ok (.iload 6, 2) := by decide +kernel
theorem dX13_goesUp_67 : decode cX13_goesUp 67 = .ok (.istore 10, 2) := by decide +kernel
theorem dX13_goesUp_69 : decode cX13_goesUp 69 = .ok (.iload 10, 2) := by decide +kernel
theorem dX13_goesUp_71 : decode cX13_goesUp 71 = .ok (.iload 7, 2) := by decide +kernel
theorem dX13_goesUp_73 : decode cX13_goesUp 73 = .ok (.if_icmp .ge 67, 3) := by decide +kernel
theorem dX13_goesUp_76 : decode cX13_goesUp 76 = .ok (.aload_n 0, 1) := by decide +kernel
theorem dX13_goesUp_77 : decode cX13_goesUp 77 = .ok (.getfield 124, 3) := by decide +kernel
theorem dX13_goesUp_80 : decode cX13_goesUp 80 = .ok (.iload 10, 2) := by decide +kernel
theorem dX13_goesUp_82 : decode cX13_goesUp 82 = .ok (.iaload, 1) := by decide +kernel
theorem dX13_goesUp_83 : decode cX13_goesUp 83 = .ok (.istore 11, 2) := by decide +kernel
theorem dX13_goesUp_85 : decode cX13_goesUp 85 = .ok (.aload_n 0, 1) := by decide +kernel
theorem dX13_goesUp_86 : decode cX13_goesUp 86 = .ok (.getfield 112, 3) := by decide +kernel
theorem dX13_goesUp_89 : decode cX13_goesUp 89 = .ok (.iload 11, 2) := by decide +kernel
theorem dX13_goesUp_91 : decode cX13_goesUp 91 = .ok (.iaload, 1) := by decide +kernel
theorem dX13_goesUp_92 : decode cX13_goesUp 92 = .ok (.ifCond .le 38, 3) := by decide +kernel
theorem dX13_goesUp_95 : decode cX13_goesUp 95 = .ok (.iload_n 3, 1) := by decide +kernel
theorem dX13_goesUp_96 : decode cX13_goesUp 96 = .ok (.aload_n 0, 1) := by decide +kernel
theorem dX13_goesUp_97 : decode cX13_goesUp 97 = .ok (.getfield 118, 3) := by decide +kernel
theorem dX13_goesUp_100 : decode cX13_goesUp 100 = .ok (.iload 11, 2) := by decide +kernel
theorem dX13_goesUp_102 : decode cX13_goesUp 102 = .ok (.iaload, 1) := by decide +kernel
theorem dX13_goesUp_103 : decode cX13_goesUp 103 = .ok (.if_icmp .lt 27, 3) := by decide +kernel
theorem dX13_goesUp_106 : decode cX13_goesUp 106 = .ok (.iload_n 3, 1) := by decide +kernel
theorem dX13_goesUp_107 : decode cX13_goesUp 107 = .ok (.aload_n 0, 1) := by decide +kernel
theorem dX13_goesUp_108 : decode cX13_goesUp 108 = .ok (.getfield 118, 3) := by decide +kernel
theorem dX13_goesUp_111 : decode cX13_goesUp 111 = .ok (.iload 11, 2) := by decide +kernel
theorem dX13_goesUp_113 : decode cX13_goesUp 113 = .ok (.iaload, 1) := by decide +kernel
theorem dX13_goesUp_114 : decode cX13_goesUp 114 = .ok (.aload_n 0, 1) := by decide +kernel
theorem dX13_goesUp_115 : decode cX13_goesUp 115 = .ok (.getfield 112, 3) := by decide +kernel
theorem dX13_goesUp_118 : decode cX13_goesUp 118 = .ok (.iload 11, 2) := by decide +kernel
theorem dX13_goesUp_120 : decode cX13_goesUp 120 = .ok (.iaload, 1) := by decide +kernel
theorem dX13_goesUp_121 : decode cX13_goesUp 121 = .ok (.iadd, 1) := by decide +kernel
theorem dX13_goesUp_122 : decode cX13_goesUp 122 = .ok (.if_icmp .ge 8, 3) := by decide +kernel
theorem dX13_goesUp_125 : decode cX13_goesUp 125 = .ok (.iload 11, 2) := by decide +kernel
theorem dX13_goesUp_127 : decode cX13_goesUp 127 = .ok (.goto 5, 3) := by decide +kernel
theorem dX13_goesUp_130 : decode cX13_goesUp 130 = .ok (.iload 8, 2) := by decide +kernel
theorem dX13_goesUp_132 : decode cX13_goesUp 132 = .ok (.istore 8, 2) := by decide +kernel
theorem dX13_goesUp_134 : decode cX13_goesUp 134 = .ok (.iinc 10 1, 3) := by decide +kernel
theorem dX13_goesUp_137 : decode cX13_goesUp 137 = .ok (.goto (-68), 3) := by decide +kernel
theorem dX13_goesUp_140 : decode cX13_goesUp 140 = .ok (.iload 7, 2) := by decide +kernel
theorem dX13_goesUp_142 : decode cX13_goesUp 142 = .ok (.iconst 1, 1) := by decide +kernel
theorem dX13_goesUp_143 : decode cX13_goesUp 143 = .ok (.isub, 1) := by decide +kernel
theorem dX13_goesUp_144 : decode cX13_goesUp 144 = .ok (.istore 10, 2) := by decide +kernel
theorem dX13_goesUp_146 : decode cX13_goesUp 146 = .ok (.iload 10, 2) := by decide +kernel
theorem dX13_goesUp_148 : decode cX13_goesUp 148 = .ok (.iload 6, 2) := by decide +kernel
theorem dX13_goesUp_150 : decode cX13_goesUp 150 = .ok (.if_icmp .lt 48, 3) := by decide +kernel
theorem dX13_goesUp_153 : decode cX13_goesUp 153 = .ok (.aload_n 0, 1) := by decide +kernel
theorem dX13_goesUp_154 : decode cX13_goesUp 154 = .ok (.getfield 112, 3) := by decide +kernel
theorem dX13_goesUp_157 : decode cX13_goesUp 157 = .ok (.iload 9, 2) := by decide +kernel
theorem dX13_goesUp_159 : decode cX13_goesUp 159 = .ok (.iaload, 1) := by decide +kernel
theorem dX13_goesUp_160 : decode cX13_goesUp 160 = .ok (.ifCond .ne 38, 3) := by decide +kernel
theorem dX13_goesUp_163 : decode cX13_goesUp 163 = .ok (.aload_n 0, 1) := by decide +kernel
theorem dX13_goesUp_164 : decode cX13_goesUp 164 = .ok (.getfield 112, 3) := by decide +kernel
theorem dX13_goesUp_167 : decode cX13_goesUp 167 = .ok (.aload_n 0, 1) := by decide +kernel
theorem dX13_goesUp_168 : decode cX13_goesUp 168 = .ok (.getfield 124, 3) := by decide +kernel
theorem dX13_goesUp_171 : decode cX13_goesUp 171 = .ok (.iload 10, 2) := by decide +kernel
theorem dX13_goesUp_173 : decode cX13_goesUp 173 = .ok (.iaload, 1) := by decide +kernel
theorem dX13_goesUp_174 : decode cX13_goesUp 174 = .ok (.iaload, 1) := by decide +kernel
theorem dX13_goesUp_175 : decode cX13_goesUp 175 = .ok (.ifCond .le 13, 3) := by decide +kernel
theorem dX13_goesUp_178 : decode cX13_goesUp 178 = .ok (.aload_n 0, 1) := by decide +kernel
theorem dX13_goesUp_179 : decode cX13_goesUp 179 = .ok (.getfield 124, 3) := by decide +kernel
theorem dX13_goesUp_182 : decode cX13_goesUp 182 = .ok (.iload 10, 2) := by decide +kernel
theorem dX13_goesUp_184 : decode cX13_goesUp 184 = .ok (.iaload, 1) := by decide +kernel
theorem dX13_goesUp_185 : decode cX13_goesUp 185 = .ok (.goto 5, 3) := by decide +kernel
theorem dX13_goesUp_188 : decode cX13_goesUp 188 = .ok (.iload 9, 2) := by decide +kernel
theorem dX13_goesUp_190 : decode cX13_goesUp 190 = .ok (.istore 9, 2) := by decide +kernel
theorem dX13_goesUp_192 : decode cX13_goesUp 192 = .ok (.iinc 10 (-1), 3) := by decide +kernel
theorem dX13_goesUp_195 : decode cX13_goesUp 195 = .ok (.goto (-49), 3) := by decide +kernel
theorem dX13_goesUp_198 : decode cX13_goesUp 198 = .ok (.aload_n 0, 1) := by decide +kernel
theorem dX13_goesUp_199 : decode cX13_goesUp 199 = .ok (.getfield 109, 3) := by decide +kernel
theorem dX13_goesUp_202 : decode cX13_goesUp 202 = .ok (.iload 8, 2) := by decide +kernel
theorem dX13_goesUp_204 : decode cX13_goesUp 204 = .ok (.iconst (-1), 1) := by decide +kernel
theorem dX13_goesUp_205 : decode cX13_goesUp 205 = .ok (.if_icmp .eq 8, 3) := by decide +kernel
theorem dX13_goesUp_208 : decode cX13_goesUp 208 = .ok (.iload 8, 2) := by decide +kernel
theorem dX13_goesUp_210 : decode cX13_goesUp 210 = .ok (.goto 31, 3) := by decide +kernel
theorem dX13_goesUp_213 : decode cX13_goesUp 213 = .ok (.iload_n 3, 1) := by decide +kernel
theorem dX13_goesUp_214 : decode cX13_goesUp 214 = .ok (.aload_n 0, 1) := by decide +kernel
theorem dX13_goesUp_215 : decode cX13_goesUp 215 = .ok (.getfield 118, 3) := by decide +kernel
theorem dX13_goesUp_218 : decode cX13_goesUp 218 = .ok (.aload_n 0, 1) := by decide +kernel
theorem dX13_goesUp_219 : decode cX13_goesUp 219 = .ok (.getfield 124, 3) := by decide +kernel
theorem dX13_goesUp_222 : decode cX13_goesUp 222 = .ok (.iload 6, 2) := by decide +kernel
theorem dX13_goesUp_224 : decode cX13_goesUp 224 = .ok (.iaload, 1) := by decide +kernel
theorem dX13_goesUp_225 : decode cX13_goesUp 225 = .ok (.iaload, 1) := by decide +kernel
theorem dX13_goesUp_226 : decode cX13_goesUp 226 = .ok (.if_icmp .ge 13, 3) := by decide +kernel
theorem dX13_goesUp_229 : decode cX13_goesUp 229 = .ok (.aload_n 0, 1) := by decide +kernel
theorem dX13_goesUp_230 : decode cX13_goesUp 230 = .ok (.getfield 124, 3) := by decide +kernel
theorem dX13_goesUp_233 : decode cX13_goesUp 233 = .ok (.iload 6, 2) := by decide +kernel
theorem dX13_goesUp_235 : decode cX13_goesUp 235 = .ok (.iaload, 1) := by decide +kernel
theorem dX13_goesUp_236 : decode cX13_goesUp 236 = .ok (.goto 5, 3) := by decide +kernel
theorem dX13_goesUp_239 : decode cX13_goesUp 239 = .ok (.iload 9, 2) := by decide +kernel
theorem dX13_goesUp_241 : decode cX13_goesUp 241 = .ok (.iaload, 1) := by decide +kernel
theorem dX13_goesUp_242 : decode cX13_goesUp 242 = .ok (.ireturn, 1) := by decide +kernel
theorem dX13_placeAt_0 : decode cX13_placeAt 0 = .ok (.aload_n 0, 1) := by decide +kernel
theorem dX13_placeAt_1 : decode cX13_placeAt 1 = .ok (.iload_n 1, 1) := by decide +kernel
theorem dX13_placeAt_2 : decode cX13_placeAt 2 = .ok (.iload_n 2, 1) := by decide +kernel
theorem dX13_placeAt_3 : decode cX13_placeAt 3 = .ok (.invokevirtual 348, 3) := by decide +kernel
theorem dX13_placeAt_6 : decode cX13_placeAt 6 = .ok (.istore 4, 2) := by decide +kernel
theorem dX13_placeAt_8 : decode cX13_placeAt 8 = .ok (.aload_n 0, 1) := by decide +kernel
theorem dX13_placeAt_9 : decode cX13_placeAt 9 = .ok (.iload 4, 2) := by decide +kernel
theorem dX13_placeAt_11 : decode cX13_placeAt 11 = .ok (.ifCond .ne 7, 3) := by decide +kernel
theorem dX13_placeAt_14 : decode cX13_placeAt 14 = .ok (.iconst 1, 1) := by decide +kernel
theorem dX13_placeAt_15 : decode cX13_placeAt 15 = .ok (.goto 18, 3) := by decide +kernel
theorem dX13_placeAt_18 : decode cX13_placeAt 18 = .ok (.iload_n 3, 1) := by decide +kernel
theorem dX13_placeAt_19 : decode cX13_placeAt 19 = .ok (.iconst 0, 1) := by decide +kernel
theorem dX13_placeAt_20 : decode cX13_placeAt 20 = .ok (.bipush 39, 2) := by decide +kernel
theorem dX13_placeAt_22 : decode cX13_placeAt 22 = .ok (.invokestatic 187, 3) := by decide +kernel
theorem dX13_placeAt_25 : decode cX13_placeAt 25 = .ok (.ifCond .ne 7, 3) := by decide +kernel
theorem dX13_placeAt_28 : decode cX13_placeAt 28 = .ok (.iconst 2, 1) := by decide +kernel
theorem dX13_placeAt_29 : decode cX13_placeAt 29 = .ok (.goto 4, 3) := by decide +kernel
theorem dX13_placeAt_32 : decode cX13_placeAt 32 = .ok (.iconst 0, 1) := by decide +kernel
theorem dX13_placeAt_33 : decode cX13_placeAt 33 = .ok (.invokevirtual 195, 3) := by decide +kernel
theorem dX13_placeAt_36 : decode cX13_placeAt 36 = .ok (.ifCond .eq 13, 3) := by decide +kernel
theorem dX13_placeAt_39 : decode cX13_placeAt 39 = .ok (.aload_n 0, 1) := by decide +kernel
theorem dX13_placeAt_40 : decode cX13_placeAt 40 = .ok (.iload_n 1, 1) := by decide +kernel
theorem dX13_placeAt_41 : decode cX13_placeAt 41 = .ok (.iload_n 2, 1) := by decide +kernel
theorem dX13_placeAt_42 : decode cX13_placeAt 42 = .ok (.iload_n 3, 1) := by decide +kernel
theorem dX13_placeAt_43 : decode cX13_placeAt 43 = .ok (.invokevirtual 370, 3) := by decide +kernel
theorem dX13_placeAt_46 : decode cX13_placeAt 46 = .ok (.goto 4, 3) := by decide +kernel
theorem dX13_placeAt_49 : decode cX13_placeAt 49 = .ok (.iconst 0, 1) := by decide +kernel
theorem dX13_placeAt_50 : decode cX13_placeAt 50 = .ok (.ireturn, 1) := by decide +kernel
theorem dX13_marks_0 : decode cX13_marks 0 = .ok (.aload_n 0, 1) := by decide +kernel
theorem dX13_marks_1 : decode cX13_marks 1 = .ok (.iload_n 1, 1) := by decide +kernel
theorem dX13_marks_2 : decode cX13_marks 2 = .ok (.iload_n 2, 1) := by decide +kernel
theorem dX13_marks_3 : decode cX13_marks 3 = .ok (.invokevirtual 342, 3) := by decide +kernel
theorem dX13_marks_6 : decode cX13_marks 6 = .ok (.istore_n 3, 1) := by decide +kernel
theorem dX13_marks_7 : decode cX13_marks 7 = .ok (.iload_n 2, 1) := by decide +kernel
theorem dX13_marks_8 : decode cX13_marks 8 = .ok (.aload_n 0, 1) := by decide +kernel
theorem dX13_marks_9 : decode cX13_marks 9 = .ok (.iload_n 1, 1) := by decide +kernel
theorem dX13_marks_10 : decode cX13_marks 10 = .ok (.iload_n 3, 1) := by decide +kernel
theorem dX13_marks_11 : decode cX13_marks 11 = .ok (.invokevirtual 339, 3) := by decide +kernel
theorem dX13_marks_14 : decode cX13_marks 14 = .ok (.if_icmp .eq 5, 3) := by decide +kernel
theorem dX13_marks_17 : decode cX13_marks 17 = .ok (.iconst 0, 1) := by decide +kernel
theorem dX13_marks_18 : decode cX13_marks 18 = .ok (.ireturn, 1) := by decide +kernel
theorem dX13_marks_19 : decode cX13_marks 19 = .ok (.iconst 0, 1) := by decide +kernel
theorem dX13_marks_20 : decode cX13_marks 20 = .ok (.istore 4, 2) := by decide +kernel
theorem dX13_marks_22 : decode cX13_marks 22 = .ok (.iconst 0, 1) := by decide +kernel
theorem dX13_marks_23 : decode cX13_marks 23 = .ok (.istore 5, 2) := by decide +kernel
theorem dX13_marks_25 : decode cX13_marks 25 = .ok (.iload 5, 2) := by decide +kernel
theorem dX13_marks_27 : decode cX13_marks 27 = .ok (.aload_n 0, 1) := by decide +kernel
theorem dX13_marks_28 : decode cX13_marks 28 = .ok (.getfield 20, 3) := by decide +kernel
theorem dX13_marks_31 : decode cX13_marks 31 = .ok (.if_icmp .ge 124, 3) := by decide +kernel
theorem dX13_marks_34 : decode cX13_marks 34 = .ok (.iload 5, 2) := by decide +kernel
theorem dX13_marks_36 : decode cX13_marks 36 = .ok (.iload_n 3, 1) := by decide +kernel
theorem dX13_marks_37 : decode cX13_marks 37 = .ok (.if_icmp .ne 7, 3) := by decide +kernel
theorem dX13_marks_40 : decode cX13_marks 40 = .ok (.iconst 1, 1) := by decide +kernel
theorem dX13_marks_41 : decode cX13_marks 41 = .ok (.goto 4, 3) := by decide +kernel
theorem dX13_marks_44 : decode cX13_marks 44 = .ok (.iconst 0, 1) := by decide +kernel
theorem dX13_marks_45 : decode cX13_marks 45 = .ok (.istore 6, 2) := by decide +kernel
theorem dX13_marks_47 : decode cX13_marks 47 = .ok (.bipush 6, 2) := by decide +kernel
theorem dX13_marks_49 : decode cX13_marks 49 = .ok (.iload_n 1, 1) := by decide +kernel
theorem dX13_marks_50 : decode cX13_marks 50 = .ok (.imul, 1) := by decide +kernel
theorem dX13_marks_51 : decode cX13_marks 51 = .ok (.istore 7, 2) := by decide +kernel
theorem dX13_marks_53 : decode cX13_marks 53 = .ok (.iload 7, 2) := by decide +kernel
theorem dX13_marks_55 : decode cX13_marks 55 = .ok (.bipush 6, 2) := by decide +kernel
theorem dX13_marks_57 : decode cX13_marks 57 = .ok (.iload_n 1, 1) := by decide +kernel
theorem dX13_marks_58 : decode cX13_marks 58 = .ok (.imul, 1) := by decide +kernel
theorem dX13_marks_59 : decode cX13_marks 59 = .ok (.aload_n 0, 1) := by decide +kernel
theorem dX13_marks_60 : decode cX13_marks 60 = .ok (.getfield 70, 3) := by decide +kernel
theorem dX13_marks_63 : decode cX13_marks 63 = .ok (.iload_n 1, 1) := by decide +kernel
theorem dX13_marks_64 : decode cX13_marks 64 = .ok (.iaload, 1) := by decide +kernel
theorem dX13_marks_65 : decode cX13_marks 65 = .ok (.iadd, 1) := by decide +kernel
theorem dX13_marks_66 : decode cX13_marks 66 = .ok (.if_icmp .ge 58, 3) := by decide +kernel
theorem dX13_marks_69 : decode cX13_marks 69 = .ok (.iload 6, 2) := by decide +kernel
theorem dX13_marks_71 : decode cX13_marks 71 = .ok (.ifCond .ne 40, 3) := by decide +kernel
theorem dX13_marks_74 : decode cX13_marks 74 = .ok (.aload_n 0, 1) := by decide +kernel
theorem dX13_marks_75 : decode cX13_marks 75 = .ok (.getfield 79, 3) := by decide +kernel
theorem dX13_marks_78 : decode cX13_marks 78 = .ok (.iload 7, 2) := by decide +kernel
theorem dX13_marks_80 : decode cX13_marks 80 = .ok (.baload, 1) := by decide +kernel
theorem dX13_marks_81 : decode cX13_marks 81 = .ok (.ifCond .eq 34, 3) := by decide +kernel
theorem dX13_marks_84 : decode cX13_marks 84 = .ok (.aload_n 0, 1) := by decide +kernel
theorem dX13_marks_85 : decode cX13_marks 85 = .ok (.getfield 73, 3) := by decide +kernel
theorem dX13_marks_88 : decode cX13_marks 88 = .ok (.iload 7, 2) := by decide +kernel
theorem dX13_marks_90 : decode cX13_marks 90 = .ok (.iaload, 1) := by decide +kernel
theorem dX13_marks_91 : decode cX13_marks 91 = .ok (.iload_n 3, 1) := by decide +kernel
theorem dX13_marks_92 : decode cX13_marks 92 = .ok (.if_icmp .ne 23, 3) := by decide +kernel
theorem dX13_marks_95 : decode cX13_marks 95 = .ok (.iload 5, 2) := by decide +kernel
theorem dX13_marks_97 : decode cX13_marks 97 = .ok (.iload_n 3, 1) := by decide +kernel
theorem dX13_marks_98 : decode cX13_marks 98 = .ok (.aload_n 0, 1) := by decide +kernel
theorem dX13_marks_99 : decode cX13_marks 99 = .ok (.getfield 76, 3) := by decide +kernel
theorem dX13_marks_102 : decode cX13_marks 102 = .ok (.iload 7, 2) := by decide +kernel
theorem dX13_marks_104 : decode cX13_marks 104 = .ok (.iaload, 1) := by decide +kernel
theorem dX13_marks_105 : decode cX13_marks 105 = .ok (.invokestatic 187, 3) := by decide +kernel
theorem dX13_marks_108 : decode cX13_marks 108 = .ok (.ifCond .eq 7, 3) := by decide +kernel
theorem dX13_marks_111 : decode cX13_marks 111 = .ok (.iconst 1, 1) := by decide +kernel
theorem dX13_marks_112 : decode cX13_marks 112 = .ok (.goto 4, 3) := by decide +kernel
theorem dX13_marks_115 : decode cX13_marks 115 = .ok (.iconst 0, 1) := by decide +kernel
theorem dX13_marks_116 : decode cX13_marks 116 = .ok (.istore 6, 2) := by decide +kernel
theorem dX13_marks_118 : decode cX13_marks 118 = .ok (.iinc 7 1, 3) := by decide +kernel
theorem dX13_marks_121 : decode cX13_marks 121 = .ok (.goto (-68), 3) := by decide +kernel
theorem dX13_marks_124 : decode cX13_marks 124 = .ok (.iload 4, 2) := by decide +kernel
theorem dX13_marks_126 : decode cX13_marks 126 = .ok (.iload 6, 2) := by decide +kernel
theorem dX13_marks_128 : decode cX13_marks 128 = .ok (.ifCond .eq 17, 3) := by decide +kernel
theorem dX13_marks_131 : decode cX13_marks 131 = .ok (.aload_n 0, 1) := by decide +kernel
theorem dX13_marks_132 : decode cX13_marks 132 = .ok (.getfield 16, 3) := by decide +kernel
theorem dX13_marks_135 : decode cX13_marks 135 = .ok (.iload 5, 2) := by decide +kernel
theorem dX13_marks_137 : decode cX13_marks 137 = .ok (.baload, 1) := by decide +kernel
theorem dX13_marks_138 : decode cX13_marks 138 = .ok (.ifCond .eq 7, 3) := by decide +kernel
theorem dX13_marks_141 : decode cX13_marks 141 = .ok (.iconst 1, 1) := by decide +kernel
theorem dX13_marks_142 : decode cX13_marks 142 = .ok (.goto 4, 3) := by decide +kernel
theorem dX13_marks_145 : decode cX13_marks 145 = .ok (.iconst 0, 1) := by decide +kernel
theorem dX13_marks_146 : decode cX13_marks 146 = .ok (.iadd, 1) := by decide +kernel
theorem dX13_marks_147 : decode cX13_marks 147 = .ok (.istore 4, 2) := by decide +kernel
theorem dX13_marks_149 : decode cX13_marks 149 = .ok (.iinc 5 1, 3) := by decide +kernel
theorem dX13_marks_152 : decode cX13_marks 152 = .ok (.goto (-127), 3) := by decide +kernel
theorem dX13_marks_155 : decode cX13_marks 155 = .ok (.iload 4, 2) := by decide +kernel
theorem dX13_marks_157 : decode cX13_marks 157 = .ok (.ireturn, 1) := by decide +kernel
theorem dX13_marksAt_0 : decode cX13_marksAt 0 = .ok (.aload_n 0, 1) := by decide +kernel
theorem dX13_marksAt_1 : decode cX13_marksAt 1 = .ok (.aload_n 0, 1) := by decide +kernel
theorem dX13_marksAt_2 : decode cX13_marksAt 2 = .ok (.iload_n 1, 1) := by decide +kernel
theorem dX13_marksAt_3 : decode cX13_marksAt 3 = .ok (.iload_n 2, 1) := by decide +kernel
theorem dX13_marksAt_4 : decode cX13_marksAt 4 = .ok (.invokevirtual 348, 3) := by decide +kernel
theorem dX13_marksAt_7 : decode cX13_marksAt 7 = .ok (.ifCond .eq 7, 3) := by decide +kernel
theorem dX13_marksAt_10 : decode cX13_marksAt 10 = .ok (.iconst 0, 1) := by decide +kernel
theorem dX13_marksAt_11 : decode cX13_marksAt 11 = .ok (.goto 4, 3) := by decide +kernel
theorem dX13_marksAt_14 : decode cX13_marksAt 14 = .ok (.iconst 1, 1) := by decide +kernel
theorem dX13_marksAt_15 : decode cX13_marksAt 15 = .ok (.invokevirtual 195, 3) := by decide +kernel
theorem dX13_marksAt_18 : decode cX13_marksAt 18 = .ok (.ifCond .eq 12, 3) := by decide +kernel
theorem dX13_marksAt_21 : decode cX13_marksAt 21 = .ok (.aload_n 0, 1) := by decide +kernel
theorem dX13_marksAt_22 : decode cX13_marksAt 22 = .ok (.iload_n 1, 1) := by decide +kernel
theorem dX13_marksAt_23 : decode cX13_marksAt 23 = .ok (.iload_n 2, 1) := by decide +kernel
theorem dX13_marksAt_24 : decode cX13_marksAt 24 = .ok (.invokevirtual 373, 3) := by decide +kernel
theorem dX13_marksAt_27 : decode cX13_marksAt 27 = .ok (.goto 4, 3) := by decide +kernel
theorem dX13_marksAt_30 : decode cX13_marksAt 30 = .ok (.iconst 0, 1) := by decide +kernel
theorem dX13_marksAt_31 : decode cX13_marksAt 31 = .ok (.ireturn, 1) := by decide +kernel
theorem dX13_minimap_0 : decode cX13_minimap 0 = .ok (.aload_n 0, 1) := by decide +kernel
theorem dX13_minimap_1 : decode cX13_minimap 1 = .ok (.iload_n 1, 1) := by decide +kernel
theorem dX13_minimap_2 : decode cX13_minimap 2 = .ok (.invokestatic 236, 3) := by decide +kernel
theorem dX13_minimap_5 : decode cX13_minimap 5 = .ok (.ifCond .ne 7, 3) := by decide +kernel
theorem dX13_minimap_8 : decode cX13_minimap 8 = .ok (.iconst 1, 1) := by decide +kernel
theorem dX13_minimap_9 : decode cX13_minimap 9 = .ok (.goto 18, 3) := by decide +kernel
theorem dX13_minimap_12 : decode cX13_minimap 12 = .ok (.iload_n 2, 1) := by decide +kernel
theorem dX13_minimap_13 : decode cX13_minimap 13 = .ok (.iconst 0, 1) := by decide +kernel
theorem dX13_minimap_14 : decode cX13_minimap 14 = .ok (.bipush 7, 2) := by decide +kernel
theorem dX13_minimap_16 : decode cX13_minimap 16 = .ok (.invokestatic 187, 3) := by decide +kernel
theorem dX13_minimap_19 : decode cX13_minimap 19 = .ok (.ifCond .ne 7, 3) := by decide +kernel
theorem dX13_minimap_22 : decode cX13_minimap 22 = .ok (.iconst 2, 1) := by decide +kernel
theorem dX13_minimap_23 : decode cX13_minimap 23 = .ok (.goto 4, 3) := by decide +kernel
theorem dX13_minimap_26 : decode cX13_minimap 26 = .ok (.iconst 0, 1) := by decide +kernel
theorem dX13_minimap_27 : decode cX13_minimap 27 = .ok (.invokevirtual 195, 3) := by decide +kernel
theorem dX13_minimap_30 : decode cX13_minimap 30 = .ok (.ifCond .ne 5, 3) := by decide +kernel
theorem dX13_minimap_33 : decode cX13_minimap 33 = .ok (.iconst 0, 1) := by decide +kernel
theorem dX13_minimap_34 : decode cX13_minimap 34 = .ok (.ireturn, 1) := by decide +kernel
theorem dX13_minimap_35 : decode cX13_minimap 35 = .ok (.aload_n 0, 1) := by decide +kernel
theorem dX13_minimap_36 : decode cX13_minimap 36 = .ok (.iload_n 1, 1) := by decide +kernel
theorem dX13_minimap_37 : decode cX13_minimap 37 = .ok (.aload_n 0, 1) := by decide +kernel
theorem dX13_minimap_38 : decode cX13_minimap 38 = .ok (.getfield 20, 3) := by decide +kernel
theorem dX13_minimap_41 : decode cX13_minimap 41 = .ok (.invokevirtual 339, 3) := by decide +kernel
theorem dX13_minimap_44 : decode cX13_minimap 44 = .ok (.istore_n 3, 1) := by decide +kernel
theorem dX13_minimap_45 : decode cX13_minimap 45 = .ok (.iconst 0, 1) := by decide +kernel
theorem dX13_minimap_46 : decode cX13_minimap 46 = .ok (.istore 4, 2) := by decide +kernel
theorem dX13_minimap_48 : decode cX13_minimap 48 = .ok (.iload_n 2, 1) := by decide +kernel
theorem dX13_minimap_49 : decode cX13_minimap 49 = .ok (.iload_n 3, 1) := by decide +kernel
theorem dX13_minimap_50 : decode cX13_minimap 50 = .ok (.imul, 1) := by decide +kernel
theorem dX13_minimap_51 : decode cX13_minimap 51 = .ok (.bipush 8, 2) := by decide +kernel
theorem dX13_minimap_53 : decode cX13_minimap 53 = .ok (.idiv, 1) := by decide +kernel
theorem dX13_minimap_54 : decode cX13_minimap 54 = .ok (.istore 5, 2) := by decide +kernel
theorem dX13_minimap_56 : decode cX13_minimap 56 = .ok (.iload 5, 2) := by decide +kernel
theorem dX13_minimap_58 : decode cX13_minimap 58 = .ok (.iload_n 2, 1) := by decide +kernel
theorem dX13_minimap_59 : decode cX13_minimap 59 = .ok (.iconst 1, 1) := by decide +kernel
theorem dX13_minimap_60 : decode cX13_minimap 60 = .ok (.iadd, 1) := by decide +kernel
theorem dX13_minimap_61 : decode cX13_minimap 61 = .ok (.iload_n 3, 1) := by decide +kernel
theorem dX13_minimap_62 : decode cX13_minimap 62 = .ok (.imul, 1) := by decide +kernel
theorem dX13_minimap_63 : decode cX13_minimap 63 = .ok (.bipush 8, 2) := by decide +kernel
theorem dX13_minimap_65 : decode cX13_minimap 65 = .ok (.idiv, 1) := by decide +kernel
theorem dX13_minimap_66 : decode cX13_minimap 66 = .ok (.if_icmp .ge 67, 3) := by decide +kernel
theorem dX13_minimap_69 : decode cX13_minimap 69 = .ok (.aload_n 0, 1) := by decide +kernel
theorem dX13_minimap_70 : decode cX13_minimap 70 = .ok (.iload_n 1, 1) := by decide +kernel
theorem dX13_minimap_71 : decode cX13_minimap 71 = .ok (.iload 5, 2) := by decide +kernel
theorem dX13_minimap_73 : decode cX13_minimap 73 = .ok (.invokevirtual 351, 3) := by decide +kernel
theorem dX13_minimap_76 : decode cX13_minimap 76 = .ok (.istore 6, 2) := by decide +kernel
theorem dX13_minimap_78 : decode cX13_minimap 78 = .ok (.aload_n 0, 1) := by decide +kernel
theorem dX13_minimap_79 : decode cX13_minimap 79 = .ok (.getfield 127, 3) := by decide +kernel
theorem dX13_minimap_82 : decode cX13_minimap 82 = .ok (.iload 6, 2) := by decide +kernel
theorem dX13_minimap_84 : decode cX13_minimap 84 = .ok (.iaload, 1) := by decide +kernel
theorem dX13_minimap_85 : decode cX13_minimap 85 = .ok (.istore 7, 2) := by decide +kernel
theorem dX13_minimap_87 : decode cX13_minimap 87 = .ok (.iload 7, 2) := by decide +kernel
theorem dX13_minimap_89 : decode cX13_minimap 89 = .ok (.aload_n 0, 1) := by decide +kernel
theorem dX13_minimap_90 : decode cX13_minimap 90 = .ok (.getfield 127, 3) := by decide +kernel
theorem dX13_minimap_93 : decode cX13_minimap 93 = .ok (.iload 6, 2) := by decide +kernel
theorem dX13_minimap_95 : decode cX13_minimap 95 = .ok (.iconst 1, 1) := by decide +kernel
theorem dX13_minimap_96 : decode cX13_minimap 96 = .ok (.iadd, 1) := by decide +kernel
theorem dX13_minimap_97 : decode cX13_minimap 97 = .ok (.iaload, 1) := by decide +kernel
theorem dX13_minimap_98 : decode cX13_minimap 98 = .ok (.if_icmp .ge 29, 3) := by decide +kernel
theorem dX13_minimap_101 : decode cX13_minimap 101 = .ok (.iload 4, 2) := by decide +kernel
theorem dX13_minimap_103 : decode cX13_minimap 103 = .ok (.aload_n 0, 1) := by decide +kernel
theorem dX13_minimap_104 : decode cX13_minimap 104 = .ok (.getfield 112, 3) := by decide +kernel
theorem dX13_minimap_107 : decode cX13_minimap 107 = .ok (.iload 7, 2) := by decide +kernel
theorem dX13_minimap_109 : decode cX13_minimap 109 = .ok (.iaload, 1) := by decide +kernel
theorem dX13_minimap_110 : decode cX13_minimap 110 = .ok (.ifCond .le 7, 3) := by decide +kernel
theorem dX13_minimap_113 : decode cX13_minimap 113 = .ok (.iconst 1, 1) := by decide +kernel
theorem dX13_minimap_114 : decode cX13_minimap 114 = .ok (.goto 4, 3) := by decide +kernel
theorem dX13_minimap_117 : decode cX13_minimap 117 = .ok (.iconst 0, 1) := by decide +kernel
theorem dX13_minimap_118 : decode cX13_minimap 118 = .ok (.iadd, 1) := by decide +kernel
theorem dX13_minimap_119 : decode cX13_minimap 119 = .ok (.istore 4, 2) := by decide +kernel
theorem dX13_minimap_121 : decode cX13_minimap 121 = .ok (.iinc 7 1, 3) := by decide +kernel
theorem dX13_minimap_124 : decode cX13_minimap 124 = .ok (.goto (-37), 3) := by decide +kernel
theorem dX13_minimap_127 : decode cX13_minimap 127 = .ok (.iinc 5 1, 3) := by decide +kernel
theorem dX13_minimap_130 : decode cX13_minimap 130 = .ok (.goto (-74), 3) := by decide +kernel
theorem dX13_minimap_133 : decode cX13_minimap 133 = .ok (.iload 4, 2) := by decide +kernel
theorem dX13_minimap_135 : decode cX13_minimap 135 = .ok (.ireturn, 1) := by decide +kernel
theorem dX13_isLocked_0 : decode cX13_isLocked 0 = .ok (.iconst 0, 1) := by decide +kernel
theorem dX13_isLocked_1 : decode cX13_isLocked 1 = .ok (.istore_n 2, 1) := by decide +kernel
theorem dX13_isLocked_2 : decode cX13_isLocked 2 = .ok (.iconst (-1), 1) := by decide +kernel
theorem dX13_isLocked_3 : decode cX13_isLocked 3 = .ok (.istore_n 3, 1) := by decide +kernel
theorem dX13_isLocked_4 : decode cX13_isLocked 4 = .ok (.iconst 0, 1) := by decide +kernel
theorem dX13_isLocked_5 : decode cX13_isLocked 5 = .ok (.istore 4, 2) := by decide +kernel
theorem dX13_isLocked_7 : decode cX13_isLocked 7 = .ok (.iload 4, 2) := by decide +kernel
theorem dX13_isLocked_9 : decode cX13_isLocked 9 = .ok (.iconst 4, 1) := by decide +kernel
theorem dX13_isLocked_10 : decode cX13_isLocked 10 = .ok (.if_icmp .ge 57, 3) := by decide +kernel
theorem dX13_isLocked_13 : decode cX13_isLocked 13 = .ok (.iload_n 2, 1) := by decide +kernel
theorem dX13_isLocked_14 : decode cX13_isLocked 14 = .ok (.ifCond .ne 24, 3) := by decide +kernel
theorem dX13_isLocked_17 : decode cX13_isLocked 17 = .ok (.aload_n 0, 1) := by decide +kernel
theorem dX13_isLocked_18 : decode cX13_isLocked 18 = .ok (.getfield 33, 3) := by decide +kernel
theorem dX13_isLocked_21 : decode cX13_isLocked 21 = .ok (.iload 4, 2) := by decide +kernel
theorem dX13_isLocked_23 : decode cX13_isLocked 23 = .ok (.baload, 1) := by decide +kernel
theorem dX13_isLocked_24 : decode cX13_isLocked 24 = .ok (.ifCond .eq 18, 3) := by decide +kernel
theorem dX13_isLocked_27 : decode cX13_isLocked 27 = .ok (.aload_n 0, 1) := by decide +kernel
theorem dX13_isLocked_28 : decode cX13_isLocked 28 = .ok (.getfield 42, 3) := by decide +kernel
theorem dX13_isLocked_31 : decode cX13_isLocked 31 = .ok (.iload 4, 2) := by decide +kernel
theorem dX13_isLocked_33 : decode cX13_isLocked 33 = .ok (.iaload, 1) := by decide +kernel
theorem dX13_isLocked_34 : decode cX13_isLocked 34 = .ok (.iconst (-1), 1) := by decide +kernel
theorem dX13_isLocked_35 : decode cX13_isLocked 35 = .ok (.if_icmp .ne 7, 3) := by decide +kernel
theorem dX13_isLocked_38 : decode cX13_isLocked 38 = .ok (.iconst 1, 1) := by decide +kernel
theorem dX13_isLocked_39 : decode cX13_isLocked 39 = .ok (.goto 4, 3) := by decide +kernel
theorem dX13_isLocked_42 : decode cX13_isLocked 42 = .ok (.iconst 0, 1) := by decide +kernel
theorem dX13_isLocked_43 : decode cX13_isLocked 43 = .ok (.istore_n 2, 1) := by decide +kernel
theorem dX13_isLocked_44 : decode cX13_isLocked 44 = .ok (.aload_n 0, 1) := by decide +kernel
theorem dX13_isLocked_45 : decode cX13_isLocked 45 = .ok (.getfield 33, 3) := by decide +kernel
theorem dX13_isLocked_48 : decode cX13_isLocked 48 = .ok (.iload 4, 2) := by decide +kernel
theorem dX13_isLocked_50 : decode cX13_isLocked 50 = .ok (.baload, 1) := by decide +kernel
theorem dX13_isLocked_51 : decode cX13_isLocked 51 = .ok (.ifCond .eq 8, 3) := by decide +kernel
theorem dX13_isLocked_54 : decode cX13_isLocked 54 = .ok (.iload 4, 2) := by decide +kernel
theorem dX13_isLocked_56 : decode cX13_isLocked 56 = .ok (.goto 4, 3) := by decide +kernel
theorem dX13_isLocked_59 : decode cX13_isLocked 59 = .ok (.iload_n 3, 1) := by decide +kernel
theorem dX13_isLocked_60 : decode cX13_isLocked 60 = .ok (.istore_n 3, 1) := by decide +kernel
theorem dX13_isLocked_61 : decode cX13_isLocked 61 = .ok (.iinc 4 1, 3) := by decide +kernel
theorem dX13_isLocked_64 : decode cX13_isLocked 64 = .ok (.goto (-57), 3) := by decide +kernel
theorem dX13_isLocked_67 : decode cX13_isLocked 67 = .ok (.aload_n 0, 1) := by decide +kernel
theorem dX13_isLocked_68 : decode cX13_isLocked 68 = .ok (.getfield 42, 3) := by decide +kernel
theorem dX13_isLocked_71 : decode cX13_isLocked 71 = .ok (.iload_n 1, 1) := by decide +kernel
theorem dX13_isLocked_72 : decode cX13_isLocked 72 = .ok (.iaload, 1) := by decide +kernel
theorem dX13_isLocked_73 : decode cX13_isLocked 73 = .ok (.iconst (-1), 1) := by decide +kernel
theorem dX13_isLocked_74 : decode cX13_isLocked 74 = .ok (.if_icmp .eq 16, 3) := by decide +kernel
theorem dX13_isLocked_77 : decode cX13_isLocked 77 = .ok (.iload_n 2, 1) := by decide +kernel
theorem dX13_isLocked_78 : decode cX13_isLocked 78 = .ok (.ifCond .ne 8, 3) := by decide +kernel
theorem dX13_isLocked_81 : decode cX13_isLocked 81 = .ok (.iload_n 1, 1) := by decide +kernel
theorem dX13_isLocked_82 : decode cX13_isLocked 82 = .ok (.iload_n 3, 1) := by decide +kernel
theorem dX13_isLocked_83 : decode cX13_isLocked 83 = .ok (.if_icmp .eq 7, 3) := by decide +kernel
theorem dX13_isLocked_86 : decode cX13_isLocked 86 = .ok (.iconst 1, 1) := by decide +kernel
theorem dX13_isLocked_87 : decode cX13_isLocked 87 = .ok (.goto 4, 3) := by decide +kernel
theorem dX13_isLocked_90 : decode cX13_isLocked 90 = .ok (.iconst 0, 1) := by decide +kernel
theorem dX13_isLocked_91 : decode cX13_isLocked 91 = .ok (.ireturn, 1) := by decide +kernel
theorem dX13_poorest_0 : decode cX13_poorest 0 = .ok (.iconst (-1), 1) := by decide +kernel
theorem dX13_poorest_1 : decode cX13_poorest 1 = .ok (.istore_n 1, 1) := by decide +kernel
theorem dX13_poorest_2 : decode cX13_poorest 2 = .ok (.iconst 3, 1) := by decide +kernel
theorem dX13_poorest_3 : decode cX13_poorest 3 = .ok (.istore_n 2, 1) := by decide +kernel
theorem dX13_poorest_4 : decode cX13_poorest 4 = .ok (.iload_n 2, 1) := by decide +kernel
theorem dX13_poorest_5 : decode cX13_poorest 5 = .ok (.ifCond .lt 47, 3) := by decide +kernel
theorem dX13_poorest_8 : decode cX13_poorest 8 = .ok (.aload_n 0, 1) := by decide +kernel
theorem dX13_poorest_9 : decode cX13_poorest 9 = .ok (.getfield 33, 3) := by decide +kernel
theorem dX13_poorest_12 : decode cX13_poorest 12 = .ok (.iload_n 2, 1) := by decide +kernel
theorem dX13_poorest_13 : decode cX13_poorest 13 = .ok (.baload, 1) := by decide +kernel
theorem dX13_poorest_14 : decode cX13_poorest 14 = .ok (.ifCond .eq 30, 3) := by decide +kernel
theorem dX13_poorest_17 : decode cX13_poorest 17 = .ok (.aload_n 0, 1) := by decide +kernel
theorem dX13_poorest_18 : decode cX13_poorest 18 = .ok (.iload_n 2, 1) := by decide +kernel
theorem dX13_poorest_19 : decode cX13_poorest 19 = .ok (.invokevirtual 376, 3) := by decide +kernel
theorem dX13_poorest_22 : decode cX13_poorest 22 = .ok (.ifCond .ne 22, 3) := by decide +kernel
theorem dX13_poorest_25 : decode cX13_poorest 25 = .ok (.aload_n 0, 1) := by decide +kernel
theorem dX13_poorest_26 : decode cX13_poorest 26 = .ok (.getfield 97, 3) := by decide +kernel
theorem dX13_poorest_29 : decode cX13_poorest 29 = .ok (.iload_n 2, 1) := by decide +kernel
theorem dX13_poorest_30 : decode cX13_poorest 30 = .ok (.iaload, 1) := by decide +kernel
theorem dX13_poorest_31 : decode cX13_poorest 31 = .ok (.aload_n 0, 1) := by decide +kernel
theorem dX13_poorest_32 : decode cX13_poorest 32 = .ok (.getfield 39, 3) := by decide +kernel
theorem dX13_poorest_35 : decode cX13_poorest 35 = .ok (.iload_n 2, 1) := by decide +kernel
theorem dX13_poorest_36 : decode cX13_poorest 36 = .ok (.iaload, 1) := by decide +kernel
theorem dX13_poorest_37 : decode cX13_poorest 37 = .ok (.if_icmp .ge 7, 3) := by decide +kernel
theorem dX13_poorest_40 : decode cX13_poorest 40 = .ok (.iload_n 2, 1) := by decide +kernel
theorem dX13_poorest_41 : decode cX13_poorest 41 = .ok (.goto 4, 3) := by decide +kernel
theorem dX13_poorest_44 : decode cX13_poorest 44 = .ok (.iload_n 1, 1) := by decide +kernel
theorem dX13_poorest_45 : decode cX13_poorest 45 = .ok (.istore_n 1, 1) := by decide +kernel
theorem dX13_poorest_46 : decode cX13_poorest 46 = .ok (.iinc 2 (-1), 3) := by decide +kernel
theorem dX13_poorest_49 : decode cX13_poorest 49 = .ok (.goto (-45), 3) := by decide +kernel
theorem dX13_poorest_52 : decode cX13_poorest 52 = .ok (.iload_n 1, 1) := by decide +kernel
theorem dX13_poorest_53 : decode cX13_poorest 53 = .ok (.ireturn, 1) := by decide +kernel
theorem dX13_richest_0 : decode cX13_richest 0 = .ok (.iconst (-1), 1) := by decide +kernel
theorem dX13_richest_1 : decode cX13_richest 1 = .ok (.istore_n 1, 1) := by decide +kernel
theorem dX13_richest_2 : decode cX13_richest 2 = .ok (.iconst 0, 1) := by decide +kernel
theorem dX13_richest_3 : decode cX13_richest 3 = .ok (.istore_n 2, 1) := by decide +kernel
theorem dX13_richest_4 : decode cX13_richest 4 = .ok (.iload_n 2, 1) := by decide +kernel
theorem dX13_richest_5 : decode cX13_richest 5 = .ok (.iconst 4, 1) := by decide +kernel
theorem dX13_richest_6 : decode cX13_richest 6 = .ok (.if_icmp .ge 91, 3) := by decide +kernel
theorem dX13_richest_9 : decode cX13_richest 9 = .ok (.aload_n 0, 1) := by decide +kernel
theorem dX13_richest_10 : decode cX13_richest 10 = .ok (.getfield 33, 3) := by decide +kernel
theorem dX13_richest_13 : decode cX13_richest 13 = .ok (.iload_n 2, 1) := by decide +kernel
theorem dX13_richest_14 : decode cX13_richest 14 = .ok (.baload, 1) := by decide +kernel
theorem dX13_richest_15 : decode cX13_richest 15 = .ok (.ifCond .eq 30, 3) := by decide +kernel
theorem dX13_richest_18 : decode cX13_richest 18 = .ok (.aload_n 0, 1) := by decide +kernel
theorem dX13_richest_19 : decode cX13_richest 19 = .ok (.iload_n 2, 1) := by decide +kernel
theorem dX13_richest_20 : decode cX13_richest 20 = .ok (.invokevirtual 376, 3) := by decide +kernel
theorem dX13_richest_23 : decode cX13_richest 23 = .ok (.ifCond .ne 22, 3) := by decide +kernel
theorem dX13_richest_26 : decode cX13_richest 26 = .ok (.aload_n 0, 1) := by decide +kernel
theorem dX13_richest_27 : decode cX13_richest 27 = .ok (.getfield 97, 3) := by decide +kernel
theorem dX13_richest_30 : decode cX13_richest 30 = .ok (.iload_n 2, 1) := by decide +kernel
theorem dX13_richest_31 : decode cX13_richest 31 = .ok (.iaload, 1) := by decide +kernel
theorem dX13_richest_32 : decode cX13_richest 32 = .ok (.aload_n 0, 1) := by decide +kernel
theorem dX13_richest_33 : decode cX13_richest 33 = .ok (.getfield 39, 3) := by decide +kernel
theorem dX13_richest_36 : decode cX13_richest 36 = .ok (.iload_n 2, 1) := by decide +kernel
theorem dX13_richest_37 : decode cX13_richest 37 = .ok (.iaload, 1) := by decide +kernel
theorem dX13_richest_38 : decode cX13_richest 38 = .ok (.if_icmp .le 7, 3) := by decide +kernel
theorem dX13_richest_41 : decode cX13_richest 41 = .ok (.iconst 1, 1) := by decide +kernel
theorem dX13_richest_42 : decode cX13_richest 42 = .ok (.goto 4, 3) := by decide +kernel
theorem dX13_richest_45 : decode cX13_richest 45 = .ok (.iconst 0, 1) := by decide +kernel
theorem dX13_richest_46 : decode cX13_richest 46 = .ok (.istore_n 3, 1) := by decide +kernel
theorem dX13_richest_47 : decode cX13_richest 47 = .ok (.iload_n 3, 1) := by decide +kernel
theorem dX13_richest_48 : decode cX13_richest 48 = .ok (.ifCond .eq 41, 3) := by decide +kernel
theorem dX13_richest_51 : decode cX13_richest 51 = .ok (.iload_n 1, 1) := by decide +kernel
theorem dX13_richest_52 : decode cX13_richest 52 = .ok (.iconst (-1), 1) := by decide +kernel
theorem dX13_richest_53 : decode cX13_richest 53 = .ok (.if_icmp .eq 32, 3) := by decide +kernel
theorem dX13_richest_56 : decode cX13_richest 56 = .ok (.aload_n 0, 1) := by decide +kernel
theorem dX13_richest_57 : decode cX13_richest 57 = .ok (.getfield 97, 3) := by decide +kernel
theorem dX13_richest_60 : decode cX13_richest 60 = .ok (.iload_n 2, 1) := by decide +kernel
theorem dX13_richest_61 : decode cX13_richest 61 = .ok (.iaload, 1) := by decide +kernel
theorem dX13_richest_62 : decode cX13_richest 62 = .ok (.aload_n 0, 1) := by decide +kernel
theorem dX13_richest_63 : decode cX13_richest 63 = .ok (.getfield 39, 3) := by decide +kernel
theorem dX13_richest_66 : decode cX13_richest 66 = .ok (.iload_n 2, 1) := by decide +kernel
theorem dX13_richest_67 : decode cX13_richest 67 = .ok (.iaload, 1) := by decide +kernel
theorem dX13_richest_68 : decode cX13_richest 68 = .ok (.isub, 1) := by decide +kernel
theorem dX13_richest_69 : decode cX13_richest 69 = .ok (.aload_n 0, 1) := by decide +kernel
theorem dX13_richest_70 : decode cX13_richest 70 = .ok (.getfield 97, 3) := by decide +kernel
theorem dX13_richest_73 : decode cX13_richest 73 = .ok (.iload_n 1, 1) := by decide +kernel
theorem dX13_richest_74 : decode cX13_richest 74 = .ok (.iaload, 1) := by decide +kernel
theorem dX13_richest_75 : decode cX13_richest 75 = .ok (.aload_n 0, 1) := by decide +kernel
theorem dX13_richest_76 : decode cX13_richest 76 = .ok (.getfield 39, 3) := by decide +kernel
theorem dX13_richest_79 : decode cX13_richest 79 = .ok (.iload_n 1, 1) := by decide +kernel
theorem dX13_richest_80 : decode cX13_richest 80 = .ok (.iaload, 1) := by decide +kernel
theorem dX13_richest_81 : decode cX13_richest 81 = .ok (.isub, 1) := by decide +kernel
theorem dX13_richest_82 : decode cX13_richest 82 = .ok (.if_icmp .le 7, 3) := by decide +kernel
theorem dX13_richest_85 : decode cX13_richest 85 = .ok (.iload_n 2, 1) := by decide +kernel
theorem dX13_richest_86 : decode cX13_richest 86 = .ok (.goto 4, 3) := by decide +kernel
theorem dX13_richest_89 : decode cX13_richest 89 = .ok (.iload_n 1, 1) := by decide +kernel
theorem dX13_richest_90 : decode cX13_richest 90 = .ok (.istore_n 1, 1) := by decide +kernel
theorem dX13_richest_91 : decode cX13_richest 91 = .ok (.iinc 2 1, 3) := by decide +kernel
theorem dX13_richest_94 : decode cX13_richest 94 = .ok (.goto (-90), 3) := by decide +kernel
theorem dX13_richest_97 : decode cX13_richest 97 = .ok (.iload_n 1, 1) := by decide +kernel
theorem dX13_richest_98 : decode cX13_richest 98 = .ok (.ireturn, 1) := by decide +kernel
theorem dX13_shares_0 : decode cX13_shares 0 = .ok (.bipush 24, 2) := by decide +kernel
theorem dX13_shares_2 : decode cX13_shares 2 = .ok (.istore_n 1, 1) := by decide +kernel
theorem dX13_shares_3 : decode cX13_shares 3 = .ok (.iconst 0, 1) := by decide +kernel
theorem dX13_shares_4 : decode cX13_shares 4 = .ok (.istore_n 2, 1) := by decide +kernel
theorem dX13_shares_5 : decode cX13_shares 5 = .ok (.iconst 0, 1) := by decide +kernel
theorem dX13_shares_6 : decode cX13_shares 6 = .ok (.istore_n 3, 1) := by decide +kernel
theorem dX13_shares_7 : decode cX13_shares 7 = .ok (.iload_n 3, 1) := by decide +kernel
theorem dX13_shares_8 : decode cX13_shares 8 = .ok (.iconst 4, 1) := by decide +kernel
theorem dX13_shares_9 : decode cX13_shares 9 = .ok (.if_icmp .ge 81, 3) := by decide +kernel
theorem dX13_shares_12 : decode cX13_shares 12 = .ok (.aload_n 0, 1) := by decide +kernel
theorem dX13_shares_13 : decode cX13_shares 13 = .ok (.getfield 97, 3) := by decide +kernel
theorem dX13_shares_16 : decode cX13_shares 16 = .ok (.iload_n 3, 1) := by decide +kernel
theorem dX13_shares_17 : decode cX13_shares 17 = .ok (.aload_n 0, 1) := by decide +kernel
theorem dX13_shares_18 : decode cX13_shares 18 = .ok (.getfield 33, 3) := by decide +kernel
theorem dX13_shares_21 : decode cX13_shares 21 = .ok (.iload_n 3, 1) := by decide +kernel
theorem dX13_shares_22 : decode cX13_shares 22 = .ok (.baload, 1) := by decide +kernel
theorem dX13_shares_23 : decode cX13_shares 23 = .ok (.ifCond .eq 20, 3) := by decide +kernel
theorem dX13_shares_26 : decode cX13_shares 26 = .ok (.aload_n 0, 1) := by decide +kernel
theorem dX13_shares_27 : decode cX13_shares 27 = .ok (.iload_n 3, 1) := by decide +kernel
theorem dX13_shares_28 : decode cX13_shares 28 = .ok (.invokevirtual 376, 3) := by decide +kernel
theorem dX13_shares_31 : decode cX13_shares 31 = .ok (.ifCond .eq 12, 3) := by decide +kernel
theorem dX13_shares_34 : decode cX13_shares 34 = .ok (.aload_n 0, 1) := by decide +kernel
theorem dX13_shares_35 : decode cX13_shares 35 = .ok (.getfield 42, 3) := by decide +kernel
theorem dX13_shares_38 : decode cX13_shares 38 = .ok (.iload_n 3, 1) := by decide +kernel
theorem dX13_shares_39 : decode cX13_shares 39 = .ok (.iaload, 1) := by decide +kernel
theorem dX13_shares_40 : decode cX13_shares 40 = .ok (.goto 4, 3) := by decide +kernel
theorem dX13_shares_43 : decode cX13_shares 43 = .ok (.iconst 0, 1) := by decide +kernel
theorem dX13_shares_44 : decode cX13_shares 44 = .ok (.iastore, 1) := by decide +kernel
theorem dX13_shares_45 : decode cX13_shares 45 = .ok (.iload_n 1, 1) := by decide +kernel
theorem dX13_shares_46 : decode cX13_shares 46 = .ok (.aload_n 0, 1) := by decide +kernel
theorem dX13_shares_47 : decode cX13_shares 47 = .ok (.getfield 97, 3) := by decide +kernel
theorem dX13_shares_50 : decode cX13_shares 50 = .ok (.iload_n 3, 1) := by decide +kernel
theorem dX13_shares_51 : decode cX13_shares 51 = .ok (.iaload, 1) := by decide +kernel
theorem dX13_shares_52 : decode cX13_shares 52 = .ok (.isub, 1) := by decide +kernel
theorem dX13_shares_53 : decode cX13_shares 53 = .ok (.istore_n 1, 1) := by decide +kernel
theorem dX13_shares_54 : decode cX13_shares 54 = .ok (.iload_n 2, 1) := by decide +kernel
theorem dX13_shares_55 : decode cX13_shares 55 = .ok (.aload_n 0, 1) := by decide +kernel
theorem dX13_shares_56 : decode cX13_shares 56 = .ok (.getfield 33, 3) := by decide +kernel
theorem dX13_shares_59 : decode cX13_shares 59 = .ok (.iload_n 3, 1) := by decide +kernel
theorem dX13_shares_60 : decode cX13_shares 60 = .ok (.baload, 1) := by decide +kernel
theorem dX13_shares_61 : decode cX13_shares 61 = .ok (.ifCond .eq 20, 3) := by decide +kernel
theorem dX13_shares_64 : decode cX13_shares 64 = .ok (.aload_n 0, 1) := by decide +kernel
theorem dX13_shares_65 : decode cX13_shares 65 = .ok (.iload_n 3, 1) := by decide +kernel
theorem dX13_shares_66 : decode cX13_shares 66 = .ok (.invokevirtual 376, 3) := by decide +kernel
theorem dX13_shares_69 : decode cX13_shares 69 = .ok (.ifCond .ne 12, 3) := by decide +kernel
theorem dX13_shares_72 : decode cX13_shares 72 = .ok (.aload_n 0, 1) := by decide +kernel
theorem dX13_shares_73 : decode cX13_shares 73 = .ok (.getfield 36, 3) := by decide +kernel
theorem dX13_shares_76 : decode cX13_shares 76 = .ok (.iload_n 3, 1) := by decide +kernel
theorem dX13_shares_77 : decode cX13_shares 77 = .ok (.iaload, 1) := by decide +kernel
theorem dX13_shares_78 : decode cX13_shares 78 = .ok (.goto 4, 3) := by decide +kernel
theorem dX13_shares_81 : decode cX13_shares 81 = .ok (.iconst 0, 1) := by decide +kernel
theorem dX13_shares_82 : decode cX13_shares 82 = .ok (.iadd, 1) := by decide +kernel
theorem dX13_shares_83 : decode cX13_shares 83 = .ok (.istore_n 2, 1) := by decide +kernel
theorem dX13_shares_84 : decode cX13_shares 84 = .ok (.iinc 3 1, 3) := by decide +kernel
theorem dX13_shares_87 : decode cX13_shares 87 = .ok (.goto (-80), 3) := by decide +kernel
theorem dX13_shares_90 : decode cX13_shares 90 = .ok (.iload_n 1, 1) := by decide +kernel
theorem dX13_shares_91 : decode cX13_shares 91 = .ok (.iconst 0, 1) := by decide +kernel
theorem dX13_shares_92 : decode cX13_shares 92 = .ok (.invokestatic 315, 3) := by decide +kernel
theorem dX13_shares_95 : decode cX13_shares 95 = .ok (.istore_n 1, 1) := by decide +kernel
theorem dX13_shares_96 : decode cX13_shares 96 = .ok (.iload_n 1, 1) := by decide +kernel
theorem dX13_shares_97 : decode cX13_shares 97 = .ok (.istore_n 3, 1) := by decide +kernel
theorem dX13_shares_98 : decode cX13_shares 98 = .ok (.iconst 0, 1) := by decide +kernel
theorem dX13_shares_99 : decode cX13_shares 99 = .ok (.istore 4, 2) := by decide +kernel
theorem dX13_shares_101 : decode cX13_shares 101 = .ok (.iload 4, 2) := by decide +kernel
theorem dX13_shares_103 : decode cX13_shares 103 = .ok (.iconst 4, 1) := by decide +kernel
theorem dX13_shares_104 : decode cX13_shares 104 = .ok (.if_icmp .ge 56, 3) := by decide +kernel
theorem dX13_shares_107 : decode cX13_shares 107 = .ok (.aload_n 0, 1) := by decide +kernel
theorem dX13_shares_108 : decode cX13_shares 108 = .ok (.getfield 33, 3) := by decide +kernel
theorem dX13_shares_111 : decode cX13_shares 111 = .ok (.iload 4, 2) := by decide +kernel
theorem dX13_shares_113 : decode cX13_shares 113 = .ok (.baload, 1) := by decide +kernel
theorem dX13_shares_114 : decode cX13_shares 114 = .ok (.ifCond .eq 40, 3) := by decide +kernel
theorem dX13_shares_117 : decode cX13_shares 117 = .ok (.aload_n 0, 1) := by decide +kernel
theorem dX13_shares_118 : decode cX13_shares 118 = .ok (.iload 4, 2) := by decide +kernel
theorem dX13_shares_120 : decode cX13_shares 120 = .ok (.invokevirtual 376, 3) := by decide +kernel
theorem dX13_shares_123 : decode cX13_shares 123 = .ok (.ifCond .ne 31, 3) := by decide +kernel
theorem dX13_shares_126 : decode cX13_shares 126 = .ok (.aload_n 0, 1) := by decide +kernel
theorem dX13_shares_127 : decode cX13_shares 127 = .ok (.getfield 97, 3) := by decide +kernel
theorem dX13_shares_130 : decode cX13_shares 130 = .ok (.iload 4, 2) := by decide +kernel
theorem dX13_shares_132 : decode cX13_shares 132 = .ok (.iload_n 1, 1) := by decide +kernel
theorem dX13_shares_133 : decode cX13_shares 133 = .ok (.aload_n 0, 1) := by decide +kernel
theorem dX13_shares_134 : decode cX13_shares 134 = .ok (.getfield 36, 3) := by decide +kernel
theorem dX13_shares_137 : decode cX13_shares 137 = .ok (.iload 4, 2) := by decide +kernel
theorem dX13_shares_139 : decode cX13_shares 139 = .ok (.iaload, 1) := by decide +kernel
theorem dX13_shares_140 : decode cX13_shares 140 = .ok (.imul, 1) := by decide +kernel
theorem dX13_shares_141 : decode cX13_shares 141 = .ok (.iload_n 2, 1) := by decide +kernel
theorem dX13_shares_142 : decode cX13_shares 142 = .ok (.idiv, 1) := by decide +kernel
theorem dX13_shares_143 : decode cX13_shares 143 = .ok (.iastore, 1) := by decide +kernel
theorem dX13_shares_144 : decode cX13_shares 144 = .ok (.iload_n 3, 1) := by decide +kernel
theorem dX13_shares_145 : decode cX13_shares 145 = .ok (.aload_n 0, 1) := by decide +kernel
theorem dX13_shares_146 : decode cX13_shares 146 = .ok (.getfield 97, 3) := by decide +kernel
theorem dX13_shares_149 : decode cX13_shares 149 = .ok (.iload 4, 2) := by decide +kernel
theorem dX13_shares_151 : decode cX13_shares 151 = .ok (.iaload, 1) := by decide +kernel
theorem dX13_shares_152 : decode cX13_shares 152 = .ok (.isub, 1) := by decide +kernel
theorem dX13_shares_153 : decode cX13_shares 153 = .ok (.istore_n 3, 1) := by decide +kernel
theorem dX13_shares_154 : decode cX13_shares 154 = .ok (.iinc 4 1, 3) := by decide +kernel
theorem dX13_shares_157 : decode cX13_shares 157 = .ok (.goto (-56), 3) := by decide +kernel
theorem dX13_shares_160 : decode cX13_shares 160 = .ok (.iconst 0, 1) := by decide +kernel
theorem dX13_shares_161 : decode cX13_shares 161 = .ok (.istore 4, 2) := by decide +kernel
theorem dX13_shares_163 : decode cX13_shares 163 = .ok (.iload 4, 2) := by decide +kernel
theorem dX13_shares_165 : decode cX13_shares 165 = .ok (.iconst 4, 1) := by decide +kernel
theorem dX13_shares_166 : decode cX13_shares 166 = .ok (.if_icmp .ge 72, 3) := by decide +kernel
theorem dX13_shares_169 : decode cX13_shares 169 = .ok (.aload_n 0, 1) := by decide +kernel
theorem dX13_shares_170 : decode cX13_shares 170 = .ok (.getfield 33, 3) := by decide +kernel
theorem dX13_shares_173 : decode cX13_shares 173 = .ok (.iload 4, 2) := by decide +kernel
theorem dX13_shares_175 : decode cX13_shares 175 = .ok (.baload, 1) := by decide +kernel
theorem dX13_shares_176 : decode cX13_shares 176 = .ok (.ifCond .eq 20, 3) := by decide +kernel
theorem dX13_shares_179 : decode cX13_shares 179 = .ok (.aload_n 0, 1) := by decide +kernel
theorem dX13_shares_180 : decode cX13_shares 180 = .ok (.iload 4, 2) := by decide +kernel
theorem dX13_shares_182 : decode cX13_shares 182 = .ok (.invokevirtual 376, 3) := by decide +kernel
theorem dX13_shares_185 : decode cX13_shares 185 = .ok (.ifCond .ne 11, 3) := by decide +kernel
theorem dX13_shares_188 : decode cX13_shares 188 = .ok (.iload_n 3, 1) := by decide +kernel
theorem dX13_shares_189 : decode cX13_shares 189 = .ok (.ifCond .le 7, 3) := by decide +kernel
theorem dX13_shares_192 : decode cX13_shares 192 = .ok (.iconst 1, 1) := by decide +kernel
theorem dX13_shares_193 : decode cX13_shares 193 = .ok (.goto 4, 3) := by decide +kernel
theorem dX13_shares_196 : decode cX13_shares 196 = .ok (.iconst 0, 1) := by decide +kernel
theorem dX13_shares_197 : decode cX13_shares 197 = .ok (.istore 5, 2) := by decide +kernel
theorem dX13_shares_199 : decode cX13_shares 199 = .ok (.aload_n 0, 1) := by decide +kernel
theorem dX13_shares_200 : decode cX13_shares 200 = .ok (.getfield 97, 3) := by decide +kernel
theorem dX13_shares_203 : decode cX13_shares 203 = .ok (.iload 4, 2) := by decide +kernel
theorem dX13_shares_205 : decode cX13_shares 205 = .ok (.dup2, 1) := by decide +kernel
theorem dX13_shares_206 : decode cX13_shares 206 = .ok (.iaload, 1) := by decide +kernel
theorem dX13_shares_207 : decode cX13_shares 207 = .ok (.iload 5, 2) := by decide +kernel
theorem dX13_shares_209 : decode cX13_shares 209 = .ok (.ifCond .eq 7, 3) := by decide +kernel
theorem dX13_shares_212 : decode cX13_shares 212 = .ok (.iconst 1, 1) := by decide +kernel
theorem dX13_shares_213 : decode cX13_shares 213 = .ok (.goto 4, 3) := by decide +kernel
theorem dX13_shares_216 : decode cX13_shares 216 = .ok (.iconst 0, 1) := by decide +kernel
theorem dX13_shares_217 : decode cX13_shares 217 = .ok (.iadd, 1) := by decide +kernel
theorem dX13_shares_218 : decode cX13_shares 218 = .ok (.iastore, 1) := by decide +kernel
theorem dX13_shares_219 : decode cX13_shares 219 = .ok (.iload_n 3, 1) := by decide +kernel
theorem dX13_shares_220 : decode cX13_shares 220 = .ok (.iload 5, 2) := by decide +kernel
theorem dX13_shares_222 : decode cX13_shares 222 = .ok (.ifCond .eq 7, 3) := by decide +kernel
theorem dX13_shares_225 : decode cX13_shares 225 = .ok (.iconst 1, 1) := by decide +kernel
theorem dX13_shares_226 : decode cX13_shares 226 = .ok (.goto 4, 3) := by decide +kernel
theorem dX13_shares_229 : decode cX13_shares 229 = .ok (.iconst 0, 1) := by decide +kernel
theorem dX13_shares_230 : decode cX13_shares 230 = .ok (.isub, 1) := by decide +kernel
theorem dX13_shares_231 : decode cX13_shares 231 = .ok (.istore_n 3, 1) := by decide +kernel
theorem dX13_shares_232 : decode cX13_shares 232 = .ok (.iinc 4 1, 3) := by decide +kernel
theorem dX13_shares_235 : decode cX13_shares 235 = .ok (.goto (-72), 3) := by decide +kernel
theorem dX13_shares_238 : decode cX13_shares 238 = .ok (.aload_n 0, 1) := by decide +kernel
theorem dX13_shares_239 : decode cX13_shares 239 = .ok (.invokevirtual 379, 3) := by decide +kernel
theorem dX13_shares_242 : decode cX13_shares 242 = .ok (.iconst (-1), 1) := by decide +kernel
theorem dX13_shares_243 : decode cX13_shares 243 = .ok (.if_icmp .eq 44, 3) := by decide +kernel
theorem dX13_shares_246 : decode cX13_shares 246 = .ok (.aload_n 0, 1) := by decide +kernel
theorem dX13_shares_247 : decode cX13_shares 247 = .ok (.invokevirtual 383, 3) := by decide +kernel
theorem dX13_shares_250 : decode cX13_shares 250 = .ok (.iconst (-1), 1) := by decide +kernel
theorem dX13_shares_251 : decode cX13_shares 251 = .ok (.if_icmp .eq 36, 3) := by decide +kernel
theorem dX13_shares_254 : decode cX13_shares 254 = .ok (.aload_n 0, 1) := by decide +kernel
theorem dX13_shares_255 : decode cX13_shares 255 = .ok (.invokevirtual 379, 3) := by decide +kernel
theorem dX13_shares_258 : decode cX13_shares 258 = .ok (.istore 4, 2) := by decide +kernel
theorem dX13_shares_260 : decode cX13_shares 260 = .ok (.aload_n 0, 1) := by decide +kernel
theorem dX13_shares_261 : decode cX13_shares 261 = .ok (.getfield 97, 3) := by decide +kernel
theorem dX13_shares_264 : decode cX13_shares 264 = .ok (.aload_n 0, 1) := by decide +kernel
theorem dX13_shares_265 : decode cX13_shares 265 = .ok (.invokevirtual 383, 3) := by decide +kernel
theorem dX13_shares_268 : decode cX13_shares 268 = .ok (.dup2, 1) := by decide +kernel
theorem dX13_shares_269 : decode cX13_shares 269 = .ok (.iaload, 1) := by decide +kernel
theorem dX13_shares_270 : decode cX13_shares 270 = .ok (.iconst 1, 1) := by decide +kernel
theorem dX13_shares_271 : decode cX13_shares 271 = .ok (.isub, 1) := by decide +kernel
theorem dX13_shares_272 : decode cX13_shares 272 = .ok (.iastore, 1) := by decide +kernel
theorem dX13_shares_273 : decode cX13_shares 273 = .ok (.aload_n 0, 1) := by decide +kernel
theorem dX13_shares_274 : decode cX13_shares 274 = .ok (.getfield 97, 3) := by decide +kernel
theorem dX13_shares_277 : decode cX13_shares 277 = .ok (.iload 4, 2) := by decide +kernel
theorem dX13_shares_279 : decode cX13_shares 279 = .ok (.dup2, 1) := by decide +kernel
theorem dX13_shares_280 : decode cX13_shares 280 = .ok (.iaload, 1) := by decide +kernel
theorem dX13_shares_281 : decode cX13_shares 281 = .ok (.iconst 1, 1) := by decide +kernel
theorem dX13_shares_282 : decode cX13_shares 282 = .ok (.iadd, 1) := by decide +kernel
theorem dX13_shares_283 : decode cX13_shares 283 = .ok (.iastore, 1) := by decide +kernel
theorem dX13_shares_284 : decode cX13_shares 284 = .ok (.goto (-46), 3) := by decide +kernel
theorem dX13_shares_287 : decode cX13_shares 287 = .ok (.return_, 1) := by decide +kernel
theorem dX13_hasRoom_0 : decode cX13_hasRoom 0 = .ok (.iconst 0, 1) := by decide +kernel
theorem dX13_hasRoom_1 : decode cX13_hasRoom 1 = .ok (.istore_n 1, 1) := by decide +kernel
theorem dX13_hasRoom_2 : decode cX13_hasRoom 2 = .ok (.iconst 0, 1) := by decide +kernel
theorem dX13_hasRoom_3 : decode cX13_hasRoom 3 = .ok (.istore_n 2, 1) := by decide +kernel
theorem dX13_hasRoom_4 : decode cX13_hasRoom 4 = .ok (.iload_n 2, 1) := by decide +kernel
theorem dX13_hasRoom_5 : decode cX13_hasRoom 5 = .ok (.iconst 4, 1) := by decide +kernel
theorem dX13_hasRoom_6 : decode cX13_hasRoom 6 = .ok (.if_icmp .ge 50, 3) := by decide +kernel
theorem dX13_hasRoom_9 : decode cX13_hasRoom 9 = .ok (.iload_n 1, 1) := by decide +kernel
theorem dX13_hasRoom_10 : decode cX13_hasRoom 10 = .ok (.aload_n 0, 1) := by decide +kernel
theorem dX13_hasRoom_11 : decode cX13_hasRoom 11 = .ok (.getfield 33, 3) := by decide +kernel
theorem dX13_hasRoom_14 : decode cX13_hasRoom 14 = .ok (.iload_n 2, 1) := by decide +kernel
theorem dX13_hasRoom_15 : decode cX13_hasRoom 15 = .ok (.baload, 1) := by decide +kernel
theorem dX13_hasRoom_16 : decode cX13_hasRoom 16 = .ok (.ifCond .ne 7, 3) := by decide +kernel
theorem dX13_hasRoom_19 : decode cX13_hasRoom 19 = .ok (.iconst 0, 1) := by decide +kernel
theorem dX13_hasRoom_20 : decode cX13_hasRoom 20 = .ok (.goto 28, 3) := by decide +kernel
theorem dX13_hasRoom_23 : decode cX13_hasRoom 23 = .ok (.aload_n 0, 1) := by decide +kernel
theorem dX13_hasRoom_24 : decode cX13_hasRoom 24 = .ok (.getfield 42, 3) := by decide +kernel
theorem dX13_hasRoom_27 : decode cX13_hasRoom 27 = .ok (.iload_n 2, 1) := by decide +kernel
theorem dX13_hasRoom_28 : decode cX13_hasRoom 28 = .ok (.iaload, 1) := by decide +kernel
theorem dX13_hasRoom_29 : decode cX13_hasRoom 29 = .ok (.iconst (-1), 1) := by decide +kernel
theorem dX13_hasRoom_30 : decode cX13_hasRoom 30 = .ok (.if_icmp .ne 12, 3) := by decide +kernel
theorem dX13_hasRoom_33 : decode cX13_hasRoom 33 = .ok (.aload_n 0, 1) := by decide +kernel
theorem dX13_hasRoom_34 : decode cX13_hasRoom 34 = .ok (.getfield 39, 3) := by decide +kernel
theorem dX13_hasRoom_37 : decode cX13_hasRoom 37 = .ok (.iload_n 2, 1) := by decide +kernel
theorem dX13_hasRoom_38 : decode cX13_hasRoom 38 = .ok (.iaload, 1) := by decide +kernel
theorem dX13_hasRoom_39 : decode cX13_hasRoom 39 = .ok (.goto 9, 3) := by decide +kernel
theorem dX13_hasRoom_42 : decode cX13_hasRoom 42 = .ok (.aload_n 0, 1) := by decide +kernel
theorem dX13_hasRoom_43 : decode cX13_hasRoom 43 = .ok (.getfield 42, 3) := by decide +kernel
theorem dX13_hasRoom_46 : decode cX13_hasRoom 46 = .ok (.iload_n 2, 1) := by decide +kernel
theorem dX13_hasRoom_47 : decode cX13_hasRoom 47 = .ok (.iaload, 1) := by decide +kernel
theorem dX13_hasRoom_48 : decode cX13_hasRoom 48 = .ok (.iadd, 1) := by decide +kernel
theorem dX13_hasRoom_49 : decode cX13_hasRoom 49 = .ok (.istore_n 1, 1) := by decide +kernel
theorem dX13_hasRoom_50 : decode cX13_hasRoom 50 = .ok (.iinc 2 1, 3) := by decide +kernel
theorem dX13_hasRoom_53 : decode cX13_hasRoom 53 = .ok (.goto (-49), 3) := by decide +kernel
theorem dX13_hasRoom_56 : decode cX13_hasRoom 56 = .ok (.iload_n 1, 1) := by decide +kernel
theorem dX13_hasRoom_57 : decode cX13_hasRoom 57 = .ok (.bipush 24, 2) := by decide +kernel
theorem dX13_hasRoom_59 : decode cX13_hasRoom 59 = .ok (.if_icmp .gt 7, 3) := by decide +kernel
theorem dX13_hasRoom_62 : decode cX13_hasRoom 62 = .ok (.iconst 1, 1) := by decide +kernel
theorem dX13_hasRoom_63 : decode cX13_hasRoom 63 = .ok (.goto 4, 3) := by decide +kernel
theorem dX13_hasRoom_66 : decode cX13_hasRoom 66 = .ok (.iconst 0, 1) := by decide +kernel
theorem dX13_hasRoom_67 : decode cX13_hasRoom 67 = .ok (.ireturn, 1) := by decide +kernel
theorem dX13_open_0 : decode cX13_open 0 = .ok (.iload_n 1, 1) := by decide +kernel
theorem dX13_open_1 : decode cX13_open 1 = .ok (.invokestatic 236, 3) := by decide +kernel
theorem dX13_open_4 : decode cX13_open 4 = .ok (.istore_n 2, 1) := by decide +kernel
theorem dX13_open_5 : decode cX13_open 5 = .ok (.iload_n 2, 1) := by decide +kernel
theorem dX13_open_6 : decode cX13_open 6 = .ok (.ifCond .eq 16, 3) := by decide +kernel
theorem dX13_open_9 : decode cX13_open 9 = .ok (.aload_n 0, 1) := by decide +kernel
theorem dX13_open_10 : decode cX13_open 10 = .ok (.getfield 33, 3) := by decide +kernel
theorem dX13_open_13 : decode cX13_open 13 = .ok (.iload_n 1, 1) := by decide +kernel
theorem dX13_open_14 : decode cX13_open 14 = .ok (.baload, 1) := by decide +kernel
theorem dX13_open_15 : decode cX13_open 15 = .ok (.ifCond .ne 7, 3) := by decide +kernel
theorem dX13_open_18 : decode cX13_open 18 = .ok (.iconst 1, 1) := by decide +kernel
theorem dX13_open_19 : decode cX13_open 19 = .ok (.goto 4, 3) := by decide +kernel
theorem dX13_open_22 : decode cX13_open 22 = .ok (.iconst 0, 1) := by decide +kernel
theorem dX13_open_23 : decode cX13_open 23 = .ok (.istore_n 3, 1) := by decide +kernel
theorem dX13_open_24 : decode cX13_open 24 = .ok (.iload_n 3, 1) := by decide +kernel
theorem dX13_open_25 : decode cX13_open 25 = .ok (.ifCond .eq 22, 3) := by decide +kernel
theorem dX13_open_28 : decode cX13_open 28 = .ok (.aload_n 0, 1) := by decide +kernel
theorem dX13_open_29 : decode cX13_open 29 = .ok (.getfield 33, 3) := by decide +kernel
theorem dX13_open_32 : decode cX13_open 32 = .ok (.iload_n 1, 1) := by decide +kernel
theorem dX13_open_33 : decode cX13_open 33 = .ok (.iconst 1, 1) := by decide +kernel
theorem dX13_open_34 : decode cX13_open 34 = .ok (.bastore, 1) := by decide +kernel
theorem dX13_open_35 : decode cX13_open 35 = .ok (.aload_n 0, 1) := by decide +kernel
theorem dX13_open_36 : decode cX13_open 36 = .ok (.invokevirtual 386, 3) := by decide +kernel
theorem dX13_open_39 : decode cX13_open 39 = .ok (.istore_n 3, 1) := by decide +kernel
theorem dX13_open_40 : decode cX13_open 40 = .ok (.aload_n 0, 1) := by decide +kernel
theorem dX13_open_41 : decode cX13_open 41 = .ok (.getfield 33, 3) := by decide +kernel
theorem dX13_open_44 : decode cX13_open 44 = .ok (.iload_n 1, 1) := by decide +kernel
theorem dX13_open_45 : decode cX13_open 45 = .ok (.iload_n 3, 1) := by decide +kernel
theorem dX13_open_46 : decode cX13_open 46 = .ok (.bastore, 1) := by decide +kernel
theorem dX13_open_47 : decode cX13_open 47 = .ok (.aload_n 0, 1) := by decide +kernel
theorem dX13_open_48 : decode cX13_open 48 = .ok (.iload_n 2, 1) := by decide +kernel
theorem dX13_open_49 : decode cX13_open 49 = .ok (.ifCond .ne 7, 3) := by decide +kernel
theorem dX13_open_52 : decode cX13_open 52 = .ok (.iconst 1, 1) := by decide +kernel
theorem dX13_open_53 : decode cX13_open 53 = .ok (.goto 12, 3) := by decide +kernel
theorem dX13_open_56 : decode cX13_open 56 = .ok (.iload_n 3, 1) := by decide +kernel
theorem dX13_open_57 : decode cX13_open 57 = .ok (.ifCond .ne 7, 3) := by decide +kernel
theorem dX13_open_60 : decode cX13_open 60 = .ok (.iconst 2, 1) := by decide +kernel
theorem dX13_open_61 : decode cX13_open 61 = .ok (.goto 4, 3) := by decide +kernel
theorem dX13_open_64 : decode cX13_open 64 = .ok (.iconst 0, 1) := by decide +kernel
theorem dX13_open_65 : decode cX13_open 65 = .ok (.invokevirtual 195, 3) := by decide +kernel
theorem dX13_open_68 : decode cX13_open 68 = .ok (.ifCond .ne 5, 3) := by decide +kernel
theorem dX13_open_71 : decode cX13_open 71 = .ok (.iconst 0, 1) := by decide +kernel
theorem dX13_open_72 : decode cX13_open 72 = .ok (.ireturn, 1) := by decide +kernel
theorem dX13_open_73 : decode cX13_open 73 = .ok (.aload_n 0, 1) := by decide +kernel
theorem dX13_open_74 : decode cX13_open 74 = .ok (.invokevirtual 181, 3) := by decide +kernel
theorem dX13_open_77 : decode cX13_open 77 = .ok (.aload_n 0, 1) := by decide +kernel
theorem dX13_open_78 : decode cX13_open 78 = .ok (.getfield 97, 3) := by decide +kernel
theorem dX13_open_81 : decode cX13_open 81 = .ok (.iload_n 1, 1) := by decide +kernel
theorem dX13_open_82 : decode cX13_open 82 = .ok (.iaload, 1) := by decide +kernel
theorem dX13_open_83 : decode cX13_open 83 = .ok (.ireturn, 1) := by decide +kernel
theorem dX13_opened_0 : decode cX13_opened 0 = .ok (.iconst 0, 1) := by decide +kernel
theorem dX13_opened_1 : decode cX13_opened 1 = .ok (.istore_n 1, 1) := by decide +kernel
theorem dX13_opened_2 : decode cX13_opened 2 = .ok (.iconst 0, 1) := by decide +kernel
theorem dX13_opened_3 : decode cX13_opened 3 = .ok (.istore_n 2, 1) := by decide +kernel
theorem dX13_opened_4 : decode cX13_opened 4 = .ok (.iload_n 2, 1) := by decide +kernel
theorem dX13_opened_5 : decode cX13_opened 5 = .ok (.iconst 4, 1) := by decide +kernel
theorem dX13_opened_6 : decode cX13_opened 6 = .ok (.if_icmp .ge 26, 3) := by decide +kernel
theorem dX13_opened_9 : decode cX13_opened 9 = .ok (.iload_n 1, 1) := by decide +kernel
theorem dX13_opened_10 : decode cX13_opened 10 = .ok (.aload_n 0, 1) := by decide +kernel
theorem dX13_opened_11 : decode cX13_opened 11 = .ok (.getfield 33, 3) := by decide +kernel
theorem dX13_opened_14 : decode cX13_opened 14 = .ok (.iload_n 2, 1) := by decide +kernel
theorem dX13_opened_15 : decode cX13_opened 15 = .ok (.baload, 1) := by decide +kernel
theorem dX13_opened_16 : decode cX13_opened 16 = .ok (.ifCond .eq 7, 3) := by decide +kernel
theorem dX13_opened_19 : decode cX13_opened 19 = .ok (.iconst 1, 1) := by decide +kernel
theorem dX13_opened_20 : decode cX13_opened 20 = .ok (.goto 4, 3) := by decide +kernel
theorem dX13_opened_23 : decode cX13_opened 23 = .ok (.iconst 0, 1) := by decide +kernel
theorem dX13_opened_24 : decode cX13_opened 24 = .ok (.iadd, 1) := by decide +kernel
theorem dX13_opened_25 : decode cX13_opened 25 = .ok (.istore_n 1, 1) := by decide +kernel
theorem dX13_opened_26 : decode cX13_opened 26 = .ok (.iinc 2 1, 3) := by decide +kernel
theorem dX13_opened_29 : decode cX13_opened 29 = .ok (.goto (-25), 3) := by decide +kernel
theorem dX13_opened_32 : decode cX13_opened 32 = .ok (.iload_n 1, 1) := by decide +kernel
theorem dX13_opened_33 : decode cX13_opened 33 = .ok (.ireturn, 1) := by decide +kernel
theorem dX13_close_0 : decode cX13_close 0 = .ok (.iload_n 1, 1) := by decide +kernel
theorem dX13_close_1 : decode cX13_close 1 = .ok (.invokestatic 236, 3) := by decide +kernel
theorem dX13_close_4 : decode cX13_close 4 = .ok (.istore_n 2, 1) := by decide +kernel
theorem dX13_close_5 : decode cX13_close 5 = .ok (.aload_n 0, 1) := by decide +kernel
theorem dX13_close_6 : decode cX13_close 6 = .ok (.iload_n 2, 1) := by decide +kernel
theorem dX13_close_7 : decode cX13_close 7 = .ok (.ifCond .ne 7, 3) := by decide +kernel
theorem dX13_close_10 : decode cX13_close 10 = .ok (.iconst 1, 1) := by decide +kernel
theorem dX13_close_11 : decode cX13_close 11 = .ok (.goto 25, 3) := by decide +kernel
theorem dX13_close_14 : decode cX13_close 14 = .ok (.aload_n 0, 1) := by decide +kernel
theorem dX13_close_15 : decode cX13_close 15 = .ok (.getfield 33, 3) := by decide +kernel
theorem dX13_close_18 : decode cX13_close 18 = .ok (.iload_n 1, 1) := by decide +kernel
theorem dX13_close_19 : decode cX13_close 19 = .ok (.baload, 1) := by decide +kernel
theorem dX13_close_20 : decode cX13_close 20 = .ok (.ifCond .eq 11, 3) := by decide +kernel
theorem dX13_close_23 : decode cX13_close 23 = .ok (.aload_n 0, 1) := by decide +kernel
theorem dX13_close_24 : decode cX13_close 24 = .ok (.invokevirtual 390, 3) := by decide +kernel
theorem dX13_close_27 : decode cX13_close 27 = .ok (.iconst 1, 1) := by decide +kernel
theorem dX13_close_28 : decode cX13_close 28 = .ok (.if_icmp .ne 7, 3) := by decide +kernel
theorem dX13_close_31 : decode cX13_close 31 = .ok (.iconst 2, 1) := by decide +kernel
theorem dX13_close_32 : decode cX13_close 32 = .ok (.goto 4, 3) := by decide +kernel
theorem dX13_close_35 : decode cX13_close 35 = .ok (.iconst 0, 1) := by decide +kernel
theorem dX13_close_36 : decode cX13_close 36 = .ok (.invokevirtual 195, 3) := by decide +kernel
theorem dX13_close_39 : decode cX13_close 39 = .ok (.ifCond .ne 5, 3) := by decide +kernel
theorem dX13_close_42 : decode cX13_close 42 = .ok (.iconst 0, 1) := by decide +kernel
theorem dX13_close_43 : decode cX13_close 43 = .ok (.ireturn, 1) := by decide +kernel
theorem dX13_close_44 : decode cX13_close 44 = .ok (.aload_n 0, 1) := by decide +kernel
theorem dX13_close_45 : decode cX13_close 45 = .ok (.getfield 33, 3) := by decide +kernel
theorem dX13_close_48 : decode cX13_close 48 = .ok (.iload_n 1, 1) := by decide +kernel
theorem dX13_close_49 : decode cX13_close 49 = .ok (.iconst 0, 1) := by decide +kernel
theorem dX13_close_50 : decode cX13_close 50 = .ok (.bastore, 1) := by decide +kernel
theorem dX13_close_51 : decode cX13_close 51 = .ok (.aload_n 0, 1) := by decide +kernel
theorem dX13_close_52 : decode cX13_close 52 = .ok (.invokevirtual 181, 3) := by decide +kernel
theorem dX13_close_55 : decode cX13_close 55 = .ok (.aload_n 0, 1) := by decide +kernel
theorem dX13_close_56 : decode cX13_close 56 = .ok (.invokevirtual 390, 3) := by decide +kernel
theorem dX13_close_59 : decode cX13_close 59 = .ok (.ireturn, 1) := by decide +kernel
theorem dX13_share_0 : decode cX13_share 0 = .ok (.iload_n 1, 1) := by decide +kernel
theorem dX13_share_1 : decode cX13_share 1 = .ok (.invokestatic 236, 3) := by decide +kernel
theorem dX13_share_4 : decode cX13_share 4 = .ok (.istore 5, 2) := by decide +kernel
theorem dX13_share_6 : decode cX13_share 6 = .ok (.iload_n 2, 1) := by decide +kernel
theorem dX13_share_7 : decode cX13_share 7 = .ok (.iconst 1, 1) := by decide +kernel
theorem dX13_share_8 : decode cX13_share 8 = .ok (.bipush 9, 2) := by decide +kernel
theorem dX13_share_10 : decode cX13_share 10 = .ok (.invokestatic 187, 3) := by decide +kernel
theorem dX13_share_13 : decode cX13_share 13 = .ok (.ifCond .eq 34, 3) := by decide +kernel
theorem dX13_share_16 : decode cX13_share 16 = .ok (.iload_n 3, 1) := by decide +kernel
theorem dX13_share_17 : decode cX13_share 17 = .ok (.iconst 1, 1) := by decide +kernel
theorem dX13_share_18 : decode cX13_share 18 = .ok (.bipush 8, 2) := by decide +kernel
theorem dX13_share_20 : decode cX13_share 20 = .ok (.invokestatic 187, 3) := by decide +kernel
theorem dX13_share_23 : decode cX13_share 23 = .ok (.ifCond .eq 24, 3) := by decide +kernel
theorem dX13_share_26 : decode cX13_share 26 = .ok (.iload 4, 2) := by decide +kernel
theorem dX13_share_28 : decode cX13_share 28 = .ok (.iconst (-1), 1) := by decide +kernel
theorem dX13_share_29 : decode cX13_share 29 = .ok (.if_icmp .eq 14, 3) := by decide +kernel
theorem dX13_share_32 : decode cX13_share 32 = .ok (.iload 4, 2) := by decide +kernel
theorem dX13_share_34 : decode cX13_share 34 = .ok (.iconst 1, 1) := by decide +kernel
theorem dX13_share_35 : decode cX13_share 35 = .ok (.bipush 16, 2) := by decide +kernel
theorem dX13_share_37 : decode cX13_share 37 = .ok (.invokestatic 187, 3) := by decide +kernel
theorem dX13_share_40 : decode cX13_share 40 = .ok (.ifCond .eq 7, 3) := by decide +kernel
theorem dX13_share_43 : decode cX13_share 43 = .ok (.iconst 1, 1) := by decide +kernel
theorem dX13_share_44 : decode cX13_share 44 = .ok (.goto 4, 3) := by decide +kernel
theorem dX13_share_47 : decode cX13_share 47 = .ok (.iconst 0, 1) := by decide +kernel
theorem dX13_share_48 : decode cX13_share 48 = .ok (.istore 6, 2) := by decide +kernel
theorem dX13_share_50 : decode cX13_share 50 = .ok (.iload 5, 2) := by decide +kernel
theorem dX13_share_52 : decode cX13_share 52 = .ok (.ifCond .eq 12, 3) := by decide +kernel
theorem dX13_share_55 : decode cX13_share 55 = .ok (.iload 6, 2) := by decide +kernel
theorem dX13_share_57 : decode cX13_share 57 = .ok (.ifCond .eq 7, 3) := by decide +kernel
theorem dX13_share_60 : decode cX13_share 60 = .ok (.iconst 1, 1) := by decide +kernel
theorem dX13_share_61 : decode cX13_share 61 = .ok (.goto 4, 3) := by decide +kernel
theorem dX13_share_64 : decode cX13_share 64 = .ok (.iconst 0, 1) := by decide +kernel
theorem dX13_share_65 : decode cX13_share 65 = .ok (.istore 7, 2) := by decide +kernel
theorem dX13_share_67 : decode cX13_share 67 = .ok (.iload 7, 2) := by decide +kernel
theorem dX13_share_69 : decode cX13_share 69 = .ok (.ifCond .eq 92, 3) := by decide +kernel
theorem dX13_share_72 : decode cX13_share 72 = .ok (.aload_n 0, 1) := by decide +kernel
theorem dX13_share_73 : decode cX13_share 73 = .ok (.getfield 39, 3) := by decide +kernel
theorem dX13_share_76 : decode cX13_share 76 = .ok (.iload_n 1, 1) := by decide +kernel
theorem dX13_share_77 : decode cX13_share 77 = .ok (.iaload, 1) := by decide +kernel
theorem dX13_share_78 : decode cX13_share 78 = .ok (.istore 8, 2) := by decide +kernel
theorem dX13_share_80 : decode cX13_share 80 = .ok (.aload_n 0, 1) := by decide +kernel
theorem dX13_share_81 : decode cX13_share 81 = .ok (.getfield 42, 3) := by decide +kernel
theorem dX13_share_84 : decode cX13_share 84 = .ok (.iload_n 1, 1) := by decide +kernel
theorem dX13_share_85 : decode cX13_share 85 = .ok (.iaload, 1) := by decide +kernel
theorem dX13_share_86 : decode cX13_share 86 = .ok (.istore 9, 2) := by decide +kernel
theorem dX13_share_88 : decode cX13_share 88 = .ok (.aload_n 0, 1) := by decide +kernel
theorem dX13_share_89 : decode cX13_share 89 = .ok (.getfield 39, 3) := by decide +kernel
theorem dX13_share_92 : decode cX13_share 92 = .ok (.iload_n 1, 1) := by decide +kernel
theorem dX13_share_93 : decode cX13_share 93 = .ok (.iload_n 3, 1) := by decide +kernel
theorem dX13_share_94 : decode cX13_share 94 = .ok (.iastore, 1) := by decide +kernel
theorem dX13_share_95 : decode cX13_share 95 = .ok (.aload_n 0, 1) := by decide +kernel
theorem dX13_share_96 : decode cX13_share 96 = .ok (.getfield 42, 3) := by decide +kernel
theorem dX13_share_99 : decode cX13_share 99 = .ok (.iload_n 1, 1) := by decide +kernel
theorem dX13_share_100 : decode cX13_share 100 = .ok (.iload 4, 2) := by decide +kernel
theorem dX13_share_102 : decode cX13_share 102 = .ok (.iastore, 1) := by decide +kernel
theorem dX13_share_103 : decode cX13_share 103 = .ok (.aload_n 0, 1) := by decide +kernel
theorem dX13_share_104 : decode cX13_share 104 = .ok (.getfield 33, 3) := by decide +kernel
theorem dX13_share_107 : decode cX13_share 107 = .ok (.iload_n 1, 1) := by decide +kernel
theorem dX13_share_108 : decode cX13_share 108 = .ok (.baload, 1) := by decide +kernel
theorem dX13_share_109 : decode cX13_share 109 = .ok (.ifCond .eq 10, 3) := by decide +kernel
theorem dX13_share_112 : decode cX13_share 112 = .ok (.aload_n 0, 1) := by decide +kernel
theorem dX13_share_113 : decode cX13_share 113 = .ok (.invokevirtual 386, 3) := by decide +kernel
theorem dX13_share_116 : decode cX13_share 116 = .ok (.ifCond .eq 7, 3) := by decide +kernel
theorem dX13_share_119 : decode cX13_share 119 = .ok (.iconst 1, 1) := by decide +kernel
theorem dX13_share_120 : decode cX13_share 120 = .ok (.goto 4, 3) := by decide +kernel
theorem dX13_share_123 : decode cX13_share 123 = .ok (.iconst 0, 1) := by decide +kernel
theorem dX13_share_124 : decode cX13_share 124 = .ok (.istore 7, 2) := by decide +kernel
theorem dX13_share_126 : decode cX13_share 126 = .ok (.aload_n 0, 1) := by decide +kernel
theorem dX13_share_127 : decode cX13_share 127 = .ok (.getfield 39, 3) := by decide +kernel
theorem dX13_share_130 : decode cX13_share 130 = .ok (.iload_n 1, 1) := by decide +kernel
theorem dX13_share_131 : decode cX13_share 131 = .ok (.iload 7, 2) := by decide +kernel
theorem dX13_share_133 : decode cX13_share 133 = .ok (.ifCond .eq 7, 3) := by decide +kernel
theorem dX13_share_136 : decode cX13_share 136 = .ok (.iload_n 3, 1) := by decide +kernel
theorem dX13_share_137 : decode cX13_share 137 = .ok (.goto 5, 3) := by decide +kernel
theorem dX13_share_140 : decode cX13_share 140 = .ok (.iload 8, 2) := by decide +kernel
theorem dX13_share_142 : decode cX13_share 142 = .ok (.iastore, 1) := by decide +kernel
theorem dX13_share_143 : decode cX13_share 143 = .ok (.aload_n 0, 1) := by decide +kernel
theorem dX13_share_144 : decode cX13_share 144 = .ok (.getfield 42, 3) := by decide +kernel
theorem dX13_share_147 : decode cX13_share 147 = .ok (.iload_n 1, 1) := by decide +kernel
theorem dX13_share_148 : decode cX13_share 148 = .ok (.iload 7, 2) := by decide +kernel
theorem dX13_share_150 : decode cX13_share 150 = .ok (.ifCond .eq 8, 3) := by decide +kernel
theorem dX13_share_153 : decode cX13_share 153 = .ok (.iload 4, 2) := by decide +kernel
theorem dX13_share_155 : decode cX13_share 155 = .ok (.goto 5, 3) := by decide +kernel
theorem dX13_share_158 : decode cX13_share 158 = .ok (.iload 9, 2) := by decide +kernel
theorem dX13_share_160 : decode cX13_share 160 = .ok (.iastore, 1) := by decide +kernel
theorem dX13_share_161 : decode cX13_share 161 = .ok (.aload_n 0, 1) := by decide +kernel
theorem dX13_share_162 : decode cX13_share 162 = .ok (.iload 5, 2) := by decide +kernel
theorem dX13_share_164 : decode cX13_share 164 = .ok (.ifCond .ne 7, 3) := by decide +kernel
theorem dX13_share_167 : decode cX13_share 167 = .ok (.iconst 1, 1) := by decide +kernel
theorem dX13_share_168 : decode cX13_share 168 = .ok (.goto 22, 3) := by decide +kernel
theorem dX13_share_171 : decode cX13_share 171 = .ok (.iload 6, 2) := by decide +kernel
theorem dX13_share_173 : decode cX13_share 173 = .ok (.ifCond .ne 7, 3) := by decide +kernel
theorem dX13_share_176 : decode cX13_share 176 = .ok (.iconst 2, 1) := by decide +kernel
theorem dX13_share_177 : decode cX13_share 177 = .ok (.goto 13, 3) := by decide +kernel
theorem dX13_share_180 : decode cX13_share 180 = .ok (.iload 7, 2) := by decide +kernel
theorem dX13_share_182 : decode cX13_share 182 = .ok (.ifCond .ne 7, 3) := by decide +kernel
theorem dX13_share_185 : decode cX13_share 185 = .ok (.iconst 3, 1) := by decide +kernel
theorem dX13_share_186 : decode cX13_share 186 = .ok (.goto 4, 3) := by decide +kernel
theorem dX13_share_189 : decode cX13_share 189 = .ok (.iconst 0, 1) := by decide +kernel
theorem dX13_share_190 : decode cX13_share 190 = .ok (.invokevirtual 195, 3) := by decide +kernel
theorem dX13_share_193 : decode cX13_share 193 = .ok (.ifCond .ne 5, 3) := by decide +kernel
theorem dX13_share_196 : decode cX13_share 196 = .ok (.iconst 0, 1) := by decide +kernel
theorem dX13_share_197 : decode cX13_share 197 = .ok (.ireturn, 1) := by decide +kernel
theorem dX13_share_198 : decode cX13_share 198 = .ok (.aload_n 0, 1) := by decide +kernel
theorem dX13_share_199 : decode cX13_share 199 = .ok (.getfield 36, 3) := by decide +kernel
theorem dX13_share_202 : decode cX13_share 202 = .ok (.iload_n 1, 1) := by decide +kernel
theorem dX13_share_203 : decode cX13_share 203 = .ok (.iload_n 2, 1) := by decide +kernel
theorem dX13_share_204 : decode cX13_share 204 = .ok (.iastore, 1) := by decide +kernel
theorem dX13_share_205 : decode cX13_share 205 = .ok (.aload_n 0, 1) := by decide +kernel
theorem dX13_share_206 : decode cX13_share 206 = .ok (.invokevirtual 181, 3) := by decide +kernel
theorem dX13_share_209 : decode cX13_share 209 = .ok (.aload_n 0, 1) := by decide +kernel
theorem dX13_share_210 : decode cX13_share 210 = .ok (.getfield 97, 3) := by decide +kernel
theorem dX13_share_213 : decode cX13_share 213 = .ok (.iload_n 1, 1) := by decide +kernel
theorem dX13_share_214 : decode cX13_share 214 = .ok (.iaload, 1) := by decide +kernel
theorem dX13_share_215 : decode cX13_share 215 = .ok (.ireturn, 1) := by decide +kernel
theorem dX13_height_0 : decode cX13_height 0 = .ok (.aload_n 0, 1) := by decide +kernel
theorem dX13_height_1 : decode cX13_height 1 = .ok (.iload_n 1, 1) := by decide +kernel
theorem dX13_height_2 : decode cX13_height 2 = .ok (.invokestatic 236, 3) := by decide +kernel
theorem dX13_height_5 : decode cX13_height 5 = .ok (.ifCond .eq 7, 3) := by decide +kernel
theorem dX13_height_8 : decode cX13_height 8 = .ok (.iconst 0, 1) := by decide +kernel
theorem dX13_height_9 : decode cX13_height 9 = .ok (.goto 4, 3) := by decide +kernel
theorem dX13_height_12 : decode cX13_height 12 = .ok (.iconst 1, 1) := by decide +kernel
theorem dX13_height_13 : decode cX13_height 13 = .ok (.invokevirtual 195, 3) := by decide +kernel
theorem dX13_height_16 : decode cX13_height 16 = .ok (.ifCond .eq 12, 3) := by decide +kernel
theorem dX13_height_19 : decode cX13_height 19 = .ok (.aload_n 0, 1) := by decide +kernel
theorem dX13_height_20 : decode cX13_height 20 = .ok (.getfield 97, 3) := by decide +kernel
theorem dX13_height_23 : decode cX13_height 23 = .ok (.iload_n 1, 1) := by decide +kernel
theorem dX13_height_24 : decode cX13_height 24 = .ok (.iaload, 1) := by decide +kernel
theorem dX13_height_25 : decode cX13_height 25 = .ok (.goto 4, 3) := by decide +kernel
theorem dX13_height_28 : decode cX13_height 28 = .ok (.iconst 0, 1) := by decide +kernel
theorem dX13_height_29 : decode cX13_height 29 = .ok (.ireturn, 1) := by decide +kernel
theorem dX13_visible_0 : decode cX13_visible 0 = .ok (.iload_n 2, 1) := by decide +kernel
theorem dX13_visible_1 : decode cX13_visible 1 = .ok (.istore_n 3, 1) := by decide +kernel
theorem dX13_visible_2 : decode cX13_visible 2 = .ok (.aload_n 0, 1) := by decide +kernel
theorem dX13_visible_3 : decode cX13_visible 3 = .ok (.iload_n 1, 1) := by decide +kernel
theorem dX13_visible_4 : decode cX13_visible 4 = .ok (.iload_n 3, 1) := by decide +kernel
theorem dX13_visible_5 : decode cX13_visible 5 = .ok (.invokevirtual 333, 3) := by decide +kernel
theorem dX13_visible_8 : decode cX13_visible 8 = .ok (.ifCond .eq 9, 3) := by decide +kernel
theorem dX13_visible_11 : decode cX13_visible 11 = .ok (.iinc 3 (-1), 3) := by decide +kernel
theorem dX13_visible_14 : decode cX13_visible 14 = .ok (.goto (-12), 3) := by decide +kernel
theorem dX13_visible_17 : decode cX13_visible 17 = .ok (.iload_n 3, 1) := by decide +kernel
theorem dX13_visible_18 : decode cX13_visible 18 = .ok (.ireturn, 1) := by decide +kernel
theorem dX13_lineNow_0 : decode cX13_lineNow 0 = .ok (.aload_n 0, 1) := by decide +kernel
theorem dX13_lineNow_1 : decode cX13_lineNow 1 = .ok (.iload_n 1, 1) := by decide +kernel
theorem dX13_lineNow_2 : decode cX13_lineNow 2 = .ok (.aload_n 0, 1) := by decide +kernel
theorem dX13_lineNow_3 : decode cX13_lineNow 3 = .ok (.getfield 82, 3) := by decide +kernel
theorem dX13_lineNow_6 : decode cX13_lineNow 6 = .ok (.iload_n 1, 1) := by decide +kernel
theorem dX13_lineNow_7 : decode cX13_lineNow 7 = .ok (.iaload, 1) := by decide +kernel
theorem dX13_lineNow_8 : decode cX13_lineNow 8 = .ok (.invokevirtual 393, 3) := by decide +kernel
theorem dX13_lineNow_11 : decode cX13_lineNow 11 = .ok (.ireturn, 1) := by decide +kernel
theorem dX13_placeNow_0 : decode cX13_placeNow 0 = .ok (.aload_n 0, 1) := by decide +kernel
theorem dX13_placeNow_1 : decode cX13_placeNow 1 = .ok (.iload_n 1, 1) := by decide +kernel
theorem dX13_placeNow_2 : decode cX13_placeNow 2 = .ok (.aload_n 0, 1) := by decide +kernel
theorem dX13_placeNow_3 : decode cX13_placeNow 3 = .ok (.getfield 82, 3) := by decide +kernel
theorem dX13_placeNow_6 : decode cX13_placeNow 6 = .ok (.iload_n 1, 1) := by decide +kernel
theorem dX13_placeNow_7 : decode cX13_placeNow 7 = .ok (.iaload, 1) := by decide +kernel
theorem dX13_placeNow_8 : decode cX13_placeNow 8 = .ok (.invokevirtual 333, 3) := by decide +kernel
theorem dX13_placeNow_11 : decode cX13_placeNow 11 = .ok (.ifCond .eq 7, 3) := by decide +kernel
theorem dX13_placeNow_14 : decode cX13_placeNow 14 = .ok (.iconst 0, 1) := by decide +kernel
theorem dX13_placeNow_15 : decode cX13_placeNow 15 = .ok (.goto 9, 3) := by decide +kernel
theorem dX13_placeNow_18 : decode cX13_placeNow 18 = .ok (.aload_n 0, 1) := by decide +kernel
theorem dX13_placeNow_19 : decode cX13_placeNow 19 = .ok (.getfield 85, 3) := by decide +kernel
theorem dX13_placeNow_22 : decode cX13_placeNow 22 = .ok (.iload_n 1, 1) := by decide +kernel
theorem dX13_placeNow_23 : decode cX13_placeNow 23 = .ok (.iaload, 1) := by decide +kernel
theorem dX13_placeNow_24 : decode cX13_placeNow 24 = .ok (.ireturn, 1) := by decide +kernel
theorem dX13_rowNow_0 : decode cX13_rowNow 0 = .ok (.aload_n 0, 1) := by decide +kernel
theorem dX13_rowNow_1 : decode cX13_rowNow 1 = .ok (.iload_n 1, 1) := by decide +kernel
theorem dX13_rowNow_2 : decode cX13_rowNow 2 = .ok (.aload_n 0, 1) := by decide +kernel
theorem dX13_rowNow_3 : decode cX13_rowNow 3 = .ok (.iload_n 1, 1) := by decide +kernel
theorem dX13_rowNow_4 : decode cX13_rowNow 4 = .ok (.invokevirtual 396, 3) := by decide +kernel
theorem dX13_rowNow_7 : decode cX13_rowNow 7 = .ok (.aload_n 0, 1) := by decide +kernel
theorem dX13_rowNow_8 : decode cX13_rowNow 8 = .ok (.iload_n 1, 1) := by decide +kernel
theorem dX13_rowNow_9 : decode cX13_rowNow 9 = .ok (.invokevirtual 399, 3) := by decide +kernel
theorem dX13_rowNow_12 : decode cX13_rowNow 12 = .ok (.iconst 0, 1) := by decide +kernel
theorem dX13_rowNow_13 : decode cX13_rowNow 13 = .ok (.invokevirtual 364, 3) := by decide +kernel
theorem dX13_rowNow_16 : decode cX13_rowNow 16 = .ok (.ireturn, 1) := by decide +kernel
theorem dX13_columnNow_0 : decode cX13_columnNow 0 = .ok (.aload_n 0, 1) := by decide +kernel
theorem dX13_columnNow_1 : decode cX13_columnNow 1 = .ok (.iload_n 1, 1) := by decide +kernel
theorem dX13_columnNow_2 : decode cX13_columnNow 2 = .ok (.aload_n 0, 1) := by decide +kernel
theorem dX13_columnNow_3 : decode cX13_columnNow 3 = .ok (.iload_n 1, 1) := by decide +kernel
theorem dX13_columnNow_4 : decode cX13_columnNow 4 = .ok (.invokevirtual 396, 3) := by decide +kernel
theorem dX13_columnNow_7 : decode cX13_columnNow 7 = .ok (.aload_n 0, 1) := by decide +kernel
theorem dX13_columnNow_8 : decode cX13_columnNow 8 = .ok (.iload_n 1, 1) := by decide +kernel
theorem dX13_columnNow_9 : decode cX13_columnNow 9 = .ok (.invokevirtual 399, 3) := by decide +kernel
theorem dX13_columnNow_12 : decode cX13_columnNow 12 = .ok (.iconst 0, 1) := by decide +kernel
theorem dX13_columnNow_13 : decode cX13_columnNow 13 = .ok (.invokevirtual 367, 3) := by decide +kernel
theorem dX13_columnNow_16 : decode cX13_columnNow 16 = .ok (.ireturn, 1) := by decide +kernel
theorem dX13_topRow_0 : decode cX13_topRow 0 = .ok (.aload_n 0, 1) := by decide +kernel
theorem dX13_topRow_1 : decode cX13_topRow 1 = .ok (.iload_n 1, 1) := by decide +kernel
theorem dX13_topRow_2 : decode cX13_topRow 2 = .ok (.aload_n 0, 1) := by decide +kernel
theorem dX13_topRow_3 : decode cX13_topRow 3 = .ok (.getfield 91, 3) := by decide +kernel
theorem dX13_topRow_6 : decode cX13_topRow 6 = .ok (.iload_n 1, 1) := by decide +kernel
theorem dX13_topRow_7 : decode cX13_topRow 7 = .ok (.iaload, 1) := by decide +kernel
theorem dX13_topRow_8 : decode cX13_topRow 8 = .ok (.invokevirtual 333, 3) := by decide +kernel
theorem dX13_topRow_11 : decode cX13_topRow 11 = .ok (.istore_n 2, 1) := by decide +kernel
theorem dX13_topRow_12 : decode cX13_topRow 12 = .ok (.aload_n 0, 1) := by decide +kernel
theorem dX13_topRow_13 : decode cX13_topRow 13 = .ok (.iload_n 1, 1) := by decide +kernel
theorem dX13_topRow_14 : decode cX13_topRow 14 = .ok (.aload_n 0, 1) := by decide +kernel
theorem dX13_topRow_15 : decode cX13_topRow 15 = .ok (.iload_n 1, 1) := by decide +kernel
theorem dX13_topRow_16 : decode cX13_topRow 16 = .ok (.aload_n 0, 1) := by decide +kernel
theorem dX13_topRow_17 : decode cX13_topRow 17 = .ok (.getfield 91, 3) := by decide +kernel
theorem dX13_topRow_20 : decode cX13_topRow 20 = .ok (.iload_n 1, 1) := by decide +kernel
theorem dX13_topRow_21 : decode cX13_topRow 21 = .ok (.iaload, 1) := by decide +kernel
theorem dX13_topRow_22 : decode cX13_topRow 22 = .ok (.invokevirtual 393, 3) := by decide +kernel
theorem dX13_topRow_25 : decode cX13_topRow 25 = .ok (.iload_n 2, 1) := by decide +kernel
theorem dX13_topRow_26 : decode cX13_topRow 26 = .ok (.ifCond .eq 7, 3) := by decide +kernel
theorem dX13_topRow_29 : decode cX13_topRow 29 = .ok (.iconst 0, 1) := by decide +kernel
theorem dX13_topRow_30 : decode cX13_topRow 30 = .ok (.goto 9, 3) := by decide +kernel
theorem dX13_topRow_33 : decode cX13_topRow 33 = .ok (.aload_n 0, 1) := by decide +kernel
theorem dX13_topRow_34 : decode cX13_topRow 34 = .ok (.getfield 94, 3) := by decide +kernel
theorem dX13_topRow_37 : decode cX13_topRow 37 = .ok (.iload_n 1, 1) := by decide +kernel
theorem dX13_topRow_38 : decode cX13_topRow 38 = .ok (.iaload, 1) := by decide +kernel
theorem dX13_topRow_39 : decode cX13_topRow 39 = .ok (.iconst 0, 1) := by decide +kernel
theorem dX13_topRow_40 : decode cX13_topRow 40 = .ok (.invokevirtual 364, 3) := by decide +kernel
theorem dX13_topRow_43 : decode cX13_topRow 43 = .ok (.ireturn, 1) := by decide +kernel
theorem dX13_placeOf_0 : decode cX13_placeOf 0 = .ok (.aload_n 0, 1) := by decide +kernel
theorem dX13_placeOf_1 : decode cX13_placeOf 1 = .ok (.iload_n 1, 1) := by decide +kernel
theorem dX13_placeOf_2 : decode cX13_placeOf 2 = .ok (.iload_n 2, 1) := by decide +kernel
theorem dX13_placeOf_3 : decode cX13_placeOf 3 = .ok (.invokevirtual 342, 3) := by decide +kernel
theorem dX13_placeOf_6 : decode cX13_placeOf 6 = .ok (.istore_n 3, 1) := by decide +kernel
theorem dX13_placeOf_7 : decode cX13_placeOf 7 = .ok (.aload_n 0, 1) := by decide +kernel
theorem dX13_placeOf_8 : decode cX13_placeOf 8 = .ok (.iload_n 1, 1) := by decide +kernel
theorem dX13_placeOf_9 : decode cX13_placeOf 9 = .ok (.iload_n 2, 1) := by decide +kernel
theorem dX13_placeOf_10 : decode cX13_placeOf 10 = .ok (.invokevirtual 351, 3) := by decide +kernel
theorem dX13_placeOf_13 : decode cX13_placeOf 13 = .ok (.istore 4, 2) := by decide +kernel
theorem dX13_placeOf_15 : decode cX13_placeOf 15 = .ok (.aload_n 0, 1) := by decide +kernel
theorem dX13_placeOf_16 : decode cX13_placeOf 16 = .ok (.getfield 127, 3) := by decide +kernel
theorem dX13_placeOf_19 : decode cX13_placeOf 19 = .ok (.iload 4, 2) := by decide +kernel
theorem dX13_placeOf_21 : decode cX13_placeOf 21 = .ok (.iaload, 1) := by decide +kernel
theorem dX13_placeOf_22 : decode cX13_placeOf 22 = .ok (.istore 5, 2) := by decide +kernel
theorem dX13_placeOf_24 : decode cX13_placeOf 24 = .ok (.iload 5, 2) := by decide +kernel
theorem dX13_placeOf_26 : decode cX13_placeOf 26 = .ok (.aload_n 0, 1) := by decide +kernel
theorem dX13_placeOf_27 : decode cX13_placeOf 27 = .ok (.getfield 127, 3) := by decide +kernel
theorem dX13_placeOf_30 : decode cX13_placeOf 30 = .ok (.iload 4, 2) := by decide +kernel
theorem dX13_placeOf_32 : decode cX13_placeOf 32 = .ok (.iconst 1, 1) := by decide +kernel
theorem dX13_placeOf_33 : decode cX13_placeOf 33 = .ok (.iadd, 1) := by decide +kernel
theorem dX13_placeOf_34 : decode cX13_placeOf 34 = .ok (.iaload, 1) := by decide +kernel
theorem dX13_placeOf_35 : decode cX13_placeOf 35 = .ok (.if_icmp .ge 28, 3) := by decide +kernel
theorem dX13_placeOf_38 : decode cX13_placeOf 38 = .ok (.aload_n 0, 1) := by decide +kernel
theorem dX13_placeOf_39 : decode cX13_placeOf 39 = .ok (.getfield 106, 3) := by decide +kernel
theorem dX13_placeOf_42 : decode cX13_placeOf 42 = .ok (.iload 5, 2) := by decide +kernel
theorem dX13_placeOf_44 : decode cX13_placeOf 44 = .ok (.iaload, 1) := by decide +kernel
theorem dX13_placeOf_45 : decode cX13_placeOf 45 = .ok (.iconst (-1), 1) := by decide +kernel
theorem dX13_placeOf_46 : decode cX13_placeOf 46 = .ok (.if_icmp .eq 11, 3) := by decide +kernel
theorem dX13_placeOf_49 : decode cX13_placeOf 49 = .ok (.aload_n 0, 1) := by decide +kernel
theorem dX13_placeOf_50 : decode cX13_placeOf 50 = .ok (.getfield 106, 3) := by decide +kernel
theorem dX13_placeOf_53 : decode cX13_placeOf 53 = .ok (.iload 5, 2) := by decide +kernel
theorem dX13_placeOf_55 : decode cX13_placeOf 55 = .ok (.iaload, 1) := by decide +kernel
theorem dX13_placeOf_56 : decode cX13_placeOf 56 = .ok (.ireturn, 1) := by decide +kernel
theorem dX13_placeOf_57 : decode cX13_placeOf 57 = .ok (.iinc 5 1, 3) := by decide +kernel
theorem dX13_placeOf_60 : decode cX13_placeOf 60 = .ok (.goto (-36), 3) := by decide +kernel
theorem dX13_placeOf_63 : decode cX13_placeOf 63 = .ok (.iload 4, 2) := by decide +kernel
theorem dX13_placeOf_65 : decode cX13_placeOf 65 = .ok (.aload_n 0, 1) := by decide +kernel
theorem dX13_placeOf_66 : decode cX13_placeOf 66 = .ok (.getfield 262, 3) := by decide +kernel
theorem dX13_placeOf_69 : decode cX13_placeOf 69 = .ok (.iconst 1, 1) := by decide +kernel
theorem dX13_placeOf_70 : decode cX13_placeOf 70 = .ok (.isub, 1) := by decide +kernel
theorem dX13_placeOf_71 : decode cX13_placeOf 71 = .ok (.if_icmp .ne 12, 3) := by decide +kernel
theorem dX13_placeOf_74 : decode cX13_placeOf 74 = .ok (.aload_n 0, 1) := by decide +kernel
theorem dX13_placeOf_75 : decode cX13_placeOf 75 = .ok (.getfield 13, 3) := by decide +kernel
theorem dX13_placeOf_78 : decode cX13_placeOf 78 = .ok (.iload_n 3, 1) := by decide +kernel
theorem dX13_placeOf_79 : decode cX13_placeOf 79 = .ok (.iaload, 1) := by decide +kernel
theorem dX13_placeOf_80 : decode cX13_placeOf 80 = .ok (.goto 4, 3) := by decide +kernel
theorem dX13_placeOf_83 : decode cX13_placeOf 83 = .ok (.iconst 0, 1) := by decide +kernel
theorem dX13_placeOf_84 : decode cX13_placeOf 84 = .ok (.ireturn, 1) := by decide +kernel
theorem dX13_tops_0 : decode cX13_tops 0 = .ok (.aload_n 0, 1) := by decide +kernel
theorem dX13_tops_1 : decode cX13_tops 1 = .ok (.getfield 94, 3) := by decide +kernel
theorem dX13_tops_4 : decode cX13_tops 4 = .ok (.iload_n 1, 1) := by decide +kernel
theorem dX13_tops_5 : decode cX13_tops 5 = .ok (.aload_n 0, 1) := by decide +kernel
theorem dX13_tops_6 : decode cX13_tops 6 = .ok (.iload_n 1, 1) := by decide +kernel
theorem dX13_tops_7 : decode cX13_tops 7 = .ok (.iload_n 2, 1) := by decide +kernel
theorem dX13_tops_8 : decode cX13_tops 8 = .ok (.invokevirtual 402, 3) := by decide +kernel
theorem dX13_tops_11 : decode cX13_tops 11 = .ok (.iastore, 1) := by decide +kernel
theorem dX13_tops_12 : decode cX13_tops 12 = .ok (.aload_n 0, 1) := by decide +kernel
theorem dX13_tops_13 : decode cX13_tops 13 = .ok (.getfield 91, 3) := by decide +kernel
theorem dX13_tops_16 : decode cX13_tops 16 = .ok (.iload_n 1, 1) := by decide +kernel
theorem dX13_tops_17 : decode cX13_tops 17 = .ok (.aload_n 0, 1) := by decide +kernel
theorem dX13_tops_18 : decode cX13_tops 18 = .ok (.iload_n 1, 1) := by decide +kernel
theorem dX13_tops_19 : decode cX13_tops 19 = .ok (.iload_n 2, 1) := by decide +kernel
theorem dX13_tops_20 : decode cX13_tops 20 = .ok (.invokevirtual 342, 3) := by decide +kernel
theorem dX13_tops_23 : decode cX13_tops 23 = .ok (.iastore, 1) := by decide +kernel
theorem dX13_tops_24 : decode cX13_tops 24 = .ok (.return_, 1) := by decide +kernel
theorem dX13_marginOf_0 : decode cX13_marginOf 0 = .ok (.aload_n 0, 1) := by decide +kernel
theorem dX13_marginOf_1 : decode cX13_marginOf 1 = .ok (.getfield 30, 3) := by decide +kernel
theorem dX13_marginOf_4 : decode cX13_marginOf 4 = .ok (.iload_n 1, 1) := by decide +kernel
theorem dX13_marginOf_5 : decode cX13_marginOf 5 = .ok (.iaload, 1) := by decide +kernel
theorem dX13_marginOf_6 : decode cX13_marginOf 6 = .ok (.aload_n 0, 1) := by decide +kernel
theorem dX13_marginOf_7 : decode cX13_marginOf 7 = .ok (.getfield 97, 3) := by decide +kernel
theorem dX13_marginOf_10 : decode cX13_marginOf 10 = .ok (.iload_n 1, 1) := by decide +kernel
theorem dX13_marginOf_11 : decode cX13_marginOf 11 = .ok (.iaload, 1) := by decide +kernel
theorem dX13_marginOf_12 : decode cX13_marginOf 12 = .ok (.iconst 1, 1) := by decide +kernel
theorem dX13_marginOf_13 : decode cX13_marginOf 13 = .ok (.isub, 1) := by decide +kernel
theorem dX13_marginOf_14 : decode cX13_marginOf 14 = .ok (.iconst 2, 1) := by decide +kernel
theorem dX13_marginOf_15 : decode cX13_marginOf 15 = .ok (.idiv, 1) := by decide +kernel
theorem dX13_marginOf_16 : decode cX13_marginOf 16 = .ok (.invokestatic 216, 3) := by decide +kernel
theorem dX13_marginOf_19 : decode cX13_marginOf 19 = .ok (.ireturn, 1) := by decide +kernel
theorem dX13_looks_0 : decode cX13_looks 0 = .ok (.aload_n 0, 1) := by decide +kernel
theorem dX13_looks_1 : decode cX13_looks 1 = .ok (.iload_n 1, 1) := by decide +kernel
theorem dX13_looks_2 : decode cX13_looks 2 = .ok (.invokevirtual 405, 3) := by decide +kernel
theorem dX13_looks_5 : decode cX13_looks 5 = .ok (.istore_n 2, 1) := by decide +kernel
theorem dX13_looks_6 : decode cX13_looks 6 = .ok (.aload_n 0, 1) := by decide +kernel
theorem dX13_looks_7 : decode cX13_looks 7 = .ok (.iload_n 1, 1) := by decide +kernel
theorem dX13_looks_8 : decode cX13_looks 8 = .ok (.invokevirtual 408, 3) := by decide +kernel
theorem dX13_looks_11 : decode cX13_looks 11 = .ok (.istore_n 3, 1) := by decide +kernel
theorem dX13_looks_12 : decode cX13_looks 12 = .ok (.aload_n 0, 1) := by decide +kernel
theorem dX13_looks_13 : decode cX13_looks 13 = .ok (.iload_n 1, 1) := by decide +kernel
theorem dX13_looks_14 : decode cX13_looks 14 = .ok (.invokevirtual 411, 3) := by decide +kernel
theorem dX13_looks_17 : decode cX13_looks 17 = .ok (.istore 4, 2) := by decide +kernel
theorem dX13_looks_19 : decode cX13_looks 19 = .ok (.iload_n 2, 1) := by decide +kernel
theorem dX13_looks_20 : decode cX13_looks 20 = .ok (.iload_n 3, 1) := by decide +kernel
theorem dX13_looks_21 : decode cX13_looks 21 = .ok (.iload 4, 2) := by decide +kernel
theorem dX13_looks_23 : decode cX13_looks 23 = .ok (.iadd, 1) := by decide +kernel
theorem dX13_looks_24 : decode cX13_looks 24 = .ok (.if_icmp .ge 19, 3) := by decide +kernel
theorem dX13_looks_27 : decode cX13_looks 27 = .ok (.aload_n 0, 1) := by decide +kernel
theorem dX13_looks_28 : decode cX13_looks 28 = .ok (.iload_n 1, 1) := by decide +kernel
theorem dX13_looks_29 : decode cX13_looks 29 = .ok (.iload_n 2, 1) := by decide +kernel
theorem dX13_looks_30 : decode cX13_looks 30 = .ok (.iload 4, 2) := by decide +kernel
theorem dX13_looks_32 : decode cX13_looks 32 = .ok (.isub, 1) := by decide +kernel
theorem dX13_looks_33 : decode cX13_looks 33 = .ok (.iconst 0, 1) := by decide +kernel
theorem dX13_looks_34 : decode cX13_looks 34 = .ok (.invokestatic 315, 3) := by decide +kernel
theorem dX13_looks_37 : decode cX13_looks 37 = .ok (.invokevirtual 414, 3) := by decide +kernel
theorem dX13_looks_40 : decode cX13_looks 40 = .ok (.goto 38, 3) := by decide +kernel
theorem dX13_looks_43 : decode cX13_looks 43 = .ok (.iload_n 2, 1) := by decide +kernel
theorem dX13_looks_44 : decode cX13_looks 44 = .ok (.iload_n 3, 1) := by decide +kernel
theorem dX13_looks_45 : decode cX13_looks 45 = .ok (.aload_n 0, 1) := by decide +kernel
theorem dX13_looks_46 : decode cX13_looks 46 = .ok (.getfield 97, 3) := by decide +kernel
theorem dX13_looks_49 : decode cX13_looks 49 = .ok (.iload_n 1, 1) := by decide +kernel
theorem dX13_looks_50 : decode cX13_looks 50 = .ok (.iaload, 1) := by decide +kernel
theorem dX13_looks_51 : decode cX13_looks 51 = .ok (.iadd, 1) := by decide +kernel
theorem dX13_looks_52 : decode cX13_looks 52 = .ok (.iconst 1, 1) := by decide +kernel
theorem dX13_looks_53 : decode cX13_looks 53 = .ok (.isub, 1) := by decide +kernel
theorem dX13_looks_54 : decode cX13_looks 54 = .ok (.iload 4, 2) := by decide +kernel
theorem dX13_looks_56 : decode cX13_looks 56 = .ok (.isub, 1) := by decide +kernel
theorem dX13_looks_57 : decode cX13_looks 57 = .ok (.if_icmp .le 21, 3) := by decide +kernel
theorem dX13_looks_60 : decode cX13_looks 60 = .ok (.aload_n 0, 1) := by decide +kernel
theorem dX13_looks_61 : decode cX13_looks 61 = .ok (.iload_n 1, 1) := by decide +kernel
theorem dX13_looks_62 : decode cX13_looks 62 = .ok (.iload_n 2, 1) := by decide +kernel
theorem dX13_looks_63 : decode cX13_looks 63 = .ok (.aload_n 0, 1) := by decide +kernel
theorem dX13_looks_64 : decode cX13_looks 64 = .ok (.getfield 97, 3) := by decide +kernel
theorem dX13_looks_67 : decode cX13_looks 67 = .ok (.iload_n 1, 1) := by decide +kernel
theorem dX13_looks_68 : decode cX13_looks 68 = .ok (.iaload, 1) := by decide +kernel
theorem dX13_looks_69 : decode cX13_looks 69 = .ok (.iconst 1, 1) := by decide +kernel
theorem dX13_looks_70 : decode cX13_looks 70 = .ok (.isub, 1) := by decide +kernel
theorem dX13_looks_71 : decode cX13_looks 71 = .ok (.iload 4, 2) := by decide +kernel
theorem dX13_looks_73 : decode cX13_looks 73 = .ok (.isub, 1) := by decide +kernel
theorem dX13_looks_74 : decode cX13_looks 74 = .ok (.isub, 1) := by decide +kernel
theorem dX13_looks_75 : decode cX13_looks 75 = .ok (.invokevirtual 414, 3) := by decide +kernel
theorem dX13_looks_78 : decode cX13_looks 78 = .ok (.return_, 1) := by decide +kernel
theorem dX13_goesTo_0 : decode cX13_goesTo 0 = .ok (.aload_n 0, 1) := by decide +kernel
theorem dX13_goesTo_1 : decode cX13_goesTo 1 = .ok (.getfield 82, 3) := by decide +kernel
theorem dX13_goesTo_4 : decode cX13_goesTo 4 = .ok (.iload_n 1, 1) := by decide +kernel
theorem dX13_goesTo_5 : decode cX13_goesTo 5 = .ok (.iload_n 2, 1) := by decide +kernel
theorem dX13_goesTo_6 : decode cX13_goesTo 6 = .ok (.iastore, 1) := by decide +kernel
theorem dX13_goesTo_7 : decode cX13_goesTo 7 = .ok (.aload_n 0, 1) := by decide +kernel
theorem dX13_goesTo_8 : decode cX13_goesTo 8 = .ok (.getfield 85, 3) := by decide +kernel
theorem dX13_goesTo_11 : decode cX13_goesTo 11 = .ok (.iload_n 1, 1) := by decide +kernel
theorem dX13_goesTo_12 : decode cX13_goesTo 12 = .ok (.iload_n 3, 1) := by decide +kernel
theorem dX13_goesTo_13 : decode cX13_goesTo 13 = .ok (.iastore, 1) := by decide +kernel
theorem dX13_goesTo_14 : decode cX13_goesTo 14 = .ok (.return_, 1) := by decide +kernel
theorem dX13_put_0 : decode cX13_put 0 = .ok (.iload_n 1, 1) := by decide +kernel
theorem dX13_put_1 : decode cX13_put 1 = .ok (.invokestatic 236, 3) := by decide +kernel
theorem dX13_put_4 : decode cX13_put 4 = .ok (.ifCond .eq 15, 3) := by decide +kernel
theorem dX13_put_7 : decode cX13_put 7 = .ok (.aload_n 0, 1) := by decide +kernel
theorem dX13_put_8 : decode cX13_put 8 = .ok (.iload_n 2, 1) := by decide +kernel
theorem dX13_put_9 : decode cX13_put 9 = .ok (.invokevirtual 191, 3) := by decide +kernel
theorem dX13_put_12 : decode cX13_put 12 = .ok (.ifCond .eq 7, 3) := by decide +kernel
theorem dX13_put_15 : decode cX13_put 15 = .ok (.iconst 1, 1) := by decide +kernel
theorem dX13_put_16 : decode cX13_put 16 = .ok (.goto 4, 3) := by decide +kernel
theorem dX13_put_19 : decode cX13_put 19 = .ok (.iconst 0, 1) := by decide +kernel
theorem dX13_put_20 : decode cX13_put 20 = .ok (.istore 4, 2) := by decide +kernel
theorem dX13_put_22 : decode cX13_put 22 = .ok (.iload 4, 2) := by decide +kernel
theorem dX13_put_24 : decode cX13_put 24 = .ok (.ifCond .eq 21, 3) := by decide +kernel
theorem dX13_put_27 : decode cX13_put 27 = .ok (.iload_n 3, 1) := by decide +kernel
theorem dX13_put_28 : decode cX13_put 28 = .ok (.iconst 0, 1) := by decide +kernel
theorem dX13_put_29 : decode cX13_put 29 = .ok (.aload_n 0, 1) := by decide +kernel
theorem dX13_put_30 : decode cX13_put 30 = .ok (.getfield 13, 3) := by decide +kernel
theorem dX13_put_33 : decode cX13_put 33 = .ok (.iload_n 2, 1) := by decide +kernel
theorem dX13_put_34 : decode cX13_put 34 = .ok (.iaload, 1) := by decide +kernel
theorem dX13_put_35 : decode cX13_put 35 = .ok (.invokestatic 187, 3) := by decide +kernel
theorem dX13_put_38 : decode cX13_put 38 = .ok (.ifCond .eq 7, 3) := by decide +kernel
theorem dX13_put_41 : decode cX13_put 41 = .ok (.iconst 1, 1) := by decide +kernel
theorem dX13_put_42 : decode cX13_put 42 = .ok (.goto 4, 3) := by decide +kernel
theorem dX13_put_45 : decode cX13_put 45 = .ok (.iconst 0, 1) := by decide +kernel
theorem dX13_put_46 : decode cX13_put 46 = .ok (.istore 5, 2) := by decide +kernel
theorem dX13_put_48 : decode cX13_put 48 = .ok (.aload_n 0, 1) := by decide +kernel
theorem dX13_put_49 : decode cX13_put 49 = .ok (.iload 4, 2) := by decide +kernel
theorem dX13_put_51 : decode cX13_put 51 = .ok (.ifCond .ne 7, 3) := by decide +kernel
theorem dX13_put_54 : decode cX13_put 54 = .ok (.iconst 1, 1) := by decide +kernel
theorem dX13_put_55 : decode cX13_put 55 = .ok (.goto 35, 3) := by decide +kernel
theorem dX13_put_58 : decode cX13_put 58 = .ok (.iload 5, 2) := by decide +kernel
theorem dX13_put_60 : decode cX13_put 60 = .ok (.ifCond .ne 7, 3) := by decide +kernel
theorem dX13_put_63 : decode cX13_put 63 = .ok (.iconst 2, 1) := by decide +kernel
theorem dX13_put_64 : decode cX13_put 64 = .ok (.goto 26, 3) := by decide +kernel
theorem dX13_put_67 : decode cX13_put 67 = .ok (.aload_n 0, 1) := by decide +kernel
theorem dX13_put_68 : decode cX13_put 68 = .ok (.getfield 33, 3) := by decide +kernel
theorem dX13_put_71 : decode cX13_put 71 = .ok (.iload_n 1, 1) := by decide +kernel
theorem dX13_put_72 : decode cX13_put 72 = .ok (.baload, 1) := by decide +kernel
theorem dX13_put_73 : decode cX13_put 73 = .ok (.ifCond .eq 12, 3) := by decide +kernel
theorem dX13_put_76 : decode cX13_put 76 = .ok (.aload_n 0, 1) := by decide +kernel
theorem dX13_put_77 : decode cX13_put 77 = .ok (.iload_n 1, 1) := by decide +kernel
theorem dX13_put_78 : decode cX13_put 78 = .ok (.iload_n 2, 1) := by decide +kernel
theorem dX13_put_79 : decode cX13_put 79 = .ok (.invokevirtual 333, 3) := by decide +kernel
theorem dX13_put_82 : decode cX13_put 82 = .ok (.ifCond .eq 7, 3) := by decide +kernel
theorem dX13_put_85 : decode cX13_put 85 = .ok (.iconst 3, 1) := by decide +kernel
theorem dX13_put_86 : decode cX13_put 86 = .ok (.goto 4, 3) := by decide +kernel
theorem dX13_put_89 : decode cX13_put 89 = .ok (.iconst 0, 1) := by decide +kernel
theorem dX13_put_90 : decode cX13_put 90 = .ok (.invokevirtual 195, 3) := by decide +kernel
theorem dX13_put_93 : decode cX13_put 93 = .ok (.ifCond .ne 5, 3) := by decide +kernel
theorem dX13_put_96 : decode cX13_put 96 = .ok (.iconst 0, 1) := by decide +kernel
theorem dX13_put_97 : decode cX13_put 97 = .ok (.ireturn, 1) := by decide +kernel
theorem dX13_put_98 : decode cX13_put 98 = .ok (.aload_n 0, 1) := by decide +kernel
theorem dX13_put_99 : decode cX13_put 99 = .ok (.iload_n 1, 1) := by decide +kernel
theorem dX13_put_100 : decode cX13_put 100 = .ok (.iload_n 2, 1) := by decide +kernel
theorem dX13_put_101 : decode cX13_put 101 = .ok (.iload_n 3, 1) := by decide +kernel
theorem dX13_put_102 : decode cX13_put 102 = .ok (.invokevirtual 417, 3) := by decide +kernel
theorem dX13_put_105 : decode cX13_put 105 = .ok (.aload_n 0, 1) := by decide +kernel
theorem dX13_put_106 : decode cX13_put 106 = .ok (.getfield 88, 3) := by decide +kernel
theorem dX13_put_109 : decode cX13_put 109 = .ok (.iload_n 1, 1) := by decide +kernel
theorem dX13_put_110 : decode cX13_put 110 = .ok (.aload_n 0, 1) := by decide +kernel
theorem dX13_put_111 : decode cX13_put 111 = .ok (.iload_n 1, 1) := by decide +kernel
theorem dX13_put_112 : decode cX13_put 112 = .ok (.invokevirtual 420, 3) := by decide +kernel
theorem dX13_put_115 : decode cX13_put 115 = .ok (.iastore, 1) := by decide +kernel
theorem dX13_put_116 : decode cX13_put 116 = .ok (.aload_n 0, 1) := by decide +kernel
theorem dX13_put_117 : decode cX13_put 117 = .ok (.iload_n 1, 1) := by decide +kernel
theorem dX13_put_118 : decode cX13_put 118 = .ok (.invokevirtual 423, 3) := by decide +kernel
theorem dX13_put_121 : decode cX13_put 121 = .ok (.aload_n 0, 1) := by decide +kernel
theorem dX13_put_122 : decode cX13_put 122 = .ok (.iload_n 1, 1) := by decide +kernel
theorem dX13_put_123 : decode cX13_put 123 = .ok (.invokevirtual 405, 3) := by decide +kernel
theorem dX13_put_126 : decode cX13_put 126 = .ok (.ireturn, 1) := by decide +kernel
theorem dX13_shownAhead_0 : decode cX13_shownAhead 0 = .ok (.aload_n 0, 1) := by decide +kernel
theorem dX13_shownAhead_1 : decode cX13_shownAhead 1 = .ok (.iload_n 1, 1) := by decide +kernel
theorem dX13_shownAhead_2 : decode cX13_shownAhead 2 = .ok (.iload_n 2, 1) := by decide +kernel
theorem dX13_shownAhead_3 : decode cX13_shownAhead 3 = .ok (.invokevirtual 321, 3) := by decide +kernel
theorem dX13_shownAhead_6 : decode cX13_shownAhead 6 = .ok (.aload_n 0, 1) := by decide +kernel
theorem dX13_shownAhead_7 : decode cX13_shownAhead 7 = .ok (.getfield 13, 3) := by decide +kernel
theorem dX13_shownAhead_10 : decode cX13_shownAhead 10 = .ok (.iload_n 2, 1) := by decide +kernel
theorem dX13_shownAhead_11 : decode cX13_shownAhead 11 = .ok (.iaload, 1) := by decide +kernel
theorem dX13_shownAhead_12 : decode cX13_shownAhead 12 = .ok (.iload_n 3, 1) := by decide +kernel
theorem dX13_shownAhead_13 : decode cX13_shownAhead 13 = .ok (.if_icmp .ge 12, 3) := by decide +kernel
theorem dX13_shownAhead_16 : decode cX13_shownAhead 16 = .ok (.aload_n 0, 1) := by decide +kernel
theorem dX13_shownAhead_17 : decode cX13_shownAhead 17 = .ok (.getfield 13, 3) := by decide +kernel
theorem dX13_shownAhead_20 : decode cX13_shownAhead 20 = .ok (.iload_n 2, 1) := by decide +kernel
theorem dX13_shownAhead_21 : decode cX13_shownAhead 21 = .ok (.iaload, 1) := by decide +kernel
theorem dX13_shownAhead_22 : decode cX13_shownAhead 22 = .ok (.goto 4, 3) := by decide +kernel
theorem dX13_shownAhead_25 : decode cX13_shownAhead 25 = .ok (.iconst (-1), 1) := by decide +kernel
theorem dX13_shownAhead_26 : decode cX13_shownAhead 26 = .ok (.istore 4, 2) := by decide +kernel
theorem dX13_shownAhead_28 : decode cX13_shownAhead 28 = .ok (.iconst 0, 1) := by decide +kernel
theorem dX13_shownAhead_29 : decode cX13_shownAhead 29 = .ok (.istore 5, 2) := by decide +kernel
theorem dX13_shownAhead_31 : decode cX13_shownAhead 31 = .ok (.iload 5, 2) := by decide +kernel
theorem dX13_shownAhead_33 : decode cX13_shownAhead 33 = .ok (.aload_n 0, 1) := by decide +kernel
theorem dX13_shownAhead_34 : decode cX13_shownAhead 34 = .ok (.getfield 245, 3) := by decide +kernel
theorem dX13_shownAhead_37 : decode cX13_shownAhead 37 = .ok (.if_icmp .ge 57, 3) := by decide +kernel
theorem dX13_shownAhead_40 : decode cX13_shownAhead 40 = .ok (.aload_n 0, 1) := by decide +kernel
theorem dX13_shownAhead_41 : decode cX13_shownAhead 41 = .ok (.getfield 106, 3) := by decide +kernel
theorem dX13_shownAhead_44 : decode cX13_shownAhead 44 = .ok (.iload 5, 2) := by decide +kernel
theorem dX13_shownAhead_46 : decode cX13_shownAhead 46 = .ok (.iaload, 1) := by decide +kernel
theorem dX13_shownAhead_47 : decode cX13_shownAhead 47 = .ok (.iconst (-1), 1) := by decide +kernel
theorem dX13_shownAhead_48 : decode cX13_shownAhead 48 = .ok (.if_icmp .eq 36, 3) := by decide +kernel
theorem dX13_shownAhead_51 : decode cX13_shownAhead 51 = .ok (.aload_n 0, 1) := by decide +kernel
theorem dX13_shownAhead_52 : decode cX13_shownAhead 52 = .ok (.getfield 106, 3) := by decide +kernel
theorem dX13_shownAhead_55 : decode cX13_shownAhead 55 = .ok (.iload 5, 2) := by decide +kernel
theorem dX13_shownAhead_57 : decode cX13_shownAhead 57 = .ok (.iaload, 1) := by decide +kernel
theorem dX13_shownAhead_58 : decode cX13_shownAhead 58 = .ok (.iload_n 3, 1) := by decide +kernel
theorem dX13_shownAhead_59 : decode cX13_shownAhead 59 = .ok (.if_icmp .ge 25, 3) := by decide +kernel
theorem dX13_shownAhead_62 : decode cX13_shownAhead 62 = .ok (.aload_n 0, 1) := by decide +kernel
theorem dX13_shownAhead_63 : decode cX13_shownAhead 63 = .ok (.getfield 106, 3) := by decide +kernel
theorem dX13_shownAhead_66 : decode cX13_shownAhead 66 = .ok (.iload 5, 2) := by decide +kernel
theorem dX13_shownAhead_68 : decode cX13_shownAhead 68 = .ok (.iaload, 1) := by decide +kernel
theorem dX13_shownAhead_69 : decode cX13_shownAhead 69 = .ok (.iload 4, 2) := by decide +kernel
theorem dX13_shownAhead_71 : decode cX13_shownAhead 71 = .ok (.if_icmp .le 13, 3) := by decide +kernel
theorem dX13_shownAhead_74 : decode cX13_shownAhead 74 = .ok (.aload_n 0, 1) := by decide +kernel
theorem dX13_shownAhead_75 : decode cX13_shownAhead 75 = .ok (.getfield 106, 3) := by decide +kernel
theorem dX13_shownAhead_78 : decode cX13_shownAhead 78 = .ok (.iload 5, 2) := by decide +kernel
theorem dX13_shownAhead_80 : decode cX13_shownAhead 80 = .ok (.iaload, 1) := by decide +kernel
theorem dX13_shownAhead_81 : decode cX13_shownAhead 81 = .ok (.goto 5, 3) := by decide +kernel
theorem dX13_shownAhead_84 : decode cX13_shownAhead 84 = .ok (.iload 4, 2) := by decide +kernel
theorem dX13_shownAhead_86 : decode cX13_shownAhead 86 = .ok (.istore 4, 2) := by decide +kernel
theorem dX13_shownAhead_88 : decode cX13_shownAhead 88 = .ok (.iinc 5 1, 3) := by decide +kernel
theorem dX13_shownAhead_91 : decode cX13_shownAhead 91 = .ok (.goto (-60), 3) := by decide +kernel
theorem dX13_shownAhead_94 : decode cX13_shownAhead 94 = .ok (.iload 4, 2) := by decide +kernel
theorem dX13_shownAhead_96 : decode cX13_shownAhead 96 = .ok (.ireturn, 1) := by decide +kernel
theorem dX13_shownBehind_0 : decode cX13_shownBehind 0 = .ok (.aload_n 0, 1) := by decide +kernel
theorem dX13_shownBehind_1 : decode cX13_shownBehind 1 = .ok (.iload_n 1, 1) := by decide +kernel
theorem dX13_shownBehind_2 : decode cX13_shownBehind 2 = .ok (.iload_n 2, 1) := by decide +kernel
theorem dX13_shownBehind_3 : decode cX13_shownBehind 3 = .ok (.invokevirtual 321, 3) := by decide +kernel
theorem dX13_shownBehind_6 : decode cX13_shownBehind 6 = .ok (.aload_n 0, 1) := by decide +kernel
theorem dX13_shownBehind_7 : decode cX13_shownBehind 7 = .ok (.getfield 13, 3) := by decide +kernel
theorem dX13_shownBehind_10 : decode cX13_shownBehind 10 = .ok (.iload_n 2, 1) := by decide +kernel
theorem dX13_shownBehind_11 : decode cX13_shownBehind 11 = .ok (.iaload, 1) := by decide +kernel
theorem dX13_shownBehind_12 : decode cX13_shownBehind 12 = .ok (.iload_n 3, 1) := by decide +kernel
theorem dX13_shownBehind_13 : decode cX13_shownBehind 13 = .ok (.if_icmp .le 12, 3) := by decide +kernel
theorem dX13_shownBehind_16 : decode cX13_shownBehind 16 = .ok (.aload_n 0, 1) := by decide +kernel
theorem dX13_shownBehind_17 : decode cX13_shownBehind 17 = .ok (.getfield 13, 3) := by decide +kernel
theorem dX13_shownBehind_20 : decode cX13_shownBehind 20 = .ok (.iload_n 2, 1) := by decide +kernel
theorem dX13_shownBehind_21 : decode cX13_shownBehind 21 = .ok (.iaload, 1) := by decide +kernel
theorem dX13_shownBehind_22 : decode cX13_shownBehind 22 = .ok (.goto 4, 3) := by decide +kernel
theorem dX13_shownBehind_25 : decode cX13_shownBehind 25 = .ok (.iconst (-1), 1) := by decide +kernel
theorem dX13_shownBehind_26 : decode cX13_shownBehind 26 = .ok (.istore 4, 2) := by decide +kernel
theorem dX13_shownBehind_28 : decode cX13_shownBehind 28 = .ok (.aload_n 0, 1) := by decide +kernel
theorem dX13_shownBehind_29 : decode cX13_shownBehind 29 = .ok (.getfield 245, 3) := by decide +kernel
theorem dX13_shownBehind_32 : decode cX13_shownBehind 32 = .ok (.iconst 1, 1) := by decide +kernel
theorem dX13_shownBehind_33 : decode cX13_shownBehind 33 = .ok (.isub, 1) := by decide +kernel
theorem dX13_shownBehind_34 : decode cX13_shownBehind 34 = .ok (.istore 5, 2) := by decide +kernel
theorem dX13_shownBehind_36 : decode cX13_shownBehind 36 = .ok (.iload 5, 2) := by decide +kernel
theorem dX13_shownBehind_38 : decode cX13_shownBehind 38 = .ok (.ifCond .lt 45, 3) := by decide +kernel
theorem dX13_shownBehind_41 : decode cX13_shownBehind 41 = .ok (.aload_n 0, 1) := by decide +kernel
theorem dX13_shownBehind_42 : decode cX13_shownBehind 42 = .ok (.getfield 106, 3) := by decide +kernel
theorem dX13_shownBehind_45 : decode cX13_shownBehind 45 = .ok (.iload 5, 2) := by decide +kernel
theorem dX13_shownBehind_47 : decode cX13_shownBehind 47 = .ok (.iaload, 1) := by decide +kernel
theorem dX13_shownBehind_48 : decode cX13_shownBehind 48 = .ok (.iconst (-1), 1) := by decide +kernel
theorem dX13_shownBehind_49 : decode cX13_shownBehind 49 = .ok (.if_icmp .eq 24, 3) := by decide +kernel
theorem dX13_shownBehind_52 : decode cX13_shownBehind 52 = .ok (.aload_n 0, 1) := by decide +kernel
theorem dX13_shownBehind_53 : decode cX13_shownBehind 53 = .ok (.getfield 106, 3) := by decide +kernel
theorem dX13_shownBehind_56 : decode cX13_shownBehind 56 = .ok (.iload 5, 2) := by decide +kernel
theorem dX13_shownBehind_58 : decode cX13_shownBehind 58 = .ok (.iaload, 1) := by decide +kernel
theorem dX13_shownBehind_59 : decode cX13_shownBehind 59 = .ok (.iload_n 3, 1) := by decide +kernel
theorem dX13_shownBehind_60 : decode cX13_shownBehind 60 = .ok (.if_icmp .le 13, 3) := by decide +kernel
theorem dX13_shownBehind_63 : decode cX13_shownBehind 63 = .ok (.aload_n 0, 1) := by decide +kernel
theorem dX13_shownBehind_64 : decode cX13_shownBehind 64 = .ok (.getfield 106, 3) := by decide +kernel
theorem dX13_shownBehind_67 : decode cX13_shownBehind 67 = .ok (.iload 5, 2) := by decide +kernel
theorem dX13_shownBehind_69 : decode cX13_shownBehind 69 = .ok (.iaload, 1) := by decide +kernel
theorem dX13_shownBehind_70 : decode cX13_shownBehind 70 = .ok (.goto 5, 3) := by decide +kernel
theorem dX13_shownBehind_73 : decode cX13_shownBehind 73 = .ok (.iload 4, 2) := by decide +kernel
theorem dX13_shownBehind_75 : decode cX13_shownBehind 75 = .ok (.istore 4, 2) := by decide +kernel
theorem dX13_shownBehind_77 : decode cX13_shownBehind 77 = .ok (.iinc 5 (-1), 3) := by decide +kernel
theorem dX13_shownBehind_80 : decode cX13_shownBehind 80 = .ok (.goto (-44), 3) := by decide +kernel
theorem dX13_shownBehind_83 : decode cX13_shownBehind 83 = .ok (.iload 4, 2) := by decide +kernel
theorem dX13_shownBehind_85 : decode cX13_shownBehind 85 = .ok (.ireturn, 1) := by decide +kernel
theorem dX13_beside_0 : decode cX13_beside 0 = .ok (.iload_n 2, 1) := by decide +kernel
theorem dX13_beside_1 : decode cX13_beside 1 = .ok (.iload_n 3, 1) := by decide +kernel
theorem dX13_beside_2 : decode cX13_beside 2 = .ok (.iadd, 1) := by decide +kernel
theorem dX13_beside_3 : decode cX13_beside 3 = .ok (.istore 4, 2) := by decide +kernel
theorem dX13_beside_5 : decode cX13_beside 5 = .ok (.aload_n 0, 1) := by decide +kernel
theorem dX13_beside_6 : decode cX13_beside 6 = .ok (.iload 4, 2) := by decide +kernel
theorem dX13_beside_8 : decode cX13_beside 8 = .ok (.invokevirtual 191, 3) := by decide +kernel
theorem dX13_beside_11 : decode cX13_beside 11 = .ok (.ifCond .eq 22, 3) := by decide +kernel
theorem dX13_beside_14 : decode cX13_beside 14 = .ok (.aload_n 0, 1) := by decide +kernel
theorem dX13_beside_15 : decode cX13_beside 15 = .ok (.iload_n 1, 1) := by decide +kernel
theorem dX13_beside_16 : decode cX13_beside 16 = .ok (.iload 4, 2) := by decide +kernel
theorem dX13_beside_18 : decode cX13_beside 18 = .ok (.invokevirtual 333, 3) := by decide +kernel
theorem dX13_beside_21 : decode cX13_beside 21 = .ok (.ifCond .eq 12, 3) := by decide +kernel
theorem dX13_beside_24 : decode cX13_beside 24 = .ok (.iload 4, 2) := by decide +kernel
theorem dX13_beside_26 : decode cX13_beside 26 = .ok (.iload_n 3, 1) := by decide +kernel
theorem dX13_beside_27 : decode cX13_beside 27 = .ok (.iadd, 1) := by decide +kernel
theorem dX13_beside_28 : decode cX13_beside 28 = .ok (.istore 4, 2) := by decide +kernel
theorem dX13_beside_30 : decode cX13_beside 30 = .ok (.goto (-25), 3) := by decide +kernel
theorem dX13_beside_33 : decode cX13_beside 33 = .ok (.aload_n 0, 1) := by decide +kernel
theorem dX13_beside_34 : decode cX13_beside 34 = .ok (.iload 4, 2) := by decide +kernel
theorem dX13_beside_36 : decode cX13_beside 36 = .ok (.invokevirtual 191, 3) := by decide +kernel
theorem dX13_beside_39 : decode cX13_beside 39 = .ok (.ifCond .eq 8, 3) := by decide +kernel
theorem dX13_beside_42 : decode cX13_beside 42 = .ok (.iload 4, 2) := by decide +kernel
theorem dX13_beside_44 : decode cX13_beside 44 = .ok (.goto 4, 3) := by decide +kernel
theorem dX13_beside_47 : decode cX13_beside 47 = .ok (.iconst (-1), 1) := by decide +kernel
theorem dX13_beside_48 : decode cX13_beside 48 = .ok (.ireturn, 1) := by decide +kernel
theorem dX13_changes_0 : decode cX13_changes 0 = .ok (.iload_n 2, 1) := by decide +kernel
theorem dX13_changes_1 : decode cX13_changes 1 = .ok (.aload_n 0, 1) := by decide +kernel
theorem dX13_changes_2 : decode cX13_changes 2 = .ok (.iload_n 1, 1) := by decide +kernel
theorem dX13_changes_3 : decode cX13_changes 3 = .ok (.invokevirtual 396, 3) := by decide +kernel
theorem dX13_changes_6 : decode cX13_changes 6 = .ok (.if_icmp .ne 12, 3) := by decide +kernel
theorem dX13_changes_9 : decode cX13_changes 9 = .ok (.iload_n 3, 1) := by decide +kernel
theorem dX13_changes_10 : decode cX13_changes 10 = .ok (.aload_n 0, 1) := by decide +kernel
theorem dX13_changes_11 : decode cX13_changes 11 = .ok (.iload_n 1, 1) := by decide +kernel
theorem dX13_changes_12 : decode cX13_changes 12 = .ok (.invokevirtual 399, 3) := by decide +kernel
theorem dX13_changes_15 : decode cX13_changes 15 = .ok (.if_icmp .eq 7, 3) := by decide +kernel
theorem dX13_changes_18 : decode cX13_changes 18 = .ok (.iconst 1, 1) := by decide +kernel
theorem dX13_changes_19 : decode cX13_changes 19 = .ok (.goto 4, 3) := by decide +kernel
theorem dX13_changes_22 : decode cX13_changes 22 = .ok (.iconst 0, 1) := by decide +kernel
theorem dX13_changes_23 : decode cX13_changes 23 = .ok (.istore 4, 2) := by decide +kernel
theorem dX13_changes_25 : decode cX13_changes 25 = .ok (.iload 4, 2) := by decide +kernel
theorem dX13_changes_27 : decode cX13_changes 27 = .ok (.ifCond .eq 10, 3) := by decide +kernel
theorem dX13_changes_30 : decode cX13_changes 30 = .ok (.aload_n 0, 1) := by decide +kernel
theorem dX13_changes_31 : decode cX13_changes 31 = .ok (.iload_n 1, 1) := by decide +kernel
theorem dX13_changes_32 : decode cX13_changes 32 = .ok (.iload_n 2, 1) := by decide +kernel
theorem dX13_changes_33 : decode cX13_changes 33 = .ok (.iload_n 3, 1) := by decide +kernel
theorem dX13_changes_34 : decode cX13_changes 34 = .ok (.invokevirtual 417, 3) := by decide +kernel
theorem dX13_changes_37 : decode cX13_changes 37 = .ok (.iload 4, 2) := by decide +kernel
theorem dX13_changes_39 : decode cX13_changes 39 = .ok (.ireturn, 1) := by decide +kernel
theorem dX13_goesAhead_0 : decode cX13_goesAhead 0 = .ok (.aload_n 0, 1) := by decide +kernel
theorem dX13_goesAhead_1 : decode cX13_goesAhead 1 = .ok (.iload_n 1, 1) := by decide +kernel
theorem dX13_goesAhead_2 : decode cX13_goesAhead 2 = .ok (.invokevirtual 396, 3) := by decide +kernel
theorem dX13_goesAhead_5 : decode cX13_goesAhead 5 = .ok (.istore_n 2, 1) := by decide +kernel
theorem dX13_goesAhead_6 : decode cX13_goesAhead 6 = .ok (.aload_n 0, 1) := by decide +kernel
theorem dX13_goesAhead_7 : decode cX13_goesAhead 7 = .ok (.iload_n 1, 1) := by decide +kernel
theorem dX13_goesAhead_8 : decode cX13_goesAhead 8 = .ok (.iload_n 2, 1) := by decide +kernel
theorem dX13_goesAhead_9 : decode cX13_goesAhead 9 = .ok (.aload_n 0, 1) := by decide +kernel
theorem dX13_goesAhead_10 : decode cX13_goesAhead 10 = .ok (.iload_n 1, 1) := by decide +kernel
theorem dX13_goesAhead_11 : decode cX13_goesAhead 11 = .ok (.invokevirtual 399, 3) := by decide +kernel
theorem dX13_goesAhead_14 : decode cX13_goesAhead 14 = .ok (.invokevirtual 426, 3) := by decide +kernel
theorem dX13_goesAhead_17 : decode cX13_goesAhead 17 = .ok (.istore_n 3, 1) := by decide +kernel
theorem dX13_goesAhead_18 : decode cX13_goesAhead 18 = .ok (.iload_n 3, 1) := by decide +kernel
theorem dX13_goesAhead_19 : decode cX13_goesAhead 19 = .ok (.iconst (-1), 1) := by decide +kernel
theorem dX13_goesAhead_20 : decode cX13_goesAhead 20 = .ok (.if_icmp .eq 11, 3) := by decide +kernel
theorem dX13_goesAhead_23 : decode cX13_goesAhead 23 = .ok (.aload_n 0, 1) := by decide +kernel
theorem dX13_goesAhead_24 : decode cX13_goesAhead 24 = .ok (.iload_n 1, 1) := by decide +kernel
theorem dX13_goesAhead_25 : decode cX13_goesAhead 25 = .ok (.iload_n 2, 1) := by decide +kernel
theorem dX13_goesAhead_26 : decode cX13_goesAhead 26 = .ok (.iload_n 3, 1) := by decide +kernel
theorem dX13_goesAhead_27 : decode cX13_goesAhead 27 = .ok (.invokevirtual 429, 3) := by decide +kernel
theorem dX13_goesAhead_30 : decode cX13_goesAhead 30 = .ok (.ireturn, 1) := by decide +kernel
theorem dX13_goesAhead_31 : decode cX13_goesAhead 31 = .ok (.aload_n 0, 1) := by decide +kernel
theorem dX13_goesAhead_32 : decode cX13_goesAhead 32 = .ok (.iload_n 1, 1) := by decide +kernel
theorem dX13_goesAhead_33 : decode cX13_goesAhead 33 = .ok (.iload_n 2, 1) := by decide +kernel
theorem dX13_goesAhead_34 : decode cX13_goesAhead 34 = .ok (.iconst (-1), 1) := by decide +kernel
theorem dX13_goesAhead_35 : decode cX13_goesAhead 35 = .ok (.invokevirtual 432, 3) := by decide +kernel
theorem dX13_goesAhead_38 : decode cX13_goesAhead 38 = .ok (.istore 4, 2) := by decide +kernel
theorem dX13_goesAhead_40 : decode cX13_goesAhead 40 = .ok (.iload 4, 2) := by decide +kernel
theorem dX13_goesAhead_42 : decode cX13_goesAhead 42 = .ok (.iconst (-1), 1) := by decide +kernel
theorem dX13_goesAhead_43 : decode cX13_goesAhead 43 = .ok (.if_icmp .eq 24, 3) := by decide +kernel
theorem dX13_goesAhead_46 : decode cX13_goesAhead 46 = .ok (.aload_n 0, 1) := by decide +kernel
theorem dX13_goesAhead_47 : decode cX13_goesAhead 47 = .ok (.iload_n 1, 1) := by decide +kernel
theorem dX13_goesAhead_48 : decode cX13_goesAhead 48 = .ok (.iload 4, 2) := by decide +kernel
theorem dX13_goesAhead_50 : decode cX13_goesAhead 50 = .ok (.aload_n 0, 1) := by decide +kernel
theorem dX13_goesAhead_51 : decode cX13_goesAhead 51 = .ok (.getfield 13, 3) := by decide +kernel
theorem dX13_goesAhead_54 : decode cX13_goesAhead 54 = .ok (.iload 4, 2) := by decide +kernel
theorem dX13_goesAhead_56 : decode cX13_goesAhead 56 = .ok (.iaload, 1) := by decide +kernel
theorem dX13_goesAhead_57 : decode cX13_goesAhead 57 = .ok (.invokevirtual 429, 3) := by decide +kernel
theorem dX13_goesAhead_60 : decode cX13_goesAhead 60 = .ok (.ifCond .eq 7, 3) := by decide +kernel
theorem dX13_goesAhead_63 : decode cX13_goesAhead 63 = .ok (.iconst 1, 1) := by decide +kernel
theorem dX13_goesAhead_64 : decode cX13_goesAhead 64 = .ok (.goto 4, 3) := by decide +kernel
theorem dX13_goesAhead_67 : decode cX13_goesAhead 67 = .ok (.iconst 0, 1) := by decide +kernel
theorem dX13_goesAhead_68 : decode cX13_goesAhead 68 = .ok (.ireturn, 1) := by decide +kernel
theorem dX13_goesBehind_0 : decode cX13_goesBehind 0 = .ok (.aload_n 0, 1) := by decide +kernel
theorem dX13_goesBehind_1 : decode cX13_goesBehind 1 = .ok (.iload_n 1, 1) := by decide +kernel
theorem dX13_goesBehind_2 : decode cX13_goesBehind 2 = .ok (.invokevirtual 396, 3) := by decide +kernel
theorem dX13_goesBehind_5 : decode cX13_goesBehind 5 = .ok (.istore_n 2, 1) := by decide +kernel
theorem dX13_goesBehind_6 : decode cX13_goesBehind 6 = .ok (.aload_n 0, 1) := by decide +kernel
theorem dX13_goesBehind_7 : decode cX13_goesBehind 7 = .ok (.iload_n 1, 1) := by decide +kernel
theorem dX13_goesBehind_8 : decode cX13_goesBehind 8 = .ok (.iload_n 2, 1) := by decide +kernel
theorem dX13_goesBehind_9 : decode cX13_goesBehind 9 = .ok (.aload_n 0, 1) := by decide +kernel
theorem dX13_goesBehind_10 : decode cX13_goesBehind 10 = .ok (.iload_n 1, 1) := by decide +kernel
theorem dX13_goesBehind_11 : decode cX13_goesBehind 11 = .ok (.invokevirtual 399, 3) := by decide +kernel
theorem dX13_goesBehind_14 : decode cX13_goesBehind 14 = .ok (.invokevirtual 435, 3) := by decide +kernel
theorem dX13_goesBehind_17 : decode cX13_goesBehind 17 = .ok (.istore_n 3, 1) := by decide +kernel
theorem dX13_goesBehind_18 : decode cX13_goesBehind 18 = .ok (.iload_n 3, 1) := by decide +kernel
theorem dX13_goesBehind_19 : decode cX13_goesBehind 19 = .ok (.iconst (-1), 1) := by decide +kernel
theorem dX13_goesBehind_20 : decode cX13_goesBehind 20 = .ok (.if_icmp .eq 11, 3) := by decide +kernel
theorem dX13_goesBehind_23 : decode cX13_goesBehind 23 = .ok (.aload_n 0, 1) := by decide +kernel
theorem dX13_goesBehind_24 : decode cX13_goesBehind 24 = .ok (.iload_n 1, 1) := by decide +kernel
theorem dX13_goesBehind_25 : decode cX13_goesBehind 25 = .ok (.iload_n 2, 1) := by decide +kernel
theorem dX13_goesBehind_26 : decode cX13_goesBehind 26 = .ok (.iload_n 3, 1) := by decide +kernel
theorem dX13_goesBehind_27 : decode cX13_goesBehind 27 = .ok (.invokevirtual 429, 3) := by decide +kernel
theorem dX13_goesBehind_30 : decode cX13_goesBehind 30 = .ok (.ireturn, 1) := by decide +kernel
theorem dX13_goesBehind_31 : decode cX13_goesBehind 31 = .ok (.aload_n 0, 1) := by decide +kernel
theorem dX13_goesBehind_32 : decode cX13_goesBehind 32 = .ok (.iload_n 1, 1) := by decide +kernel
theorem dX13_goesBehind_33 : decode cX13_goesBehind 33 = .ok (.iload_n 2, 1) := by decide +kernel
theorem dX13_goesBehind_34 : decode cX13_goesBehind 34 = .ok (.iconst 1, 1) := by decide +kernel
theorem dX13_goesBehind_35 : decode cX13_goesBehind 35 = .ok (.invokevirtual 432, 3) := by decide +kernel
theorem dX13_goesBehind_38 : decode cX13_goesBehind 38 = .ok (.istore 4, 2) := by decide +kernel
theorem dX13_goesBehind_40 : decode cX13_goesBehind 40 = .ok (.iload 4, 2) := by decide +kernel
theorem dX13_goesBehind_42 : decode cX13_goesBehind 42 = .ok (.iconst (-1), 1) := by decide +kernel
theorem dX13_goesBehind_43 : decode cX13_goesBehind 43 = .ok (.if_icmp .eq 25, 3) := by decide +kernel
theorem dX13_goesBehind_46 : decode cX13_goesBehind 46 = .ok (.aload_n 0, 1) := by decide +kernel
theorem dX13_goesBehind_47 : decode cX13_goesBehind 47 = .ok (.iload_n 1, 1) := by decide +kernel
theorem dX13_goesBehind_48 : decode cX13_goesBehind 48 = .ok (.iload 4, 2) := by decide +kernel
theorem dX13_goesBehind_50 : decode cX13_goesBehind 50 = .ok (.aload_n 0, 1) := by decide +kernel
theorem dX13_goesBehind_51 : decode cX13_goesBehind 51 = .ok (.iload_n 1, 1) := by decide +kernel
theorem dX13_goesBehind_52 : decode cX13_goesBehind 52 = .ok (.iload 4, 2) := by decide +kernel
theorem dX13_goesBehind_54 : decode cX13_goesBehind 54 = .ok (.iconst (-1), 1) := by decide +kernel
theorem dX13_goesBehind_55 : decode cX13_goesBehind 55 = .ok (.invokevirtual 435, 3) := by decide +kernel
theorem dX13_goesBehind_58 : decode cX13_goesBehind 58 = .ok (.invokevirtual 429, 3) := by decide +kernel
theorem dX13_goesBehind_61 : decode cX13_goesBehind 61 = .ok (.ifCond .eq 7, 3) := by decide +kernel
theorem dX13_goesBehind_64 : decode cX13_goesBehind 64 = .ok (.iconst 1, 1) := by decide +kernel
theorem dX13_goesBehind_65 : decode cX13_goesBehind 65 = .ok (.goto 4, 3) := by decide +kernel
theorem dX13_goesBehind_68 : decode cX13_goesBehind 68 = .ok (.iconst 0, 1) := by decide +kernel
theorem dX13_goesBehind_69 : decode cX13_goesBehind 69 = .ok (.ireturn, 1) := by decide +kernel
theorem dX13_goesRows_0 : decode cX13_goesRows 0 = .ok (.aload_n 0, 1) := by decide +kernel
theorem dX13_goesRows_1 : decode cX13_goesRows 1 = .ok (.iload_n 1, 1) := by decide +kernel
theorem dX13_goesRows_2 : decode cX13_goesRows 2 = .ok (.invokevirtual 405, 3) := by decide +kernel
theorem dX13_goesRows_5 : decode cX13_goesRows 5 = .ok (.istore_n 3, 1) := by decide +kernel
theorem dX13_goesRows_6 : decode cX13_goesRows 6 = .ok (.iload_n 3, 1) := by decide +kernel
theorem dX13_goesRows_7 : decode cX13_goesRows 7 = .ok (.iload_n 2, 1) := by decide +kernel
theorem dX13_goesRows_8 : decode cX13_goesRows 8 = .ok (.iadd, 1) := by decide +kernel
theorem dX13_goesRows_9 : decode cX13_goesRows 9 = .ok (.iconst 0, 1) := by decide +kernel
theorem dX13_goesRows_10 : decode cX13_goesRows 10 = .ok (.invokestatic 315, 3) := by decide +kernel
theorem dX13_goesRows_13 : decode cX13_goesRows 13 = .ok (.aload_n 0, 1) := by decide +kernel
theorem dX13_goesRows_14 : decode cX13_goesRows 14 = .ok (.iload_n 1, 1) := by decide +kernel
theorem dX13_goesRows_15 : decode cX13_goesRows 15 = .ok (.aload_n 0, 1) := by decide +kernel
theorem dX13_goesRows_16 : decode cX13_goesRows 16 = .ok (.getfield 20, 3) := by decide +kernel
theorem dX13_goesRows_19 : decode cX13_goesRows 19 = .ok (.invokevirtual 339, 3) := by decide +kernel
theorem dX13_goesRows_22 : decode cX13_goesRows 22 = .ok (.iconst 1, 1) := by decide +kernel
theorem dX13_goesRows_23 : decode cX13_goesRows 23 = .ok (.isub, 1) := by decide +kernel
theorem dX13_goesRows_24 : decode cX13_goesRows 24 = .ok (.invokestatic 216, 3) := by decide +kernel
theorem dX13_goesRows_27 : decode cX13_goesRows 27 = .ok (.istore 4, 2) := by decide +kernel
theorem dX13_goesRows_29 : decode cX13_goesRows 29 = .ok (.iload 4, 2) := by decide +kernel
theorem dX13_goesRows_31 : decode cX13_goesRows 31 = .ok (.iload_n 3, 1) := by decide +kernel
theorem dX13_goesRows_32 : decode cX13_goesRows 32 = .ok (.if_icmp .eq 35, 3) := by decide +kernel
theorem dX13_goesRows_35 : decode cX13_goesRows 35 = .ok (.aload_n 0, 1) := by decide +kernel
theorem dX13_goesRows_36 : decode cX13_goesRows 36 = .ok (.iload_n 1, 1) := by decide +kernel
theorem dX13_goesRows_37 : decode cX13_goesRows 37 = .ok (.aload_n 0, 1) := by decide +kernel
theorem dX13_goesRows_38 : decode cX13_goesRows 38 = .ok (.iload_n 1, 1) := by decide +kernel
theorem dX13_goesRows_39 : decode cX13_goesRows 39 = .ok (.iload 4, 2) := by decide +kernel
theorem dX13_goesRows_41 : decode cX13_goesRows 41 = .ok (.invokevirtual 342, 3) := by decide +kernel
theorem dX13_goesRows_44 : decode cX13_goesRows 44 = .ok (.aload_n 0, 1) := by decide +kernel
theorem dX13_goesRows_45 : decode cX13_goesRows 45 = .ok (.iload_n 1, 1) := by decide +kernel
theorem dX13_goesRows_46 : decode cX13_goesRows 46 = .ok (.iload 4, 2) := by decide +kernel
theorem dX13_goesRows_48 : decode cX13_goesRows 48 = .ok (.aload_n 0, 1) := by decide +kernel
theorem dX13_goesRows_49 : decode cX13_goesRows 49 = .ok (.getfield 88, 3) := by decide +kernel
theorem dX13_goesRows_52 : decode cX13_goesRows 52 = .ok (.iload_n 1, 1) := by decide +kernel
theorem dX13_goesRows_53 : decode cX13_goesRows 53 = .ok (.iaload, 1) := by decide +kernel
theorem dX13_goesRows_54 : decode cX13_goesRows 54 = .ok (.invokevirtual 370, 3) := by decide +kernel
theorem dX13_goesRows_57 : decode cX13_goesRows 57 = .ok (.invokevirtual 429, 3) := by decide +kernel
theorem dX13_goesRows_60 : decode cX13_goesRows 60 = .ok (.ifCond .eq 7, 3) := by decide +kernel
theorem dX13_goesRows_63 : decode cX13_goesRows 63 = .ok (.iconst 1, 1) := by decide +kernel
theorem dX13_goesRows_64 : decode cX13_goesRows 64 = .ok (.goto 4, 3) := by decide +kernel
theorem dX13_goesRows_67 : decode cX13_goesRows 67 = .ok (.iconst 0, 1) := by decide +kernel
theorem dX13_goesRows_68 : decode cX13_goesRows 68 = .ok (.ireturn, 1) := by decide +kernel
theorem dX13_goesHome_0 : decode cX13_goesHome 0 = .ok (.aload_n 0, 1) := by decide +kernel
theorem dX13_goesHome_1 : decode cX13_goesHome 1 = .ok (.iload_n 1, 1) := by decide +kernel
theorem dX13_goesHome_2 : decode cX13_goesHome 2 = .ok (.invokevirtual 405, 3) := by decide +kernel
theorem dX13_goesHome_5 : decode cX13_goesHome 5 = .ok (.istore_n 2, 1) := by decide +kernel
theorem dX13_goesHome_6 : decode cX13_goesHome 6 = .ok (.aload_n 0, 1) := by decide +kernel
theorem dX13_goesHome_7 : decode cX13_goesHome 7 = .ok (.iload_n 1, 1) := by decide +kernel
theorem dX13_goesHome_8 : decode cX13_goesHome 8 = .ok (.aload_n 0, 1) := by decide +kernel
theorem dX13_goesHome_9 : decode cX13_goesHome 9 = .ok (.iload_n 1, 1) := by decide +kernel
theorem dX13_goesHome_10 : decode cX13_goesHome 10 = .ok (.iload_n 2, 1) := by decide +kernel
theorem dX13_goesHome_11 : decode cX13_goesHome 11 = .ok (.invokevirtual 342, 3) := by decide +kernel
theorem dX13_goesHome_14 : decode cX13_goesHome 14 = .ok (.aload_n 0, 1) := by decide +kernel
theorem dX13_goesHome_15 : decode cX13_goesHome 15 = .ok (.iload_n 1, 1) := by decide +kernel
theorem dX13_goesHome_16 : decode cX13_goesHome 16 = .ok (.iload_n 2, 1) := by decide +kernel
theorem dX13_goesHome_17 : decode cX13_goesHome 17 = .ok (.invokevirtual 402, 3) := by decide +kernel
theorem dX13_goesHome_20 : decode cX13_goesHome 20 = .ok (.invokevirtual 429, 3) := by decide +kernel
theorem dX13_goesHome_23 : decode cX13_goesHome 23 = .ok (.ireturn, 1) := by decide +kernel
theorem dX13_goesEnd_0 : decode cX13_goesEnd 0 = .ok (.aload_n 0, 1) := by decide +kernel
theorem dX13_goesEnd_1 : decode cX13_goesEnd 1 = .ok (.iload_n 1, 1) := by decide +kernel
theorem dX13_goesEnd_2 : decode cX13_goesEnd 2 = .ok (.invokevirtual 405, 3) := by decide +kernel
theorem dX13_goesEnd_5 : decode cX13_goesEnd 5 = .ok (.istore_n 2, 1) := by decide +kernel
theorem dX13_goesEnd_6 : decode cX13_goesEnd 6 = .ok (.aload_n 0, 1) := by decide +kernel
theorem dX13_goesEnd_7 : decode cX13_goesEnd 7 = .ok (.iload_n 1, 1) := by decide +kernel
theorem dX13_goesEnd_8 : decode cX13_goesEnd 8 = .ok (.iload_n 2, 1) := by decide +kernel
theorem dX13_goesEnd_9 : decode cX13_goesEnd 9 = .ok (.invokevirtual 342, 3) := by decide +kernel
theorem dX13_goesEnd_12 : decode cX13_goesEnd 12 = .ok (.istore_n 3, 1) := by decide +kernel
theorem dX13_goesEnd_13 : decode cX13_goesEnd 13 = .ok (.aload_n 0, 1) := by decide +kernel
theorem dX13_goesEnd_14 : decode cX13_goesEnd 14 = .ok (.iload_n 1, 1) := by decide +kernel
theorem dX13_goesEnd_15 : decode cX13_goesEnd 15 = .ok (.iload_n 2, 1) := by decide +kernel
theorem dX13_goesEnd_16 : decode cX13_goesEnd 16 = .ok (.invokevirtual 351, 3) := by decide +kernel
theorem dX13_goesEnd_19 : decode cX13_goesEnd 19 = .ok (.istore 4, 2) := by decide +kernel
theorem dX13_goesEnd_21 : decode cX13_goesEnd 21 = .ok (.iload 4, 2) := by decide +kernel
theorem dX13_goesEnd_23 : decode cX13_goesEnd 23 = .ok (.aload_n 0, 1) := by decide +kernel
theorem dX13_goesEnd_24 : decode cX13_goesEnd 24 = .ok (.getfield 262, 3) := by decide +kernel
theorem dX13_goesEnd_27 : decode cX13_goesEnd 27 = .ok (.iconst 1, 1) := by decide +kernel
theorem dX13_goesEnd_28 : decode cX13_goesEnd 28 = .ok (.isub, 1) := by decide +kernel
theorem dX13_goesEnd_29 : decode cX13_goesEnd 29 = .ok (.if_icmp .ne 12, 3) := by decide +kernel
theorem dX13_goesEnd_32 : decode cX13_goesEnd 32 = .ok (.aload_n 0, 1) := by decide +kernel
theorem dX13_goesEnd_33 : decode cX13_goesEnd 33 = .ok (.getfield 13, 3) := by decide +kernel
theorem dX13_goesEnd_36 : decode cX13_goesEnd 36 = .ok (.iload_n 3, 1) := by decide +kernel
theorem dX13_goesEnd_37 : decode cX13_goesEnd 37 = .ok (.iaload, 1) := by decide +kernel
theorem dX13_goesEnd_38 : decode cX13_goesEnd 38 = .ok (.goto 4, 3) := by decide +kernel
theorem dX13_goesEnd_41 : decode cX13_goesEnd 41 = .ok (.iconst (-1), 1) := by decide +kernel
theorem dX13_goesEnd_42 : decode cX13_goesEnd 42 = .ok (.istore 5, 2) := by decide +kernel
theorem dX13_goesEnd_44 : decode cX13_goesEnd 44 = .ok (.aload_n 0, 1) := by decide +kernel
theorem dX13_goesEnd_45 : decode cX13_goesEnd 45 = .ok (.getfield 127, 3) := by decide +kernel
theorem dX13_goesEnd_48 : decode cX13_goesEnd 48 = .ok (.iload 4, 2) := by decide +kernel
theorem dX13_goesEnd_50 : decode cX13_goesEnd 50 = .ok (.iaload, 1) := by decide +kernel
theorem dX13_goesEnd_51 : decode cX13_goesEnd 51 = .ok (.istore 6, 2) := by decide +kernel
theorem dX13_goesEnd_53 : decode cX13_goesEnd 53 = .ok (.iload 6, 2) := by decide +kernel
theorem dX13_goesEnd_55 : decode cX13_goesEnd 55 = .ok (.aload_n 0, 1) := by decide +kernel
theorem dX13_goesEnd_56 : decode cX13_goesEnd 56 = .ok (.getfield 127, 3) := by decide +kernel
theorem dX13_goesEnd_59 : decode cX13_goesEnd 59 = .ok (.iload 4, 2) := by decide +kernel
theorem dX13_goesEnd_61 : decode cX13_goesEnd 61 = .ok (.iconst 1, 1) := by decide +kernel
theorem dX13_goesEnd_62 : decode cX13_goesEnd 62 = .ok (.iadd, 1) := by decide +kernel
theorem dX13_goesEnd_63 : decode cX13_goesEnd 63 = .ok (.iaload, 1) := by decide +kernel
theorem dX13_goesEnd_64 : decode cX13_goesEnd 64 = .ok (.if_icmp .ge 45, 3) := by decide +kernel
theorem dX13_goesEnd_67 : decode cX13_goesEnd 67 = .ok (.iload 4, 2) := by decide +kernel
theorem dX13_goesEnd_69 : decode cX13_goesEnd 69 = .ok (.aload_n 0, 1) := by decide +kernel
theorem dX13_goesEnd_70 : decode cX13_goesEnd 70 = .ok (.getfield 262, 3) := by decide +kernel
theorem dX13_goesEnd_73 : decode cX13_goesEnd 73 = .ok (.iconst 1, 1) := by decide +kernel
theorem dX13_goesEnd_74 : decode cX13_goesEnd 74 = .ok (.isub, 1) := by decide +kernel
theorem dX13_goesEnd_75 : decode cX13_goesEnd 75 = .ok (.if_icmp .ge 34, 3) := by decide +kernel
theorem dX13_goesEnd_78 : decode cX13_goesEnd 78 = .ok (.aload_n 0, 1) := by decide +kernel
theorem dX13_goesEnd_79 : decode cX13_goesEnd 79 = .ok (.getfield 106, 3) := by decide +kernel
theorem dX13_goesEnd_82 : decode cX13_goesEnd 82 = .ok (.iload 6, 2) := by decide +kernel
theorem dX13_goesEnd_84 : decode cX13_goesEnd 84 = .ok (.iaload, 1) := by decide +kernel
theorem dX13_goesEnd_85 : decode cX13_goesEnd 85 = .ok (.iconst (-1), 1) := by decide +kernel
theorem dX13_goesEnd_86 : decode cX13_goesEnd 86 = .ok (.if_icmp .eq 13, 3) := by decide +kernel
theorem dX13_goesEnd_89 : decode cX13_goesEnd 89 = .ok (.aload_n 0, 1) := by decide +kernel
theorem dX13_goesEnd_90 : decode cX13_goesEnd 90 = .ok (.getfield 106, 3) := by decide +kernel
theorem dX13_goesEnd_93 : decode cX13_goesEnd 93 = .ok (.iload 6, 2) := by decide +kernel
theorem dX13_goesEnd_95 : decode cX13_goesEnd 95 = .ok (.iaload, 1) := by decide +kernel
theorem dX13_goesEnd_96 : decode cX13_goesEnd 96 = .ok (.goto 5, 3) := by decide +kernel
theorem dX13_goesEnd_99 : decode cX13_goesEnd 99 = .ok (.iload 5, 2) := by decide +kernel
theorem dX13_goesEnd_101 : decode cX13_goesEnd 101 = .ok (.istore 5, 2) := by decide +kernel
theorem dX13_goesEnd_103 : decode cX13_goesEnd 103 = .ok (.iinc 6 1, 3) := by decide +kernel
theorem dX13_goesEnd_106 : decode cX13_goesEnd 106 = .ok (.goto (-53), 3) := by decide +kernel
theorem dX13_goesEnd_109 : decode cX13_goesEnd 109 = .ok (.iload 5, 2) := by decide +kernel
theorem dX13_goesEnd_111 : decode cX13_goesEnd 111 = .ok (.iconst (-1), 1) := by decide +kernel
theorem dX13_goesEnd_112 : decode cX13_goesEnd 112 = .ok (.if_icmp .eq 18, 3) := by decide +kernel
theorem dX13_goesEnd_115 : decode cX13_goesEnd 115 = .ok (.aload_n 0, 1) := by decide +kernel
theorem dX13_goesEnd_116 : decode cX13_goesEnd 116 = .ok (.iload_n 1, 1) := by decide +kernel
theorem dX13_goesEnd_117 : decode cX13_goesEnd 117 = .ok (.iload_n 3, 1) := by decide +kernel
theorem dX13_goesEnd_118 : decode cX13_goesEnd 118 = .ok (.iload 5, 2) := by decide +kernel
theorem dX13_goesEnd_120 : decode cX13_goesEnd 120 = .ok (.invokevirtual 429, 3) := by decide +kernel
theorem dX13_goesEnd_123 : decode cX13_goesEnd 123 = .ok (.ifCond .eq 7, 3) := by decide +kernel
theorem dX13_goesEnd_126 : decode cX13_goesEnd 126 = .ok (.iconst 1, 1) := by decide +kernel
theorem dX13_goesEnd_127 : decode cX13_goesEnd 127 = .ok (.goto 4, 3) := by decide +kernel
theorem dX13_goesEnd_130 : decode cX13_goesEnd 130 = .ok (.iconst 0, 1) := by decide +kernel
theorem dX13_goesEnd_131 : decode cX13_goesEnd 131 = .ok (.ireturn, 1) := by decide +kernel
theorem dX13_makes_0 : decode cX13_makes 0 = .ok (.iload_n 2, 1) := by decide +kernel
theorem dX13_makes_1 : decode cX13_makes 1 = .ok (.tableswitch 94 0 5 #[39, 48, 57, 57, 76, 85], 39) := by decide +kernel
theorem dX13_makes_40 : decode cX13_makes 40 = .ok (.aload_n 0, 1) := by decide +kernel
theorem dX13_makes_41 : decode cX13_makes 41 = .ok (.iload_n 1, 1) := by decide +kernel
theorem dX13_makes_42 : decode cX13_makes 42 = .ok (.invokevirtual 438, 3) := by decide +kernel
theorem dX13_makes_45 : decode cX13_makes 45 = .ok (.istore_n 3, 1) := by decide +kernel
theorem dX13_makes_46 : decode cX13_makes 46 = .ok (.goto 77, 3) := by decide +kernel
theorem dX13_makes_49 : decode cX13_makes 49 = .ok (.aload_n 0, 1) := by decide +kernel
theorem dX13_makes_50 : decode cX13_makes 50 = .ok (.iload_n 1, 1) := by decide +kernel
theorem dX13_makes_51 : decode cX13_makes 51 = .ok (.invokevirtual 441, 3) := by decide +kernel
theorem dX13_makes_54 : decode cX13_makes 54 = .ok (.istore_n 3, 1) := by decide +kernel
theorem dX13_makes_55 : decode cX13_makes 55 = .ok (.goto 68, 3) := by decide +kernel
theorem dX13_makes_58 : decode cX13_makes 58 = .ok (.aload_n 0, 1) := by decide +kernel
theorem dX13_makes_59 : decode cX13_makes 59 = .ok (.iload_n 1, 1) := by decide +kernel
theorem dX13_makes_60 : decode cX13_makes 60 = .ok (.iload_n 2, 1) := by decide +kernel
theorem dX13_makes_61 : decode cX13_makes 61 = .ok (.iconst 2, 1) := by decide +kernel
theorem dX13_makes_62 : decode cX13_makes 62 = .ok (.if_icmp .ne 7, 3) := by decide +kernel
theorem dX13_makes_65 : decode cX13_makes 65 = .ok (.iconst (-1), 1) := by decide +kernel
theorem dX13_makes_66 : decode cX13_makes 66 = .ok (.goto 4, 3) := by decide +kernel
theorem dX13_makes_69 : decode cX13_makes 69 = .ok (.iconst 1, 1) := by decide +kernel
theorem dX13_makes_70 : decode cX13_makes 70 = .ok (.invokevirtual 444, 3) := by decide +kernel
theorem dX13_makes_73 : decode cX13_makes 73 = .ok (.istore_n 3, 1) := by decide +kernel
theorem dX13_makes_74 : decode cX13_makes 74 = .ok (.goto 49, 3) := by decide +kernel
theorem dX13_makes_77 : decode cX13_makes 77 = .ok (.aload_n 0, 1) := by decide +kernel
theorem dX13_makes_78 : decode cX13_makes 78 = .ok (.iload_n 1, 1) := by decide +kernel
theorem dX13_makes_79 : decode cX13_makes 79 = .ok (.invokevirtual 447, 3) := by decide +kernel
theorem dX13_makes_82 : decode cX13_makes 82 = .ok (.istore_n 3, 1) := by decide +kernel
theorem dX13_makes_83 : decode cX13_makes 83 = .ok (.goto 40, 3) := by decide +kernel
theorem dX13_makes_86 : decode cX13_makes 86 = .ok (.aload_n 0, 1) := by decide +kernel
theorem dX13_makes_87 : decode cX13_makes 87 = .ok (.iload_n 1, 1) := by decide +kernel
theorem dX13_makes_88 : decode cX13_makes 88 = .ok (.invokevirtual 450, 3) := by decide +kernel
theorem dX13_makes_91 : decode cX13_makes 91 = .ok (.istore_n 3, 1) := by decide +kernel
theorem dX13_makes_92 : decode cX13_makes 92 = .ok (.goto 31, 3) := by decide +kernel
theorem dX13_makes_95 : decode cX13_makes 95 = .ok (.aload_n 0, 1) := by decide +kernel
theorem dX13_makes_96 : decode cX13_makes 96 = .ok (.iload_n 1, 1) := by decide +kernel
theorem dX13_makes_97 : decode cX13_makes 97 = .ok (.iload_n 2, 1) := by decide +kernel
theorem dX13_makes_98 : decode cX13_makes 98 = .ok (.bipush 6, 2) := by decide +kernel
theorem dX13_makes_100 : decode cX13_makes 100 = .ok (.if_icmp .ne 13, 3) := by decide +kernel
theorem dX13_makes_103 : decode cX13_makes 103 = .ok (.aload_n 0, 1) := by decide +kernel
theorem dX13_makes_104 : decode cX13_makes 104 = .ok (.getfield 97, 3) := by decide +kernel
theorem dX13_makes_107 : decode cX13_makes 107 = .ok (.iload_n 1, 1) := by decide +kernel
theorem dX13_makes_108 : decode cX13_makes 108 = .ok (.iaload, 1) := by decide +kernel
theorem dX13_makes_109 : decode cX13_makes 109 = .ok (.ineg, 1) := by decide +kernel
theorem dX13_makes_110 : decode cX13_makes 110 = .ok (.goto 9, 3) := by decide +kernel
theorem dX13_makes_113 : decode cX13_makes 113 = .ok (.aload_n 0, 1) := by decide +kernel
theorem dX13_makes_114 : decode cX13_makes 114 = .ok (.getfield 97, 3) := by decide +kernel
theorem dX13_makes_117 : decode cX13_makes 117 = .ok (.iload_n 1, 1) := by decide +kernel
theorem dX13_makes_118 : decode cX13_makes 118 = .ok (.iaload, 1) := by decide +kernel
theorem dX13_makes_119 : decode cX13_makes 119 = .ok (.invokevirtual 444, 3) := by decide +kernel
theorem dX13_makes_122 : decode cX13_makes 122 = .ok (.istore_n 3, 1) := by decide +kernel
theorem dX13_makes_123 : decode cX13_makes 123 = .ok (.iload_n 2, 1) := by decide +kernel
theorem dX13_makes_124 : decode cX13_makes 124 = .ok (.iconst 2, 1) := by decide +kernel
theorem dX13_makes_125 : decode cX13_makes 125 = .ok (.if_icmp .eq 14, 3) := by decide +kernel
theorem dX13_makes_128 : decode cX13_makes 128 = .ok (.iload_n 2, 1) := by decide +kernel
theorem dX13_makes_129 : decode cX13_makes 129 = .ok (.iconst 3, 1) := by decide +kernel
theorem dX13_makes_130 : decode cX13_makes 130 = .ok (.if_icmp .eq 9, 3) := by decide +kernel
theorem dX13_makes_133 : decode cX13_makes 133 = .ok (.iload_n 2, 1) := by decide +kernel
theorem dX13_makes_134 : decode cX13_makes 134 = .ok (.bipush 6, 2) := by decide +kernel
theorem dX13_makes_136 : decode cX13_makes 136 = .ok (.if_icmp .lt 7, 3) := by decide +kernel
theorem dX13_makes_139 : decode cX13_makes 139 = .ok (.iconst 1, 1) := by decide +kernel
theorem dX13_makes_140 : decode cX13_makes 140 = .ok (.goto 4, 3) := by decide +kernel
theorem dX13_makes_143 : decode cX13_makes 143 = .ok (.iconst 0, 1) := by decide +kernel
theorem dX13_makes_144 : decode cX13_makes 144 = .ok (.istore 4, 2) := by decide +kernel
theorem dX13_makes_146 : decode cX13_makes 146 = .ok (.aload_n 0, 1) := by decide +kernel
theorem dX13_makes_147 : decode cX13_makes 147 = .ok (.getfield 88, 3) := by decide +kernel
theorem dX13_makes_150 : decode cX13_makes 150 = .ok (.iload_n 1, 1) := by decide +kernel
theorem dX13_makes_151 : decode cX13_makes 151 = .ok (.iload 4, 2) := by decide +kernel
theorem dX13_makes_153 : decode cX13_makes 153 = .ok (.ifCond .eq 12, 3) := by decide +kernel
theorem dX13_makes_156 : decode cX13_makes 156 = .ok (.aload_n 0, 1) := by decide +kernel
theorem dX13_makes_157 : decode cX13_makes 157 = .ok (.getfield 88, 3) := by decide +kernel
theorem dX13_makes_160 : decode cX13_makes 160 = .ok (.iload_n 1, 1) := by decide +kernel
theorem dX13_makes_161 : decode cX13_makes 161 = .ok (.iaload, 1) := by decide +kernel
theorem dX13_makes_162 : decode cX13_makes 162 = .ok (.goto 8, 3) := by decide +kernel
theorem dX13_makes_165 : decode cX13_makes 165 = .ok (.aload_n 0, 1) := by decide +kernel
theorem dX13_makes_166 : decode cX13_makes 166 = .ok (.iload_n 1, 1) := by decide +kernel
theorem dX13_makes_167 : decode cX13_makes 167 = .ok (.invokevirtual 420, 3) := by decide +kernel
theorem dX13_makes_170 : decode cX13_makes 170 = .ok (.iastore, 1) := by decide +kernel
theorem dX13_makes_171 : decode cX13_makes 171 = .ok (.iload_n 3, 1) := by decide +kernel
theorem dX13_makes_172 : decode cX13_makes 172 = .ok (.ifCond .eq 8, 3) := by decide +kernel
theorem dX13_makes_175 : decode cX13_makes 175 = .ok (.aload_n 0, 1) := by decide +kernel
theorem dX13_makes_176 : decode cX13_makes 176 = .ok (.iload_n 1, 1) := by decide +kernel
theorem dX13_makes_177 : decode cX13_makes 177 = .ok (.invokevirtual 423, 3) := by decide +kernel
theorem dX13_makes_180 : decode cX13_makes 180 = .ok (.iload_n 3, 1) := by decide +kernel
theorem dX13_makes_181 : decode cX13_makes 181 = .ok (.ireturn, 1) := by decide +kernel
theorem dX13_logs_0 : decode cX13_logs 0 = .ok (.aload_n 0, 1) := by decide +kernel
theorem dX13_logs_1 : decode cX13_logs 1 = .ok (.getfield 453, 3) := by decide +kernel
theorem dX13_logs_4 : decode cX13_logs 4 = .ok (.bipush 50, 2) := by decide +kernel
theorem dX13_logs_6 : decode cX13_logs 6 = .ok (.if_icmp .ne 57, 3) := by decide +kernel
theorem dX13_logs_9 : decode cX13_logs 9 = .ok (.aload_n 0, 1) := by decide +kernel
theorem dX13_logs_10 : decode cX13_logs 10 = .ok (.dup, 1) := by decide +kernel
theorem dX13_logs_11 : decode cX13_logs 11 = .ok (.getfield 453, 3) := by decide +kernel
theorem dX13_logs_14 : decode cX13_logs 14 = .ok (.iconst 1, 1) := by decide +kernel
theorem dX13_logs_15 : decode cX13_logs 15 = .ok (.isub, 1) := by decide +kernel
theorem dX13_logs_16 : decode cX13_logs 16 = .ok (.putfield 453, 3) := by decide +kernel
theorem dX13_logs_19 : decode cX13_logs 19 = .ok (.iconst 0, 1) := by decide +kernel
theorem dX13_logs_20 : decode cX13_logs 20 = .ok (.istore_n 3, 1) := by decide +kernel
theorem dX13_logs_21 : decode cX13_logs 21 = .ok (.iload_n 3, 1) := by decide +kernel
theorem dX13_logs_22 : decode cX13_logs 22 = .ok (.aload_n 0, 1) := by decide +kernel
theorem dX13_logs_23 : decode cX13_logs 23 = .ok (.getfield 453, 3) := by decide +kernel
theorem dX13_logs_26 : decode cX13_logs 26 = .ok (.if_icmp .ge 37, 3) := by decide +kernel
theorem dX13_logs_29 : decode cX13_logs 29 = .ok (.aload_n 0, 1) := by decide +kernel
theorem dX13_logs_30 : decode cX13_logs 30 = .ok (.getfield 169, 3) := by decide +kernel
theorem dX13_logs_33 : decode cX13_logs 33 = .ok (.iload_n 3, 1) := by decide +kernel
theorem dX13_logs_34 : decode cX13_logs 34 = .ok (.aload_n 0, 1) := by decide +kernel
theorem dX13_logs_35 : decode cX13_logs 35 = .ok (.getfield 169, 3) := by decide +kernel
theorem dX13_logs_38 : decode cX13_logs 38 = .ok (.iload_n 3, 1) := by decide +kernel
theorem dX13_logs_39 : decode cX13_logs 39 = .ok (.iconst 1, 1) := by decide +kernel
theorem dX13_logs_40 : decode cX13_logs 40 = .ok (.iadd, 1) := by decide +kernel
theorem dX13_logs_41 : decode cX13_logs 41 = .ok (.iaload, 1) := by decide +kernel
theorem dX13_logs_42 : decode cX13_logs 42 = .ok (.iastore, 1) := by decide +kernel
theorem dX13_logs_43 : decode cX13_logs 43 = .ok (.aload_n 0, 1) := by decide +kernel
theorem dX13_logs_44 : decode cX13_logs 44 = .ok (.getfield 172, 3) := by decide +kernel
theorem dX13_logs_47 : decode cX13_logs 47 = .ok (.iload_n 3, 1) := by decide +kernel
theorem dX13_logs_48 : decode cX13_logs 48 = .ok (.aload_n 0, 1) := by decide +kernel
theorem dX13_logs_49 : decode cX13_logs 49 = .ok (.getfield 172, 3) := by decide +kernel
theorem dX13_logs_52 : decode cX13_logs 52 = .ok (.iload_n 3, 1) := by decide +kernel
theorem dX13_logs_53 : decode cX13_logs 53 = .ok (.iconst 1, 1) := by decide +kernel
theorem dX13_logs_54 : decode cX13_logs 54 = .ok (.iadd, 1) := by decide +kernel
theorem dX13_logs_55 : decode cX13_logs 55 = .ok (.iaload, 1) := by decide +kernel
theorem dX13_logs_56 : decode cX13_logs 56 = .ok (.iastore, 1) := by decide +kernel
theorem dX13_logs_57 : decode cX13_logs 57 = .ok (.iinc 3 1, 3) := by decide +kernel
theorem dX13_logs_60 : decode cX13_logs 60 = .ok (.goto (-39), 3) := by decide +kernel
theorem dX13_logs_63 : decode cX13_logs 63 = .ok (.aload_n 0, 1) := by decide +kernel
theorem dX13_logs_64 : decode cX13_logs 64 = .ok (.getfield 169, 3) := by decide +kernel
theorem dX13_logs_67 : decode cX13_logs 67 = .ok (.aload_n 0, 1) := by decide +kernel
theorem dX13_logs_68 : decode cX13_logs 68 = .ok (.getfield 453, 3) := by decide +kernel
theorem dX13_logs_71 : decode cX13_logs 71 = .ok (.iload_n 1, 1) := by decide +kernel
theorem dX13_logs_72 : decode cX13_logs 72 = .ok (.iastore, 1) := by decide +kernel
theorem dX13_logs_73 : decode cX13_logs 73 = .ok (.aload_n 0, 1) := by decide +kernel
theorem dX13_logs_74 : decode cX13_logs 74 = .ok (.getfield 172, 3) := by decide +kernel
theorem dX13_logs_77 : decode cX13_logs 77 = .ok (.aload_n 0, 1) := by decide +kernel
theorem dX13_logs_78 : decode cX13_logs 78 = .ok (.getfield 453, 3) := by decide +kernel
theorem dX13_logs_81 : decode cX13_logs 81 = .ok (.iload_n 2, 1) := by decide +kernel
theorem dX13_logs_82 : decode cX13_logs 82 = .ok (.iastore, 1) := by decide +kernel
theorem dX13_logs_83 : decode cX13_logs 83 = .ok (.aload_n 0, 1) := by decide +kernel
theorem dX13_logs_84 : decode cX13_logs 84 = .ok (.dup, 1) := by decide +kernel
theorem dX13_logs_85 : decode cX13_logs 85 = .ok (.getfield 453, 3) := by decide +kernel
theorem dX13_logs_88 : decode cX13_logs 88 = .ok (.iconst 1, 1) := by decide +kernel
theorem dX13_logs_89 : decode cX13_logs 89 = .ok (.iadd, 1) := by decide +kernel
theorem dX13_logs_90 : decode cX13_logs 90 = .ok (.putfield 453, 3) := by decide +kernel
theorem dX13_logs_93 : decode cX13_logs 93 = .ok (.return_, 1) := by decide +kernel
theorem dX13_move_0 : decode cX13_move 0 = .ok (.iload_n 1, 1) := by decide +kernel
theorem dX13_move_1 : decode cX13_move 1 = .ok (.invokestatic 236, 3) := by decide +kernel
theorem dX13_move_4 : decode cX13_move 4 = .ok (.istore_n 3, 1) := by decide +kernel
theorem dX13_move_5 : decode cX13_move 5 = .ok (.aload_n 0, 1) := by decide +kernel
theorem dX13_move_6 : decode cX13_move 6 = .ok (.iload_n 3, 1) := by decide +kernel
theorem dX13_move_7 : decode cX13_move 7 = .ok (.ifCond .ne 7, 3) := by decide +kernel
theorem dX13_move_10 : decode cX13_move 10 = .ok (.iconst 1, 1) := by decide +kernel
theorem dX13_move_11 : decode cX13_move 11 = .ok (.goto 31, 3) := by decide +kernel
theorem dX13_move_14 : decode cX13_move 14 = .ok (.iload_n 2, 1) := by decide +kernel
theorem dX13_move_15 : decode cX13_move 15 = .ok (.iconst 0, 1) := by decide +kernel
theorem dX13_move_16 : decode cX13_move 16 = .ok (.bipush 7, 2) := by decide +kernel
theorem dX13_move_18 : decode cX13_move 18 = .ok (.invokestatic 187, 3) := by decide +kernel
theorem dX13_move_21 : decode cX13_move 21 = .ok (.ifCond .ne 7, 3) := by decide +kernel
theorem dX13_move_24 : decode cX13_move 24 = .ok (.iconst 2, 1) := by decide +kernel
theorem dX13_move_25 : decode cX13_move 25 = .ok (.goto 17, 3) := by decide +kernel
theorem dX13_move_28 : decode cX13_move 28 = .ok (.aload_n 0, 1) := by decide +kernel
theorem dX13_move_29 : decode cX13_move 29 = .ok (.getfield 33, 3) := by decide +kernel
theorem dX13_move_32 : decode cX13_move 32 = .ok (.iload_n 1, 1) := by decide +kernel
theorem dX13_move_33 : decode cX13_move 33 = .ok (.baload, 1) := by decide +kernel
theorem dX13_move_34 : decode cX13_move 34 = .ok (.ifCond .ne 7, 3) := by decide +kernel
theorem dX13_move_37 : decode cX13_move 37 = .ok (.iconst 3, 1) := by decide +kernel
theorem dX13_move_38 : decode cX13_move 38 = .ok (.goto 4, 3) := by decide +kernel
theorem dX13_move_41 : decode cX13_move 41 = .ok (.iconst 0, 1) := by decide +kernel
theorem dX13_move_42 : decode cX13_move 42 = .ok (.invokevirtual 195, 3) := by decide +kernel
theorem dX13_move_45 : decode cX13_move 45 = .ok (.ifCond .ne 5, 3) := by decide +kernel
theorem dX13_move_48 : decode cX13_move 48 = .ok (.iconst 0, 1) := by decide +kernel
theorem dX13_move_49 : decode cX13_move 49 = .ok (.ireturn, 1) := by decide +kernel
theorem dX13_move_50 : decode cX13_move 50 = .ok (.aload_n 0, 1) := by decide +kernel
theorem dX13_move_51 : decode cX13_move 51 = .ok (.iload_n 1, 1) := by decide +kernel
theorem dX13_move_52 : decode cX13_move 52 = .ok (.iload_n 2, 1) := by decide +kernel
theorem dX13_move_53 : decode cX13_move 53 = .ok (.invokevirtual 456, 3) := by decide +kernel
theorem dX13_move_56 : decode cX13_move 56 = .ok (.aload_n 0, 1) := by decide +kernel
theorem dX13_move_57 : decode cX13_move 57 = .ok (.iload_n 1, 1) := by decide +kernel
theorem dX13_move_58 : decode cX13_move 58 = .ok (.iload_n 2, 1) := by decide +kernel
theorem dX13_move_59 : decode cX13_move 59 = .ok (.invokevirtual 459, 3) := by decide +kernel
theorem dX13_move_62 : decode cX13_move 62 = .ok (.ireturn, 1) := by decide +kernel
theorem dX13_play_0 : decode cX13_play 0 = .ok (.iload_n 1, 1) := by decide +kernel
theorem dX13_play_1 : decode cX13_play 1 = .ok (.invokestatic 236, 3) := by decide +kernel
theorem dX13_play_4 : decode cX13_play 4 = .ok (.ifCond .eq 14, 3) := by decide +kernel
theorem dX13_play_7 : decode cX13_play 7 = .ok (.iload_n 2, 1) := by decide +kernel
theorem dX13_play_8 : decode cX13_play 8 = .ok (.invokestatic 236, 3) := by decide +kernel
theorem dX13_play_11 : decode cX13_play 11 = .ok (.ifCond .eq 7, 3) := by decide +kernel
theorem dX13_play_14 : decode cX13_play 14 = .ok (.iconst 1, 1) := by decide +kernel
theorem dX13_play_15 : decode cX13_play 15 = .ok (.goto 4, 3) := by decide +kernel
theorem dX13_play_18 : decode cX13_play 18 = .ok (.iconst 0, 1) := by decide +kernel
theorem dX13_play_19 : decode cX13_play 19 = .ok (.istore_n 3, 1) := by decide +kernel
theorem dX13_play_20 : decode cX13_play 20 = .ok (.aload_n 0, 1) := by decide +kernel
theorem dX13_play_21 : decode cX13_play 21 = .ok (.iload_n 3, 1) := by decide +kernel
theorem dX13_play_22 : decode cX13_play 22 = .ok (.ifCond .ne 7, 3) := by decide +kernel
theorem dX13_play_25 : decode cX13_play 25 = .ok (.iconst 1, 1) := by decide +kernel
theorem dX13_play_26 : decode cX13_play 26 = .ok (.goto 17, 3) := by decide +kernel
theorem dX13_play_29 : decode cX13_play 29 = .ok (.aload_n 0, 1) := by decide +kernel
theorem dX13_play_30 : decode cX13_play 30 = .ok (.getfield 33, 3) := by decide +kernel
theorem dX13_play_33 : decode cX13_play 33 = .ok (.iload_n 2, 1) := by decide +kernel
theorem dX13_play_34 : decode cX13_play 34 = .ok (.baload, 1) := by decide +kernel
theorem dX13_play_35 : decode cX13_play 35 = .ok (.ifCond .ne 7, 3) := by decide +kernel
theorem dX13_play_38 : decode cX13_play 38 = .ok (.iconst 2, 1) := by decide +kernel
theorem dX13_play_39 : decode cX13_play 39 = .ok (.goto 4, 3) := by decide +kernel
theorem dX13_play_42 : decode cX13_play 42 = .ok (.iconst 0, 1) := by decide +kernel
theorem dX13_play_43 : decode cX13_play 43 = .ok (.invokevirtual 195, 3) := by decide +kernel
theorem dX13_play_46 : decode cX13_play 46 = .ok (.ifCond .ne 5, 3) := by decide +kernel
theorem dX13_play_49 : decode cX13_play 49 = .ok (.iconst 0, 1) := by decide +kernel
theorem dX13_play_50 : decode cX13_play 50 = .ok (.ireturn, 1) := by decide +kernel
theorem dX13_play_51 : decode cX13_play 51 = .ok (.iconst 0, 1) := by decide +kernel
theorem dX13_play_52 : decode cX13_play 52 = .ok (.istore 4, 2) := by decide +kernel
theorem dX13_play_54 : decode cX13_play 54 = .ok (.iconst 0, 1) := by decide +kernel
theorem dX13_play_55 : decode cX13_play 55 = .ok (.istore 5, 2) := by decide +kernel
theorem dX13_play_57 : decode cX13_play 57 = .ok (.iload 5, 2) := by decide +kernel
theorem dX13_play_59 : decode cX13_play 59 = .ok (.aload_n 0, 1) := by decide +kernel
theorem dX13_play_60 : decode cX13_play 60 = .ok (.getfield 453, 3) := by decide +kernel
theorem dX13_play_63 : decode cX13_play 63 = .ok (.if_icmp .ge 45, 3) := by decide +kernel
theorem dX13_play_66 : decode cX13_play 66 = .ok (.aload_n 0, 1) := by decide +kernel
theorem dX13_play_67 : decode cX13_play 67 = .ok (.getfield 169, 3) := by decide +kernel
theorem dX13_play_70 : decode cX13_play 70 = .ok (.iload 5, 2) := by decide +kernel
theorem dX13_play_72 : decode cX13_play 72 = .ok (.iaload, 1) := by decide +kernel
theorem dX13_play_73 : decode cX13_play 73 = .ok (.iload_n 1, 1) := by decide +kernel
theorem dX13_play_74 : decode cX13_play 74 = .ok (.if_icmp .ne 28, 3) := by decide +kernel
theorem dX13_play_77 : decode cX13_play 77 = .ok (.iload 4, 2) := by decide +kernel
theorem dX13_play_79 : decode cX13_play 79 = .ok (.aload_n 0, 1) := by decide +kernel
theorem dX13_play_80 : decode cX13_play 80 = .ok (.iload_n 2, 1) := by decide +kernel
theorem dX13_play_81 : decode cX13_play 81 = .ok (.aload_n 0, 1) := by decide +kernel
theorem dX13_play_82 : decode cX13_play 82 = .ok (.getfield 172, 3) := by decide +kernel
theorem dX13_play_85 : decode cX13_play 85 = .ok (.iload 5, 2) := by decide +kernel
theorem dX13_play_87 : decode cX13_play 87 = .ok (.iaload, 1) := by decide +kernel
theorem dX13_play_88 : decode cX13_play 88 = .ok (.invokevirtual 459, 3) := by decide +kernel
theorem dX13_play_91 : decode cX13_play 91 = .ok (.ifCond .eq 7, 3) := by decide +kernel
theorem dX13_play_94 : decode cX13_play 94 = .ok (.iconst 1, 1) := by decide +kernel
theorem dX13_play_95 : decode cX13_play 95 = .ok (.goto 4, 3) := by decide +kernel
theorem dX13_play_98 : decode cX13_play 98 = .ok (.iconst 0, 1) := by decide +kernel
theorem dX13_play_99 : decode cX13_play 99 = .ok (.iadd, 1) := by decide +kernel
theorem dX13_play_100 : decode cX13_play 100 = .ok (.istore 4, 2) := by decide +kernel
theorem dX13_play_102 : decode cX13_play 102 = .ok (.iinc 5 1, 3) := by decide +kernel
theorem dX13_play_105 : decode cX13_play 105 = .ok (.goto (-48), 3) := by decide +kernel
theorem dX13_play_108 : decode cX13_play 108 = .ok (.iload 4, 2) := by decide +kernel
theorem dX13_play_110 : decode cX13_play 110 = .ok (.ireturn, 1) := by decide +kernel
theorem dX13_cursor_0 : decode cX13_cursor 0 = .ok (.aload_n 0, 1) := by decide +kernel
theorem dX13_cursor_1 : decode cX13_cursor 1 = .ok (.iload_n 1, 1) := by decide +kernel
theorem dX13_cursor_2 : decode cX13_cursor 2 = .ok (.invokestatic 236, 3) := by decide +kernel
theorem dX13_cursor_5 : decode cX13_cursor 5 = .ok (.ifCond .ne 7, 3) := by decide +kernel
theorem dX13_cursor_8 : decode cX13_cursor 8 = .ok (.iconst 1, 1) := by decide +kernel
theorem dX13_cursor_9 : decode cX13_cursor 9 = .ok (.goto 17, 3) := by decide +kernel
theorem dX13_cursor_12 : decode cX13_cursor 12 = .ok (.iload_n 2, 1) := by decide +kernel
theorem dX13_cursor_13 : decode cX13_cursor 13 = .ok (.iconst 0, 1) := by decide +kernel
theorem dX13_cursor_14 : decode cX13_cursor 14 = .ok (.iconst 5, 1) := by decide +kernel
theorem dX13_cursor_15 : decode cX13_cursor 15 = .ok (.invokestatic 187, 3) := by decide +kernel
theorem dX13_cursor_18 : decode cX13_cursor 18 = .ok (.ifCond .ne 7, 3) := by decide +kernel
theorem dX13_cursor_21 : decode cX13_cursor 21 = .ok (.iconst 2, 1) := by decide +kernel
theorem dX13_cursor_22 : decode cX13_cursor 22 = .ok (.goto 4, 3) := by decide +kernel
theorem dX13_cursor_25 : decode cX13_cursor 25 = .ok (.iconst 0, 1) := by decide +kernel
theorem dX13_cursor_26 : decode cX13_cursor 26 = .ok (.invokevirtual 195, 3) := by decide +kernel
theorem dX13_cursor_29 : decode cX13_cursor 29 = .ok (.ifCond .ne 5, 3) := by decide +kernel
theorem dX13_cursor_32 : decode cX13_cursor 32 = .ok (.iconst 0, 1) := by decide +kernel
theorem dX13_cursor_33 : decode cX13_cursor 33 = .ok (.ireturn, 1) := by decide +kernel
theorem dX13_cursor_34 : decode cX13_cursor 34 = .ok (.iload_n 2, 1) := by decide +kernel
theorem dX13_cursor_35 : decode cX13_cursor 35 = .ok (.ifCond .ne 11, 3) := by decide +kernel
theorem dX13_cursor_38 : decode cX13_cursor 38 = .ok (.aload_n 0, 1) := by decide +kernel
theorem dX13_cursor_39 : decode cX13_cursor 39 = .ok (.iload_n 1, 1) := by decide +kernel
theorem dX13_cursor_40 : decode cX13_cursor 40 = .ok (.invokevirtual 396, 3) := by decide +kernel
theorem dX13_cursor_43 : decode cX13_cursor 43 = .ok (.goto 61, 3) := by decide +kernel
theorem dX13_cursor_46 : decode cX13_cursor 46 = .ok (.iload_n 2, 1) := by decide +kernel
theorem dX13_cursor_47 : decode cX13_cursor 47 = .ok (.iconst 1, 1) := by decide +kernel
theorem dX13_cursor_48 : decode cX13_cursor 48 = .ok (.if_icmp .ne 11, 3) := by decide +kernel
theorem dX13_cursor_51 : decode cX13_cursor 51 = .ok (.aload_n 0, 1) := by decide +kernel
theorem dX13_cursor_52 : decode cX13_cursor 52 = .ok (.iload_n 1, 1) := by decide +kernel
theorem dX13_cursor_53 : decode cX13_cursor 53 = .ok (.invokevirtual 399, 3) := by decide +kernel
theorem dX13_cursor_56 : decode cX13_cursor 56 = .ok (.goto 48, 3) := by decide +kernel
theorem dX13_cursor_59 : decode cX13_cursor 59 = .ok (.iload_n 2, 1) := by decide +kernel
theorem dX13_cursor_60 : decode cX13_cursor 60 = .ok (.iconst 2, 1) := by decide +kernel
theorem dX13_cursor_61 : decode cX13_cursor 61 = .ok (.if_icmp .ne 11, 3) := by decide +kernel
theorem dX13_cursor_64 : decode cX13_cursor 64 = .ok (.aload_n 0, 1) := by decide +kernel
theorem dX13_cursor_65 : decode cX13_cursor 65 = .ok (.iload_n 1, 1) := by decide +kernel
theorem dX13_cursor_66 : decode cX13_cursor 66 = .ok (.invokevirtual 405, 3) := by decide +kernel
theorem dX13_cursor_69 : decode cX13_cursor 69 = .ok (.goto 35, 3) := by decide +kernel
theorem dX13_cursor_72 : decode cX13_cursor 72 = .ok (.iload_n 2, 1) := by decide +kernel
theorem dX13_cursor_73 : decode cX13_cursor 73 = .ok (.iconst 3, 1) := by decide +kernel
theorem dX13_cursor_74 : decode cX13_cursor 74 = .ok (.if_icmp .ne 11, 3) := by decide +kernel
theorem dX13_cursor_77 : decode cX13_cursor 77 = .ok (.aload_n 0, 1) := by decide +kernel
theorem dX13_cursor_78 : decode cX13_cursor 78 = .ok (.iload_n 1, 1) := by decide +kernel
theorem dX13_cursor_79 : decode cX13_cursor 79 = .ok (.invokevirtual 420, 3) := by decide +kernel
theorem dX13_cursor_82 : decode cX13_cursor 82 = .ok (.goto 22, 3) := by decide +kernel
theorem dX13_cursor_85 : decode cX13_cursor 85 = .ok (.iload_n 2, 1) := by decide +kernel
theorem dX13_cursor_86 : decode cX13_cursor 86 = .ok (.iconst 4, 1) := by decide +kernel
theorem dX13_cursor_87 : decode cX13_cursor 87 = .ok (.if_icmp .ne 12, 3) := by decide +kernel
theorem dX13_cursor_90 : decode cX13_cursor 90 = .ok (.aload_n 0, 1) := by decide +kernel
theorem dX13_cursor_91 : decode cX13_cursor 91 = .ok (.getfield 88, 3) := by decide +kernel
theorem dX13_cursor_94 : decode cX13_cursor 94 = .ok (.iload_n 1, 1) := by decide +kernel
theorem dX13_cursor_95 : decode cX13_cursor 95 = .ok (.iaload, 1) := by decide +kernel
theorem dX13_cursor_96 : decode cX13_cursor 96 = .ok (.goto 8, 3) := by decide +kernel
theorem dX13_cursor_99 : decode cX13_cursor 99 = .ok (.aload_n 0, 1) := by decide +kernel
theorem dX13_cursor_100 : decode cX13_cursor 100 = .ok (.iload_n 1, 1) := by decide +kernel
theorem dX13_cursor_101 : decode cX13_cursor 101 = .ok (.invokevirtual 408, 3) := by decide +kernel
theorem dX13_cursor_104 : decode cX13_cursor 104 = .ok (.ireturn, 1) := by decide +kernel
theorem dX13_scroll_0 : decode cX13_scroll 0 = .ok (.iload_n 1, 1) := by decide +kernel
theorem dX13_scroll_1 : decode cX13_scroll 1 = .ok (.invokestatic 236, 3) := by decide +kernel
theorem dX13_scroll_4 : decode cX13_scroll 4 = .ok (.istore_n 3, 1) := by decide +kernel
theorem dX13_scroll_5 : decode cX13_scroll 5 = .ok (.aload_n 0, 1) := by decide +kernel
theorem dX13_scroll_6 : decode cX13_scroll 6 = .ok (.iload_n 3, 1) := by decide +kernel
theorem dX13_scroll_7 : decode cX13_scroll 7 = .ok (.ifCond .ne 7, 3) := by decide +kernel
theorem dX13_scroll_10 : decode cX13_scroll 10 = .ok (.iconst 1, 1) := by decide +kernel
theorem dX13_scroll_11 : decode cX13_scroll 11 = .ok (.goto 32, 3) := by decide +kernel
theorem dX13_scroll_14 : decode cX13_scroll 14 = .ok (.iload_n 2, 1) := by decide +kernel
theorem dX13_scroll_15 : decode cX13_scroll 15 = .ok (.bipush (-100), 2) := by decide +kernel
theorem dX13_scroll_17 : decode cX13_scroll 17 = .ok (.bipush 100, 2) := by decide +kernel
theorem dX13_scroll_19 : decode cX13_scroll 19 = .ok (.invokestatic 187, 3) := by decide +kernel
theorem dX13_scroll_22 : decode cX13_scroll 22 = .ok (.ifCond .ne 7, 3) := by decide +kernel
theorem dX13_scroll_25 : decode cX13_scroll 25 = .ok (.iconst 2, 1) := by decide +kernel
theorem dX13_scroll_26 : decode cX13_scroll 26 = .ok (.goto 17, 3) := by decide +kernel
theorem dX13_scroll_29 : decode cX13_scroll 29 = .ok (.aload_n 0, 1) := by decide +kernel
theorem dX13_scroll_30 : decode cX13_scroll 30 = .ok (.getfield 33, 3) := by decide +kernel
theorem dX13_scroll_33 : decode cX13_scroll 33 = .ok (.iload_n 1, 1) := by decide +kernel
theorem dX13_scroll_34 : decode cX13_scroll 34 = .ok (.baload, 1) := by decide +kernel
theorem dX13_scroll_35 : decode cX13_scroll 35 = .ok (.ifCond .ne 7, 3) := by decide +kernel
theorem dX13_scroll_38 : decode cX13_scroll 38 = .ok (.iconst 3, 1) := by decide +kernel
theorem dX13_scroll_39 : decode cX13_scroll 39 = .ok (.goto 4, 3) := by decide +kernel
theorem dX13_scroll_42 : decode cX13_scroll 42 = .ok (.iconst 0, 1) := by decide +kernel
theorem dX13_scroll_43 : decode cX13_scroll 43 = .ok (.invokevirtual 195, 3) := by decide +kernel
theorem dX13_scroll_46 : decode cX13_scroll 46 = .ok (.ifCond .ne 5, 3) := by decide +kernel
theorem dX13_scroll_49 : decode cX13_scroll 49 = .ok (.iconst 0, 1) := by decide +kernel
theorem dX13_scroll_50 : decode cX13_scroll 50 = .ok (.ireturn, 1) := by decide +kernel
theorem dX13_scroll_51 : decode cX13_scroll 51 = .ok (.aload_n 0, 1) := by decide +kernel
theorem dX13_scroll_52 : decode cX13_scroll 52 = .ok (.iload_n 1, 1) := by decide +kernel
theorem dX13_scroll_53 : decode cX13_scroll 53 = .ok (.aload_n 0, 1) := by decide +kernel
theorem dX13_scroll_54 : decode cX13_scroll 54 = .ok (.getfield 20, 3) := by decide +kernel
theorem dX13_scroll_57 : decode cX13_scroll 57 = .ok (.invokevirtual 339, 3) := by decide +kernel
theorem dX13_scroll_60 : decode cX13_scroll 60 = .ok (.iconst 1, 1) := by decide +kernel
theorem dX13_scroll_61 : decode cX13_scroll 61 = .ok (.isub, 1) := by decide +kernel
theorem dX13_scroll_62 : decode cX13_scroll 62 = .ok (.istore 4, 2) := by decide +kernel
theorem dX13_scroll_64 : decode cX13_scroll 64 = .ok (.aload_n 0, 1) := by decide +kernel
theorem dX13_scroll_65 : decode cX13_scroll 65 = .ok (.iload_n 1, 1) := by decide +kernel
theorem dX13_scroll_66 : decode cX13_scroll 66 = .ok (.aload_n 0, 1) := by decide +kernel
theorem dX13_scroll_67 : decode cX13_scroll 67 = .ok (.iload_n 1, 1) := by decide +kernel
theorem dX13_scroll_68 : decode cX13_scroll 68 = .ok (.invokevirtual 408, 3) := by decide +kernel
theorem dX13_scroll_71 : decode cX13_scroll 71 = .ok (.iload_n 2, 1) := by decide +kernel
theorem dX13_scroll_72 : decode cX13_scroll 72 = .ok (.iadd, 1) := by decide +kernel
theorem dX13_scroll_73 : decode cX13_scroll 73 = .ok (.iconst 0, 1) := by decide +kernel
theorem dX13_scroll_74 : decode cX13_scroll 74 = .ok (.invokestatic 315, 3) := by decide +kernel
theorem dX13_scroll_77 : decode cX13_scroll 77 = .ok (.iload 4, 2) := by decide +kernel
theorem dX13_scroll_79 : decode cX13_scroll 79 = .ok (.invokestatic 216, 3) := by decide +kernel
theorem dX13_scroll_82 : decode cX13_scroll 82 = .ok (.invokevirtual 414, 3) := by decide +kernel
theorem dX13_scroll_85 : decode cX13_scroll 85 = .ok (.aload_n 0, 1) := by decide +kernel
theorem dX13_scroll_86 : decode cX13_scroll 86 = .ok (.iload_n 1, 1) := by decide +kernel
theorem dX13_scroll_87 : decode cX13_scroll 87 = .ok (.invokevirtual 408, 3) := by decide +kernel
theorem dX13_scroll_90 : decode cX13_scroll 90 = .ok (.istore 5, 2) := by decide +kernel
theorem dX13_scroll_92 : decode cX13_scroll 92 = .ok (.aload_n 0, 1) := by decide +kernel
theorem dX13_scroll_93 : decode cX13_scroll 93 = .ok (.iload_n 1, 1) := by decide +kernel
theorem dX13_scroll_94 : decode cX13_scroll 94 = .ok (.invokevirtual 411, 3) := by decide +kernel
theorem dX13_scroll_97 : decode cX13_scroll 97 = .ok (.istore 6, 2) := by decide +kernel
theorem dX13_scroll_99 : decode cX13_scroll 99 = .ok (.aload_n 0, 1) := by decide +kernel
theorem dX13_scroll_100 : decode cX13_scroll 100 = .ok (.iload_n 1, 1) := by decide +kernel
theorem dX13_scroll_101 : decode cX13_scroll 101 = .ok (.invokevirtual 405, 3) := by decide +kernel
theorem dX13_scroll_104 : decode cX13_scroll 104 = .ok (.istore 7, 2) := by decide +kernel
theorem dX13_scroll_106 : decode cX13_scroll 106 = .ok (.iload 7, 2) := by decide +kernel
theorem dX13_scroll_108 : decode cX13_scroll 108 = .ok (.iload 5, 2) := by decide +kernel
theorem dX13_scroll_110 : decode cX13_scroll 110 = .ok (.iload 6, 2) := by decide +kernel
theorem dX13_scroll_112 : decode cX13_scroll 112 = .ok (.iadd, 1) := by decide +kernel
theorem dX13_scroll_113 : decode cX13_scroll 113 = .ok (.if_icmp .ge 11, 3) := by decide +kernel
theorem dX13_scroll_116 : decode cX13_scroll 116 = .ok (.iload 5, 2) := by decide +kernel
theorem dX13_scroll_118 : decode cX13_scroll 118 = .ok (.iload 6, 2) := by decide +kernel
theorem dX13_scroll_120 : decode cX13_scroll 120 = .ok (.iadd, 1) := by decide +kernel
theorem dX13_scroll_121 : decode cX13_scroll 121 = .ok (.goto 41, 3) := by decide +kernel
theorem dX13_scroll_124 : decode cX13_scroll 124 = .ok (.iload 7, 2) := by decide +kernel
theorem dX13_scroll_126 : decode cX13_scroll 126 = .ok (.iload 5, 2) := by decide +kernel
theorem dX13_scroll_128 : decode cX13_scroll 128 = .ok (.aload_n 0, 1) := by decide +kernel
theorem dX13_scroll_129 : decode cX13_scroll 129 = .ok (.getfield 97, 3) := by decide +kernel
theorem dX13_scroll_132 : decode cX13_scroll 132 = .ok (.iload_n 1, 1) := by decide +kernel
theorem dX13_scroll_133 : decode cX13_scroll 133 = .ok (.iaload, 1) := by decide +kernel
theorem dX13_scroll_134 : decode cX13_scroll 134 = .ok (.iadd, 1) := by decide +kernel
theorem dX13_scroll_135 : decode cX13_scroll 135 = .ok (.iconst 1, 1) := by decide +kernel
theorem dX13_scroll_136 : decode cX13_scroll 136 = .ok (.isub, 1) := by decide +kernel
theorem dX13_scroll_137 : decode cX13_scroll 137 = .ok (.iload 6, 2) := by decide +kernel
theorem dX13_scroll_139 : decode cX13_scroll 139 = .ok (.isub, 1) := by decide +kernel
theorem dX13_scroll_140 : decode cX13_scroll 140 = .ok (.if_icmp .le 20, 3) := by decide +kernel
theorem dX13_scroll_143 : decode cX13_scroll 143 = .ok (.iload 5, 2) := by decide +kernel
theorem dX13_scroll_145 : decode cX13_scroll 145 = .ok (.aload_n 0, 1) := by decide +kernel
theorem dX13_scroll_146 : decode cX13_scroll 146 = .ok (.getfield 97, 3) := by decide +kernel
theorem dX13_scroll_149 : decode cX13_scroll 149 = .ok (.iload_n 1, 1) := by decide +kernel
theorem dX13_scroll_150 : decode cX13_scroll 150 = .ok (.iaload, 1) := by decide +kernel
theorem dX13_scroll_151 : decode cX13_scroll 151 = .ok (.iadd, 1) := by decide +kernel
theorem dX13_scroll_152 : decode cX13_scroll 152 = .ok (.iconst 1, 1) := by decide +kernel
theorem dX13_scroll_153 : decode cX13_scroll 153 = .ok (.isub, 1) := by decide +kernel
theorem dX13_scroll_154 : decode cX13_scroll 154 = .ok (.iload 6, 2) := by decide +kernel
theorem dX13_scroll_156 : decode cX13_scroll 156 = .ok (.isub, 1) := by decide +kernel
theorem dX13_scroll_157 : decode cX13_scroll 157 = .ok (.goto 5, 3) := by decide +kernel
theorem dX13_scroll_160 : decode cX13_scroll 160 = .ok (.iload 7, 2) := by decide +kernel
theorem dX13_scroll_162 : decode cX13_scroll 162 = .ok (.iload 4, 2) := by decide +kernel
theorem dX13_scroll_164 : decode cX13_scroll 164 = .ok (.invokestatic 216, 3) := by decide +kernel
theorem dX13_scroll_167 : decode cX13_scroll 167 = .ok (.istore 8, 2) := by decide +kernel
theorem dX13_scroll_169 : decode cX13_scroll 169 = .ok (.iload 8, 2) := by decide +kernel
theorem dX13_scroll_171 : decode cX13_scroll 171 = .ok (.iload 7, 2) := by decide +kernel
theorem dX13_scroll_173 : decode cX13_scroll 173 = .ok (.if_icmp .eq 28, 3) := by decide +kernel
theorem dX13_scroll_176 : decode cX13_scroll 176 = .ok (.aload_n 0, 1) := by decide +kernel
theorem dX13_scroll_177 : decode cX13_scroll 177 = .ok (.iload_n 1, 1) := by decide +kernel
theorem dX13_scroll_178 : decode cX13_scroll 178 = .ok (.aload_n 0, 1) := by decide +kernel
theorem dX13_scroll_179 : decode cX13_scroll 179 = .ok (.iload_n 1, 1) := by decide +kernel
theorem dX13_scroll_180 : decode cX13_scroll 180 = .ok (.iload 8, 2) := by decide +kernel
theorem dX13_scroll_182 : decode cX13_scroll 182 = .ok (.invokevirtual 342, 3) := by decide +kernel
theorem dX13_scroll_185 : decode cX13_scroll 185 = .ok (.aload_n 0, 1) := by decide +kernel
theorem dX13_scroll_186 : decode cX13_scroll 186 = .ok (.iload_n 1, 1) := by decide +kernel
theorem dX13_scroll_187 : decode cX13_scroll 187 = .ok (.iload 8, 2) := by decide +kernel
theorem dX13_scroll_189 : decode cX13_scroll 189 = .ok (.aload_n 0, 1) := by decide +kernel
theorem dX13_scroll_190 : decode cX13_scroll 190 = .ok (.getfield 88, 3) := by decide +kernel
theorem dX13_scroll_193 : decode cX13_scroll 193 = .ok (.iload_n 1, 1) := by decide +kernel
theorem dX13_scroll_194 : decode cX13_scroll 194 = .ok (.iaload, 1) := by decide +kernel
theorem dX13_scroll_195 : decode cX13_scroll 195 = .ok (.invokevirtual 370, 3) := by decide +kernel
theorem dX13_scroll_198 : decode cX13_scroll 198 = .ok (.invokevirtual 417, 3) := by decide +kernel
theorem dX13_scroll_201 : decode cX13_scroll 201 = .ok (.aload_n 0, 1) := by decide +kernel
theorem dX13_scroll_202 : decode cX13_scroll 202 = .ok (.iload_n 1, 1) := by decide +kernel
theorem dX13_scroll_203 : decode cX13_scroll 203 = .ok (.invokevirtual 408, 3) := by decide +kernel
theorem dX13_scroll_206 : decode cX13_scroll 206 = .ok (.ireturn, 1) := by decide +kernel
theorem dX13_type_0 : decode cX13_type 0 = .ok (.iload_n 1, 1) := by decide +kernel
theorem dX13_type_1 : decode cX13_type 1 = .ok (.invokestatic 236, 3) := by decide +kernel
theorem dX13_type_4 : decode cX13_type 4 = .ok (.istore_n 3, 1) := by decide +kernel
theorem dX13_type_5 : decode cX13_type 5 = .ok (.iload_n 3, 1) := by decide +kernel
theorem dX13_type_6 : decode cX13_type 6 = .ok (.ifCond .eq 11, 3) := by decide +kernel
theorem dX13_type_9 : decode cX13_type 9 = .ok (.aload_n 0, 1) := by decide +kernel
theorem dX13_type_10 : decode cX13_type 10 = .ok (.iload_n 1, 1) := by decide +kernel
theorem dX13_type_11 : decode cX13_type 11 = .ok (.invokevirtual 396, 3) := by decide +kernel
theorem dX13_type_14 : decode cX13_type 14 = .ok (.goto 4, 3) := by decide +kernel
theorem dX13_type_17 : decode cX13_type 17 = .ok (.iconst 0, 1) := by decide +kernel
theorem dX13_type_18 : decode cX13_type 18 = .ok (.istore 4, 2) := by decide +kernel
theorem dX13_type_20 : decode cX13_type 20 = .ok (.aload_n 0, 1) := by decide +kernel
theorem dX13_type_21 : decode cX13_type 21 = .ok (.iload_n 3, 1) := by decide +kernel
theorem dX13_type_22 : decode cX13_type 22 = .ok (.ifCond .ne 7, 3) := by decide +kernel
theorem dX13_type_25 : decode cX13_type 25 = .ok (.iconst 1, 1) := by decide +kernel
theorem dX13_type_26 : decode cX13_type 26 = .ok (.goto 40, 3) := by decide +kernel
theorem dX13_type_29 : decode cX13_type 29 = .ok (.iload_n 2, 1) := by decide +kernel
theorem dX13_type_30 : decode cX13_type 30 = .ok (.invokestatic 198, 3) := by decide +kernel
theorem dX13_type_33 : decode cX13_type 33 = .ok (.ifCond .ne 7, 3) := by decide +kernel
theorem dX13_type_36 : decode cX13_type 36 = .ok (.iconst 2, 1) := by decide +kernel
theorem dX13_type_37 : decode cX13_type 37 = .ok (.goto 29, 3) := by decide +kernel
theorem dX13_type_40 : decode cX13_type 40 = .ok (.aload_n 0, 1) := by decide +kernel
theorem dX13_type_41 : decode cX13_type 41 = .ok (.getfield 33, 3) := by decide +kernel
theorem dX13_type_44 : decode cX13_type 44 = .ok (.iload_n 1, 1) := by decide +kernel
theorem dX13_type_45 : decode cX13_type 45 = .ok (.baload, 1) := by decide +kernel
theorem dX13_type_46 : decode cX13_type 46 = .ok (.ifCond .eq 15, 3) := by decide +kernel
theorem dX13_type_49 : decode cX13_type 49 = .ok (.aload_n 0, 1) := by decide +kernel
theorem dX13_type_50 : decode cX13_type 50 = .ok (.getfield 13, 3) := by decide +kernel
theorem dX13_type_53 : decode cX13_type 53 = .ok (.iload 4, 2) := by decide +kernel
theorem dX13_type_55 : decode cX13_type 55 = .ok (.iaload, 1) := by decide +kernel
theorem dX13_type_56 : decode cX13_type 56 = .ok (.bipush 80, 2) := by decide +kernel
theorem dX13_type_58 : decode cX13_type 58 = .ok (.if_icmp .ne 7, 3) := by decide +kernel
theorem dX13_type_61 : decode cX13_type 61 = .ok (.iconst 3, 1) := by decide +kernel
theorem dX13_type_62 : decode cX13_type 62 = .ok (.goto 4, 3) := by decide +kernel
theorem dX13_type_65 : decode cX13_type 65 = .ok (.iconst 0, 1) := by decide +kernel
theorem dX13_type_66 : decode cX13_type 66 = .ok (.invokevirtual 195, 3) := by decide +kernel
theorem dX13_type_69 : decode cX13_type 69 = .ok (.ifCond .ne 5, 3) := by decide +kernel
theorem dX13_type_72 : decode cX13_type 72 = .ok (.iconst 0, 1) := by decide +kernel
theorem dX13_type_73 : decode cX13_type 73 = .ok (.ireturn, 1) := by decide +kernel
theorem dX13_type_74 : decode cX13_type 74 = .ok (.aload_n 0, 1) := by decide +kernel
theorem dX13_type_75 : decode cX13_type 75 = .ok (.iload_n 1, 1) := by decide +kernel
theorem dX13_type_76 : decode cX13_type 76 = .ok (.invokevirtual 399, 3) := by decide +kernel
theorem dX13_type_79 : decode cX13_type 79 = .ok (.istore 5, 2) := by decide +kernel
theorem dX13_type_81 : decode cX13_type 81 = .ok (.aload_n 0, 1) := by decide +kernel
theorem dX13_type_82 : decode cX13_type 82 = .ok (.iload 4, 2) := by decide +kernel
theorem dX13_type_84 : decode cX13_type 84 = .ok (.iload 5, 2) := by decide +kernel
theorem dX13_type_86 : decode cX13_type 86 = .ok (.iload_n 2, 1) := by decide +kernel
theorem dX13_type_87 : decode cX13_type 87 = .ok (.invokevirtual 201, 3) := by decide +kernel
theorem dX13_type_90 : decode cX13_type 90 = .ok (.aload_n 0, 1) := by decide +kernel
theorem dX13_type_91 : decode cX13_type 91 = .ok (.iload_n 1, 1) := by decide +kernel
theorem dX13_type_92 : decode cX13_type 92 = .ok (.iload 4, 2) := by decide +kernel
theorem dX13_type_94 : decode cX13_type 94 = .ok (.iload 5, 2) := by decide +kernel
theorem dX13_type_96 : decode cX13_type 96 = .ok (.iconst 1, 1) := by decide +kernel
theorem dX13_type_97 : decode cX13_type 97 = .ok (.iadd, 1) := by decide +kernel
theorem dX13_type_98 : decode cX13_type 98 = .ok (.invokevirtual 417, 3) := by decide +kernel
theorem dX13_type_101 : decode cX13_type 101 = .ok (.aload_n 0, 1) := by decide +kernel
theorem dX13_type_102 : decode cX13_type 102 = .ok (.getfield 88, 3) := by decide +kernel
theorem dX13_type_105 : decode cX13_type 105 = .ok (.iload_n 1, 1) := by decide +kernel
theorem dX13_type_106 : decode cX13_type 106 = .ok (.aload_n 0, 1) := by decide +kernel
theorem dX13_type_107 : decode cX13_type 107 = .ok (.iload_n 1, 1) := by decide +kernel
theorem dX13_type_108 : decode cX13_type 108 = .ok (.invokevirtual 420, 3) := by decide +kernel
theorem dX13_type_111 : decode cX13_type 111 = .ok (.iastore, 1) := by decide +kernel
theorem dX13_type_112 : decode cX13_type 112 = .ok (.aload_n 0, 1) := by decide +kernel
theorem dX13_type_113 : decode cX13_type 113 = .ok (.iload_n 1, 1) := by decide +kernel
theorem dX13_type_114 : decode cX13_type 114 = .ok (.invokevirtual 423, 3) := by decide +kernel
theorem dX13_type_117 : decode cX13_type 117 = .ok (.aload_n 0, 1) := by decide +kernel
theorem dX13_type_118 : decode cX13_type 118 = .ok (.getfield 85, 3) := by decide +kernel
theorem dX13_type_121 : decode cX13_type 121 = .ok (.iload_n 1, 1) := by decide +kernel
theorem dX13_type_122 : decode cX13_type 122 = .ok (.iaload, 1) := by decide +kernel
theorem dX13_type_123 : decode cX13_type 123 = .ok (.ireturn, 1) := by decide +kernel
theorem dX13_findsBox_0 : decode cX13_findsBox 0 = .ok (.aload_n 0, 1) := by decide +kernel
theorem dX13_findsBox_1 : decode cX13_findsBox 1 = .ok (.iconst 0, 1) := by decide +kernel
theorem dX13_findsBox_2 : decode cX13_findsBox 2 = .ok (.putfield 462, 3) := by decide +kernel
theorem dX13_findsBox_5 : decode cX13_findsBox 5 = .ok (.iconst 0, 1) := by decide +kernel
theorem dX13_findsBox_6 : decode cX13_findsBox 6 = .ok (.istore 5, 2) := by decide +kernel
theorem dX13_findsBox_8 : decode cX13_findsBox 8 = .ok (.iload 5, 2) := by decide +kernel
theorem dX13_findsBox_10 : decode cX13_findsBox 10 = .ok (.iload_n 3, 1) := by decide +kernel
theorem dX13_findsBox_11 : decode cX13_findsBox 11 = .ok (.if_icmp .ge 127, 3) := by decide +kernel
theorem dX13_findsBox_14 : decode cX13_findsBox 14 = .ok (.aload_n 0, 1) := by decide +kernel
theorem dX13_findsBox_15 : decode cX13_findsBox 15 = .ok (.iload_n 1, 1) := by decide +kernel
theorem dX13_findsBox_16 : decode cX13_findsBox 16 = .ok (.iload_n 2, 1) := by decide +kernel
theorem dX13_findsBox_17 : decode cX13_findsBox 17 = .ok (.iload 5, 2) := by decide +kernel
theorem dX13_findsBox_19 : decode cX13_findsBox 19 = .ok (.iadd, 1) := by decide +kernel
theorem dX13_findsBox_20 : decode cX13_findsBox 20 = .ok (.invokevirtual 342, 3) := by decide +kernel
theorem dX13_findsBox_23 : decode cX13_findsBox 23 = .ok (.istore 6, 2) := by decide +kernel
theorem dX13_findsBox_25 : decode cX13_findsBox 25 = .ok (.aload_n 0, 1) := by decide +kernel
theorem dX13_findsBox_26 : decode cX13_findsBox 26 = .ok (.iload_n 1, 1) := by decide +kernel
theorem dX13_findsBox_27 : decode cX13_findsBox 27 = .ok (.iload_n 2, 1) := by decide +kernel
theorem dX13_findsBox_28 : decode cX13_findsBox 28 = .ok (.iload 5, 2) := by decide +kernel
theorem dX13_findsBox_30 : decode cX13_findsBox 30 = .ok (.iadd, 1) := by decide +kernel
theorem dX13_findsBox_31 : decode cX13_findsBox 31 = .ok (.iload 4, 2) := by decide +kernel
theorem dX13_findsBox_33 : decode cX13_findsBox 33 = .ok (.invokevirtual 370, 3) := by decide +kernel
theorem dX13_findsBox_36 : decode cX13_findsBox 36 = .ok (.istore 7, 2) := by decide +kernel
theorem dX13_findsBox_38 : decode cX13_findsBox 38 = .ok (.iconst 1, 1) := by decide +kernel
theorem dX13_findsBox_39 : decode cX13_findsBox 39 = .ok (.istore 8, 2) := by decide +kernel
theorem dX13_findsBox_41 : decode cX13_findsBox 41 = .ok (.iconst 0, 1) := by decide +kernel
theorem dX13_findsBox_42 : decode cX13_findsBox 42 = .ok (.istore 9, 2) := by decide +kernel
theorem dX13_findsBox_44 : decode cX13_findsBox 44 = .ok (.iload 9, 2) := by decide +kernel
theorem dX13_findsBox_46 : decode cX13_findsBox 46 = .ok (.aload_n 0, 1) := by decide +kernel
theorem dX13_findsBox_47 : decode cX13_findsBox 47 = .ok (.getfield 462, 3) := by decide +kernel
theorem dX13_findsBox_50 : decode cX13_findsBox 50 = .ok (.if_icmp .ge 45, 3) := by decide +kernel
theorem dX13_findsBox_53 : decode cX13_findsBox 53 = .ok (.iload 8, 2) := by decide +kernel
theorem dX13_findsBox_55 : decode cX13_findsBox 55 = .ok (.ifCond .eq 31, 3) := by decide +kernel
theorem dX13_findsBox_58 : decode cX13_findsBox 58 = .ok (.aload_n 0, 1) := by decide +kernel
theorem dX13_findsBox_59 : decode cX13_findsBox 59 = .ok (.getfield 175, 3) := by decide +kernel
theorem dX13_findsBox_62 : decode cX13_findsBox 62 = .ok (.iload 9, 2) := by decide +kernel
theorem dX13_findsBox_64 : decode cX13_findsBox 64 = .ok (.iaload, 1) := by decide +kernel
theorem dX13_findsBox_65 : decode cX13_findsBox 65 = .ok (.iload 6, 2) := by decide +kernel
theorem dX13_findsBox_67 : decode cX13_findsBox 67 = .ok (.if_icmp .ne 15, 3) := by decide +kernel
theorem dX13_findsBox_70 : decode cX13_findsBox 70 = .ok (.aload_n 0, 1) := by decide +kernel
theorem dX13_findsBox_71 : decode cX13_findsBox 71 = .ok (.getfield 178, 3) := by decide +kernel
theorem dX13_findsBox_74 : decode cX13_findsBox 74 = .ok (.iload 9, 2) := by decide +kernel
theorem dX13_findsBox_76 : decode cX13_findsBox 76 = .ok (.iaload, 1) := by decide +kernel
theorem dX13_findsBox_77 : decode cX13_findsBox 77 = .ok (.iload 7, 2) := by decide +kernel
theorem dX13_findsBox_79 : decode cX13_findsBox 79 = .ok (.if_icmp .eq 7, 3) := by decide +kernel
theorem dX13_findsBox_82 : decode cX13_findsBox 82 = .ok (.iconst 1, 1) := by decide +kernel
theorem dX13_findsBox_83 : decode cX13_findsBox 83 = .ok (.goto 4, 3) := by decide +kernel
theorem dX13_findsBox_86 : decode cX13_findsBox 86 = .ok (.iconst 0, 1) := by decide +kernel
theorem dX13_findsBox_87 : decode cX13_findsBox 87 = .ok (.istore 8, 2) := by decide +kernel
theorem dX13_findsBox_89 : decode cX13_findsBox 89 = .ok (.iinc 9 1, 3) := by decide +kernel
theorem dX13_findsBox_92 : decode cX13_findsBox 92 = .ok (.goto (-48), 3) := by decide +kernel
theorem dX13_findsBox_95 : decode cX13_findsBox 95 = .ok (.iload 8, 2) := by decide +kernel
theorem dX13_findsBox_97 : decode cX13_findsBox 97 = .ok (.ifCond .eq 35, 3) := by decide +kernel
theorem dX13_findsBox_100 : decode cX13_findsBox 100 = .ok (.aload_n 0, 1) := by decide +kernel
theorem dX13_findsBox_101 : decode cX13_findsBox 101 = .ok (.getfield 175, 3) := by decide +kernel
theorem dX13_findsBox_104 : decode cX13_findsBox 104 = .ok (.aload_n 0, 1) := by decide +kernel
theorem dX13_findsBox_105 : decode cX13_findsBox 105 = .ok (.getfield 462, 3) := by decide +kernel
theorem dX13_findsBox_108 : decode cX13_findsBox 108 = .ok (.iload 6, 2) := by decide +kernel
theorem dX13_findsBox_110 : decode cX13_findsBox 110 = .ok (.iastore, 1) := by decide +kernel
theorem dX13_findsBox_111 : decode cX13_findsBox 111 = .ok (.aload_n 0, 1) := by decide +kernel
theorem dX13_findsBox_112 : decode cX13_findsBox 112 = .ok (.getfield 178, 3) := by decide +kernel
theorem dX13_findsBox_115 : decode cX13_findsBox 115 = .ok (.aload_n 0, 1) := by decide +kernel
theorem dX13_findsBox_116 : decode cX13_findsBox 116 = .ok (.getfield 462, 3) := by decide +kernel
theorem dX13_findsBox_119 : decode cX13_findsBox 119 = .ok (.iload 7, 2) := by decide +kernel
theorem dX13_findsBox_121 : decode cX13_findsBox 121 = .ok (.iastore, 1) := by decide +kernel
theorem dX13_findsBox_122 : decode cX13_findsBox 122 = .ok (.aload_n 0, 1) := by decide +kernel
theorem dX13_findsBox_123 : decode cX13_findsBox 123 = .ok (.dup, 1) := by decide +kernel
theorem dX13_findsBox_124 : decode cX13_findsBox 124 = .ok (.getfield 462, 3) := by decide +kernel
theorem dX13_findsBox_127 : decode cX13_findsBox 127 = .ok (.iconst 1, 1) := by decide +kernel
theorem dX13_findsBox_128 : decode cX13_findsBox 128 = .ok (.iadd, 1) := by decide +kernel
theorem dX13_findsBox_129 : decode cX13_findsBox 129 = .ok (.putfield 462, 3) := by decide +kernel
theorem dX13_findsBox_132 : decode cX13_findsBox 132 = .ok (.iinc 5 1, 3) := by decide +kernel
theorem dX13_findsBox_135 : decode cX13_findsBox 135 = .ok (.goto (-127), 3) := by decide +kernel
theorem dX13_findsBox_138 : decode cX13_findsBox 138 = .ok (.return_, 1) := by decide +kernel
theorem dX13_hasBoxRoom_0 : decode cX13_hasBoxRoom 0 = .ok (.iconst 1, 1) := by decide +kernel
theorem dX13_hasBoxRoom_1 : decode cX13_hasBoxRoom 1 = .ok (.istore_n 1, 1) := by decide +kernel
theorem dX13_hasBoxRoom_2 : decode cX13_hasBoxRoom 2 = .ok (.iconst 0, 1) := by decide +kernel
theorem dX13_hasBoxRoom_3 : decode cX13_hasBoxRoom 3 = .ok (.istore_n 2, 1) := by decide +kernel
theorem dX13_hasBoxRoom_4 : decode cX13_hasBoxRoom 4 = .ok (.iload_n 2, 1) := by decide +kernel
theorem dX13_hasBoxRoom_5 : decode cX13_hasBoxRoom 5 = .ok (.aload_n 0, 1) := by decide +kernel
theorem dX13_hasBoxRoom_6 : decode cX13_hasBoxRoom 6 = .ok (.getfield 462, 3) := by decide +kernel
theorem dX13_hasBoxRoom_9 : decode cX13_hasBoxRoom 9 = .ok (.if_icmp .ge 79, 3) := by decide +kernel
theorem dX13_hasBoxRoom_12 : decode cX13_hasBoxRoom 12 = .ok (.aload_n 0, 1) := by decide +kernel
theorem dX13_hasBoxRoom_13 : decode cX13_hasBoxRoom 13 = .ok (.getfield 13, 3) := by decide +kernel
theorem dX13_hasBoxRoom_16 : decode cX13_hasBoxRoom 16 = .ok (.aload_n 0, 1) := by decide +kernel
theorem dX13_hasBoxRoom_17 : decode cX13_hasBoxRoom 17 = .ok (.getfield 175, 3) := by decide +kernel
theorem dX13_hasBoxRoom_20 : decode cX13_hasBoxRoom 20 = .ok (.iload_n 2, 1) := by decide +kernel
theorem dX13_hasBoxRoom_21 : decode cX13_hasBoxRoom 21 = .ok (.iaload, 1) := by decide +kernel
theorem dX13_hasBoxRoom_22 : decode cX13_hasBoxRoom 22 = .ok (.iaload, 1) := by decide +kernel
theorem dX13_hasBoxRoom_23 : decode cX13_hasBoxRoom 23 = .ok (.istore_n 3, 1) := by decide +kernel
theorem dX13_hasBoxRoom_24 : decode cX13_hasBoxRoom 24 = .ok (.iconst 0, 1) := by decide +kernel
theorem dX13_hasBoxRoom_25 : decode cX13_hasBoxRoom 25 = .ok (.istore 4, 2) := by decide +kernel
theorem dX13_hasBoxRoom_27 : decode cX13_hasBoxRoom 27 = .ok (.iload 4, 2) := by decide +kernel
theorem dX13_hasBoxRoom_29 : decode cX13_hasBoxRoom 29 = .ok (.aload_n 0, 1) := by decide +kernel
theorem dX13_hasBoxRoom_30 : decode cX13_hasBoxRoom 30 = .ok (.getfield 462, 3) := by decide +kernel
theorem dX13_hasBoxRoom_33 : decode cX13_hasBoxRoom 33 = .ok (.if_icmp .ge 33, 3) := by decide +kernel
theorem dX13_hasBoxRoom_36 : decode cX13_hasBoxRoom 36 = .ok (.iload_n 3, 1) := by decide +kernel
theorem dX13_hasBoxRoom_37 : decode cX13_hasBoxRoom 37 = .ok (.aload_n 0, 1) := by decide +kernel
theorem dX13_hasBoxRoom_38 : decode cX13_hasBoxRoom 38 = .ok (.getfield 175, 3) := by decide +kernel
theorem dX13_hasBoxRoom_41 : decode cX13_hasBoxRoom 41 = .ok (.iload 4, 2) := by decide +kernel
theorem dX13_hasBoxRoom_43 : decode cX13_hasBoxRoom 43 = .ok (.iaload, 1) := by decide +kernel
theorem dX13_hasBoxRoom_44 : decode cX13_hasBoxRoom 44 = .ok (.aload_n 0, 1) := by decide +kernel
theorem dX13_hasBoxRoom_45 : decode cX13_hasBoxRoom 45 = .ok (.getfield 175, 3) := by decide +kernel
theorem dX13_hasBoxRoom_48 : decode cX13_hasBoxRoom 48 = .ok (.iload_n 2, 1) := by decide +kernel
theorem dX13_hasBoxRoom_49 : decode cX13_hasBoxRoom 49 = .ok (.iaload, 1) := by decide +kernel
theorem dX13_hasBoxRoom_50 : decode cX13_hasBoxRoom 50 = .ok (.if_icmp .ne 7, 3) := by decide +kernel
theorem dX13_hasBoxRoom_53 : decode cX13_hasBoxRoom 53 = .ok (.iconst 1, 1) := by decide +kernel
theorem dX13_hasBoxRoom_54 : decode cX13_hasBoxRoom 54 = .ok (.goto 4, 3) := by decide +kernel
theorem dX13_hasBoxRoom_57 : decode cX13_hasBoxRoom 57 = .ok (.iconst 0, 1) := by decide +kernel
theorem dX13_hasBoxRoom_58 : decode cX13_hasBoxRoom 58 = .ok (.iadd, 1) := by decide +kernel
theorem dX13_hasBoxRoom_59 : decode cX13_hasBoxRoom 59 = .ok (.istore_n 3, 1) := by decide +kernel
theorem dX13_hasBoxRoom_60 : decode cX13_hasBoxRoom 60 = .ok (.iinc 4 1, 3) := by decide +kernel
theorem dX13_hasBoxRoom_63 : decode cX13_hasBoxRoom 63 = .ok (.goto (-36), 3) := by decide +kernel
theorem dX13_hasBoxRoom_66 : decode cX13_hasBoxRoom 66 = .ok (.iload_n 1, 1) := by decide +kernel
theorem dX13_hasBoxRoom_67 : decode cX13_hasBoxRoom 67 = .ok (.ifCond .eq 13, 3) := by decide +kernel
theorem dX13_hasBoxRoom_70 : decode cX13_hasBoxRoom 70 = .ok (.iload_n 3, 1) := by decide +kernel
theorem dX13_hasBoxRoom_71 : decode cX13_hasBoxRoom 71 = .ok (.bipush 80, 2) := by decide +kernel
theorem dX13_hasBoxRoom_73 : decode cX13_hasBoxRoom 73 = .ok (.if_icmp .gt 7, 3) := by decide +kernel
theorem dX13_hasBoxRoom_76 : decode cX13_hasBoxRoom 76 = .ok (.iconst 1, 1) := by decide +kernel
theorem dX13_hasBoxRoom_77 : decode cX13_hasBoxRoom 77 = .ok (.goto 4, 3) := by decide +kernel
theorem dX13_hasBoxRoom_80 : decode cX13_hasBoxRoom 80 = .ok (.iconst 0, 1) := by decide +kernel
theorem dX13_hasBoxRoom_81 : decode cX13_hasBoxRoom 81 = .ok (.istore_n 1, 1) := by decide +kernel
theorem dX13_hasBoxRoom_82 : decode cX13_hasBoxRoom 82 = .ok (.iinc 2 1, 3) := by decide +kernel
theorem dX13_hasBoxRoom_85 : decode cX13_hasBoxRoom 85 = .ok (.goto (-81), 3) := by decide +kernel
theorem dX13_hasBoxRoom_88 : decode cX13_hasBoxRoom 88 = .ok (.iload_n 1, 1) := by decide +kernel
theorem dX13_hasBoxRoom_89 : decode cX13_hasBoxRoom 89 = .ok (.ireturn, 1) := by decide +kernel
theorem dX13_typesBox_0 : decode cX13_typesBox 0 = .ok (.iconst 0, 1) := by decide +kernel
theorem dX13_typesBox_1 : decode cX13_typesBox 1 = .ok (.istore_n 2, 1) := by decide +kernel
theorem dX13_typesBox_2 : decode cX13_typesBox 2 = .ok (.iload_n 2, 1) := by decide +kernel
theorem dX13_typesBox_3 : decode cX13_typesBox 3 = .ok (.aload_n 0, 1) := by decide +kernel
theorem dX13_typesBox_4 : decode cX13_typesBox 4 = .ok (.getfield 462, 3) := by decide +kernel
theorem dX13_typesBox_7 : decode cX13_typesBox 7 = .ok (.if_icmp .ge 90, 3) := by decide +kernel
theorem dX13_typesBox_10 : decode cX13_typesBox 10 = .ok (.aload_n 0, 1) := by decide +kernel
theorem dX13_typesBox_11 : decode cX13_typesBox 11 = .ok (.getfield 178, 3) := by decide +kernel
theorem dX13_typesBox_14 : decode cX13_typesBox 14 = .ok (.iload_n 2, 1) := by decide +kernel
theorem dX13_typesBox_15 : decode cX13_typesBox 15 = .ok (.iaload, 1) := by decide +kernel
theorem dX13_typesBox_16 : decode cX13_typesBox 16 = .ok (.istore_n 3, 1) := by decide +kernel
theorem dX13_typesBox_17 : decode cX13_typesBox 17 = .ok (.aload_n 0, 1) := by decide +kernel
theorem dX13_typesBox_18 : decode cX13_typesBox 18 = .ok (.aload_n 0, 1) := by decide +kernel
theorem dX13_typesBox_19 : decode cX13_typesBox 19 = .ok (.getfield 175, 3) := by decide +kernel
theorem dX13_typesBox_22 : decode cX13_typesBox 22 = .ok (.iload_n 2, 1) := by decide +kernel
theorem dX13_typesBox_23 : decode cX13_typesBox 23 = .ok (.iaload, 1) := by decide +kernel
theorem dX13_typesBox_24 : decode cX13_typesBox 24 = .ok (.iload_n 3, 1) := by decide +kernel
theorem dX13_typesBox_25 : decode cX13_typesBox 25 = .ok (.iload_n 1, 1) := by decide +kernel
theorem dX13_typesBox_26 : decode cX13_typesBox 26 = .ok (.invokevirtual 201, 3) := by decide +kernel
theorem dX13_typesBox_29 : decode cX13_typesBox 29 = .ok (.iload_n 2, 1) := by decide +kernel
theorem dX13_typesBox_30 : decode cX13_typesBox 30 = .ok (.iconst 1, 1) := by decide +kernel
theorem dX13_typesBox_31 : decode cX13_typesBox 31 = .ok (.iadd, 1) := by decide +kernel
theorem dX13_typesBox_32 : decode cX13_typesBox 32 = .ok (.istore 4, 2) := by decide +kernel
theorem dX13_typesBox_34 : decode cX13_typesBox 34 = .ok (.iload 4, 2) := by decide +kernel
theorem dX13_typesBox_36 : decode cX13_typesBox 36 = .ok (.aload_n 0, 1) := by decide +kernel
theorem dX13_typesBox_37 : decode cX13_typesBox 37 = .ok (.getfield 462, 3) := by decide +kernel
theorem dX13_typesBox_40 : decode cX13_typesBox 40 = .ok (.if_icmp .ge 51, 3) := by decide +kernel
theorem dX13_typesBox_43 : decode cX13_typesBox 43 = .ok (.aload_n 0, 1) := by decide +kernel
theorem dX13_typesBox_44 : decode cX13_typesBox 44 = .ok (.getfield 178, 3) := by decide +kernel
theorem dX13_typesBox_47 : decode cX13_typesBox 47 = .ok (.iload 4, 2) := by decide +kernel
theorem dX13_typesBox_49 : decode cX13_typesBox 49 = .ok (.dup2, 1) := by decide +kernel
theorem dX13_typesBox_50 : decode cX13_typesBox 50 = .ok (.iaload, 1) := by decide +kernel
theorem dX13_typesBox_51 : decode cX13_typesBox 51 = .ok (.aload_n 0, 1) := by decide +kernel
theorem dX13_typesBox_52 : decode cX13_typesBox 52 = .ok (.getfield 175, 3) := by decide +kernel
theorem dX13_typesBox_55 : decode cX13_typesBox 55 = .ok (.iload 4, 2) := by decide +kernel
theorem dX13_typesBox_57 : decode cX13_typesBox 57 = .ok (.iaload, 1) := by decide +kernel
theorem dX13_typesBox_58 : decode cX13_typesBox 58 = .ok (.aload_n 0, 1) := by decide +kernel
theorem dX13_typesBox_59 : decode cX13_typesBox 59 = .ok (.getfield 175, 3) := by decide +kernel
theorem dX13_typesBox_62 : decode cX13_typesBox 62 = .ok (.iload_n 2, 1) := by decide +kernel
theorem dX13_typesBox_63 : decode cX13_typesBox 63 = .ok (.iaload, 1) := by decide +kernel
theorem dX13_typesBox_64 : decode cX13_typesBox 64 = .ok (.if_icmp .ne 18, 3) := by decide +kernel
theorem dX13_typesBox_67 : decode cX13_typesBox 67 = .ok (.aload_n 0, 1) := by decide +kernel
theorem dX13_typesBox_68 : decode cX13_typesBox 68 = .ok (.getfield 178, 3) := by decide +kernel
theorem dX13_typesBox_71 : decode cX13_typesBox 71 = .ok (.iload 4, 2) := by decide +kernel
theorem dX13_typesBox_73 : decode cX13_typesBox 73 = .ok (.iaload, 1) := by decide +kernel
theorem dX13_typesBox_74 : decode cX13_typesBox 74 = .ok (.iload_n 3, 1) := by decide +kernel
theorem dX13_typesBox_75 : decode cX13_typesBox 75 = .ok (.if_icmp .le 7, 3) := by decide +kernel
theorem dX13_typesBox_78 : decode cX13_typesBox 78 = .ok (.iconst 1, 1) := by decide +kernel
theorem dX13_typesBox_79 : decode cX13_typesBox 79 = .ok (.goto 4, 3) := by decide +kernel
theorem dX13_typesBox_82 : decode cX13_typesBox 82 = .ok (.iconst 0, 1) := by decide +kernel
theorem dX13_typesBox_83 : decode cX13_typesBox 83 = .ok (.iadd, 1) := by decide +kernel
theorem dX13_typesBox_84 : decode cX13_typesBox 84 = .ok (.iastore, 1) := by decide +kernel
theorem dX13_typesBox_85 : decode cX13_typesBox 85 = .ok (.iinc 4 1, 3) := by decide +kernel
theorem dX13_typesBox_88 : decode cX13_typesBox 88 = .ok (.goto (-54), 3) := by decide +kernel
theorem dX13_typesBox_91 : decode cX13_typesBox 91 = .ok (.iinc 2 1, 3) := by decide +kernel
theorem dX13_typesBox_94 : decode cX13_typesBox 94 = .ok (.goto (-92), 3) := by decide +kernel
theorem dX13_typesBox_97 : decode cX13_typesBox 97 = .ok (.return_, 1) := by decide +kernel
theorem dX13_typeBox_0 : decode cX13_typeBox 0 = .ok (.iload_n 1, 1) := by decide +kernel
theorem dX13_typeBox_1 : decode cX13_typeBox 1 = .ok (.invokestatic 236, 3) := by decide +kernel
theorem dX13_typeBox_4 : decode cX13_typeBox 4 = .ok (.istore 6, 2) := by decide +kernel
theorem dX13_typeBox_6 : decode cX13_typeBox 6 = .ok (.iload_n 3, 1) := by decide +kernel
theorem dX13_typeBox_7 : decode cX13_typeBox 7 = .ok (.iconst 1, 1) := by decide +kernel
theorem dX13_typeBox_8 : decode cX13_typeBox 8 = .ok (.bipush 10, 2) := by decide +kernel
theorem dX13_typeBox_10 : decode cX13_typeBox 10 = .ok (.invokestatic 187, 3) := by decide +kernel
theorem dX13_typeBox_13 : decode cX13_typeBox 13 = .ok (.istore 7, 2) := by decide +kernel
theorem dX13_typeBox_15 : decode cX13_typeBox 15 = .ok (.iload 6, 2) := by decide +kernel
theorem dX13_typeBox_17 : decode cX13_typeBox 17 = .ok (.ifCond .eq 34, 3) := by decide +kernel
theorem dX13_typeBox_20 : decode cX13_typeBox 20 = .ok (.iload 7, 2) := by decide +kernel
theorem dX13_typeBox_22 : decode cX13_typeBox 22 = .ok (.ifCond .eq 29, 3) := by decide +kernel
theorem dX13_typeBox_25 : decode cX13_typeBox 25 = .ok (.aload_n 0, 1) := by decide +kernel
theorem dX13_typeBox_26 : decode cX13_typeBox 26 = .ok (.iload_n 1, 1) := by decide +kernel
theorem dX13_typeBox_27 : decode cX13_typeBox 27 = .ok (.iload_n 2, 1) := by decide +kernel
theorem dX13_typeBox_28 : decode cX13_typeBox 28 = .ok (.invokevirtual 348, 3) := by decide +kernel
theorem dX13_typeBox_31 : decode cX13_typeBox 31 = .ok (.ifCond .eq 20, 3) := by decide +kernel
theorem dX13_typeBox_34 : decode cX13_typeBox 34 = .ok (.aload_n 0, 1) := by decide +kernel
theorem dX13_typeBox_35 : decode cX13_typeBox 35 = .ok (.iload_n 1, 1) := by decide +kernel
theorem dX13_typeBox_36 : decode cX13_typeBox 36 = .ok (.iload_n 2, 1) := by decide +kernel
theorem dX13_typeBox_37 : decode cX13_typeBox 37 = .ok (.iload_n 3, 1) := by decide +kernel
theorem dX13_typeBox_38 : decode cX13_typeBox 38 = .ok (.iadd, 1) := by decide +kernel
theorem dX13_typeBox_39 : decode cX13_typeBox 39 = .ok (.iconst 1, 1) := by decide +kernel
theorem dX13_typeBox_40 : decode cX13_typeBox 40 = .ok (.isub, 1) := by decide +kernel
theorem dX13_typeBox_41 : decode cX13_typeBox 41 = .ok (.invokevirtual 348, 3) := by decide +kernel
theorem dX13_typeBox_44 : decode cX13_typeBox 44 = .ok (.ifCond .eq 7, 3) := by decide +kernel
theorem dX13_typeBox_47 : decode cX13_typeBox 47 = .ok (.iconst 1, 1) := by decide +kernel
theorem dX13_typeBox_48 : decode cX13_typeBox 48 = .ok (.goto 4, 3) := by decide +kernel
theorem dX13_typeBox_51 : decode cX13_typeBox 51 = .ok (.iconst 0, 1) := by decide +kernel
theorem dX13_typeBox_52 : decode cX13_typeBox 52 = .ok (.istore 8, 2) := by decide +kernel
theorem dX13_typeBox_54 : decode cX13_typeBox 54 = .ok (.iload 8, 2) := by decide +kernel
theorem dX13_typeBox_56 : decode cX13_typeBox 56 = .ok (.ifCond .eq 26, 3) := by decide +kernel
theorem dX13_typeBox_59 : decode cX13_typeBox 59 = .ok (.iload 4, 2) := by decide +kernel
theorem dX13_typeBox_61 : decode cX13_typeBox 61 = .ok (.iconst 0, 1) := by decide +kernel
theorem dX13_typeBox_62 : decode cX13_typeBox 62 = .ok (.bipush 39, 2) := by decide +kernel
theorem dX13_typeBox_64 : decode cX13_typeBox 64 = .ok (.invokestatic 187, 3) := by decide +kernel
theorem dX13_typeBox_67 : decode cX13_typeBox 67 = .ok (.ifCond .eq 15, 3) := by decide +kernel
theorem dX13_typeBox_70 : decode cX13_typeBox 70 = .ok (.iload 5, 2) := by decide +kernel
theorem dX13_typeBox_72 : decode cX13_typeBox 72 = .ok (.invokestatic 198, 3) := by decide +kernel
theorem dX13_typeBox_75 : decode cX13_typeBox 75 = .ok (.ifCond .eq 7, 3) := by decide +kernel
theorem dX13_typeBox_78 : decode cX13_typeBox 78 = .ok (.iconst 1, 1) := by decide +kernel
theorem dX13_typeBox_79 : decode cX13_typeBox 79 = .ok (.goto 4, 3) := by decide +kernel
theorem dX13_typeBox_82 : decode cX13_typeBox 82 = .ok (.iconst 0, 1) := by decide +kernel
theorem dX13_typeBox_83 : decode cX13_typeBox 83 = .ok (.istore 9, 2) := by decide +kernel
theorem dX13_typeBox_85 : decode cX13_typeBox 85 = .ok (.iload 9, 2) := by decide +kernel
theorem dX13_typeBox_87 : decode cX13_typeBox 87 = .ok (.ifCond .eq 12, 3) := by decide +kernel
theorem dX13_typeBox_90 : decode cX13_typeBox 90 = .ok (.aload_n 0, 1) := by decide +kernel
theorem dX13_typeBox_91 : decode cX13_typeBox 91 = .ok (.iload_n 1, 1) := by decide +kernel
theorem dX13_typeBox_92 : decode cX13_typeBox 92 = .ok (.iload_n 2, 1) := by decide +kernel
theorem dX13_typeBox_93 : decode cX13_typeBox 93 = .ok (.iload_n 3, 1) := by decide +kernel
theorem dX13_typeBox_94 : decode cX13_typeBox 94 = .ok (.iload 4, 2) := by decide +kernel
theorem dX13_typeBox_96 : decode cX13_typeBox 96 = .ok (.invokevirtual 465, 3) := by decide +kernel
theorem dX13_typeBox_99 : decode cX13_typeBox 99 = .ok (.aload_n 0, 1) := by decide +kernel
theorem dX13_typeBox_100 : decode cX13_typeBox 100 = .ok (.iload 6, 2) := by decide +kernel
theorem dX13_typeBox_102 : decode cX13_typeBox 102 = .ok (.ifCond .ne 7, 3) := by decide +kernel
theorem dX13_typeBox_105 : decode cX13_typeBox 105 = .ok (.iconst 1, 1) := by decide +kernel
theorem dX13_typeBox_106 : decode cX13_typeBox 106 = .ok (.goto 42, 3) := by decide +kernel
theorem dX13_typeBox_109 : decode cX13_typeBox 109 = .ok (.iload 7, 2) := by decide +kernel
theorem dX13_typeBox_111 : decode cX13_typeBox 111 = .ok (.ifCond .ne 7, 3) := by decide +kernel
theorem dX13_typeBox_114 : decode cX13_typeBox 114 = .ok (.iconst 2, 1) := by decide +kernel
theorem dX13_typeBox_115 : decode cX13_typeBox 115 = .ok (.goto 33, 3) := by decide +kernel
theorem dX13_typeBox_118 : decode cX13_typeBox 118 = .ok (.iload 8, 2) := by decide +kernel
theorem dX13_typeBox_120 : decode cX13_typeBox 120 = .ok (.ifCond .ne 7, 3) := by decide +kernel
theorem dX13_typeBox_123 : decode cX13_typeBox 123 = .ok (.iconst 1, 1) := by decide +kernel
theorem dX13_typeBox_124 : decode cX13_typeBox 124 = .ok (.goto 24, 3) := by decide +kernel
theorem dX13_typeBox_127 : decode cX13_typeBox 127 = .ok (.iload 9, 2) := by decide +kernel
theorem dX13_typeBox_129 : decode cX13_typeBox 129 = .ok (.ifCond .ne 7, 3) := by decide +kernel
theorem dX13_typeBox_132 : decode cX13_typeBox 132 = .ok (.iconst 2, 1) := by decide +kernel
theorem dX13_typeBox_133 : decode cX13_typeBox 133 = .ok (.goto 15, 3) := by decide +kernel
theorem dX13_typeBox_136 : decode cX13_typeBox 136 = .ok (.aload_n 0, 1) := by decide +kernel
theorem dX13_typeBox_137 : decode cX13_typeBox 137 = .ok (.invokevirtual 468, 3) := by decide +kernel
theorem dX13_typeBox_140 : decode cX13_typeBox 140 = .ok (.ifCond .ne 7, 3) := by decide +kernel
theorem dX13_typeBox_143 : decode cX13_typeBox 143 = .ok (.iconst 3, 1) := by decide +kernel
theorem dX13_typeBox_144 : decode cX13_typeBox 144 = .ok (.goto 4, 3) := by decide +kernel
theorem dX13_typeBox_147 : decode cX13_typeBox 147 = .ok (.iconst 0, 1) := by decide +kernel
theorem dX13_typeBox_148 : decode cX13_typeBox 148 = .ok (.invokevirtual 195, 3) := by decide +kernel
theorem dX13_typeBox_151 : decode cX13_typeBox 151 = .ok (.ifCond .ne 5, 3) := by decide +kernel
theorem dX13_typeBox_154 : decode cX13_typeBox 154 = .ok (.iconst 0, 1) := by decide +kernel
theorem dX13_typeBox_155 : decode cX13_typeBox 155 = .ok (.ireturn, 1) := by decide +kernel
theorem dX13_typeBox_156 : decode cX13_typeBox 156 = .ok (.aload_n 0, 1) := by decide +kernel
theorem dX13_typeBox_157 : decode cX13_typeBox 157 = .ok (.iload 5, 2) := by decide +kernel
theorem dX13_typeBox_159 : decode cX13_typeBox 159 = .ok (.invokevirtual 471, 3) := by decide +kernel
theorem dX13_typeBox_162 : decode cX13_typeBox 162 = .ok (.aload_n 0, 1) := by decide +kernel
theorem dX13_typeBox_163 : decode cX13_typeBox 163 = .ok (.getfield 462, 3) := by decide +kernel
theorem dX13_typeBox_166 : decode cX13_typeBox 166 = .ok (.ireturn, 1) := by decide +kernel
theorem dX13_tellsRows_0 : decode cX13_tellsRows 0 = .ok (.aload_n 0, 1) := by decide +kernel
theorem dX13_tellsRows_1 : decode cX13_tellsRows 1 = .ok (.iload_n 1, 1) := by decide +kernel
theorem dX13_tellsRows_2 : decode cX13_tellsRows 2 = .ok (.invokevirtual 408, 3) := by decide +kernel
theorem dX13_tellsRows_5 : decode cX13_tellsRows 5 = .ok (.istore_n 2, 1) := by decide +kernel
theorem dX13_tellsRows_6 : decode cX13_tellsRows 6 = .ok (.aload_n 0, 1) := by decide +kernel
theorem dX13_tellsRows_7 : decode cX13_tellsRows 7 = .ok (.iload_n 1, 1) := by decide +kernel
theorem dX13_tellsRows_8 : decode cX13_tellsRows 8 = .ok (.aload_n 0, 1) := by decide +kernel
theorem dX13_tellsRows_9 : decode cX13_tellsRows 9 = .ok (.getfield 20, 3) := by decide +kernel
theorem dX13_tellsRows_12 : decode cX13_tellsRows 12 = .ok (.invokevirtual 339, 3) := by decide +kernel
theorem dX13_tellsRows_15 : decode cX13_tellsRows 15 = .ok (.istore_n 3, 1) := by decide +kernel
theorem dX13_tellsRows_16 : decode cX13_tellsRows 16 = .ok (.iconst 0, 1) := by decide +kernel
theorem dX13_tellsRows_17 : decode cX13_tellsRows 17 = .ok (.istore 4, 2) := by decide +kernel
theorem dX13_tellsRows_19 : decode cX13_tellsRows 19 = .ok (.iload 4, 2) := by decide +kernel
theorem dX13_tellsRows_21 : decode cX13_tellsRows 21 = .ok (.aload_n 0, 1) := by decide +kernel
theorem dX13_tellsRows_22 : decode cX13_tellsRows 22 = .ok (.getfield 97, 3) := by decide +kernel
theorem dX13_tellsRows_25 : decode cX13_tellsRows 25 = .ok (.iload_n 1, 1) := by decide +kernel
theorem dX13_tellsRows_26 : decode cX13_tellsRows 26 = .ok (.iaload, 1) := by decide +kernel
theorem dX13_tellsRows_27 : decode cX13_tellsRows 27 = .ok (.if_icmp .ge 189, 3) := by decide +kernel
theorem dX13_tellsRows_30 : decode cX13_tellsRows 30 = .ok (.aload_n 0, 1) := by decide +kernel
theorem dX13_tellsRows_31 : decode cX13_tellsRows 31 = .ok (.getfield 163, 3) := by decide +kernel
theorem dX13_tellsRows_34 : decode cX13_tellsRows 34 = .ok (.iload 4, 2) := by decide +kernel
theorem dX13_tellsRows_36 : decode cX13_tellsRows 36 = .ok (.iconst (-1), 1) := by decide +kernel
theorem dX13_tellsRows_37 : decode cX13_tellsRows 37 = .ok (.iastore, 1) := by decide +kernel
theorem dX13_tellsRows_38 : decode cX13_tellsRows 38 = .ok (.aload_n 0, 1) := by decide +kernel
theorem dX13_tellsRows_39 : decode cX13_tellsRows 39 = .ok (.getfield 166, 3) := by decide +kernel
theorem dX13_tellsRows_42 : decode cX13_tellsRows 42 = .ok (.iload 4, 2) := by decide +kernel
theorem dX13_tellsRows_44 : decode cX13_tellsRows 44 = .ok (.iconst 0, 1) := by decide +kernel
theorem dX13_tellsRows_45 : decode cX13_tellsRows 45 = .ok (.iastore, 1) := by decide +kernel
theorem dX13_tellsRows_46 : decode cX13_tellsRows 46 = .ok (.iload_n 2, 1) := by decide +kernel
theorem dX13_tellsRows_47 : decode cX13_tellsRows 47 = .ok (.iload 4, 2) := by decide +kernel
theorem dX13_tellsRows_49 : decode cX13_tellsRows 49 = .ok (.iadd, 1) := by decide +kernel
theorem dX13_tellsRows_50 : decode cX13_tellsRows 50 = .ok (.iload_n 3, 1) := by decide +kernel
theorem dX13_tellsRows_51 : decode cX13_tellsRows 51 = .ok (.if_icmp .ge 159, 3) := by decide +kernel
theorem dX13_tellsRows_54 : decode cX13_tellsRows 54 = .ok (.aload_n 0, 1) := by decide +kernel
theorem dX13_tellsRows_55 : decode cX13_tellsRows 55 = .ok (.iload_n 1, 1) := by decide +kernel
theorem dX13_tellsRows_56 : decode cX13_tellsRows 56 = .ok (.iload_n 2, 1) := by decide +kernel
theorem dX13_tellsRows_57 : decode cX13_tellsRows 57 = .ok (.iload 4, 2) := by decide +kernel
theorem dX13_tellsRows_59 : decode cX13_tellsRows 59 = .ok (.iadd, 1) := by decide +kernel
theorem dX13_tellsRows_60 : decode cX13_tellsRows 60 = .ok (.invokevirtual 351, 3) := by decide +kernel
theorem dX13_tellsRows_63 : decode cX13_tellsRows 63 = .ok (.istore 5, 2) := by decide +kernel
theorem dX13_tellsRows_65 : decode cX13_tellsRows 65 = .ok (.aload_n 0, 1) := by decide +kernel
theorem dX13_tellsRows_66 : decode cX13_tellsRows 66 = .ok (.getfield 127, 3) := by decide +kernel
theorem dX13_tellsRows_69 : decode cX13_tellsRows 69 = .ok (.iload 5, 2) := by decide +kernel
theorem dX13_tellsRows_71 : decode cX13_tellsRows 71 = .ok (.iaload, 1) := by decide +kernel
theorem dX13_tellsRows_72 : decode cX13_tellsRows 72 = .ok (.istore 6, 2) := by decide +kernel
theorem dX13_tellsRows_74 : decode cX13_tellsRows 74 = .ok (.aload_n 0, 1) := by decide +kernel
theorem dX13_tellsRows_75 : decode cX13_tellsRows 75 = .ok (.getfield 163, 3) := by decide +kernel
theorem dX13_tellsRows_78 : decode cX13_tellsRows 78 = .ok (.iload 4, 2) := by decide +kernel
theorem dX13_tellsRows_80 : decode cX13_tellsRows 80 = .ok (.aload_n 0, 1) := by decide +kernel
theorem dX13_tellsRows_81 : decode cX13_tellsRows 81 = .ok (.getfield 127, 3) := by decide +kernel
theorem dX13_tellsRows_84 : decode cX13_tellsRows 84 = .ok (.iload 5, 2) := by decide +kernel
theorem dX13_tellsRows_86 : decode cX13_tellsRows 86 = .ok (.iconst 1, 1) := by decide +kernel
theorem dX13_tellsRows_87 : decode cX13_tellsRows 87 = .ok (.iadd, 1) := by decide +kernel
theorem dX13_tellsRows_88 : decode cX13_tellsRows 88 = .ok (.iaload, 1) := by decide +kernel
theorem dX13_tellsRows_89 : decode cX13_tellsRows 89 = .ok (.iload 6, 2) := by decide +kernel
theorem dX13_tellsRows_91 : decode cX13_tellsRows 91 = .ok (.isub, 1) := by decide +kernel
theorem dX13_tellsRows_92 : decode cX13_tellsRows 92 = .ok (.iastore, 1) := by decide +kernel
theorem dX13_tellsRows_93 : decode cX13_tellsRows 93 = .ok (.iconst 0, 1) := by decide +kernel
theorem dX13_tellsRows_94 : decode cX13_tellsRows 94 = .ok (.istore 7, 2) := by decide +kernel
theorem dX13_tellsRows_96 : decode cX13_tellsRows 96 = .ok (.iload 7, 2) := by decide +kernel
theorem dX13_tellsRows_98 : decode cX13_tellsRows 98 = .ok (.aload_n 0, 1) := by decide +kernel
theorem dX13_tellsRows_99 : decode cX13_tellsRows 99 = .ok (.getfield 163, 3) := by decide +kernel
theorem dX13_tellsRows_102 : decode cX13_tellsRows 102 = .ok (.iload 4, 2) := by decide +kernel
theorem dX13_tellsRows_104 : decode cX13_tellsRows 104 = .ok (.iaload, 1) := by decide +kernel
theorem dX13_tellsRows_105 : decode cX13_tellsRows 105 = .ok (.if_icmp .ge 89, 3) := by decide +kernel
theorem dX13_tellsRows_108 : decode cX13_tellsRows 108 = .ok (.aload_n 0, 1) := by decide +kernel
theorem dX13_tellsRows_109 : decode cX13_tellsRows 109 = .ok (.getfield 124, 3) := by decide +kernel
theorem dX13_tellsRows_112 : decode cX13_tellsRows 112 = .ok (.iload 6, 2) := by decide +kernel
theorem dX13_tellsRows_114 : decode cX13_tellsRows 114 = .ok (.iload 7, 2) := by decide +kernel
theorem dX13_tellsRows_116 : decode cX13_tellsRows 116 = .ok (.iadd, 1) := by decide +kernel
theorem dX13_tellsRows_117 : decode cX13_tellsRows 117 = .ok (.iaload, 1) := by decide +kernel
theorem dX13_tellsRows_118 : decode cX13_tellsRows 118 = .ok (.istore 8, 2) := by decide +kernel
theorem dX13_tellsRows_120 : decode cX13_tellsRows 120 = .ok (.aload_n 0, 1) := by decide +kernel
theorem dX13_tellsRows_121 : decode cX13_tellsRows 121 = .ok (.getfield 160, 3) := by decide +kernel
theorem dX13_tellsRows_124 : decode cX13_tellsRows 124 = .ok (.sipush 132, 3) := by decide +kernel
theorem dX13_tellsRows_127 : decode cX13_tellsRows 127 = .ok (.iload 4, 2) := by decide +kernel
theorem dX13_tellsRows_129 : decode cX13_tellsRows 129 = .ok (.imul, 1) := by decide +kernel
theorem dX13_tellsRows_130 : decode cX13_tellsRows 130 = .ok (.iload 7, 2) := by decide +kernel
theorem dX13_tellsRows_132 : decode cX13_tellsRows 132 = .ok (.iadd, 1) := by decide +kernel
theorem dX13_tellsRows_133 : decode cX13_tellsRows 133 = .ok (.aload_n 0, 1) := by decide +kernel
theorem dX13_tellsRows_134 : decode cX13_tellsRows 134 = .ok (.getfield 100, 3) := by decide +kernel
theorem dX13_tellsRows_137 : decode cX13_tellsRows 137 = .ok (.iload 8, 2) := by decide +kernel
theorem dX13_tellsRows_139 : decode cX13_tellsRows 139 = .ok (.iaload, 1) := by decide +kernel
theorem dX13_tellsRows_140 : decode cX13_tellsRows 140 = .ok (.sipush 128, 3) := by decide +kernel
theorem dX13_tellsRows_143 : decode cX13_tellsRows 143 = .ok (.aload_n 0, 1) := by decide +kernel
theorem dX13_tellsRows_144 : decode cX13_tellsRows 144 = .ok (.getfield 103, 3) := by decide +kernel
theorem dX13_tellsRows_147 : decode cX13_tellsRows 147 = .ok (.iload 8, 2) := by decide +kernel
theorem dX13_tellsRows_149 : decode cX13_tellsRows 149 = .ok (.iaload, 1) := by decide +kernel
theorem dX13_tellsRows_150 : decode cX13_tellsRows 150 = .ok (.imul, 1) := by decide +kernel
theorem dX13_tellsRows_151 : decode cX13_tellsRows 151 = .ok (.iadd, 1) := by decide +kernel
theorem dX13_tellsRows_152 : decode cX13_tellsRows 152 = .ok (.sipush 16384, 3) := by decide +kernel
theorem dX13_tellsRows_155 : decode cX13_tellsRows 155 = .ok (.aload_n 0, 1) := by decide +kernel
theorem dX13_tellsRows_156 : decode cX13_tellsRows 156 = .ok (.getfield 118, 3) := by decide +kernel
theorem dX13_tellsRows_159 : decode cX13_tellsRows 159 = .ok (.iload 8, 2) := by decide +kernel
theorem dX13_tellsRows_161 : decode cX13_tellsRows 161 = .ok (.iaload, 1) := by decide +kernel
theorem dX13_tellsRows_162 : decode cX13_tellsRows 162 = .ok (.bipush 64, 2) := by decide +kernel
theorem dX13_tellsRows_164 : decode cX13_tellsRows 164 = .ok (.aload_n 0, 1) := by decide +kernel
theorem dX13_tellsRows_165 : decode cX13_tellsRows 165 = .ok (.getfield 112, 3) := by decide +kernel
theorem dX13_tellsRows_168 : decode cX13_tellsRows 168 = .ok (.iload 8, 2) := by decide +kernel
theorem dX13_tellsRows_170 : decode cX13_tellsRows 170 = .ok (.iaload, 1) := by decide +kernel
theorem dX13_tellsRows_171 : decode cX13_tellsRows 171 = .ok (.imul, 1) := by decide +kernel
theorem dX13_tellsRows_172 : decode cX13_tellsRows 172 = .ok (.iadd, 1) := by decide +kernel
theorem dX13_tellsRows_173 : decode cX13_tellsRows 173 = .ok (.sipush 512, 3) := by decide +kernel
theorem dX13_tellsRows_176 : decode cX13_tellsRows 176 = .ok (.aload_n 0, 1) := by decide +kernel
theorem dX13_tellsRows_177 : decode cX13_tellsRows 177 = .ok (.getfield 115, 3) := by decide +kernel
theorem dX13_tellsRows_180 : decode cX13_tellsRows 180 = .ok (.iload 8, 2) := by decide +kernel
theorem dX13_tellsRows_182 : decode cX13_tellsRows 182 = .ok (.iaload, 1) := by decide +kernel
theorem dX13_tellsRows_183 : decode cX13_tellsRows 183 = .ok (.imul, 1) := by decide +kernel
theorem dX13_tellsRows_184 : decode cX13_tellsRows 184 = .ok (.iadd, 1) := by decide +kernel
theorem dX13_tellsRows_185 : decode cX13_tellsRows 185 = .ok (.imul, 1) := by decide +kernel
theorem dX13_tellsRows_186 : decode cX13_tellsRows 186 = .ok (.iadd, 1) := by decide +kernel
theorem dX13_tellsRows_187 : decode cX13_tellsRows 187 = .ok (.iastore, 1) := by decide +kernel
theorem dX13_tellsRows_188 : decode cX13_tellsRows 188 = .ok (.iinc 7 1, 3) := by decide +kernel
theorem dX13_tellsRows_191 : decode cX13_tellsRows 191 = .ok (.goto (-95), 3) := by decide +kernel
theorem dX13_tellsRows_194 : decode cX13_tellsRows 194 = .ok (.aload_n 0, 1) := by decide +kernel
theorem dX13_tellsRows_195 : decode cX13_tellsRows 195 = .ok (.getfield 166, 3) := by decide +kernel
theorem dX13_tellsRows_198 : decode cX13_tellsRows 198 = .ok (.iload 4, 2) := by decide +kernel
theorem dX13_tellsRows_200 : decode cX13_tellsRows 200 = .ok (.aload_n 0, 1) := by decide +kernel
theorem dX13_tellsRows_201 : decode cX13_tellsRows 201 = .ok (.iload_n 1, 1) := by decide +kernel
theorem dX13_tellsRows_202 : decode cX13_tellsRows 202 = .ok (.iload_n 2, 1) := by decide +kernel
theorem dX13_tellsRows_203 : decode cX13_tellsRows 203 = .ok (.iload 4, 2) := by decide +kernel
theorem dX13_tellsRows_205 : decode cX13_tellsRows 205 = .ok (.iadd, 1) := by decide +kernel
theorem dX13_tellsRows_206 : decode cX13_tellsRows 206 = .ok (.invokevirtual 373, 3) := by decide +kernel
theorem dX13_tellsRows_209 : decode cX13_tellsRows 209 = .ok (.iastore, 1) := by decide +kernel
theorem dX13_tellsRows_210 : decode cX13_tellsRows 210 = .ok (.iinc 4 1, 3) := by decide +kernel
theorem dX13_tellsRows_213 : decode cX13_tellsRows 213 = .ok (.goto (-194), 3) := by decide +kernel
theorem dX13_tellsRows_216 : decode cX13_tellsRows 216 = .ok (.return_, 1) := by decide +kernel
theorem dX13_isSame_0 : decode cX13_isSame 0 = .ok (.iload_n 3, 1) := by decide +kernel
theorem dX13_isSame_1 : decode cX13_isSame 1 = .ok (.iconst 0, 1) := by decide +kernel
theorem dX13_isSame_2 : decode cX13_isSame 2 = .ok (.aload_n 0, 1) := by decide +kernel
theorem dX13_isSame_3 : decode cX13_isSame 3 = .ok (.getfield 154, 3) := by decide +kernel
theorem dX13_isSame_6 : decode cX13_isSame 6 = .ok (.iload_n 1, 1) := by decide +kernel
theorem dX13_isSame_7 : decode cX13_isSame 7 = .ok (.iaload, 1) := by decide +kernel
theorem dX13_isSame_8 : decode cX13_isSame 8 = .ok (.iconst 1, 1) := by decide +kernel
theorem dX13_isSame_9 : decode cX13_isSame 9 = .ok (.isub, 1) := by decide +kernel
theorem dX13_isSame_10 : decode cX13_isSame 10 = .ok (.invokestatic 187, 3) := by decide +kernel
theorem dX13_isSame_13 : decode cX13_isSame 13 = .ok (.ifCond .ne 5, 3) := by decide +kernel
theorem dX13_isSame_16 : decode cX13_isSame 16 = .ok (.iconst 0, 1) := by decide +kernel
theorem dX13_isSame_17 : decode cX13_isSame 17 = .ok (.ireturn, 1) := by decide +kernel
theorem dX13_isSame_18 : decode cX13_isSame 18 = .ok (.bipush 24, 2) := by decide +kernel
theorem dX13_isSame_20 : decode cX13_isSame 20 = .ok (.iload_n 1, 1) := by decide +kernel
theorem dX13_isSame_21 : decode cX13_isSame 21 = .ok (.imul, 1) := by decide +kernel
theorem dX13_isSame_22 : decode cX13_isSame 22 = .ok (.iload_n 3, 1) := by decide +kernel
theorem dX13_isSame_23 : decode cX13_isSame 23 = .ok (.iadd, 1) := by decide +kernel
theorem dX13_isSame_24 : decode cX13_isSame 24 = .ok (.istore 4, 2) := by decide +kernel
theorem dX13_isSame_26 : decode cX13_isSame 26 = .ok (.aload_n 0, 1) := by decide +kernel
theorem dX13_isSame_27 : decode cX13_isSame 27 = .ok (.getfield 163, 3) := by decide +kernel
theorem dX13_isSame_30 : decode cX13_isSame 30 = .ok (.iload_n 2, 1) := by decide +kernel
theorem dX13_isSame_31 : decode cX13_isSame 31 = .ok (.iaload, 1) := by decide +kernel
theorem dX13_isSame_32 : decode cX13_isSame 32 = .ok (.aload_n 0, 1) := by decide +kernel
theorem dX13_isSame_33 : decode cX13_isSame 33 = .ok (.getfield 148, 3) := by decide +kernel
theorem dX13_isSame_36 : decode cX13_isSame 36 = .ok (.iload 4, 2) := by decide +kernel
theorem dX13_isSame_38 : decode cX13_isSame 38 = .ok (.iaload, 1) := by decide +kernel
theorem dX13_isSame_39 : decode cX13_isSame 39 = .ok (.if_icmp .ne 23, 3) := by decide +kernel
theorem dX13_isSame_42 : decode cX13_isSame 42 = .ok (.aload_n 0, 1) := by decide +kernel
theorem dX13_isSame_43 : decode cX13_isSame 43 = .ok (.getfield 166, 3) := by decide +kernel
theorem dX13_isSame_46 : decode cX13_isSame 46 = .ok (.iload_n 2, 1) := by decide +kernel
theorem dX13_isSame_47 : decode cX13_isSame 47 = .ok (.iaload, 1) := by decide +kernel
theorem dX13_isSame_48 : decode cX13_isSame 48 = .ok (.aload_n 0, 1) := by decide +kernel
theorem dX13_isSame_49 : decode cX13_isSame 49 = .ok (.getfield 151, 3) := by decide +kernel
theorem dX13_isSame_52 : decode cX13_isSame 52 = .ok (.iload 4, 2) := by decide +kernel
theorem dX13_isSame_54 : decode cX13_isSame 54 = .ok (.iaload, 1) := by decide +kernel
theorem dX13_isSame_55 : decode cX13_isSame 55 = .ok (.if_icmp .ne 7, 3) := by decide +kernel
theorem dX13_isSame_58 : decode cX13_isSame 58 = .ok (.iconst 1, 1) := by decide +kernel
theorem dX13_isSame_59 : decode cX13_isSame 59 = .ok (.goto 4, 3) := by decide +kernel
theorem dX13_isSame_62 : decode cX13_isSame 62 = .ok (.iconst 0, 1) := by decide +kernel
theorem dX13_isSame_63 : decode cX13_isSame 63 = .ok (.istore 5, 2) := by decide +kernel
theorem dX13_isSame_65 : decode cX13_isSame 65 = .ok (.iconst 0, 1) := by decide +kernel
theorem dX13_isSame_66 : decode cX13_isSame 66 = .ok (.istore 6, 2) := by decide +kernel
theorem dX13_isSame_68 : decode cX13_isSame 68 = .ok (.iload 6, 2) := by decide +kernel
theorem dX13_isSame_70 : decode cX13_isSame 70 = .ok (.aload_n 0, 1) := by decide +kernel
theorem dX13_isSame_71 : decode cX13_isSame 71 = .ok (.getfield 163, 3) := by decide +kernel
theorem dX13_isSame_74 : decode cX13_isSame 74 = .ok (.iload_n 2, 1) := by decide +kernel
theorem dX13_isSame_75 : decode cX13_isSame 75 = .ok (.iaload, 1) := by decide +kernel
theorem dX13_isSame_76 : decode cX13_isSame 76 = .ok (.if_icmp .ge 51, 3) := by decide +kernel
theorem dX13_isSame_79 : decode cX13_isSame 79 = .ok (.iload 5, 2) := by decide +kernel
theorem dX13_isSame_81 : decode cX13_isSame 81 = .ok (.ifCond .eq 46, 3) := by decide +kernel
theorem dX13_isSame_84 : decode cX13_isSame 84 = .ok (.aload_n 0, 1) := by decide +kernel
theorem dX13_isSame_85 : decode cX13_isSame 85 = .ok (.getfield 160, 3) := by decide +kernel
theorem dX13_isSame_88 : decode cX13_isSame 88 = .ok (.sipush 132, 3) := by decide +kernel
theorem dX13_isSame_91 : decode cX13_isSame 91 = .ok (.iload_n 2, 1) := by decide +kernel
theorem dX13_isSame_92 : decode cX13_isSame 92 = .ok (.imul, 1) := by decide +kernel
theorem dX13_isSame_93 : decode cX13_isSame 93 = .ok (.iload 6, 2) := by decide +kernel
theorem dX13_isSame_95 : decode cX13_isSame 95 = .ok (.iadd, 1) := by decide +kernel
theorem dX13_isSame_96 : decode cX13_isSame 96 = .ok (.iaload, 1) := by decide +kernel
theorem dX13_isSame_97 : decode cX13_isSame 97 = .ok (.aload_n 0, 1) := by decide +kernel
theorem dX13_isSame_98 : decode cX13_isSame 98 = .ok (.getfield 145, 3) := by decide +kernel
theorem dX13_isSame_101 : decode cX13_isSame 101 = .ok (.sipush 132, 3) := by decide +kernel
theorem dX13_isSame_104 : decode cX13_isSame 104 = .ok (.iload 4, 2) := by decide +kernel
theorem dX13_isSame_106 : decode cX13_isSame 106 = .ok (.imul, 1) := by decide +kernel
theorem dX13_isSame_107 : decode cX13_isSame 107 = .ok (.iload 6, 2) := by decide +kernel
theorem dX13_isSame_109 : decode cX13_isSame 109 = .ok (.iadd, 1) := by decide +kernel
theorem dX13_isSame_110 : decode cX13_isSame 110 = .ok (.iaload, 1) := by decide +kernel
theorem dX13_isSame_111 : decode cX13_isSame 111 = .ok (.if_icmp .ne 7, 3) := by decide +kernel
theorem dX13_isSame_114 : decode cX13_isSame 114 = .ok (.iconst 1, 1) := by decide +kernel
theorem dX13_isSame_115 : decode cX13_isSame 115 = .ok (.goto 4, 3) := by decide +kernel
theorem dX13_isSame_118 : decode cX13_isSame 118 = .ok (.iconst 0, 1) := by decide +kernel
theorem dX13_isSame_119 : decode cX13_isSame 119 = .ok (.istore 5, 2) := by decide +kernel
theorem dX13_isSame_121 : decode cX13_isSame 121 = .ok (.iinc 6 1, 3) := by decide +kernel
theorem dX13_isSame_124 : decode cX13_isSame 124 = .ok (.goto (-56), 3) := by decide +kernel
theorem dX13_isSame_127 : decode cX13_isSame 127 = .ok (.iload 5, 2) := by decide +kernel
theorem dX13_isSame_129 : decode cX13_isSame 129 = .ok (.ireturn, 1) := by decide +kernel
theorem dX13_toDraw_0 : decode cX13_toDraw 0 = .ok (.iconst 0, 1) := by decide +kernel
theorem dX13_toDraw_1 : decode cX13_toDraw 1 = .ok (.istore_n 3, 1) := by decide +kernel
theorem dX13_toDraw_2 : decode cX13_toDraw 2 = .ok (.iconst 0, 1) := by decide +kernel
theorem dX13_toDraw_3 : decode cX13_toDraw 3 = .ok (.istore 4, 2) := by decide +kernel
theorem dX13_toDraw_5 : decode cX13_toDraw 5 = .ok (.iload 4, 2) := by decide +kernel
theorem dX13_toDraw_7 : decode cX13_toDraw 7 = .ok (.aload_n 0, 1) := by decide +kernel
theorem dX13_toDraw_8 : decode cX13_toDraw 8 = .ok (.getfield 97, 3) := by decide +kernel
theorem dX13_toDraw_11 : decode cX13_toDraw 11 = .ok (.iload_n 1, 1) := by decide +kernel
theorem dX13_toDraw_12 : decode cX13_toDraw 12 = .ok (.iaload, 1) := by decide +kernel
theorem dX13_toDraw_13 : decode cX13_toDraw 13 = .ok (.if_icmp .ge 31, 3) := by decide +kernel
theorem dX13_toDraw_16 : decode cX13_toDraw 16 = .ok (.iload_n 3, 1) := by decide +kernel
theorem dX13_toDraw_17 : decode cX13_toDraw 17 = .ok (.aload_n 0, 1) := by decide +kernel
theorem dX13_toDraw_18 : decode cX13_toDraw 18 = .ok (.iload_n 1, 1) := by decide +kernel
theorem dX13_toDraw_19 : decode cX13_toDraw 19 = .ok (.iload 4, 2) := by decide +kernel
theorem dX13_toDraw_21 : decode cX13_toDraw 21 = .ok (.iload 4, 2) := by decide +kernel
theorem dX13_toDraw_23 : decode cX13_toDraw 23 = .ok (.iload_n 2, 1) := by decide +kernel
theorem dX13_toDraw_24 : decode cX13_toDraw 24 = .ok (.iadd, 1) := by decide +kernel
theorem dX13_toDraw_25 : decode cX13_toDraw 25 = .ok (.invokevirtual 474, 3) := by decide +kernel
theorem dX13_toDraw_28 : decode cX13_toDraw 28 = .ok (.ifCond .eq 7, 3) := by decide +kernel
theorem dX13_toDraw_31 : decode cX13_toDraw 31 = .ok (.iconst 0, 1) := by decide +kernel
theorem dX13_toDraw_32 : decode cX13_toDraw 32 = .ok (.goto 4, 3) := by decide +kernel
theorem dX13_toDraw_35 : decode cX13_toDraw 35 = .ok (.iconst 1, 1) := by decide +kernel
theorem dX13_toDraw_36 : decode cX13_toDraw 36 = .ok (.iadd, 1) := by decide +kernel
theorem dX13_toDraw_37 : decode cX13_toDraw 37 = .ok (.istore_n 3, 1) := by decide +kernel
theorem dX13_toDraw_38 : decode cX13_toDraw 38 = .ok (.iinc 4 1, 3) := by decide +kernel
theorem dX13_toDraw_41 : decode cX13_toDraw 41 = .ok (.goto (-36), 3) := by decide +kernel
theorem dX13_toDraw_44 : decode cX13_toDraw 44 = .ok (.iload_n 3, 1) := by decide +kernel
theorem dX13_toDraw_45 : decode cX13_toDraw 45 = .ok (.ireturn, 1) := by decide +kernel
theorem dX13_keepsRows_0 : decode cX13_keepsRows 0 = .ok (.aload_n 0, 1) := by decide +kernel
theorem dX13_keepsRows_1 : decode cX13_keepsRows 1 = .ok (.getfield 154, 3) := by decide +kernel
theorem dX13_keepsRows_4 : decode cX13_keepsRows 4 = .ok (.iload_n 1, 1) := by decide +kernel
theorem dX13_keepsRows_5 : decode cX13_keepsRows 5 = .ok (.aload_n 0, 1) := by decide +kernel
theorem dX13_keepsRows_6 : decode cX13_keepsRows 6 = .ok (.getfield 97, 3) := by decide +kernel
theorem dX13_keepsRows_9 : decode cX13_keepsRows 9 = .ok (.iload_n 1, 1) := by decide +kernel
theorem dX13_keepsRows_10 : decode cX13_keepsRows 10 = .ok (.iaload, 1) := by decide +kernel
theorem dX13_keepsRows_11 : decode cX13_keepsRows 11 = .ok (.iastore, 1) := by decide +kernel
theorem dX13_keepsRows_12 : decode cX13_keepsRows 12 = .ok (.iconst 0, 1) := by decide +kernel
theorem dX13_keepsRows_13 : decode cX13_keepsRows 13 = .ok (.istore_n 2, 1) := by decide +kernel
theorem dX13_keepsRows_14 : decode cX13_keepsRows 14 = .ok (.iload_n 2, 1) := by decide +kernel
theorem dX13_keepsRows_15 : decode cX13_keepsRows 15 = .ok (.aload_n 0, 1) := by decide +kernel
theorem dX13_keepsRows_16 : decode cX13_keepsRows 16 = .ok (.getfield 97, 3) := by decide +kernel
theorem dX13_keepsRows_19 : decode cX13_keepsRows 19 = .ok (.iload_n 1, 1) := by decide +kernel
theorem dX13_keepsRows_20 : decode cX13_keepsRows 20 = .ok (.iaload, 1) := by decide +kernel
theorem dX13_keepsRows_21 : decode cX13_keepsRows 21 = .ok (.if_icmp .ge 90, 3) := by decide +kernel
theorem dX13_keepsRows_24 : decode cX13_keepsRows 24 = .ok (.aload_n 0, 1) := by decide +kernel
theorem dX13_keepsRows_25 : decode cX13_keepsRows 25 = .ok (.getfield 148, 3) := by decide +kernel
theorem dX13_keepsRows_28 : decode cX13_keepsRows 28 = .ok (.bipush 24, 2) := by decide +kernel
theorem dX13_keepsRows_30 : decode cX13_keepsRows 30 = .ok (.iload_n 1, 1) := by decide +kernel
theorem dX13_keepsRows_31 : decode cX13_keepsRows 31 = .ok (.imul, 1) := by decide +kernel
theorem dX13_keepsRows_32 : decode cX13_keepsRows 32 = .ok (.iload_n 2, 1) := by decide +kernel
theorem dX13_keepsRows_33 : decode cX13_keepsRows 33 = .ok (.iadd, 1) := by decide +kernel
theorem dX13_keepsRows_34 : decode cX13_keepsRows 34 = .ok (.aload_n 0, 1) := by decide +kernel
theorem dX13_keepsRows_35 : decode cX13_keepsRows 35 = .ok (.getfield 163, 3) := by decide +kernel
theorem dX13_keepsRows_38 : decode cX13_keepsRows 38 = .ok (.iload_n 2, 1) := by decide +kernel
theorem dX13_keepsRows_39 : decode cX13_keepsRows 39 = .ok (.iaload, 1) := by decide +kernel
theorem dX13_keepsRows_40 : decode cX13_keepsRows 40 = .ok (.iastore, 1) := by decide +kernel
theorem dX13_keepsRows_41 : decode cX13_keepsRows 41 = .ok (.aload_n 0, 1) := by decide +kernel
theorem dX13_keepsRows_42 : decode cX13_keepsRows 42 = .ok (.getfield 151, 3) := by decide +kernel
theorem dX13_keepsRows_45 : decode cX13_keepsRows 45 = .ok (.bipush 24, 2) := by decide +kernel
theorem dX13_keepsRows_47 : decode cX13_keepsRows 47 = .ok (.iload_n 1, 1) := by decide +kernel
theorem dX13_keepsRows_48 : decode cX13_keepsRows 48 = .ok (.imul, 1) := by decide +kernel
theorem dX13_keepsRows_49 : decode cX13_keepsRows 49 = .ok (.iload_n 2, 1) := by decide +kernel
theorem dX13_keepsRows_50 : decode cX13_keepsRows 50 = .ok (.iadd, 1) := by decide +kernel
theorem dX13_keepsRows_51 : decode cX13_keepsRows 51 = .ok (.aload_n 0, 1) := by decide +kernel
theorem dX13_keepsRows_52 : decode cX13_keepsRows 52 = .ok (.getfield 166, 3) := by decide +kernel
theorem dX13_keepsRows_55 : decode cX13_keepsRows 55 = .ok (.iload_n 2, 1) := by decide +kernel
theorem dX13_keepsRows_56 : decode cX13_keepsRows 56 = .ok (.iaload, 1) := by decide +kernel
theorem dX13_keepsRows_57 : decode cX13_keepsRows 57 = .ok (.iastore, 1) := by decide +kernel
theorem dX13_keepsRows_58 : decode cX13_keepsRows 58 = .ok (.iconst 0, 1) := by decide +kernel
theorem dX13_keepsRows_59 : decode cX13_keepsRows 59 = .ok (.istore_n 3, 1) := by decide +kernel
theorem dX13_keepsRows_60 : decode cX13_keepsRows 60 = .ok (.iload_n 3, 1) := by decide +kernel
theorem dX13_keepsRows_61 : decode cX13_keepsRows 61 = .ok (.aload_n 0, 1) := by decide +kernel
theorem dX13_keepsRows_62 : decode cX13_keepsRows 62 = .ok (.getfield 163, 3) := by decide +kernel
theorem dX13_keepsRows_65 : decode cX13_keepsRows 65 = .ok (.iload_n 2, 1) := by decide +kernel
theorem dX13_keepsRows_66 : decode cX13_keepsRows 66 = .ok (.iaload, 1) := by decide +kernel
theorem dX13_keepsRows_67 : decode cX13_keepsRows 67 = .ok (.if_icmp .ge 38, 3) := by decide +kernel
theorem dX13_keepsRows_70 : decode cX13_keepsRows 70 = .ok (.aload_n 0, 1) := by decide +kernel
theorem dX13_keepsRows_71 : decode cX13_keepsRows 71 = .ok (.getfield 145, 3) := by decide +kernel
theorem dX13_keepsRows_74 : decode cX13_keepsRows 74 = .ok (.sipush 132, 3) := by decide +kernel
theorem dX13_keepsRows_77 : decode cX13_keepsRows 77 = .ok (.bipush 24, 2) := by decide +kernel
theorem dX13_keepsRows_79 : decode cX13_keepsRows 79 = .ok (.iload_n 1, 1) := by decide +kernel
theorem dX13_keepsRows_80 : decode cX13_keepsRows 80 = .ok (.imul, 1) := by decide +kernel
theorem dX13_keepsRows_81 : decode cX13_keepsRows 81 = .ok (.iload_n 2, 1) := by decide +kernel
theorem dX13_keepsRows_82 : decode cX13_keepsRows 82 = .ok (.iadd, 1) := by decide +kernel
theorem dX13_keepsRows_83 : decode cX13_keepsRows 83 = .ok (.imul, 1) := by decide +kernel
theorem dX13_keepsRows_84 : decode cX13_keepsRows 84 = .ok (.iload_n 3, 1) := by decide +kernel
theorem dX13_keepsRows_85 : decode cX13_keepsRows 85 = .ok (.iadd, 1) := by decide +kernel
theorem dX13_keepsRows_86 : decode cX13_keepsRows 86 = .ok (.aload_n 0, 1) := by decide +kernel
theorem dX13_keepsRows_87 : decode cX13_keepsRows 87 = .ok (.getfield 160, 3) := by decide +kernel
theorem dX13_keepsRows_90 : decode cX13_keepsRows 90 = .ok (.sipush 132, 3) := by decide +kernel
theorem dX13_keepsRows_93 : decode cX13_keepsRows 93 = .ok (.iload_n 2, 1) := by decide +kernel
theorem dX13_keepsRows_94 : decode cX13_keepsRows 94 = .ok (.imul, 1) := by decide +kernel
theorem dX13_keepsRows_95 : decode cX13_keepsRows 95 = .ok (.iload_n 3, 1) := by decide +kernel
theorem dX13_keepsRows_96 : decode cX13_keepsRows 96 = .ok (.iadd, 1) := by decide +kernel
theorem dX13_keepsRows_97 : decode cX13_keepsRows 97 = .ok (.iaload, 1) := by decide +kernel
theorem dX13_keepsRows_98 : decode cX13_keepsRows 98 = .ok (.iastore, 1) := by decide +kernel
theorem dX13_keepsRows_99 : decode cX13_keepsRows 99 = .ok (.iinc 3 1, 3) := by decide +kernel
theorem dX13_keepsRows_102 : decode cX13_keepsRows 102 = .ok (.goto (-42), 3) := by decide +kernel
theorem dX13_keepsRows_105 : decode cX13_keepsRows 105 = .ok (.iinc 2 1, 3) := by decide +kernel
theorem dX13_keepsRows_108 : decode cX13_keepsRows 108 = .ok (.goto (-94), 3) := by decide +kernel
theorem dX13_keepsRows_111 : decode cX13_keepsRows 111 = .ok (.return_, 1) := by decide +kernel
theorem dX13_draw_0 : decode cX13_draw 0 = .ok (.iload_n 1, 1) := by decide +kernel
theorem dX13_draw_1 : decode cX13_draw 1 = .ok (.invokestatic 236, 3) := by decide +kernel
theorem dX13_draw_4 : decode cX13_draw 4 = .ok (.istore_n 2, 1) := by decide +kernel
theorem dX13_draw_5 : decode cX13_draw 5 = .ok (.aload_n 0, 1) := by decide +kernel
theorem dX13_draw_6 : decode cX13_draw 6 = .ok (.iload_n 2, 1) := by decide +kernel
theorem dX13_draw_7 : decode cX13_draw 7 = .ok (.ifCond .ne 7, 3) := by decide +kernel
theorem dX13_draw_10 : decode cX13_draw 10 = .ok (.iconst 1, 1) := by decide +kernel
theorem dX13_draw_11 : decode cX13_draw 11 = .ok (.goto 17, 3) := by decide +kernel
theorem dX13_draw_14 : decode cX13_draw 14 = .ok (.aload_n 0, 1) := by decide +kernel
theorem dX13_draw_15 : decode cX13_draw 15 = .ok (.getfield 33, 3) := by decide +kernel
theorem dX13_draw_18 : decode cX13_draw 18 = .ok (.iload_n 1, 1) := by decide +kernel
theorem dX13_draw_19 : decode cX13_draw 19 = .ok (.baload, 1) := by decide +kernel
theorem dX13_draw_20 : decode cX13_draw 20 = .ok (.ifCond .ne 7, 3) := by decide +kernel
theorem dX13_draw_23 : decode cX13_draw 23 = .ok (.iconst 2, 1) := by decide +kernel
theorem dX13_draw_24 : decode cX13_draw 24 = .ok (.goto 4, 3) := by decide +kernel
theorem dX13_draw_27 : decode cX13_draw 27 = .ok (.iconst 0, 1) := by decide +kernel
theorem dX13_draw_28 : decode cX13_draw 28 = .ok (.invokevirtual 195, 3) := by decide +kernel
theorem dX13_draw_31 : decode cX13_draw 31 = .ok (.ifCond .ne 5, 3) := by decide +kernel
theorem dX13_draw_34 : decode cX13_draw 34 = .ok (.iconst 0, 1) := by decide +kernel
theorem dX13_draw_35 : decode cX13_draw 35 = .ok (.ireturn, 1) := by decide +kernel
theorem dX13_draw_36 : decode cX13_draw 36 = .ok (.aload_n 0, 1) := by decide +kernel
theorem dX13_draw_37 : decode cX13_draw 37 = .ok (.iload_n 1, 1) := by decide +kernel
theorem dX13_draw_38 : decode cX13_draw 38 = .ok (.invokevirtual 477, 3) := by decide +kernel
theorem dX13_draw_41 : decode cX13_draw 41 = .ok (.iconst 0, 1) := by decide +kernel
theorem dX13_draw_42 : decode cX13_draw 42 = .ok (.istore_n 3, 1) := by decide +kernel
theorem dX13_draw_43 : decode cX13_draw 43 = .ok (.aload_n 0, 1) := by decide +kernel
theorem dX13_draw_44 : decode cX13_draw 44 = .ok (.iload_n 1, 1) := by decide +kernel
theorem dX13_draw_45 : decode cX13_draw 45 = .ok (.iconst 0, 1) := by decide +kernel
theorem dX13_draw_46 : decode cX13_draw 46 = .ok (.invokevirtual 480, 3) := by decide +kernel
theorem dX13_draw_49 : decode cX13_draw 49 = .ok (.istore 4, 2) := by decide +kernel
theorem dX13_draw_51 : decode cX13_draw 51 = .ok (.iconst 1, 1) := by decide +kernel
theorem dX13_draw_52 : decode cX13_draw 52 = .ok (.istore 5, 2) := by decide +kernel
theorem dX13_draw_54 : decode cX13_draw 54 = .ok (.iload 5, 2) := by decide +kernel
theorem dX13_draw_56 : decode cX13_draw 56 = .ok (.bipush 24, 2) := by decide +kernel
theorem dX13_draw_58 : decode cX13_draw 58 = .ok (.if_icmp .ge 69, 3) := by decide +kernel
theorem dX13_draw_61 : decode cX13_draw 61 = .ok (.iconst 1, 1) := by decide +kernel
theorem dX13_draw_62 : decode cX13_draw 62 = .ok (.istore 6, 2) := by decide +kernel
theorem dX13_draw_64 : decode cX13_draw 64 = .ok (.iload 6, 2) := by decide +kernel
theorem dX13_draw_66 : decode cX13_draw 66 = .ok (.iconst (-1), 1) := by decide +kernel
theorem dX13_draw_67 : decode cX13_draw 67 = .ok (.if_icmp .lt 54, 3) := by decide +kernel
theorem dX13_draw_70 : decode cX13_draw 70 = .ok (.aload_n 0, 1) := by decide +kernel
theorem dX13_draw_71 : decode cX13_draw 71 = .ok (.iload_n 1, 1) := by decide +kernel
theorem dX13_draw_72 : decode cX13_draw 72 = .ok (.iload 6, 2) := by decide +kernel
theorem dX13_draw_74 : decode cX13_draw 74 = .ok (.iload 5, 2) := by decide +kernel
theorem dX13_draw_76 : decode cX13_draw 76 = .ok (.imul, 1) := by decide +kernel
theorem dX13_draw_77 : decode cX13_draw 77 = .ok (.invokevirtual 480, 3) := by decide +kernel
theorem dX13_draw_80 : decode cX13_draw 80 = .ok (.istore 7, 2) := by decide +kernel
theorem dX13_draw_82 : decode cX13_draw 82 = .ok (.iload 7, 2) := by decide +kernel
theorem dX13_draw_84 : decode cX13_draw 84 = .ok (.iload 4, 2) := by decide +kernel
theorem dX13_draw_86 : decode cX13_draw 86 = .ok (.if_icmp .ge 11, 3) := by decide +kernel
theorem dX13_draw_89 : decode cX13_draw 89 = .ok (.iload 6, 2) := by decide +kernel
theorem dX13_draw_91 : decode cX13_draw 91 = .ok (.iload 5, 2) := by decide +kernel
theorem dX13_draw_93 : decode cX13_draw 93 = .ok (.imul, 1) := by decide +kernel
theorem dX13_draw_94 : decode cX13_draw 94 = .ok (.goto 4, 3) := by decide +kernel
theorem dX13_draw_97 : decode cX13_draw 97 = .ok (.iload_n 3, 1) := by decide +kernel
theorem dX13_draw_98 : decode cX13_draw 98 = .ok (.istore_n 3, 1) := by decide +kernel
theorem dX13_draw_99 : decode cX13_draw 99 = .ok (.iload 7, 2) := by decide +kernel
theorem dX13_draw_101 : decode cX13_draw 101 = .ok (.iload 4, 2) := by decide +kernel
theorem dX13_draw_103 : decode cX13_draw 103 = .ok (.if_icmp .ge 8, 3) := by decide +kernel
theorem dX13_draw_106 : decode cX13_draw 106 = .ok (.iload 7, 2) := by decide +kernel
theorem dX13_draw_108 : decode cX13_draw 108 = .ok (.goto 5, 3) := by decide +kernel
theorem dX13_draw_111 : decode cX13_draw 111 = .ok (.iload 4, 2) := by decide +kernel
theorem dX13_draw_113 : decode cX13_draw 113 = .ok (.istore 4, 2) := by decide +kernel
theorem dX13_draw_115 : decode cX13_draw 115 = .ok (.iinc 6 (-2), 3) := by decide +kernel
theorem dX13_draw_118 : decode cX13_draw 118 = .ok (.goto (-54), 3) := by decide +kernel
theorem dX13_draw_121 : decode cX13_draw 121 = .ok (.iinc 5 1, 3) := by decide +kernel
theorem dX13_draw_124 : decode cX13_draw 124 = .ok (.goto (-70), 3) := by decide +kernel
theorem dX13_draw_127 : decode cX13_draw 127 = .ok (.aload_n 0, 1) := by decide +kernel
theorem dX13_draw_128 : decode cX13_draw 128 = .ok (.iload_n 1, 1) := by decide +kernel
theorem dX13_draw_129 : decode cX13_draw 129 = .ok (.invokevirtual 483, 3) := by decide +kernel
theorem dX13_draw_132 : decode cX13_draw 132 = .ok (.aload_n 0, 1) := by decide +kernel
theorem dX13_draw_133 : decode cX13_draw 133 = .ok (.getfield 157, 3) := by decide +kernel
theorem dX13_draw_136 : decode cX13_draw 136 = .ok (.iload_n 1, 1) := by decide +kernel
theorem dX13_draw_137 : decode cX13_draw 137 = .ok (.iload_n 3, 1) := by decide +kernel
theorem dX13_draw_138 : decode cX13_draw 138 = .ok (.iastore, 1) := by decide +kernel
theorem dX13_draw_139 : decode cX13_draw 139 = .ok (.iload 4, 2) := by decide +kernel
theorem dX13_draw_141 : decode cX13_draw 141 = .ok (.ireturn, 1) := by decide +kernel
theorem dX13_shift_0 : decode cX13_shift 0 = .ok (.aload_n 0, 1) := by decide +kernel
theorem dX13_shift_1 : decode cX13_shift 1 = .ok (.iload_n 1, 1) := by decide +kernel
theorem dX13_shift_2 : decode cX13_shift 2 = .ok (.invokestatic 236, 3) := by decide +kernel
theorem dX13_shift_5 : decode cX13_shift 5 = .ok (.ifCond .eq 7, 3) := by decide +kernel
theorem dX13_shift_8 : decode cX13_shift 8 = .ok (.iconst 0, 1) := by decide +kernel
theorem dX13_shift_9 : decode cX13_shift 9 = .ok (.goto 4, 3) := by decide +kernel
theorem dX13_shift_12 : decode cX13_shift 12 = .ok (.iconst 1, 1) := by decide +kernel
theorem dX13_shift_13 : decode cX13_shift 13 = .ok (.invokevirtual 195, 3) := by decide +kernel
theorem dX13_shift_16 : decode cX13_shift 16 = .ok (.ifCond .eq 12, 3) := by decide +kernel
theorem dX13_shift_19 : decode cX13_shift 19 = .ok (.aload_n 0, 1) := by decide +kernel
theorem dX13_shift_20 : decode cX13_shift 20 = .ok (.getfield 157, 3) := by decide +kernel
theorem dX13_shift_23 : decode cX13_shift 23 = .ok (.iload_n 1, 1) := by decide +kernel
theorem dX13_shift_24 : decode cX13_shift 24 = .ok (.iaload, 1) := by decide +kernel
theorem dX13_shift_25 : decode cX13_shift 25 = .ok (.goto 4, 3) := by decide +kernel
theorem dX13_shift_28 : decode cX13_shift 28 = .ok (.iconst 0, 1) := by decide +kernel
theorem dX13_shift_29 : decode cX13_shift 29 = .ok (.ireturn, 1) := by decide +kernel
