theorem dX12_init_0 : decode cX12_init 0 = .ok (.aload_n 0, 1) := by decide +kernel
theorem dX12_init_1 : decode cX12_init 1 = .ok (.invokespecial 1, 3) := by decide +kernel
theorem dX12_init_4 : decode cX12_init 4 = .ok (.aload_n 0, 1) := by decide +kernel
theorem dX12_init_5 : decode cX12_init 5 = .ok (.lconst 1, 1) := by decide +kernel
theorem dX12_init_6 : decode cX12_init 6 = .ok (.putfield 7, 3) := by decide +kernel
theorem dX12_init_9 : decode cX12_init 9 = .ok (.aload_n 0, 1) := by decide +kernel
theorem dX12_init_10 : decode cX12_init 10 = .ok (.iconst 2, 1) := by decide +kernel
theorem dX12_init_11 : decode cX12_init 11 = .ok (.putfield 13, 3) := by decide +kernel
theorem dX12_init_14 : decode cX12_init 14 = .ok (.aload_n 0, 1) := by decide +kernel
theorem dX12_init_15 : decode cX12_init 15 = .ok (.bipush 24, 2) := by decide +kernel
theorem dX12_init_17 : decode cX12_init 17 = .ok (.newarray .int, 2) := by decide +kernel
theorem dX12_init_19 : decode cX12_init 19 = .ok (.putfield 17, 3) := by decide +kernel
theorem dX12_init_22 : decode cX12_init 22 = .ok (.aload_n 0, 1) := by decide +kernel
theorem dX12_init_23 : decode cX12_init 23 = .ok (.bipush 24, 2) := by decide +kernel
theorem dX12_init_25 : decode cX12_init 25 = .ok (.newarray .int, 2) := by decide +kernel
theorem dX12_init_27 : decode cX12_init 27 = .ok (.putfield 21, 3) := by decide +kernel
theorem dX12_init_30 : decode cX12_init 30 = .ok (.aload_n 0, 1) := by decide +kernel
theorem dX12_init_31 : decode cX12_init 31 = .ok (.bipush 24, 2) := by decide +kernel
theorem dX12_init_33 : decode cX12_init 33 = .ok (.newarray .int, 2) := by decide +kernel
theorem dX12_init_35 : decode cX12_init 35 = .ok (.putfield 24, 3) := by decide +kernel
theorem dX12_init_38 : decode cX12_init 38 = .ok (.aload_n 0, 1) := by decide +kernel
theorem dX12_init_39 : decode cX12_init 39 = .ok (.bipush 24, 2) := by decide +kernel
theorem dX12_init_41 : decode cX12_init 41 = .ok (.newarray .int, 2) := by decide +kernel
theorem dX12_init_43 : decode cX12_init 43 = .ok (.putfield 27, 3) := by decide +kernel
theorem dX12_init_46 : decode cX12_init 46 = .ok (.aload_n 0, 1) := by decide +kernel
theorem dX12_init_47 : decode cX12_init 47 = .ok (.bipush 12, 2) := by decide +kernel
theorem dX12_init_49 : decode cX12_init 49 = .ok (.newarray .int, 2) := by decide +kernel
theorem dX12_init_51 : decode cX12_init 51 = .ok (.putfield 30, 3) := by decide +kernel
theorem dX12_init_54 : decode cX12_init 54 = .ok (.aload_n 0, 1) := by decide +kernel
theorem dX12_init_55 : decode cX12_init 55 = .ok (.bipush 12, 2) := by decide +kernel
theorem dX12_init_57 : decode cX12_init 57 = .ok (.newarray .int, 2) := by decide +kernel
theorem dX12_init_59 : decode cX12_init 59 = .ok (.putfield 33, 3) := by decide +kernel
theorem dX12_init_62 : decode cX12_init 62 = .ok (.aload_n 0, 1) := by decide +kernel
theorem dX12_init_63 : decode cX12_init 63 = .ok (.bipush 12, 2) := by decide +kernel
theorem dX12_init_65 : decode cX12_init 65 = .ok (.newarray .int, 2) := by decide +kernel
theorem dX12_init_67 : decode cX12_init 67 = .ok (.putfield 36, 3) := by decide +kernel
theorem dX12_init_70 : decode cX12_init 70 = .ok (.aload_n 0, 1) := by decide +kernel
theorem dX12_init_71 : decode cX12_init 71 = .ok (.bipush 24, 2) := by decide +kernel
theorem dX12_init_73 : decode cX12_init 73 = .ok (.newarray .boolean, 2) := by decide +kernel
theorem dX12_init_75 : decode cX12_init 75 = .ok (.putfield 39, 3) := by decide +kernel
theorem dX12_init_78 : decode cX12_init 78 = .ok (.aload_n 0, 1) := by decide +kernel
theorem dX12_init_79 : decode cX12_init 79 = .ok (.sipush 288, 3) := by decide +kernel
theorem dX12_init_82 : decode cX12_init 82 = .ok (.newarray .boolean, 2) := by decide +kernel
theorem dX12_init_84 : decode cX12_init 84 = .ok (.putfield 43, 3) := by decide +kernel
theorem dX12_init_87 : decode cX12_init 87 = .ok (.aload_n 0, 1) := by decide +kernel
theorem dX12_init_88 : decode cX12_init 88 = .ok (.sipush 288, 3) := by decide +kernel
theorem dX12_init_91 : decode cX12_init 91 = .ok (.newarray .boolean, 2) := by decide +kernel
theorem dX12_init_93 : decode cX12_init 93 = .ok (.putfield 46, 3) := by decide +kernel
theorem dX12_init_96 : decode cX12_init 96 = .ok (.aload_n 0, 1) := by decide +kernel
theorem dX12_init_97 : decode cX12_init 97 = .ok (.bipush 24, 2) := by decide +kernel
theorem dX12_init_99 : decode cX12_init 99 = .ok (.newarray .boolean, 2) := by decide +kernel
theorem dX12_init_101 : decode cX12_init 101 = .ok (.putfield 49, 3) := by decide +kernel
theorem dX12_init_104 : decode cX12_init 104 = .ok (.aload_n 0, 1) := by decide +kernel
theorem dX12_init_105 : decode cX12_init 105 = .ok (.bipush 12, 2) := by decide +kernel
theorem dX12_init_107 : decode cX12_init 107 = .ok (.newarray .boolean, 2) := by decide +kernel
theorem dX12_init_109 : decode cX12_init 109 = .ok (.putfield 52, 3) := by decide +kernel
theorem dX12_init_112 : decode cX12_init 112 = .ok (.aload_n 0, 1) := by decide +kernel
theorem dX12_init_113 : decode cX12_init 113 = .ok (.bipush 24, 2) := by decide +kernel
theorem dX12_init_115 : decode cX12_init 115 = .ok (.newarray .boolean, 2) := by decide +kernel
theorem dX12_init_117 : decode cX12_init 117 = .ok (.putfield 55, 3) := by decide +kernel
theorem dX12_init_120 : decode cX12_init 120 = .ok (.aload_n 0, 1) := by decide +kernel
theorem dX12_init_121 : decode cX12_init 121 = .ok (.sipush 288, 3) := by decide +kernel
theorem dX12_init_124 : decode cX12_init 124 = .ok (.newarray .int, 2) := by decide +kernel
theorem dX12_init_126 : decode cX12_init 126 = .ok (.putfield 58, 3) := by decide +kernel
theorem dX12_init_129 : decode cX12_init 129 = .ok (.aload_n 0, 1) := by decide +kernel
theorem dX12_init_130 : decode cX12_init 130 = .ok (.bipush 24, 2) := by decide +kernel
theorem dX12_init_132 : decode cX12_init 132 = .ok (.newarray .int, 2) := by decide +kernel
theorem dX12_init_134 : decode cX12_init 134 = .ok (.putfield 61, 3) := by decide +kernel
theorem dX12_init_137 : decode cX12_init 137 = .ok (.aload_n 0, 1) := by decide +kernel
theorem dX12_init_138 : decode cX12_init 138 = .ok (.bipush 12, 2) := by decide +kernel
theorem dX12_init_140 : decode cX12_init 140 = .ok (.newarray .int, 2) := by decide +kernel
theorem dX12_init_142 : decode cX12_init 142 = .ok (.putfield 64, 3) := by decide +kernel
theorem dX12_init_145 : decode cX12_init 145 = .ok (.aload_n 0, 1) := by decide +kernel
theorem dX12_init_146 : decode cX12_init 146 = .ok (.bipush 12, 2) := by decide +kernel
theorem dX12_init_148 : decode cX12_init 148 = .ok (.newarray .int, 2) := by decide +kernel
theorem dX12_init_150 : decode cX12_init 150 = .ok (.putfield 67, 3) := by decide +kernel
theorem dX12_init_153 : decode cX12_init 153 = .ok (.aload_n 0, 1) := by decide +kernel
theorem dX12_init_154 : decode cX12_init 154 = .ok (.bipush 24, 2) := by decide +kernel
theorem dX12_init_156 : decode cX12_init 156 = .ok (.newarray .int, 2) := by decide +kernel
theorem dX12_init_158 : decode cX12_init 158 = .ok (.putfield 70, 3) := by decide +kernel
theorem dX12_init_161 : decode cX12_init 161 = .ok (.aload_n 0, 1) := by decide +kernel
theorem dX12_init_162 : decode cX12_init 162 = .ok (.bipush 24, 2) := by decide +kernel
theorem dX12_init_164 : decode cX12_init 164 = .ok (.newarray .int, 2) := by decide +kernel
theorem dX12_init_166 : decode cX12_init 166 = .ok (.putfield 73, 3) := by decide +kernel
theorem dX12_init_169 : decode cX12_init 169 = .ok (.aload_n 0, 1) := by decide +kernel
theorem dX12_init_170 : decode cX12_init 170 = .ok (.sipush 200, 3) := by decide +kernel
theorem dX12_init_173 : decode cX12_init 173 = .ok (.newarray .int, 2) := by decide +kernel
theorem dX12_init_175 : decode cX12_init 175 = .ok (.putfield 76, 3) := by decide +kernel
theorem dX12_init_178 : decode cX12_init 178 = .ok (.aload_n 0, 1) := by decide +kernel
theorem dX12_init_179 : decode cX12_init 179 = .ok (.sipush 200, 3) := by decide +kernel
theorem dX12_init_182 : decode cX12_init 182 = .ok (.newarray .int, 2) := by decide +kernel
theorem dX12_init_184 : decode cX12_init 184 = .ok (.putfield 79, 3) := by decide +kernel
theorem dX12_init_187 : decode cX12_init 187 = .ok (.aload_n 0, 1) := by decide +kernel
theorem dX12_init_188 : decode cX12_init 188 = .ok (.sipush 200, 3) := by decide +kernel
theorem dX12_init_191 : decode cX12_init 191 = .ok (.newarray .int, 2) := by decide +kernel
theorem dX12_init_193 : decode cX12_init 193 = .ok (.putfield 82, 3) := by decide +kernel
theorem dX12_init_196 : decode cX12_init 196 = .ok (.aload_n 0, 1) := by decide +kernel
theorem dX12_init_197 : decode cX12_init 197 = .ok (.sipush 200, 3) := by decide +kernel
theorem dX12_init_200 : decode cX12_init 200 = .ok (.newarray .int, 2) := by decide +kernel
theorem dX12_init_202 : decode cX12_init 202 = .ok (.putfield 85, 3) := by decide +kernel
theorem dX12_init_205 : decode cX12_init 205 = .ok (.aload_n 0, 1) := by decide +kernel
theorem dX12_init_206 : decode cX12_init 206 = .ok (.sipush 200, 3) := by decide +kernel
theorem dX12_init_209 : decode cX12_init 209 = .ok (.newarray .int, 2) := by decide +kernel
theorem dX12_init_211 : decode cX12_init 211 = .ok (.putfield 88, 3) := by decide +kernel
theorem dX12_init_214 : decode cX12_init 214 = .ok (.aload_n 0, 1) := by decide +kernel
theorem dX12_init_215 : decode cX12_init 215 = .ok (.sipush 288, 3) := by decide +kernel
theorem dX12_init_218 : decode cX12_init 218 = .ok (.newarray .int, 2) := by decide +kernel
theorem dX12_init_220 : decode cX12_init 220 = .ok (.putfield 91, 3) := by decide +kernel
theorem dX12_init_223 : decode cX12_init 223 = .ok (.aload_n 0, 1) := by decide +kernel
theorem dX12_init_224 : decode cX12_init 224 = .ok (.bipush 12, 2) := by decide +kernel
theorem dX12_init_226 : decode cX12_init 226 = .ok (.newarray .int, 2) := by decide +kernel
theorem dX12_init_228 : decode cX12_init 228 = .ok (.putfield 94, 3) := by decide +kernel
theorem dX12_init_231 : decode cX12_init 231 = .ok (.aload_n 0, 1) := by decide +kernel
theorem dX12_init_232 : decode cX12_init 232 = .ok (.iconst 5, 1) := by decide +kernel
theorem dX12_init_233 : decode cX12_init 233 = .ok (.newarray .int, 2) := by decide +kernel
theorem dX12_init_235 : decode cX12_init 235 = .ok (.putfield 97, 3) := by decide +kernel
theorem dX12_init_238 : decode cX12_init 238 = .ok (.aload_n 0, 1) := by decide +kernel
theorem dX12_init_239 : decode cX12_init 239 = .ok (.iconst 5, 1) := by decide +kernel
theorem dX12_init_240 : decode cX12_init 240 = .ok (.newarray .int, 2) := by decide +kernel
theorem dX12_init_242 : decode cX12_init 242 = .ok (.putfield 100, 3) := by decide +kernel
theorem dX12_init_245 : decode cX12_init 245 = .ok (.aload_n 0, 1) := by decide +kernel
theorem dX12_init_246 : decode cX12_init 246 = .ok (.bipush 25, 2) := by decide +kernel
theorem dX12_init_248 : decode cX12_init 248 = .ok (.newarray .long, 2) := by decide +kernel
theorem dX12_init_250 : decode cX12_init 250 = .ok (.putfield 103, 3) := by decide +kernel
theorem dX12_init_253 : decode cX12_init 253 = .ok (.aload_n 0, 1) := by decide +kernel
theorem dX12_init_254 : decode cX12_init 254 = .ok (.iconst 5, 1) := by decide +kernel
theorem dX12_init_255 : decode cX12_init 255 = .ok (.newarray .long, 2) := by decide +kernel
theorem dX12_init_257 : decode cX12_init 257 = .ok (.putfield 107, 3) := by decide +kernel
theorem dX12_init_260 : decode cX12_init 260 = .ok (.aload_n 0, 1) := by decide +kernel
theorem dX12_init_261 : decode cX12_init 261 = .ok (.iconst 5, 1) := by decide +kernel
theorem dX12_init_262 : decode cX12_init 262 = .ok (.newarray .long, 2) := by decide +kernel
theorem dX12_init_264 : decode cX12_init 264 = .ok (.putfield 110, 3) := by decide +kernel
theorem dX12_init_267 : decode cX12_init 267 = .ok (.aload_n 0, 1) := by decide +kernel
theorem dX12_init_268 : decode cX12_init 268 = .ok (.sipush 300, 3) := by decide +kernel
theorem dX12_init_271 : decode cX12_init 271 = .ok (.newarray .byte, 2) := by decide +kernel
theorem dX12_init_273 : decode cX12_init 273 = .ok (.putfield 113, 3) := by decide +kernel
theorem dX12_init_276 : decode cX12_init 276 = .ok (.aload_n 0, 1) := by decide +kernel
theorem dX12_init_277 : decode cX12_init 277 = .ok (.iconst (-1), 1) := by decide +kernel
theorem dX12_init_278 : decode cX12_init 278 = .ok (.putfield 117, 3) := by decide +kernel
theorem dX12_init_281 : decode cX12_init 281 = .ok (.aload_n 0, 1) := by decide +kernel
theorem dX12_init_282 : decode cX12_init 282 = .ok (.iconst (-1), 1) := by decide +kernel
theorem dX12_init_283 : decode cX12_init 283 = .ok (.putfield 120, 3) := by decide +kernel
theorem dX12_init_286 : decode cX12_init 286 = .ok (.aload_n 0, 1) := by decide +kernel
theorem dX12_init_287 : decode cX12_init 287 = .ok (.bipush 8, 2) := by decide +kernel
theorem dX12_init_289 : decode cX12_init 289 = .ok (.newarray .int, 2) := by decide +kernel
theorem dX12_init_291 : decode cX12_init 291 = .ok (.putfield 123, 3) := by decide +kernel
theorem dX12_init_294 : decode cX12_init 294 = .ok (.aload_n 0, 1) := by decide +kernel
theorem dX12_init_295 : decode cX12_init 295 = .ok (.bipush 8, 2) := by decide +kernel
theorem dX12_init_297 : decode cX12_init 297 = .ok (.newarray .int, 2) := by decide +kernel
theorem dX12_init_299 : decode cX12_init 299 = .ok (.putfield 126, 3) := by decide +kernel
theorem dX12_init_302 : decode cX12_init 302 = .ok (.aload_n 0, 1) := by decide +kernel
theorem dX12_init_303 : decode cX12_init 303 = .ok (.bipush 8, 2) := by decide +kernel
theorem dX12_init_305 : decode cX12_init 305 = .ok (.newarray .int, 2) := by decide +kernel
theorem dX12_init_307 : decode cX12_init 307 = .ok (.putfield 129, 3) := by decide +kernel
theorem dX12_init_310 : decode cX12_init 310 = .ok (.aload_n 0, 1) := by decide +kernel
theorem dX12_init_311 : decode cX12_init 311 = .ok (.bipush 8, 2) := by decide +kernel
theorem dX12_init_313 : decode cX12_init 313 = .ok (.newarray .int, 2) := by decide +kernel
theorem dX12_init_315 : decode cX12_init 315 = .ok (.putfield 132, 3) := by decide +kernel
theorem dX12_init_318 : decode cX12_init 318 = .ok (.aload_n 0, 1) := by decide +kernel
theorem dX12_init_319 : decode cX12_init 319 = .ok (.bipush 8, 2) := by decide +kernel
theorem dX12_init_321 : decode cX12_init 321 = .ok (.newarray .int, 2) := by decide +kernel
theorem dX12_init_323 : decode cX12_init 323 = .ok (.putfield 135, 3) := by decide +kernel
theorem dX12_init_326 : decode cX12_init 326 = .ok (.aload_n 0, 1) := by decide +kernel
theorem dX12_init_327 : decode cX12_init 327 = .ok (.bipush 8, 2) := by decide +kernel
theorem dX12_init_329 : decode cX12_init 329 = .ok (.newarray .boolean, 2) := by decide +kernel
theorem dX12_init_331 : decode cX12_init 331 = .ok (.putfield 138, 3) := by decide +kernel
theorem dX12_init_334 : decode cX12_init 334 = .ok (.aload_n 0, 1) := by decide +kernel
theorem dX12_init_335 : decode cX12_init 335 = .ok (.bipush 9, 2) := by decide +kernel
theorem dX12_init_337 : decode cX12_init 337 = .ok (.newarray .int, 2) := by decide +kernel
theorem dX12_init_339 : decode cX12_init 339 = .ok (.putfield 141, 3) := by decide +kernel
theorem dX12_init_342 : decode cX12_init 342 = .ok (.aload_n 0, 1) := by decide +kernel
theorem dX12_init_343 : decode cX12_init 343 = .ok (.bipush 9, 2) := by decide +kernel
theorem dX12_init_345 : decode cX12_init 345 = .ok (.newarray .int, 2) := by decide +kernel
theorem dX12_init_347 : decode cX12_init 347 = .ok (.putfield 144, 3) := by decide +kernel
theorem dX12_init_350 : decode cX12_init 350 = .ok (.aload_n 0, 1) := by decide +kernel
theorem dX12_init_351 : decode cX12_init 351 = .ok (.bipush 9, 2) := by decide +kernel
theorem dX12_init_353 : decode cX12_init 353 = .ok (.newarray .int, 2) := by decide +kernel
theorem dX12_init_355 : decode cX12_init 355 = .ok (.putfield 147, 3) := by decide +kernel
theorem dX12_init_358 : decode cX12_init 358 = .ok (.aload_n 0, 1) := by decide +kernel
theorem dX12_init_359 : decode cX12_init 359 = .ok (.bipush 9, 2) := by decide +kernel
theorem dX12_init_361 : decode cX12_init 361 = .ok (.newarray .int, 2) := by decide +kernel
theorem dX12_init_363 : decode cX12_init 363 = .ok (.putfield 150, 3) := by decide +kernel
theorem dX12_init_366 : decode cX12_init 366 = .ok (.aload_n 0, 1) := by decide +kernel
theorem dX12_init_367 : decode cX12_init 367 = .ok (.bipush 9, 2) := by decide +kernel
theorem dX12_init_369 : decode cX12_init 369 = .ok (.newarray .int, 2) := by decide +kernel
theorem dX12_init_371 : decode cX12_init 371 = .ok (.putfield 153, 3) := by decide +kernel
theorem dX12_init_374 : decode cX12_init 374 = .ok (.aload_n 0, 1) := by decide +kernel
theorem dX12_init_375 : decode cX12_init 375 = .ok (.bipush 9, 2) := by decide +kernel
theorem dX12_init_377 : decode cX12_init 377 = .ok (.newarray .boolean, 2) := by decide +kernel
theorem dX12_init_379 : decode cX12_init 379 = .ok (.putfield 156, 3) := by decide +kernel
theorem dX12_init_382 : decode cX12_init 382 = .ok (.aload_n 0, 1) := by decide +kernel
theorem dX12_init_383 : decode cX12_init 383 = .ok (.bipush 24, 2) := by decide +kernel
theorem dX12_init_385 : decode cX12_init 385 = .ok (.newarray .long, 2) := by decide +kernel
theorem dX12_init_387 : decode cX12_init 387 = .ok (.putfield 159, 3) := by decide +kernel
theorem dX12_init_390 : decode cX12_init 390 = .ok (.aload_n 0, 1) := by decide +kernel
theorem dX12_init_391 : decode cX12_init 391 = .ok (.bipush 24, 2) := by decide +kernel
theorem dX12_init_393 : decode cX12_init 393 = .ok (.newarray .long, 2) := by decide +kernel
theorem dX12_init_395 : decode cX12_init 395 = .ok (.putfield 162, 3) := by decide +kernel
theorem dX12_init_398 : decode cX12_init 398 = .ok (.aload_n 0, 1) := by decide +kernel
theorem dX12_init_399 : decode cX12_init 399 = .ok (.bipush 24, 2) := by decide +kernel
theorem dX12_init_401 : decode cX12_init 401 = .ok (.newarray .boolean, 2) := by decide +kernel
theorem dX12_init_403 : decode cX12_init 403 = .ok (.putfield 165, 3) := by decide +kernel
theorem dX12_init_406 : decode cX12_init 406 = .ok (.aload_n 0, 1) := by decide +kernel
theorem dX12_init_407 : decode cX12_init 407 = .ok (.bipush 24, 2) := by decide +kernel
theorem dX12_init_409 : decode cX12_init 409 = .ok (.newarray .boolean, 2) := by decide +kernel
theorem dX12_init_411 : decode cX12_init 411 = .ok (.putfield 168, 3) := by decide +kernel
theorem dX12_init_414 : decode cX12_init 414 = .ok (.aload_n 0, 1) := by decide +kernel
theorem dX12_init_415 : decode cX12_init 415 = .ok (.bipush 24, 2) := by decide +kernel
theorem dX12_init_417 : decode cX12_init 417 = .ok (.newarray .boolean, 2) := by decide +kernel
theorem dX12_init_419 : decode cX12_init 419 = .ok (.putfield 171, 3) := by decide +kernel
theorem dX12_init_422 : decode cX12_init 422 = .ok (.aload_n 0, 1) := by decide +kernel
theorem dX12_init_423 : decode cX12_init 423 = .ok (.iconst 4, 1) := by decide +kernel
theorem dX12_init_424 : decode cX12_init 424 = .ok (.newarray .int, 2) := by decide +kernel
theorem dX12_init_426 : decode cX12_init 426 = .ok (.putfield 174, 3) := by decide +kernel
theorem dX12_init_429 : decode cX12_init 429 = .ok (.aload_n 0, 1) := by decide +kernel
theorem dX12_init_430 : decode cX12_init 430 = .ok (.iconst 4, 1) := by decide +kernel
theorem dX12_init_431 : decode cX12_init 431 = .ok (.newarray .int, 2) := by decide +kernel
theorem dX12_init_433 : decode cX12_init 433 = .ok (.putfield 177, 3) := by decide +kernel
theorem dX12_init_436 : decode cX12_init 436 = .ok (.aload_n 0, 1) := by decide +kernel
theorem dX12_init_437 : decode cX12_init 437 = .ok (.iconst 4, 1) := by decide +kernel
theorem dX12_init_438 : decode cX12_init 438 = .ok (.newarray .int, 2) := by decide +kernel
theorem dX12_init_440 : decode cX12_init 440 = .ok (.putfield 180, 3) := by decide +kernel
theorem dX12_init_443 : decode cX12_init 443 = .ok (.aload_n 0, 1) := by decide +kernel
theorem dX12_init_444 : decode cX12_init 444 = .ok (.bipush 24, 2) := by decide +kernel
theorem dX12_init_446 : decode cX12_init 446 = .ok (.newarray .int, 2) := by decide +kernel
theorem dX12_init_448 : decode cX12_init 448 = .ok (.putfield 183, 3) := by decide +kernel
theorem dX12_init_451 : decode cX12_init 451 = .ok (.aload_n 0, 1) := by decide +kernel
theorem dX12_init_452 : decode cX12_init 452 = .ok (.iconst 4, 1) := by decide +kernel
theorem dX12_init_453 : decode cX12_init 453 = .ok (.newarray .int, 2) := by decide +kernel
theorem dX12_init_455 : decode cX12_init 455 = .ok (.putfield 186, 3) := by decide +kernel
theorem dX12_init_458 : decode cX12_init 458 = .ok (.aload_n 0, 1) := by decide +kernel
theorem dX12_init_459 : decode cX12_init 459 = .ok (.iconst 4, 1) := by decide +kernel
theorem dX12_init_460 : decode cX12_init 460 = .ok (.newarray .int, 2) := by decide +kernel
theorem dX12_init_462 : decode cX12_init 462 = .ok (.putfield 189, 3) := by decide +kernel
theorem dX12_init_465 : decode cX12_init 465 = .ok (.aload_n 0, 1) := by decide +kernel
theorem dX12_init_466 : decode cX12_init 466 = .ok (.iconst 4, 1) := by decide +kernel
theorem dX12_init_467 : decode cX12_init 467 = .ok (.newarray .int, 2) := by decide +kernel
theorem dX12_init_469 : decode cX12_init 469 = .ok (.putfield 192, 3) := by decide +kernel
theorem dX12_init_472 : decode cX12_init 472 = .ok (.return_, 1) := by decide +kernel
theorem dX12_status_0 : decode cX12_status 0 = .ok (.aload_n 0, 1) := by decide +kernel
theorem dX12_status_1 : decode cX12_status 1 = .ok (.iconst 0, 1) := by decide +kernel
theorem dX12_status_2 : decode cX12_status 2 = .ok (.putfield 195, 3) := by decide +kernel
theorem dX12_status_5 : decode cX12_status 5 = .ok (.aload_n 0, 1) := by decide +kernel
theorem dX12_status_6 : decode cX12_status 6 = .ok (.getfield 198, 3) := by decide +kernel
theorem dX12_status_9 : decode cX12_status 9 = .ok (.ireturn, 1) := by decide +kernel
theorem dX12_refuse_0 : decode cX12_refuse 0 = .ok (.aload_n 0, 1) := by decide +kernel
theorem dX12_refuse_1 : decode cX12_refuse 1 = .ok (.iload_n 1, 1) := by decide +kernel
theorem dX12_refuse_2 : decode cX12_refuse 2 = .ok (.putfield 198, 3) := by decide +kernel
theorem dX12_refuse_5 : decode cX12_refuse 5 = .ok (.iconst (-1), 1) := by decide +kernel
theorem dX12_refuse_6 : decode cX12_refuse 6 = .ok (.ireturn, 1) := by decide +kernel
theorem dX12_no_0 : decode cX12_no 0 = .ok (.aload_n 0, 1) := by decide +kernel
theorem dX12_no_1 : decode cX12_no 1 = .ok (.iload_n 1, 1) := by decide +kernel
theorem dX12_no_2 : decode cX12_no 2 = .ok (.putfield 198, 3) := by decide +kernel
theorem dX12_no_5 : decode cX12_no 5 = .ok (.iconst 0, 1) := by decide +kernel
theorem dX12_no_6 : decode cX12_no 6 = .ok (.ireturn, 1) := by decide +kernel
theorem dX12_board_0 : decode cX12_board 0 = .ok (.aload_n 0, 1) := by decide +kernel
theorem dX12_board_1 : decode cX12_board 1 = .ok (.iconst 0, 1) := by decide +kernel
theorem dX12_board_2 : decode cX12_board 2 = .ok (.putfield 195, 3) := by decide +kernel
theorem dX12_board_5 : decode cX12_board 5 = .ok (.aload_n 0, 1) := by decide +kernel
theorem dX12_board_6 : decode cX12_board 6 = .ok (.iconst 0, 1) := by decide +kernel
theorem dX12_board_7 : decode cX12_board 7 = .ok (.putfield 198, 3) := by decide +kernel
theorem dX12_board_10 : decode cX12_board 10 = .ok (.iload_n 1, 1) := by decide +kernel
theorem dX12_board_11 : decode cX12_board 11 = .ok (.ifCond .lt 40, 3) := by decide +kernel
theorem dX12_board_14 : decode cX12_board 14 = .ok (.iload_n 1, 1) := by decide +kernel
theorem dX12_board_15 : decode cX12_board 15 = .ok (.bipush 7, 2) := by decide +kernel
theorem dX12_board_17 : decode cX12_board 17 = .ok (.if_icmp .gt 34, 3) := by decide +kernel
theorem dX12_board_20 : decode cX12_board 20 = .ok (.iload_n 2, 1) := by decide +kernel
theorem dX12_board_21 : decode cX12_board 21 = .ok (.ifCond .lt 30, 3) := by decide +kernel
theorem dX12_board_24 : decode cX12_board 24 = .ok (.iload_n 2, 1) := by decide +kernel
theorem dX12_board_25 : decode cX12_board 25 = .ok (.iconst 3, 1) := by decide +kernel
theorem dX12_board_26 : decode cX12_board 26 = .ok (.if_icmp .gt 25, 3) := by decide +kernel
theorem dX12_board_29 : decode cX12_board 29 = .ok (.iload_n 3, 1) := by decide +kernel
theorem dX12_board_30 : decode cX12_board 30 = .ok (.ifCond .lt 21, 3) := by decide +kernel
theorem dX12_board_33 : decode cX12_board 33 = .ok (.iload_n 3, 1) := by decide +kernel
theorem dX12_board_34 : decode cX12_board 34 = .ok (.bipush 15, 2) := by decide +kernel
theorem dX12_board_36 : decode cX12_board 36 = .ok (.if_icmp .gt 15, 3) := by decide +kernel
theorem dX12_board_39 : decode cX12_board 39 = .ok (.iload 4, 2) := by decide +kernel
theorem dX12_board_41 : decode cX12_board 41 = .ok (.ifCond .lt 10, 3) := by decide +kernel
theorem dX12_board_44 : decode cX12_board 44 = .ok (.iload 4, 2) := by decide +kernel
theorem dX12_board_46 : decode cX12_board 46 = .ok (.bipush 99, 2) := by decide +kernel
theorem dX12_board_48 : decode cX12_board 48 = .ok (.if_icmp .le 9, 3) := by decide +kernel
theorem dX12_board_51 : decode cX12_board 51 = .ok (.aload_n 0, 1) := by decide +kernel
theorem dX12_board_52 : decode cX12_board 52 = .ok (.iconst 2, 1) := by decide +kernel
theorem dX12_board_53 : decode cX12_board 53 = .ok (.invokevirtual 201, 3) := by decide +kernel
theorem dX12_board_56 : decode cX12_board 56 = .ok (.ireturn, 1) := by decide +kernel
theorem dX12_board_57 : decode cX12_board 57 = .ok (.aload_n 0, 1) := by decide +kernel
theorem dX12_board_58 : decode cX12_board 58 = .ok (.getfield 205, 3) := by decide +kernel
theorem dX12_board_61 : decode cX12_board 61 = .ok (.bipush 24, 2) := by decide +kernel
theorem dX12_board_63 : decode cX12_board 63 = .ok (.if_icmp .ne 9, 3) := by decide +kernel
theorem dX12_board_66 : decode cX12_board 66 = .ok (.aload_n 0, 1) := by decide +kernel
theorem dX12_board_67 : decode cX12_board 67 = .ok (.iconst 3, 1) := by decide +kernel
theorem dX12_board_68 : decode cX12_board 68 = .ok (.invokevirtual 201, 3) := by decide +kernel
theorem dX12_board_71 : decode cX12_board 71 = .ok (.ireturn, 1) := by decide +kernel
theorem dX12_board_72 : decode cX12_board 72 = .ok (.aload_n 0, 1) := by decide +kernel
theorem dX12_board_73 : decode cX12_board 73 = .ok (.getfield 17, 3) := by decide +kernel
theorem dX12_board_76 : decode cX12_board 76 = .ok (.aload_n 0, 1) := by decide +kernel
theorem dX12_board_77 : decode cX12_board 77 = .ok (.getfield 205, 3) := by decide +kernel
theorem dX12_board_80 : decode cX12_board 80 = .ok (.iload_n 1, 1) := by decide +kernel
theorem dX12_board_81 : decode cX12_board 81 = .ok (.iastore, 1) := by decide +kernel
theorem dX12_board_82 : decode cX12_board 82 = .ok (.aload_n 0, 1) := by decide +kernel
theorem dX12_board_83 : decode cX12_board 83 = .ok (.getfield 21, 3) := by decide +kernel
theorem dX12_board_86 : decode cX12_board 86 = .ok (.aload_n 0, 1) := by decide +kernel
theorem dX12_board_87 : decode cX12_board 87 = .ok (.getfield 205, 3) := by decide +kernel
theorem dX12_board_90 : decode cX12_board 90 = .ok (.iload_n 2, 1) := by decide +kernel
theorem dX12_board_91 : decode cX12_board 91 = .ok (.iastore, 1) := by decide +kernel
theorem dX12_board_92 : decode cX12_board 92 = .ok (.aload_n 0, 1) := by decide +kernel
theorem dX12_board_93 : decode cX12_board 93 = .ok (.getfield 24, 3) := by decide +kernel
theorem dX12_board_96 : decode cX12_board 96 = .ok (.aload_n 0, 1) := by decide +kernel
theorem dX12_board_97 : decode cX12_board 97 = .ok (.getfield 205, 3) := by decide +kernel
theorem dX12_board_100 : decode cX12_board 100 = .ok (.iload_n 3, 1) := by decide +kernel
theorem dX12_board_101 : decode cX12_board 101 = .ok (.iastore, 1) := by decide +kernel
theorem dX12_board_102 : decode cX12_board 102 = .ok (.aload_n 0, 1) := by decide +kernel
theorem dX12_board_103 : decode cX12_board 103 = .ok (.getfield 27, 3) := by decide +kernel
theorem dX12_board_106 : decode cX12_board 106 = .ok (.aload_n 0, 1) := by decide +kernel
theorem dX12_board_107 : decode cX12_board 107 = .ok (.getfield 205, 3) := by decide +kernel
theorem dX12_board_110 : decode cX12_board 110 = .ok (.iload 4, 2) := by decide +kernel
theorem dX12_board_112 : decode cX12_board 112 = .ok (.iastore, 1) := by decide +kernel
theorem dX12_board_113 : decode cX12_board 113 = .ok (.aload_n 0, 1) := by decide +kernel
theorem dX12_board_114 : decode cX12_board 114 = .ok (.getfield 39, 3) := by decide +kernel
theorem dX12_board_117 : decode cX12_board 117 = .ok (.aload_n 0, 1) := by decide +kernel
theorem dX12_board_118 : decode cX12_board 118 = .ok (.getfield 205, 3) := by decide +kernel
theorem dX12_board_121 : decode cX12_board 121 = .ok (.iload 5, 2) := by decide +kernel
theorem dX12_board_123 : decode cX12_board 123 = .ok (.bastore, 1) := by decide +kernel
theorem dX12_board_124 : decode cX12_board 124 = .ok (.aload_n 0, 1) := by decide +kernel
theorem dX12_board_125 : decode cX12_board 125 = .ok (.dup, 1) := by decide +kernel
theorem dX12_board_126 : decode cX12_board 126 = .ok (.getfield 205, 3) := by decide +kernel
theorem dX12_board_129 : decode cX12_board 129 = .ok (.iconst 1, 1) := by decide +kernel
theorem dX12_board_130 : decode cX12_board 130 = .ok (.iadd, 1) := by decide +kernel
theorem dX12_board_131 : decode cX12_board 131 = .ok (.putfield 205, 3) := by decide +kernel
theorem dX12_board_134 : decode cX12_board 134 = .ok (.aload_n 0, 1) := by decide +kernel
theorem dX12_board_135 : decode cX12_board 135 = .ok (.getfield 205, 3) := by decide +kernel
theorem dX12_board_138 : decode cX12_board 138 = .ok (.iconst 1, 1) := by decide +kernel
theorem dX12_board_139 : decode cX12_board 139 = .ok (.isub, 1) := by decide +kernel
theorem dX12_board_140 : decode cX12_board 140 = .ok (.ireturn, 1) := by decide +kernel
theorem dX12_judge_0 : decode cX12_judge 0 = .ok (.aload_n 0, 1) := by decide +kernel
theorem dX12_judge_1 : decode cX12_judge 1 = .ok (.iconst 0, 1) := by decide +kernel
theorem dX12_judge_2 : decode cX12_judge 2 = .ok (.putfield 195, 3) := by decide +kernel
theorem dX12_judge_5 : decode cX12_judge 5 = .ok (.aload_n 0, 1) := by decide +kernel
theorem dX12_judge_6 : decode cX12_judge 6 = .ok (.iconst 0, 1) := by decide +kernel
theorem dX12_judge_7 : decode cX12_judge 7 = .ok (.putfield 198, 3) := by decide +kernel
theorem dX12_judge_10 : decode cX12_judge 10 = .ok (.iload_n 1, 1) := by decide +kernel
theorem dX12_judge_11 : decode cX12_judge 11 = .ok (.ifCond .lt 31, 3) := by decide +kernel
theorem dX12_judge_14 : decode cX12_judge 14 = .ok (.iload_n 1, 1) := by decide +kernel
theorem dX12_judge_15 : decode cX12_judge 15 = .ok (.sipush 255, 3) := by decide +kernel
theorem dX12_judge_18 : decode cX12_judge 18 = .ok (.if_icmp .gt 24, 3) := by decide +kernel
theorem dX12_judge_21 : decode cX12_judge 21 = .ok (.iload_n 2, 1) := by decide +kernel
theorem dX12_judge_22 : decode cX12_judge 22 = .ok (.iconst (-1), 1) := by decide +kernel
theorem dX12_judge_23 : decode cX12_judge 23 = .ok (.if_icmp .lt 19, 3) := by decide +kernel
theorem dX12_judge_26 : decode cX12_judge 26 = .ok (.iload_n 2, 1) := by decide +kernel
theorem dX12_judge_27 : decode cX12_judge 27 = .ok (.bipush 15, 2) := by decide +kernel
theorem dX12_judge_29 : decode cX12_judge 29 = .ok (.if_icmp .gt 13, 3) := by decide +kernel
theorem dX12_judge_32 : decode cX12_judge 32 = .ok (.iload_n 3, 1) := by decide +kernel
theorem dX12_judge_33 : decode cX12_judge 33 = .ok (.ifCond .lt 9, 3) := by decide +kernel
theorem dX12_judge_36 : decode cX12_judge 36 = .ok (.iload_n 3, 1) := by decide +kernel
theorem dX12_judge_37 : decode cX12_judge 37 = .ok (.bipush 24, 2) := by decide +kernel
theorem dX12_judge_39 : decode cX12_judge 39 = .ok (.if_icmp .le 9, 3) := by decide +kernel
theorem dX12_judge_42 : decode cX12_judge 42 = .ok (.aload_n 0, 1) := by decide +kernel
theorem dX12_judge_43 : decode cX12_judge 43 = .ok (.iconst 2, 1) := by decide +kernel
theorem dX12_judge_44 : decode cX12_judge 44 = .ok (.invokevirtual 201, 3) := by decide +kernel
theorem dX12_judge_47 : decode cX12_judge 47 = .ok (.ireturn, 1) := by decide +kernel
theorem dX12_judge_48 : decode cX12_judge 48 = .ok (.aload_n 0, 1) := by decide +kernel
theorem dX12_judge_49 : decode cX12_judge 49 = .ok (.getfield 208, 3) := by decide +kernel
theorem dX12_judge_52 : decode cX12_judge 52 = .ok (.bipush 12, 2) := by decide +kernel
theorem dX12_judge_54 : decode cX12_judge 54 = .ok (.if_icmp .ne 9, 3) := by decide +kernel
theorem dX12_judge_57 : decode cX12_judge 57 = .ok (.aload_n 0, 1) := by decide +kernel
theorem dX12_judge_58 : decode cX12_judge 58 = .ok (.iconst 3, 1) := by decide +kernel
theorem dX12_judge_59 : decode cX12_judge 59 = .ok (.invokevirtual 201, 3) := by decide +kernel
theorem dX12_judge_62 : decode cX12_judge 62 = .ok (.ireturn, 1) := by decide +kernel
theorem dX12_judge_63 : decode cX12_judge 63 = .ok (.aload_n 0, 1) := by decide +kernel
theorem dX12_judge_64 : decode cX12_judge 64 = .ok (.getfield 30, 3) := by decide +kernel
theorem dX12_judge_67 : decode cX12_judge 67 = .ok (.aload_n 0, 1) := by decide +kernel
theorem dX12_judge_68 : decode cX12_judge 68 = .ok (.getfield 208, 3) := by decide +kernel
theorem dX12_judge_71 : decode cX12_judge 71 = .ok (.iload_n 1, 1) := by decide +kernel
theorem dX12_judge_72 : decode cX12_judge 72 = .ok (.iastore, 1) := by decide +kernel
theorem dX12_judge_73 : decode cX12_judge 73 = .ok (.aload_n 0, 1) := by decide +kernel
theorem dX12_judge_74 : decode cX12_judge 74 = .ok (.getfield 33, 3) := by decide +kernel
theorem dX12_judge_77 : decode cX12_judge 77 = .ok (.aload_n 0, 1) := by decide +kernel
theorem dX12_judge_78 : decode cX12_judge 78 = .ok (.getfield 208, 3) := by decide +kernel
theorem dX12_judge_81 : decode cX12_judge 81 = .ok (.iload_n 2, 1) := by decide +kernel
theorem dX12_judge_82 : decode cX12_judge 82 = .ok (.iastore, 1) := by decide +kernel
theorem dX12_judge_83 : decode cX12_judge 83 = .ok (.aload_n 0, 1) := by decide +kernel
theorem dX12_judge_84 : decode cX12_judge 84 = .ok (.getfield 36, 3) := by decide +kernel
theorem dX12_judge_87 : decode cX12_judge 87 = .ok (.aload_n 0, 1) := by decide +kernel
theorem dX12_judge_88 : decode cX12_judge 88 = .ok (.getfield 208, 3) := by decide +kernel
theorem dX12_judge_91 : decode cX12_judge 91 = .ok (.iload_n 3, 1) := by decide +kernel
theorem dX12_judge_92 : decode cX12_judge 92 = .ok (.iastore, 1) := by decide +kernel
theorem dX12_judge_93 : decode cX12_judge 93 = .ok (.aload_n 0, 1) := by decide +kernel
theorem dX12_judge_94 : decode cX12_judge 94 = .ok (.dup, 1) := by decide +kernel
theorem dX12_judge_95 : decode cX12_judge 95 = .ok (.getfield 208, 3) := by decide +kernel
theorem dX12_judge_98 : decode cX12_judge 98 = .ok (.iconst 1, 1) := by decide +kernel
theorem dX12_judge_99 : decode cX12_judge 99 = .ok (.iadd, 1) := by decide +kernel
theorem dX12_judge_100 : decode cX12_judge 100 = .ok (.putfield 208, 3) := by decide +kernel
theorem dX12_judge_103 : decode cX12_judge 103 = .ok (.aload_n 0, 1) := by decide +kernel
theorem dX12_judge_104 : decode cX12_judge 104 = .ok (.getfield 208, 3) := by decide +kernel
theorem dX12_judge_107 : decode cX12_judge 107 = .ok (.iconst 1, 1) := by decide +kernel
theorem dX12_judge_108 : decode cX12_judge 108 = .ok (.isub, 1) := by decide +kernel
theorem dX12_judge_109 : decode cX12_judge 109 = .ok (.ireturn, 1) := by decide +kernel
theorem dX12_isBoard_0 : decode cX12_isBoard 0 = .ok (.iload_n 1, 1) := by decide +kernel
theorem dX12_isBoard_1 : decode cX12_isBoard 1 = .ok (.ifCond .lt 15, 3) := by decide +kernel
theorem dX12_isBoard_4 : decode cX12_isBoard 4 = .ok (.iload_n 1, 1) := by decide +kernel
theorem dX12_isBoard_5 : decode cX12_isBoard 5 = .ok (.aload_n 0, 1) := by decide +kernel
theorem dX12_isBoard_6 : decode cX12_isBoard 6 = .ok (.getfield 205, 3) := by decide +kernel
theorem dX12_isBoard_9 : decode cX12_isBoard 9 = .ok (.if_icmp .ge 7, 3) := by decide +kernel
theorem dX12_isBoard_12 : decode cX12_isBoard 12 = .ok (.iconst 1, 1) := by decide +kernel
theorem dX12_isBoard_13 : decode cX12_isBoard 13 = .ok (.goto 4, 3) := by decide +kernel
theorem dX12_isBoard_16 : decode cX12_isBoard 16 = .ok (.iconst 0, 1) := by decide +kernel
theorem dX12_isBoard_17 : decode cX12_isBoard 17 = .ok (.ireturn, 1) := by decide +kernel
theorem dX12_isJudge_0 : decode cX12_isJudge 0 = .ok (.iload_n 1, 1) := by decide +kernel
theorem dX12_isJudge_1 : decode cX12_isJudge 1 = .ok (.ifCond .lt 15, 3) := by decide +kernel
theorem dX12_isJudge_4 : decode cX12_isJudge 4 = .ok (.iload_n 1, 1) := by decide +kernel
theorem dX12_isJudge_5 : decode cX12_isJudge 5 = .ok (.aload_n 0, 1) := by decide +kernel
theorem dX12_isJudge_6 : decode cX12_isJudge 6 = .ok (.getfield 208, 3) := by decide +kernel
theorem dX12_isJudge_9 : decode cX12_isJudge 9 = .ok (.if_icmp .ge 7, 3) := by decide +kernel
theorem dX12_isJudge_12 : decode cX12_isJudge 12 = .ok (.iconst 1, 1) := by decide +kernel
theorem dX12_isJudge_13 : decode cX12_isJudge 13 = .ok (.goto 4, 3) := by decide +kernel
theorem dX12_isJudge_16 : decode cX12_isJudge 16 = .ok (.iconst 0, 1) := by decide +kernel
theorem dX12_isJudge_17 : decode cX12_isJudge 17 = .ok (.ireturn, 1) := by decide +kernel
theorem dX12_mayOf_0 : decode cX12_mayOf 0 = .ok (.aload_n 0, 1) := by decide +kernel
theorem dX12_mayOf_1 : decode cX12_mayOf 1 = .ok (.getfield 30, 3) := by decide +kernel
theorem dX12_mayOf_4 : decode cX12_mayOf 4 = .ok (.iload_n 1, 1) := by decide +kernel
theorem dX12_mayOf_5 : decode cX12_mayOf 5 = .ok (.iaload, 1) := by decide +kernel
theorem dX12_mayOf_6 : decode cX12_mayOf 6 = .ok (.aload_n 0, 1) := by decide +kernel
theorem dX12_mayOf_7 : decode cX12_mayOf 7 = .ok (.getfield 17, 3) := by decide +kernel
theorem dX12_mayOf_10 : decode cX12_mayOf 10 = .ok (.iload_n 2, 1) := by decide +kernel
theorem dX12_mayOf_11 : decode cX12_mayOf 11 = .ok (.iaload, 1) := by decide +kernel
theorem dX12_mayOf_12 : decode cX12_mayOf 12 = .ok (.ishr, 1) := by decide +kernel
theorem dX12_mayOf_13 : decode cX12_mayOf 13 = .ok (.iconst 1, 1) := by decide +kernel
theorem dX12_mayOf_14 : decode cX12_mayOf 14 = .ok (.iand, 1) := by decide +kernel
theorem dX12_mayOf_15 : decode cX12_mayOf 15 = .ok (.iconst 1, 1) := by decide +kernel
theorem dX12_mayOf_16 : decode cX12_mayOf 16 = .ok (.if_icmp .ne 22, 3) := by decide +kernel
theorem dX12_mayOf_19 : decode cX12_mayOf 19 = .ok (.aload_n 0, 1) := by decide +kernel
theorem dX12_mayOf_20 : decode cX12_mayOf 20 = .ok (.getfield 33, 3) := by decide +kernel
theorem dX12_mayOf_23 : decode cX12_mayOf 23 = .ok (.iload_n 1, 1) := by decide +kernel
theorem dX12_mayOf_24 : decode cX12_mayOf 24 = .ok (.iaload, 1) := by decide +kernel
theorem dX12_mayOf_25 : decode cX12_mayOf 25 = .ok (.aload_n 0, 1) := by decide +kernel
theorem dX12_mayOf_26 : decode cX12_mayOf 26 = .ok (.getfield 24, 3) := by decide +kernel
theorem dX12_mayOf_29 : decode cX12_mayOf 29 = .ok (.iload_n 2, 1) := by decide +kernel
theorem dX12_mayOf_30 : decode cX12_mayOf 30 = .ok (.iaload, 1) := by decide +kernel
theorem dX12_mayOf_31 : decode cX12_mayOf 31 = .ok (.if_icmp .eq 7, 3) := by decide +kernel
theorem dX12_mayOf_34 : decode cX12_mayOf 34 = .ok (.iconst 1, 1) := by decide +kernel
theorem dX12_mayOf_35 : decode cX12_mayOf 35 = .ok (.goto 4, 3) := by decide +kernel
theorem dX12_mayOf_38 : decode cX12_mayOf 38 = .ok (.iconst 0, 1) := by decide +kernel
theorem dX12_mayOf_39 : decode cX12_mayOf 39 = .ok (.ireturn, 1) := by decide +kernel
theorem dX12_told_0 : decode cX12_told 0 = .ok (.aload_n 0, 1) := by decide +kernel
theorem dX12_told_1 : decode cX12_told 1 = .ok (.iconst 0, 1) := by decide +kernel
theorem dX12_told_2 : decode cX12_told 2 = .ok (.putfield 195, 3) := by decide +kernel
theorem dX12_told_5 : decode cX12_told 5 = .ok (.aload_n 0, 1) := by decide +kernel
theorem dX12_told_6 : decode cX12_told 6 = .ok (.iconst 0, 1) := by decide +kernel
theorem dX12_told_7 : decode cX12_told 7 = .ok (.putfield 198, 3) := by decide +kernel
theorem dX12_told_10 : decode cX12_told 10 = .ok (.aload_n 0, 1) := by decide +kernel
theorem dX12_told_11 : decode cX12_told 11 = .ok (.iload_n 1, 1) := by decide +kernel
theorem dX12_told_12 : decode cX12_told 12 = .ok (.invokevirtual 211, 3) := by decide +kernel
theorem dX12_told_15 : decode cX12_told 15 = .ok (.ifCond .ne 9, 3) := by decide +kernel
theorem dX12_told_18 : decode cX12_told 18 = .ok (.aload_n 0, 1) := by decide +kernel
theorem dX12_told_19 : decode cX12_told 19 = .ok (.iconst 1, 1) := by decide +kernel
theorem dX12_told_20 : decode cX12_told 20 = .ok (.invokevirtual 201, 3) := by decide +kernel
theorem dX12_told_23 : decode cX12_told 23 = .ok (.ireturn, 1) := by decide +kernel
theorem dX12_told_24 : decode cX12_told 24 = .ok (.iload_n 2, 1) := by decide +kernel
theorem dX12_told_25 : decode cX12_told 25 = .ok (.tableswitch 122 0 5 #[39, 46, 53, 60, 67, 82], 39) := by decide +kernel
theorem dX12_told_64 : decode cX12_told 64 = .ok (.aload_n 0, 1) := by decide +kernel
theorem dX12_told_65 : decode cX12_told 65 = .ok (.getfield 17, 3) := by decide +kernel
theorem dX12_told_68 : decode cX12_told 68 = .ok (.iload_n 1, 1) := by decide +kernel
theorem dX12_told_69 : decode cX12_told 69 = .ok (.iaload, 1) := by decide +kernel
theorem dX12_told_70 : decode cX12_told 70 = .ok (.ireturn, 1) := by decide +kernel
theorem dX12_told_71 : decode cX12_told 71 = .ok (.aload_n 0, 1) := by decide +kernel
theorem dX12_told_72 : decode cX12_told 72 = .ok (.getfield 21, 3) := by decide +kernel
theorem dX12_told_75 : decode cX12_told 75 = .ok (.iload_n 1, 1) := by decide +kernel
theorem dX12_told_76 : decode cX12_told 76 = .ok (.iaload, 1) := by decide +kernel
theorem dX12_told_77 : decode cX12_told 77 = .ok (.ireturn, 1) := by decide +kernel
theorem dX12_told_78 : decode cX12_told 78 = .ok (.aload_n 0, 1) := by decide +kernel
theorem dX12_told_79 : decode cX12_told 79 = .ok (.getfield 24, 3) := by decide +kernel
theorem dX12_told_82 : decode cX12_told 82 = .ok (.iload_n 1, 1) := by decide +kernel
theorem dX12_told_83 : decode cX12_told 83 = .ok (.iaload, 1) := by decide +kernel
theorem dX12_told_84 : decode cX12_told 84 = .ok (.ireturn, 1) := by decide +kernel
theorem dX12_told_85 : decode cX12_told 85 = .ok (.aload_n 0, 1) := by decide +kernel
theorem dX12_told_86 : decode cX12_told 86 = .ok (.getfield 27, 3) := by decide +kernel
theorem dX12_told_89 : decode cX12_told 89 = .ok (.iload_n 1, 1) := by decide +kernel
theorem dX12_told_90 : decode cX12_told 90 = .ok (.iaload, 1) := by decide +kernel
theorem dX12_told_91 : decode cX12_told 91 = .ok (.ireturn, 1) := by decide +kernel
theorem dX12_told_92 : decode cX12_told 92 = .ok (.aload_n 0, 1) := by decide +kernel
theorem dX12_told_93 : decode cX12_told 93 = .ok (.getfield 39, 3) := by decide +kernel
theorem dX12_told_96 : decode cX12_told 96 = .ok (.iload_n 1, 1) := by decide +kernel
theorem dX12_told_97 : decode cX12_told 97 = .ok (.baload, 1) := by decide +kernel
theorem dX12_told_98 : decode cX12_told 98 = .ok (.ifCond .eq 7, 3) := by decide +kernel
theorem dX12_told_101 : decode cX12_told 101 = .ok (.iconst 1, 1) := by decide +kernel
theorem dX12_told_102 : decode cX12_told 102 = .ok (.goto 4, 3) := by decide +kernel
theorem dX12_told_105 : decode cX12_told 105 = .ok (.iconst 0, 1) := by decide +kernel
theorem dX12_told_106 : decode cX12_told 106 = .ok (.ireturn, 1) := by decide +kernel
theorem dX12_told_107 : decode cX12_told 107 = .ok (.iconst 0, 1) := by decide +kernel
theorem dX12_told_108 : decode cX12_told 108 = .ok (.istore_n 3, 1) := by decide +kernel
theorem dX12_told_109 : decode cX12_told 109 = .ok (.iconst 0, 1) := by decide +kernel
theorem dX12_told_110 : decode cX12_told 110 = .ok (.istore 4, 2) := by decide +kernel
theorem dX12_told_112 : decode cX12_told 112 = .ok (.iload 4, 2) := by decide +kernel
theorem dX12_told_114 : decode cX12_told 114 = .ok (.aload_n 0, 1) := by decide +kernel
theorem dX12_told_115 : decode cX12_told 115 = .ok (.getfield 208, 3) := by decide +kernel
theorem dX12_told_118 : decode cX12_told 118 = .ok (.if_icmp .ge 27, 3) := by decide +kernel
theorem dX12_told_121 : decode cX12_told 121 = .ok (.iload_n 3, 1) := by decide +kernel
theorem dX12_told_122 : decode cX12_told 122 = .ok (.aload_n 0, 1) := by decide +kernel
theorem dX12_told_123 : decode cX12_told 123 = .ok (.iload 4, 2) := by decide +kernel
theorem dX12_told_125 : decode cX12_told 125 = .ok (.iload_n 1, 1) := by decide +kernel
theorem dX12_told_126 : decode cX12_told 126 = .ok (.invokevirtual 215, 3) := by decide +kernel
theorem dX12_told_129 : decode cX12_told 129 = .ok (.ifCond .eq 7, 3) := by decide +kernel
theorem dX12_told_132 : decode cX12_told 132 = .ok (.iconst 1, 1) := by decide +kernel
theorem dX12_told_133 : decode cX12_told 133 = .ok (.goto 4, 3) := by decide +kernel
theorem dX12_told_136 : decode cX12_told 136 = .ok (.iconst 0, 1) := by decide +kernel
theorem dX12_told_137 : decode cX12_told 137 = .ok (.iadd, 1) := by decide +kernel
theorem dX12_told_138 : decode cX12_told 138 = .ok (.istore_n 3, 1) := by decide +kernel
theorem dX12_told_139 : decode cX12_told 139 = .ok (.iinc 4 1, 3) := by decide +kernel
theorem dX12_told_142 : decode cX12_told 142 = .ok (.goto (-30), 3) := by decide +kernel
theorem dX12_told_145 : decode cX12_told 145 = .ok (.iload_n 3, 1) := by decide +kernel
theorem dX12_told_146 : decode cX12_told 146 = .ok (.ireturn, 1) := by decide +kernel
theorem dX12_told_147 : decode cX12_told 147 = .ok (.aload_n 0, 1) := by decide +kernel
theorem dX12_told_148 : decode cX12_told 148 = .ok (.iconst 2, 1) := by decide +kernel
theorem dX12_told_149 : decode cX12_told 149 = .ok (.invokevirtual 201, 3) := by decide +kernel
theorem dX12_told_152 : decode cX12_told 152 = .ok (.ireturn, 1) := by decide +kernel
theorem dX12_may_0 : decode cX12_may 0 = .ok (.aload_n 0, 1) := by decide +kernel
theorem dX12_may_1 : decode cX12_may 1 = .ok (.iconst 0, 1) := by decide +kernel
theorem dX12_may_2 : decode cX12_may 2 = .ok (.putfield 195, 3) := by decide +kernel
theorem dX12_may_5 : decode cX12_may 5 = .ok (.aload_n 0, 1) := by decide +kernel
theorem dX12_may_6 : decode cX12_may 6 = .ok (.iconst 0, 1) := by decide +kernel
theorem dX12_may_7 : decode cX12_may 7 = .ok (.putfield 198, 3) := by decide +kernel
theorem dX12_may_10 : decode cX12_may 10 = .ok (.aload_n 0, 1) := by decide +kernel
theorem dX12_may_11 : decode cX12_may 11 = .ok (.iload_n 1, 1) := by decide +kernel
theorem dX12_may_12 : decode cX12_may 12 = .ok (.invokevirtual 219, 3) := by decide +kernel
theorem dX12_may_15 : decode cX12_may 15 = .ok (.ifCond .eq 11, 3) := by decide +kernel
theorem dX12_may_18 : decode cX12_may 18 = .ok (.aload_n 0, 1) := by decide +kernel
theorem dX12_may_19 : decode cX12_may 19 = .ok (.iload_n 2, 1) := by decide +kernel
theorem dX12_may_20 : decode cX12_may 20 = .ok (.invokevirtual 211, 3) := by decide +kernel
theorem dX12_may_23 : decode cX12_may 23 = .ok (.ifCond .ne 9, 3) := by decide +kernel
theorem dX12_may_26 : decode cX12_may 26 = .ok (.aload_n 0, 1) := by decide +kernel
theorem dX12_may_27 : decode cX12_may 27 = .ok (.iconst 1, 1) := by decide +kernel
theorem dX12_may_28 : decode cX12_may 28 = .ok (.invokevirtual 201, 3) := by decide +kernel
theorem dX12_may_31 : decode cX12_may 31 = .ok (.ireturn, 1) := by decide +kernel
theorem dX12_may_32 : decode cX12_may 32 = .ok (.aload_n 0, 1) := by decide +kernel
theorem dX12_may_33 : decode cX12_may 33 = .ok (.iload_n 1, 1) := by decide +kernel
theorem dX12_may_34 : decode cX12_may 34 = .ok (.iload_n 2, 1) := by decide +kernel
theorem dX12_may_35 : decode cX12_may 35 = .ok (.invokevirtual 215, 3) := by decide +kernel
theorem dX12_may_38 : decode cX12_may 38 = .ok (.ifCond .eq 7, 3) := by decide +kernel
theorem dX12_may_41 : decode cX12_may 41 = .ok (.iconst 1, 1) := by decide +kernel
theorem dX12_may_42 : decode cX12_may 42 = .ok (.goto 4, 3) := by decide +kernel
theorem dX12_may_45 : decode cX12_may 45 = .ok (.iconst 0, 1) := by decide +kernel
theorem dX12_may_46 : decode cX12_may 46 = .ok (.ireturn, 1) := by decide +kernel
theorem dX12_looks_0 : decode cX12_looks 0 = .ok (.aload_n 0, 1) := by decide +kernel
theorem dX12_looks_1 : decode cX12_looks 1 = .ok (.iconst 0, 1) := by decide +kernel
theorem dX12_looks_2 : decode cX12_looks 2 = .ok (.putfield 195, 3) := by decide +kernel
theorem dX12_looks_5 : decode cX12_looks 5 = .ok (.aload_n 0, 1) := by decide +kernel
theorem dX12_looks_6 : decode cX12_looks 6 = .ok (.iconst 0, 1) := by decide +kernel
theorem dX12_looks_7 : decode cX12_looks 7 = .ok (.putfield 198, 3) := by decide +kernel
theorem dX12_looks_10 : decode cX12_looks 10 = .ok (.iload_n 1, 1) := by decide +kernel
theorem dX12_looks_11 : decode cX12_looks 11 = .ok (.iconst 1, 1) := by decide +kernel
theorem dX12_looks_12 : decode cX12_looks 12 = .ok (.if_icmp .lt 8, 3) := by decide +kernel
theorem dX12_looks_15 : decode cX12_looks 15 = .ok (.iload_n 1, 1) := by decide +kernel
theorem dX12_looks_16 : decode cX12_looks 16 = .ok (.iconst 4, 1) := by decide +kernel
theorem dX12_looks_17 : decode cX12_looks 17 = .ok (.if_icmp .le 9, 3) := by decide +kernel
theorem dX12_looks_20 : decode cX12_looks 20 = .ok (.aload_n 0, 1) := by decide +kernel
theorem dX12_looks_21 : decode cX12_looks 21 = .ok (.iconst 2, 1) := by decide +kernel
theorem dX12_looks_22 : decode cX12_looks 22 = .ok (.invokevirtual 222, 3) := by decide +kernel
theorem dX12_looks_25 : decode cX12_looks 25 = .ok (.ireturn, 1) := by decide +kernel
theorem dX12_looks_26 : decode cX12_looks 26 = .ok (.aload_n 0, 1) := by decide +kernel
theorem dX12_looks_27 : decode cX12_looks 27 = .ok (.iload_n 1, 1) := by decide +kernel
theorem dX12_looks_28 : decode cX12_looks 28 = .ok (.putfield 13, 3) := by decide +kernel
theorem dX12_looks_31 : decode cX12_looks 31 = .ok (.iconst 1, 1) := by decide +kernel
theorem dX12_looks_32 : decode cX12_looks 32 = .ok (.ireturn, 1) := by decide +kernel
theorem dX12_at_0 : decode cX12_at 0 = .ok (.bipush 12, 2) := by decide +kernel
theorem dX12_at_2 : decode cX12_at 2 = .ok (.iload_n 0, 1) := by decide +kernel
theorem dX12_at_3 : decode cX12_at 3 = .ok (.imul, 1) := by decide +kernel
theorem dX12_at_4 : decode cX12_at 4 = .ok (.iload_n 1, 1) := by decide +kernel
theorem dX12_at_5 : decode cX12_at 5 = .ok (.iadd, 1) := by decide +kernel
theorem dX12_at_6 : decode cX12_at 6 = .ok (.ireturn, 1) := by decide +kernel
theorem dX12_find_0 : decode cX12_find 0 = .ok (.iconst 0, 1) := by decide +kernel
theorem dX12_find_1 : decode cX12_find 1 = .ok (.istore_n 1, 1) := by decide +kernel
theorem dX12_find_2 : decode cX12_find 2 = .ok (.iconst 0, 1) := by decide +kernel
theorem dX12_find_3 : decode cX12_find 3 = .ok (.istore_n 2, 1) := by decide +kernel
theorem dX12_find_4 : decode cX12_find 4 = .ok (.iload_n 2, 1) := by decide +kernel
theorem dX12_find_5 : decode cX12_find 5 = .ok (.aload_n 0, 1) := by decide +kernel
theorem dX12_find_6 : decode cX12_find 6 = .ok (.getfield 208, 3) := by decide +kernel
theorem dX12_find_9 : decode cX12_find 9 = .ok (.if_icmp .ge 16, 3) := by decide +kernel
theorem dX12_find_12 : decode cX12_find 12 = .ok (.aload_n 0, 1) := by decide +kernel
theorem dX12_find_13 : decode cX12_find 13 = .ok (.getfield 64, 3) := by decide +kernel
theorem dX12_find_16 : decode cX12_find 16 = .ok (.iload_n 2, 1) := by decide +kernel
theorem dX12_find_17 : decode cX12_find 17 = .ok (.iconst 0, 1) := by decide +kernel
theorem dX12_find_18 : decode cX12_find 18 = .ok (.iastore, 1) := by decide +kernel
theorem dX12_find_19 : decode cX12_find 19 = .ok (.iinc 2 1, 3) := by decide +kernel
theorem dX12_find_22 : decode cX12_find 22 = .ok (.goto (-18), 3) := by decide +kernel
theorem dX12_find_25 : decode cX12_find 25 = .ok (.iconst 0, 1) := by decide +kernel
theorem dX12_find_26 : decode cX12_find 26 = .ok (.istore_n 2, 1) := by decide +kernel
theorem dX12_find_27 : decode cX12_find 27 = .ok (.iload_n 2, 1) := by decide +kernel
theorem dX12_find_28 : decode cX12_find 28 = .ok (.aload_n 0, 1) := by decide +kernel
theorem dX12_find_29 : decode cX12_find 29 = .ok (.getfield 205, 3) := by decide +kernel
theorem dX12_find_32 : decode cX12_find 32 = .ok (.if_icmp .ge 100, 3) := by decide +kernel
theorem dX12_find_35 : decode cX12_find 35 = .ok (.aload_n 0, 1) := by decide +kernel
theorem dX12_find_36 : decode cX12_find 36 = .ok (.getfield 61, 3) := by decide +kernel
theorem dX12_find_39 : decode cX12_find 39 = .ok (.iload_n 2, 1) := by decide +kernel
theorem dX12_find_40 : decode cX12_find 40 = .ok (.iconst 0, 1) := by decide +kernel
theorem dX12_find_41 : decode cX12_find 41 = .ok (.iastore, 1) := by decide +kernel
theorem dX12_find_42 : decode cX12_find 42 = .ok (.iconst 0, 1) := by decide +kernel
theorem dX12_find_43 : decode cX12_find 43 = .ok (.istore_n 3, 1) := by decide +kernel
theorem dX12_find_44 : decode cX12_find 44 = .ok (.iload_n 3, 1) := by decide +kernel
theorem dX12_find_45 : decode cX12_find 45 = .ok (.aload_n 0, 1) := by decide +kernel
theorem dX12_find_46 : decode cX12_find 46 = .ok (.getfield 208, 3) := by decide +kernel
theorem dX12_find_49 : decode cX12_find 49 = .ok (.if_icmp .ge 77, 3) := by decide +kernel
theorem dX12_find_52 : decode cX12_find 52 = .ok (.aload_n 0, 1) := by decide +kernel
theorem dX12_find_53 : decode cX12_find 53 = .ok (.getfield 46, 3) := by decide +kernel
theorem dX12_find_56 : decode cX12_find 56 = .ok (.iload_n 2, 1) := by decide +kernel
theorem dX12_find_57 : decode cX12_find 57 = .ok (.iload_n 3, 1) := by decide +kernel
theorem dX12_find_58 : decode cX12_find 58 = .ok (.invokestatic 225, 3) := by decide +kernel
theorem dX12_find_61 : decode cX12_find 61 = .ok (.aload_n 0, 1) := by decide +kernel
theorem dX12_find_62 : decode cX12_find 62 = .ok (.getfield 58, 3) := by decide +kernel
theorem dX12_find_65 : decode cX12_find 65 = .ok (.iload_n 2, 1) := by decide +kernel
theorem dX12_find_66 : decode cX12_find 66 = .ok (.iload_n 3, 1) := by decide +kernel
theorem dX12_find_67 : decode cX12_find 67 = .ok (.invokestatic 225, 3) := by decide +kernel
theorem dX12_find_70 : decode cX12_find 70 = .ok (.iaload, 1) := by decide +kernel
theorem dX12_find_71 : decode cX12_find 71 = .ok (.iconst 1, 1) := by decide +kernel
theorem dX12_find_72 : decode cX12_find 72 = .ok (.if_icmp .ne 7, 3) := by decide +kernel
theorem dX12_find_75 : decode cX12_find 75 = .ok (.iconst 1, 1) := by decide +kernel
theorem dX12_find_76 : decode cX12_find 76 = .ok (.goto 4, 3) := by decide +kernel
theorem dX12_find_79 : decode cX12_find 79 = .ok (.iconst 0, 1) := by decide +kernel
theorem dX12_find_80 : decode cX12_find 80 = .ok (.bastore, 1) := by decide +kernel
theorem dX12_find_81 : decode cX12_find 81 = .ok (.aload_n 0, 1) := by decide +kernel
theorem dX12_find_82 : decode cX12_find 82 = .ok (.getfield 46, 3) := by decide +kernel
theorem dX12_find_85 : decode cX12_find 85 = .ok (.iload_n 2, 1) := by decide +kernel
theorem dX12_find_86 : decode cX12_find 86 = .ok (.iload_n 3, 1) := by decide +kernel
theorem dX12_find_87 : decode cX12_find 87 = .ok (.invokestatic 225, 3) := by decide +kernel
theorem dX12_find_90 : decode cX12_find 90 = .ok (.baload, 1) := by decide +kernel
theorem dX12_find_91 : decode cX12_find 91 = .ok (.ifCond .ne 6, 3) := by decide +kernel
theorem dX12_find_94 : decode cX12_find 94 = .ok (.goto 26, 3) := by decide +kernel
theorem dX12_find_97 : decode cX12_find 97 = .ok (.aload_n 0, 1) := by decide +kernel
theorem dX12_find_98 : decode cX12_find 98 = .ok (.getfield 61, 3) := by decide +kernel
theorem dX12_find_101 : decode cX12_find 101 = .ok (.iload_n 2, 1) := by decide +kernel
theorem dX12_find_102 : decode cX12_find 102 = .ok (.dup2, 1) := by decide +kernel
theorem dX12_find_103 : decode cX12_find 103 = .ok (.iaload, 1) := by decide +kernel
theorem dX12_find_104 : decode cX12_find 104 = .ok (.iconst 1, 1) := by decide +kernel
theorem dX12_find_105 : decode cX12_find 105 = .ok (.iadd, 1) := by decide +kernel
theorem dX12_find_106 : decode cX12_find 106 = .ok (.iastore, 1) := by decide +kernel
theorem dX12_find_107 : decode cX12_find 107 = .ok (.aload_n 0, 1) := by decide +kernel
theorem dX12_find_108 : decode cX12_find 108 = .ok (.getfield 64, 3) := by decide +kernel
theorem dX12_find_111 : decode cX12_find 111 = .ok (.iload_n 3, 1) := by decide +kernel
theorem dX12_find_112 : decode cX12_find 112 = .ok (.dup2, 1) := by decide +kernel
theorem dX12_find_113 : decode cX12_find 113 = .ok (.iaload, 1) := by decide +kernel
theorem dX12_find_114 : decode cX12_find 114 = .ok (.iconst 1, 1) := by decide +kernel
theorem dX12_find_115 : decode cX12_find 115 = .ok (.iadd, 1) := by decide +kernel
theorem dX12_find_116 : decode cX12_find 116 = .ok (.iastore, 1) := by decide +kernel
theorem dX12_find_117 : decode cX12_find 117 = .ok (.iinc 1 1, 3) := by decide +kernel
theorem dX12_find_120 : decode cX12_find 120 = .ok (.iinc 3 1, 3) := by decide +kernel
theorem dX12_find_123 : decode cX12_find 123 = .ok (.goto (-79), 3) := by decide +kernel
theorem dX12_find_126 : decode cX12_find 126 = .ok (.iinc 2 1, 3) := by decide +kernel
theorem dX12_find_129 : decode cX12_find 129 = .ok (.goto (-102), 3) := by decide +kernel
theorem dX12_find_132 : decode cX12_find 132 = .ok (.iconst 0, 1) := by decide +kernel
theorem dX12_find_133 : decode cX12_find 133 = .ok (.istore_n 2, 1) := by decide +kernel
theorem dX12_find_134 : decode cX12_find 134 = .ok (.iload_n 2, 1) := by decide +kernel
theorem dX12_find_135 : decode cX12_find 135 = .ok (.aload_n 0, 1) := by decide +kernel
theorem dX12_find_136 : decode cX12_find 136 = .ok (.getfield 208, 3) := by decide +kernel
theorem dX12_find_139 : decode cX12_find 139 = .ok (.if_icmp .ge 26, 3) := by decide +kernel
theorem dX12_find_142 : decode cX12_find 142 = .ok (.aload_n 0, 1) := by decide +kernel
theorem dX12_find_143 : decode cX12_find 143 = .ok (.getfield 64, 3) := by decide +kernel
theorem dX12_find_146 : decode cX12_find 146 = .ok (.iload_n 2, 1) := by decide +kernel
theorem dX12_find_147 : decode cX12_find 147 = .ok (.iaload, 1) := by decide +kernel
theorem dX12_find_148 : decode cX12_find 148 = .ok (.aload_n 0, 1) := by decide +kernel
theorem dX12_find_149 : decode cX12_find 149 = .ok (.getfield 36, 3) := by decide +kernel
theorem dX12_find_152 : decode cX12_find 152 = .ok (.iload_n 2, 1) := by decide +kernel
theorem dX12_find_153 : decode cX12_find 153 = .ok (.iaload, 1) := by decide +kernel
theorem dX12_find_154 : decode cX12_find 154 = .ok (.if_icmp .le 5, 3) := by decide +kernel
theorem dX12_find_157 : decode cX12_find 157 = .ok (.iconst (-1), 1) := by decide +kernel
theorem dX12_find_158 : decode cX12_find 158 = .ok (.ireturn, 1) := by decide +kernel
theorem dX12_find_159 : decode cX12_find 159 = .ok (.iinc 2 1, 3) := by decide +kernel
theorem dX12_find_162 : decode cX12_find 162 = .ok (.goto (-28), 3) := by decide +kernel
theorem dX12_find_165 : decode cX12_find 165 = .ok (.iconst 0, 1) := by decide +kernel
theorem dX12_find_166 : decode cX12_find 166 = .ok (.istore_n 2, 1) := by decide +kernel
theorem dX12_find_167 : decode cX12_find 167 = .ok (.iload_n 2, 1) := by decide +kernel
theorem dX12_find_168 : decode cX12_find 168 = .ok (.aload_n 0, 1) := by decide +kernel
theorem dX12_find_169 : decode cX12_find 169 = .ok (.getfield 205, 3) := by decide +kernel
theorem dX12_find_172 : decode cX12_find 172 = .ok (.if_icmp .ge 51, 3) := by decide +kernel
theorem dX12_find_175 : decode cX12_find 175 = .ok (.aload_n 0, 1) := by decide +kernel
theorem dX12_find_176 : decode cX12_find 176 = .ok (.getfield 61, 3) := by decide +kernel
theorem dX12_find_179 : decode cX12_find 179 = .ok (.iload_n 2, 1) := by decide +kernel
theorem dX12_find_180 : decode cX12_find 180 = .ok (.iaload, 1) := by decide +kernel
theorem dX12_find_181 : decode cX12_find 181 = .ok (.aload_n 0, 1) := by decide +kernel
theorem dX12_find_182 : decode cX12_find 182 = .ok (.getfield 13, 3) := by decide +kernel
theorem dX12_find_185 : decode cX12_find 185 = .ok (.if_icmp .le 5, 3) := by decide +kernel
theorem dX12_find_188 : decode cX12_find 188 = .ok (.iconst (-1), 1) := by decide +kernel
theorem dX12_find_189 : decode cX12_find 189 = .ok (.ireturn, 1) := by decide +kernel
theorem dX12_find_190 : decode cX12_find 190 = .ok (.aload_n 0, 1) := by decide +kernel
theorem dX12_find_191 : decode cX12_find 191 = .ok (.getfield 61, 3) := by decide +kernel
theorem dX12_find_194 : decode cX12_find 194 = .ok (.iload_n 2, 1) := by decide +kernel
theorem dX12_find_195 : decode cX12_find 195 = .ok (.iaload, 1) := by decide +kernel
theorem dX12_find_196 : decode cX12_find 196 = .ok (.aload_n 0, 1) := by decide +kernel
theorem dX12_find_197 : decode cX12_find 197 = .ok (.getfield 13, 3) := by decide +kernel
theorem dX12_find_200 : decode cX12_find 200 = .ok (.if_icmp .ge 17, 3) := by decide +kernel
theorem dX12_find_203 : decode cX12_find 203 = .ok (.aload_n 0, 1) := by decide +kernel
theorem dX12_find_204 : decode cX12_find 204 = .ok (.iload_n 2, 1) := by decide +kernel
theorem dX12_find_205 : decode cX12_find 205 = .ok (.invokevirtual 229, 3) := by decide +kernel
theorem dX12_find_208 : decode cX12_find 208 = .ok (.ifCond .eq 9, 3) := by decide +kernel
theorem dX12_find_211 : decode cX12_find 211 = .ok (.iinc 1 1, 3) := by decide +kernel
theorem dX12_find_214 : decode cX12_find 214 = .ok (.goto (-24), 3) := by decide +kernel
theorem dX12_find_217 : decode cX12_find 217 = .ok (.iinc 2 1, 3) := by decide +kernel
theorem dX12_find_220 : decode cX12_find 220 = .ok (.goto (-53), 3) := by decide +kernel
theorem dX12_find_223 : decode cX12_find 223 = .ok (.iload_n 1, 1) := by decide +kernel
theorem dX12_find_224 : decode cX12_find 224 = .ok (.ireturn, 1) := by decide +kernel
theorem dX12_isFree_0 : decode cX12_isFree 0 = .ok (.aload_n 0, 1) := by decide +kernel
theorem dX12_isFree_1 : decode cX12_isFree 1 = .ok (.iload_n 2, 1) := by decide +kernel
theorem dX12_isFree_2 : decode cX12_isFree 2 = .ok (.iload_n 1, 1) := by decide +kernel
theorem dX12_isFree_3 : decode cX12_isFree 3 = .ok (.invokevirtual 215, 3) := by decide +kernel
theorem dX12_isFree_6 : decode cX12_isFree 6 = .ok (.ifCond .eq 20, 3) := by decide +kernel
theorem dX12_isFree_9 : decode cX12_isFree 9 = .ok (.aload_n 0, 1) := by decide +kernel
theorem dX12_isFree_10 : decode cX12_isFree 10 = .ok (.getfield 58, 3) := by decide +kernel
theorem dX12_isFree_13 : decode cX12_isFree 13 = .ok (.iload_n 1, 1) := by decide +kernel
theorem dX12_isFree_14 : decode cX12_isFree 14 = .ok (.iload_n 2, 1) := by decide +kernel
theorem dX12_isFree_15 : decode cX12_isFree 15 = .ok (.invokestatic 225, 3) := by decide +kernel
theorem dX12_isFree_18 : decode cX12_isFree 18 = .ok (.iaload, 1) := by decide +kernel
theorem dX12_isFree_19 : decode cX12_isFree 19 = .ok (.ifCond .ne 7, 3) := by decide +kernel
theorem dX12_isFree_22 : decode cX12_isFree 22 = .ok (.iconst 1, 1) := by decide +kernel
theorem dX12_isFree_23 : decode cX12_isFree 23 = .ok (.goto 4, 3) := by decide +kernel
theorem dX12_isFree_26 : decode cX12_isFree 26 = .ok (.iconst 0, 1) := by decide +kernel
theorem dX12_isFree_27 : decode cX12_isFree 27 = .ok (.ireturn, 1) := by decide +kernel
theorem dX12_grows_0 : decode cX12_grows 0 = .ok (.iconst 0, 1) := by decide +kernel
theorem dX12_grows_1 : decode cX12_grows 1 = .ok (.istore_n 2, 1) := by decide +kernel
theorem dX12_grows_2 : decode cX12_grows 2 = .ok (.iload_n 2, 1) := by decide +kernel
theorem dX12_grows_3 : decode cX12_grows 3 = .ok (.aload_n 0, 1) := by decide +kernel
theorem dX12_grows_4 : decode cX12_grows 4 = .ok (.getfield 208, 3) := by decide +kernel
theorem dX12_grows_7 : decode cX12_grows 7 = .ok (.if_icmp .ge 16, 3) := by decide +kernel
theorem dX12_grows_10 : decode cX12_grows 10 = .ok (.aload_n 0, 1) := by decide +kernel
theorem dX12_grows_11 : decode cX12_grows 11 = .ok (.getfield 52, 3) := by decide +kernel
theorem dX12_grows_14 : decode cX12_grows 14 = .ok (.iload_n 2, 1) := by decide +kernel
theorem dX12_grows_15 : decode cX12_grows 15 = .ok (.iconst 0, 1) := by decide +kernel
theorem dX12_grows_16 : decode cX12_grows 16 = .ok (.bastore, 1) := by decide +kernel
theorem dX12_grows_17 : decode cX12_grows 17 = .ok (.iinc 2 1, 3) := by decide +kernel
theorem dX12_grows_20 : decode cX12_grows 20 = .ok (.goto (-18), 3) := by decide +kernel
theorem dX12_grows_23 : decode cX12_grows 23 = .ok (.iconst 0, 1) := by decide +kernel
theorem dX12_grows_24 : decode cX12_grows 24 = .ok (.istore_n 2, 1) := by decide +kernel
theorem dX12_grows_25 : decode cX12_grows 25 = .ok (.iload_n 2, 1) := by decide +kernel
theorem dX12_grows_26 : decode cX12_grows 26 = .ok (.aload_n 0, 1) := by decide +kernel
theorem dX12_grows_27 : decode cX12_grows 27 = .ok (.getfield 205, 3) := by decide +kernel
theorem dX12_grows_30 : decode cX12_grows 30 = .ok (.if_icmp .ge 16, 3) := by decide +kernel
theorem dX12_grows_33 : decode cX12_grows 33 = .ok (.aload_n 0, 1) := by decide +kernel
theorem dX12_grows_34 : decode cX12_grows 34 = .ok (.getfield 55, 3) := by decide +kernel
theorem dX12_grows_37 : decode cX12_grows 37 = .ok (.iload_n 2, 1) := by decide +kernel
theorem dX12_grows_38 : decode cX12_grows 38 = .ok (.iconst 0, 1) := by decide +kernel
theorem dX12_grows_39 : decode cX12_grows 39 = .ok (.bastore, 1) := by decide +kernel
theorem dX12_grows_40 : decode cX12_grows 40 = .ok (.iinc 2 1, 3) := by decide +kernel
theorem dX12_grows_43 : decode cX12_grows 43 = .ok (.goto (-18), 3) := by decide +kernel
theorem dX12_grows_46 : decode cX12_grows 46 = .ok (.iconst 1, 1) := by decide +kernel
theorem dX12_grows_47 : decode cX12_grows 47 = .ok (.istore_n 2, 1) := by decide +kernel
theorem dX12_grows_48 : decode cX12_grows 48 = .ok (.aload_n 0, 1) := by decide +kernel
theorem dX12_grows_49 : decode cX12_grows 49 = .ok (.getfield 70, 3) := by decide +kernel
theorem dX12_grows_52 : decode cX12_grows 52 = .ok (.iconst 0, 1) := by decide +kernel
theorem dX12_grows_53 : decode cX12_grows 53 = .ok (.iload_n 1, 1) := by decide +kernel
theorem dX12_grows_54 : decode cX12_grows 54 = .ok (.iastore, 1) := by decide +kernel
theorem dX12_grows_55 : decode cX12_grows 55 = .ok (.aload_n 0, 1) := by decide +kernel
theorem dX12_grows_56 : decode cX12_grows 56 = .ok (.getfield 55, 3) := by decide +kernel
theorem dX12_grows_59 : decode cX12_grows 59 = .ok (.iload_n 1, 1) := by decide +kernel
theorem dX12_grows_60 : decode cX12_grows 60 = .ok (.iconst 1, 1) := by decide +kernel
theorem dX12_grows_61 : decode cX12_grows 61 = .ok (.bastore, 1) := by decide +kernel
theorem dX12_grows_62 : decode cX12_grows 62 = .ok (.aload_n 0, 1) := by decide +kernel
theorem dX12_grows_63 : decode cX12_grows 63 = .ok (.getfield 73, 3) := by decide +kernel
theorem dX12_grows_66 : decode cX12_grows 66 = .ok (.iload_n 1, 1) := by decide +kernel
theorem dX12_grows_67 : decode cX12_grows 67 = .ok (.iconst (-1), 1) := by decide +kernel
theorem dX12_grows_68 : decode cX12_grows 68 = .ok (.iastore, 1) := by decide +kernel
theorem dX12_grows_69 : decode cX12_grows 69 = .ok (.iconst 0, 1) := by decide +kernel
theorem dX12_grows_70 : decode cX12_grows 70 = .ok (.istore_n 3, 1) := by decide +kernel
theorem dX12_grows_71 : decode cX12_grows 71 = .ok (.iload_n 3, 1) := by decide +kernel
theorem dX12_grows_72 : decode cX12_grows 72 = .ok (.iload_n 2, 1) := by decide +kernel
theorem dX12_grows_73 : decode cX12_grows 73 = .ok (.if_icmp .ge 211, 3) := by decide +kernel
theorem dX12_grows_76 : decode cX12_grows 76 = .ok (.aload_n 0, 1) := by decide +kernel
theorem dX12_grows_77 : decode cX12_grows 77 = .ok (.getfield 70, 3) := by decide +kernel
theorem dX12_grows_80 : decode cX12_grows 80 = .ok (.iload_n 3, 1) := by decide +kernel
theorem dX12_grows_81 : decode cX12_grows 81 = .ok (.iaload, 1) := by decide +kernel
theorem dX12_grows_82 : decode cX12_grows 82 = .ok (.istore 4, 2) := by decide +kernel
theorem dX12_grows_84 : decode cX12_grows 84 = .ok (.iconst 0, 1) := by decide +kernel
theorem dX12_grows_85 : decode cX12_grows 85 = .ok (.istore 5, 2) := by decide +kernel
theorem dX12_grows_87 : decode cX12_grows 87 = .ok (.iload 5, 2) := by decide +kernel
theorem dX12_grows_89 : decode cX12_grows 89 = .ok (.aload_n 0, 1) := by decide +kernel
theorem dX12_grows_90 : decode cX12_grows 90 = .ok (.getfield 208, 3) := by decide +kernel
theorem dX12_grows_93 : decode cX12_grows 93 = .ok (.if_icmp .ge 185, 3) := by decide +kernel
theorem dX12_grows_96 : decode cX12_grows 96 = .ok (.aload_n 0, 1) := by decide +kernel
theorem dX12_grows_97 : decode cX12_grows 97 = .ok (.getfield 52, 3) := by decide +kernel
theorem dX12_grows_100 : decode cX12_grows 100 = .ok (.iload 5, 2) := by decide +kernel
theorem dX12_grows_102 : decode cX12_grows 102 = .ok (.baload, 1) := by decide +kernel
theorem dX12_grows_103 : decode cX12_grows 103 = .ok (.ifCond .ne 169, 3) := by decide +kernel
theorem dX12_grows_106 : decode cX12_grows 106 = .ok (.aload_n 0, 1) := by decide +kernel
theorem dX12_grows_107 : decode cX12_grows 107 = .ok (.iload 4, 2) := by decide +kernel
theorem dX12_grows_109 : decode cX12_grows 109 = .ok (.iload 5, 2) := by decide +kernel
theorem dX12_grows_111 : decode cX12_grows 111 = .ok (.invokevirtual 232, 3) := by decide +kernel
theorem dX12_grows_114 : decode cX12_grows 114 = .ok (.ifCond .eq 158, 3) := by decide +kernel
theorem dX12_grows_117 : decode cX12_grows 117 = .ok (.aload_n 0, 1) := by decide +kernel
theorem dX12_grows_118 : decode cX12_grows 118 = .ok (.getfield 46, 3) := by decide +kernel
theorem dX12_grows_121 : decode cX12_grows 121 = .ok (.iload 4, 2) := by decide +kernel
theorem dX12_grows_123 : decode cX12_grows 123 = .ok (.iload 5, 2) := by decide +kernel
theorem dX12_grows_125 : decode cX12_grows 125 = .ok (.invokestatic 225, 3) := by decide +kernel
theorem dX12_grows_128 : decode cX12_grows 128 = .ok (.baload, 1) := by decide +kernel
theorem dX12_grows_129 : decode cX12_grows 129 = .ok (.ifCond .eq 6, 3) := by decide +kernel
theorem dX12_grows_132 : decode cX12_grows 132 = .ok (.goto 140, 3) := by decide +kernel
theorem dX12_grows_135 : decode cX12_grows 135 = .ok (.aload_n 0, 1) := by decide +kernel
theorem dX12_grows_136 : decode cX12_grows 136 = .ok (.getfield 52, 3) := by decide +kernel
theorem dX12_grows_139 : decode cX12_grows 139 = .ok (.iload 5, 2) := by decide +kernel
theorem dX12_grows_141 : decode cX12_grows 141 = .ok (.iconst 1, 1) := by decide +kernel
theorem dX12_grows_142 : decode cX12_grows 142 = .ok (.bastore, 1) := by decide +kernel
theorem dX12_grows_143 : decode cX12_grows 143 = .ok (.aload_n 0, 1) := by decide +kernel
theorem dX12_grows_144 : decode cX12_grows 144 = .ok (.getfield 67, 3) := by decide +kernel
theorem dX12_grows_147 : decode cX12_grows 147 = .ok (.iload 5, 2) := by decide +kernel
theorem dX12_grows_149 : decode cX12_grows 149 = .ok (.iload 4, 2) := by decide +kernel
theorem dX12_grows_151 : decode cX12_grows 151 = .ok (.iastore, 1) := by decide +kernel
theorem dX12_grows_152 : decode cX12_grows 152 = .ok (.aload_n 0, 1) := by decide +kernel
theorem dX12_grows_153 : decode cX12_grows 153 = .ok (.getfield 64, 3) := by decide +kernel
theorem dX12_grows_156 : decode cX12_grows 156 = .ok (.iload 5, 2) := by decide +kernel
theorem dX12_grows_158 : decode cX12_grows 158 = .ok (.iaload, 1) := by decide +kernel
theorem dX12_grows_159 : decode cX12_grows 159 = .ok (.aload_n 0, 1) := by decide +kernel
theorem dX12_grows_160 : decode cX12_grows 160 = .ok (.getfield 36, 3) := by decide +kernel
theorem dX12_grows_163 : decode cX12_grows 163 = .ok (.iload 5, 2) := by decide +kernel
theorem dX12_grows_165 : decode cX12_grows 165 = .ok (.iaload, 1) := by decide +kernel
theorem dX12_grows_166 : decode cX12_grows 166 = .ok (.if_icmp .ge 21, 3) := by decide +kernel
theorem dX12_grows_169 : decode cX12_grows 169 = .ok (.aload_n 0, 1) := by decide +kernel
theorem dX12_grows_170 : decode cX12_grows 170 = .ok (.iload 5, 2) := by decide +kernel
theorem dX12_grows_172 : decode cX12_grows 172 = .ok (.invokevirtual 235, 3) := by decide +kernel
theorem dX12_grows_175 : decode cX12_grows 175 = .ok (.aload_n 0, 1) := by decide +kernel
theorem dX12_grows_176 : decode cX12_grows 176 = .ok (.getfield 61, 3) := by decide +kernel
theorem dX12_grows_179 : decode cX12_grows 179 = .ok (.iload_n 1, 1) := by decide +kernel
theorem dX12_grows_180 : decode cX12_grows 180 = .ok (.dup2, 1) := by decide +kernel
theorem dX12_grows_181 : decode cX12_grows 181 = .ok (.iaload, 1) := by decide +kernel
theorem dX12_grows_182 : decode cX12_grows 182 = .ok (.iconst 1, 1) := by decide +kernel
theorem dX12_grows_183 : decode cX12_grows 183 = .ok (.iadd, 1) := by decide +kernel
theorem dX12_grows_184 : decode cX12_grows 184 = .ok (.iastore, 1) := by decide +kernel
theorem dX12_grows_185 : decode cX12_grows 185 = .ok (.iconst 1, 1) := by decide +kernel
theorem dX12_grows_186 : decode cX12_grows 186 = .ok (.ireturn, 1) := by decide +kernel
theorem dX12_grows_187 : decode cX12_grows 187 = .ok (.iconst 0, 1) := by decide +kernel
theorem dX12_grows_188 : decode cX12_grows 188 = .ok (.istore 6, 2) := by decide +kernel
theorem dX12_grows_190 : decode cX12_grows 190 = .ok (.iload 6, 2) := by decide +kernel
theorem dX12_grows_192 : decode cX12_grows 192 = .ok (.aload_n 0, 1) := by decide +kernel
theorem dX12_grows_193 : decode cX12_grows 193 = .ok (.getfield 205, 3) := by decide +kernel
theorem dX12_grows_196 : decode cX12_grows 196 = .ok (.if_icmp .ge 76, 3) := by decide +kernel
theorem dX12_grows_199 : decode cX12_grows 199 = .ok (.aload_n 0, 1) := by decide +kernel
theorem dX12_grows_200 : decode cX12_grows 200 = .ok (.getfield 55, 3) := by decide +kernel
theorem dX12_grows_203 : decode cX12_grows 203 = .ok (.iload 6, 2) := by decide +kernel
theorem dX12_grows_205 : decode cX12_grows 205 = .ok (.baload, 1) := by decide +kernel
theorem dX12_grows_206 : decode cX12_grows 206 = .ok (.ifCond .ne 60, 3) := by decide +kernel
theorem dX12_grows_209 : decode cX12_grows 209 = .ok (.aload_n 0, 1) := by decide +kernel
theorem dX12_grows_210 : decode cX12_grows 210 = .ok (.getfield 46, 3) := by decide +kernel
theorem dX12_grows_213 : decode cX12_grows 213 = .ok (.iload 6, 2) := by decide +kernel
theorem dX12_grows_215 : decode cX12_grows 215 = .ok (.iload 5, 2) := by decide +kernel
theorem dX12_grows_217 : decode cX12_grows 217 = .ok (.invokestatic 225, 3) := by decide +kernel
theorem dX12_grows_220 : decode cX12_grows 220 = .ok (.baload, 1) := by decide +kernel
theorem dX12_grows_221 : decode cX12_grows 221 = .ok (.ifCond .eq 45, 3) := by decide +kernel
theorem dX12_grows_224 : decode cX12_grows 224 = .ok (.aload_n 0, 1) := by decide +kernel
theorem dX12_grows_225 : decode cX12_grows 225 = .ok (.iload 6, 2) := by decide +kernel
theorem dX12_grows_227 : decode cX12_grows 227 = .ok (.iload 5, 2) := by decide +kernel
theorem dX12_grows_229 : decode cX12_grows 229 = .ok (.invokevirtual 232, 3) := by decide +kernel
theorem dX12_grows_232 : decode cX12_grows 232 = .ok (.ifCond .ne 6, 3) := by decide +kernel
theorem dX12_grows_235 : decode cX12_grows 235 = .ok (.goto 31, 3) := by decide +kernel
theorem dX12_grows_238 : decode cX12_grows 238 = .ok (.aload_n 0, 1) := by decide +kernel
theorem dX12_grows_239 : decode cX12_grows 239 = .ok (.getfield 55, 3) := by decide +kernel
theorem dX12_grows_242 : decode cX12_grows 242 = .ok (.iload 6, 2) := by decide +kernel
theorem dX12_grows_244 : decode cX12_grows 244 = .ok (.iconst 1, 1) := by decide +kernel
theorem dX12_grows_245 : decode cX12_grows 245 = .ok (.bastore, 1) := by decide +kernel
theorem dX12_grows_246 : decode cX12_grows 246 = .ok (.aload_n 0, 1) := by decide +kernel
theorem dX12_grows_247 : decode cX12_grows 247 = .ok (.getfield 73, 3) := by decide +kernel
theorem dX12_grows_250 : decode cX12_grows 250 = .ok (.iload 6, 2) := by decide +kernel
theorem dX12_grows_252 : decode cX12_grows 252 = .ok (.iload 5, 2) := by decide +kernel
theorem dX12_grows_254 : decode cX12_grows 254 = .ok (.iastore, 1) := by decide +kernel
theorem dX12_grows_255 : decode cX12_grows 255 = .ok (.aload_n 0, 1) := by decide +kernel
theorem dX12_grows_256 : decode cX12_grows 256 = .ok (.getfield 70, 3) := by decide +kernel
theorem dX12_grows_259 : decode cX12_grows 259 = .ok (.iload_n 2, 1) := by decide +kernel
theorem dX12_grows_260 : decode cX12_grows 260 = .ok (.iload 6, 2) := by decide +kernel
theorem dX12_grows_262 : decode cX12_grows 262 = .ok (.iastore, 1) := by decide +kernel
theorem dX12_grows_263 : decode cX12_grows 263 = .ok (.iinc 2 1, 3) := by decide +kernel
theorem dX12_grows_266 : decode cX12_grows 266 = .ok (.iinc 6 1, 3) := by decide +kernel
theorem dX12_grows_269 : decode cX12_grows 269 = .ok (.goto (-79), 3) := by decide +kernel
theorem dX12_grows_272 : decode cX12_grows 272 = .ok (.iinc 5 1, 3) := by decide +kernel
theorem dX12_grows_275 : decode cX12_grows 275 = .ok (.goto (-188), 3) := by decide +kernel
theorem dX12_grows_278 : decode cX12_grows 278 = .ok (.iinc 3 1, 3) := by decide +kernel
theorem dX12_grows_281 : decode cX12_grows 281 = .ok (.goto (-210), 3) := by decide +kernel
theorem dX12_grows_284 : decode cX12_grows 284 = .ok (.iconst 0, 1) := by decide +kernel
theorem dX12_grows_285 : decode cX12_grows 285 = .ok (.ireturn, 1) := by decide +kernel
theorem dX12_turns_0 : decode cX12_turns 0 = .ok (.aload_n 0, 1) := by decide +kernel
theorem dX12_turns_1 : decode cX12_turns 1 = .ok (.getfield 64, 3) := by decide +kernel
theorem dX12_turns_4 : decode cX12_turns 4 = .ok (.iload_n 1, 1) := by decide +kernel
theorem dX12_turns_5 : decode cX12_turns 5 = .ok (.dup2, 1) := by decide +kernel
theorem dX12_turns_6 : decode cX12_turns 6 = .ok (.iaload, 1) := by decide +kernel
theorem dX12_turns_7 : decode cX12_turns 7 = .ok (.iconst 1, 1) := by decide +kernel
theorem dX12_turns_8 : decode cX12_turns 8 = .ok (.iadd, 1) := by decide +kernel
theorem dX12_turns_9 : decode cX12_turns 9 = .ok (.iastore, 1) := by decide +kernel
theorem dX12_turns_10 : decode cX12_turns 10 = .ok (.iload_n 1, 1) := by decide +kernel
theorem dX12_turns_11 : decode cX12_turns 11 = .ok (.istore_n 2, 1) := by decide +kernel
theorem dX12_turns_12 : decode cX12_turns 12 = .ok (.iload_n 2, 1) := by decide +kernel
theorem dX12_turns_13 : decode cX12_turns 13 = .ok (.ifCond .lt 52, 3) := by decide +kernel
theorem dX12_turns_16 : decode cX12_turns 16 = .ok (.aload_n 0, 1) := by decide +kernel
theorem dX12_turns_17 : decode cX12_turns 17 = .ok (.getfield 67, 3) := by decide +kernel
theorem dX12_turns_20 : decode cX12_turns 20 = .ok (.iload_n 2, 1) := by decide +kernel
theorem dX12_turns_21 : decode cX12_turns 21 = .ok (.iaload, 1) := by decide +kernel
theorem dX12_turns_22 : decode cX12_turns 22 = .ok (.istore_n 3, 1) := by decide +kernel
theorem dX12_turns_23 : decode cX12_turns 23 = .ok (.aload_n 0, 1) := by decide +kernel
theorem dX12_turns_24 : decode cX12_turns 24 = .ok (.getfield 46, 3) := by decide +kernel
theorem dX12_turns_27 : decode cX12_turns 27 = .ok (.iload_n 3, 1) := by decide +kernel
theorem dX12_turns_28 : decode cX12_turns 28 = .ok (.iload_n 2, 1) := by decide +kernel
theorem dX12_turns_29 : decode cX12_turns 29 = .ok (.invokestatic 225, 3) := by decide +kernel
theorem dX12_turns_32 : decode cX12_turns 32 = .ok (.iconst 1, 1) := by decide +kernel
theorem dX12_turns_33 : decode cX12_turns 33 = .ok (.bastore, 1) := by decide +kernel
theorem dX12_turns_34 : decode cX12_turns 34 = .ok (.aload_n 0, 1) := by decide +kernel
theorem dX12_turns_35 : decode cX12_turns 35 = .ok (.getfield 73, 3) := by decide +kernel
theorem dX12_turns_38 : decode cX12_turns 38 = .ok (.iload_n 3, 1) := by decide +kernel
theorem dX12_turns_39 : decode cX12_turns 39 = .ok (.iaload, 1) := by decide +kernel
theorem dX12_turns_40 : decode cX12_turns 40 = .ok (.istore 4, 2) := by decide +kernel
theorem dX12_turns_42 : decode cX12_turns 42 = .ok (.iload 4, 2) := by decide +kernel
theorem dX12_turns_44 : decode cX12_turns 44 = .ok (.ifCond .lt 15, 3) := by decide +kernel
theorem dX12_turns_47 : decode cX12_turns 47 = .ok (.aload_n 0, 1) := by decide +kernel
theorem dX12_turns_48 : decode cX12_turns 48 = .ok (.getfield 46, 3) := by decide +kernel
theorem dX12_turns_51 : decode cX12_turns 51 = .ok (.iload_n 3, 1) := by decide +kernel
theorem dX12_turns_52 : decode cX12_turns 52 = .ok (.iload 4, 2) := by decide +kernel
theorem dX12_turns_54 : decode cX12_turns 54 = .ok (.invokestatic 225, 3) := by decide +kernel
theorem dX12_turns_57 : decode cX12_turns 57 = .ok (.iconst 0, 1) := by decide +kernel
theorem dX12_turns_58 : decode cX12_turns 58 = .ok (.bastore, 1) := by decide +kernel
theorem dX12_turns_59 : decode cX12_turns 59 = .ok (.iload 4, 2) := by decide +kernel
theorem dX12_turns_61 : decode cX12_turns 61 = .ok (.istore_n 2, 1) := by decide +kernel
theorem dX12_turns_62 : decode cX12_turns 62 = .ok (.goto (-50), 3) := by decide +kernel
theorem dX12_turns_65 : decode cX12_turns 65 = .ok (.return_, 1) := by decide +kernel
theorem dX12_plan_0 : decode cX12_plan 0 = .ok (.aload_n 0, 1) := by decide +kernel
theorem dX12_plan_1 : decode cX12_plan 1 = .ok (.iconst 0, 1) := by decide +kernel
theorem dX12_plan_2 : decode cX12_plan 2 = .ok (.putfield 195, 3) := by decide +kernel
theorem dX12_plan_5 : decode cX12_plan 5 = .ok (.aload_n 0, 1) := by decide +kernel
theorem dX12_plan_6 : decode cX12_plan 6 = .ok (.iconst 0, 1) := by decide +kernel
theorem dX12_plan_7 : decode cX12_plan 7 = .ok (.putfield 198, 3) := by decide +kernel
theorem dX12_plan_10 : decode cX12_plan 10 = .ok (.iconst 0, 1) := by decide +kernel
theorem dX12_plan_11 : decode cX12_plan 11 = .ok (.istore_n 1, 1) := by decide +kernel
theorem dX12_plan_12 : decode cX12_plan 12 = .ok (.iload_n 1, 1) := by decide +kernel
theorem dX12_plan_13 : decode cX12_plan 13 = .ok (.sipush 288, 3) := by decide +kernel
theorem dX12_plan_16 : decode cX12_plan 16 = .ok (.if_icmp .ge 16, 3) := by decide +kernel
theorem dX12_plan_19 : decode cX12_plan 19 = .ok (.aload_n 0, 1) := by decide +kernel
theorem dX12_plan_20 : decode cX12_plan 20 = .ok (.getfield 58, 3) := by decide +kernel
theorem dX12_plan_23 : decode cX12_plan 23 = .ok (.iload_n 1, 1) := by decide +kernel
theorem dX12_plan_24 : decode cX12_plan 24 = .ok (.iconst 0, 1) := by decide +kernel
theorem dX12_plan_25 : decode cX12_plan 25 = .ok (.iastore, 1) := by decide +kernel
theorem dX12_plan_26 : decode cX12_plan 26 = .ok (.iinc 1 1, 3) := by decide +kernel
theorem dX12_plan_29 : decode cX12_plan 29 = .ok (.goto (-17), 3) := by decide +kernel
theorem dX12_plan_32 : decode cX12_plan 32 = .ok (.aload_n 0, 1) := by decide +kernel
theorem dX12_plan_33 : decode cX12_plan 33 = .ok (.invokevirtual 239, 3) := by decide +kernel
theorem dX12_plan_36 : decode cX12_plan 36 = .ok (.istore_n 1, 1) := by decide +kernel
theorem dX12_plan_37 : decode cX12_plan 37 = .ok (.iconst 0, 1) := by decide +kernel
theorem dX12_plan_38 : decode cX12_plan 38 = .ok (.istore_n 2, 1) := by decide +kernel
theorem dX12_plan_39 : decode cX12_plan 39 = .ok (.iload_n 2, 1) := by decide +kernel
theorem dX12_plan_40 : decode cX12_plan 40 = .ok (.aload_n 0, 1) := by decide +kernel
theorem dX12_plan_41 : decode cX12_plan 41 = .ok (.getfield 205, 3) := by decide +kernel
theorem dX12_plan_44 : decode cX12_plan 44 = .ok (.if_icmp .ge 67, 3) := by decide +kernel
theorem dX12_plan_47 : decode cX12_plan 47 = .ok (.iconst 0, 1) := by decide +kernel
theorem dX12_plan_48 : decode cX12_plan 48 = .ok (.istore_n 3, 1) := by decide +kernel
theorem dX12_plan_49 : decode cX12_plan 49 = .ok (.iload_n 3, 1) := by decide +kernel
theorem dX12_plan_50 : decode cX12_plan 50 = .ok (.aload_n 0, 1) := by decide +kernel
theorem dX12_plan_51 : decode cX12_plan 51 = .ok (.getfield 208, 3) := by decide +kernel
theorem dX12_plan_54 : decode cX12_plan 54 = .ok (.if_icmp .ge 51, 3) := by decide +kernel
theorem dX12_plan_57 : decode cX12_plan 57 = .ok (.aload_n 0, 1) := by decide +kernel
theorem dX12_plan_58 : decode cX12_plan 58 = .ok (.iload_n 3, 1) := by decide +kernel
theorem dX12_plan_59 : decode cX12_plan 59 = .ok (.iload_n 2, 1) := by decide +kernel
theorem dX12_plan_60 : decode cX12_plan 60 = .ok (.invokevirtual 215, 3) := by decide +kernel
theorem dX12_plan_63 : decode cX12_plan 63 = .ok (.ifCond .ne 6, 3) := by decide +kernel
theorem dX12_plan_66 : decode cX12_plan 66 = .ok (.goto 33, 3) := by decide +kernel
theorem dX12_plan_69 : decode cX12_plan 69 = .ok (.aload_n 0, 1) := by decide +kernel
theorem dX12_plan_70 : decode cX12_plan 70 = .ok (.getfield 58, 3) := by decide +kernel
theorem dX12_plan_73 : decode cX12_plan 73 = .ok (.iload_n 2, 1) := by decide +kernel
theorem dX12_plan_74 : decode cX12_plan 74 = .ok (.iload_n 3, 1) := by decide +kernel
theorem dX12_plan_75 : decode cX12_plan 75 = .ok (.invokestatic 225, 3) := by decide +kernel
theorem dX12_plan_78 : decode cX12_plan 78 = .ok (.iconst 1, 1) := by decide +kernel
theorem dX12_plan_79 : decode cX12_plan 79 = .ok (.iastore, 1) := by decide +kernel
theorem dX12_plan_80 : decode cX12_plan 80 = .ok (.aload_n 0, 1) := by decide +kernel
theorem dX12_plan_81 : decode cX12_plan 81 = .ok (.invokevirtual 239, 3) := by decide +kernel
theorem dX12_plan_84 : decode cX12_plan 84 = .ok (.iload_n 1, 1) := by decide +kernel
theorem dX12_plan_85 : decode cX12_plan 85 = .ok (.if_icmp .eq 14, 3) := by decide +kernel
theorem dX12_plan_88 : decode cX12_plan 88 = .ok (.aload_n 0, 1) := by decide +kernel
theorem dX12_plan_89 : decode cX12_plan 89 = .ok (.getfield 58, 3) := by decide +kernel
theorem dX12_plan_92 : decode cX12_plan 92 = .ok (.iload_n 2, 1) := by decide +kernel
theorem dX12_plan_93 : decode cX12_plan 93 = .ok (.iload_n 3, 1) := by decide +kernel
theorem dX12_plan_94 : decode cX12_plan 94 = .ok (.invokestatic 225, 3) := by decide +kernel
theorem dX12_plan_97 : decode cX12_plan 97 = .ok (.iconst 2, 1) := by decide +kernel
theorem dX12_plan_98 : decode cX12_plan 98 = .ok (.iastore, 1) := by decide +kernel
theorem dX12_plan_99 : decode cX12_plan 99 = .ok (.iinc 3 1, 3) := by decide +kernel
theorem dX12_plan_102 : decode cX12_plan 102 = .ok (.goto (-53), 3) := by decide +kernel
theorem dX12_plan_105 : decode cX12_plan 105 = .ok (.iinc 2 1, 3) := by decide +kernel
theorem dX12_plan_108 : decode cX12_plan 108 = .ok (.goto (-69), 3) := by decide +kernel
theorem dX12_plan_111 : decode cX12_plan 111 = .ok (.iconst 0, 1) := by decide +kernel
theorem dX12_plan_112 : decode cX12_plan 112 = .ok (.istore_n 2, 1) := by decide +kernel
theorem dX12_plan_113 : decode cX12_plan 113 = .ok (.iload_n 2, 1) := by decide +kernel
theorem dX12_plan_114 : decode cX12_plan 114 = .ok (.sipush 288, 3) := by decide +kernel
theorem dX12_plan_117 : decode cX12_plan 117 = .ok (.if_icmp .ge 30, 3) := by decide +kernel
theorem dX12_plan_120 : decode cX12_plan 120 = .ok (.aload_n 0, 1) := by decide +kernel
theorem dX12_plan_121 : decode cX12_plan 121 = .ok (.getfield 43, 3) := by decide +kernel
theorem dX12_plan_124 : decode cX12_plan 124 = .ok (.iload_n 2, 1) := by decide +kernel
theorem dX12_plan_125 : decode cX12_plan 125 = .ok (.aload_n 0, 1) := by decide +kernel
theorem dX12_plan_126 : decode cX12_plan 126 = .ok (.getfield 58, 3) := by decide +kernel
theorem dX12_plan_129 : decode cX12_plan 129 = .ok (.iload_n 2, 1) := by decide +kernel
theorem dX12_plan_130 : decode cX12_plan 130 = .ok (.iaload, 1) := by decide +kernel
theorem dX12_plan_131 : decode cX12_plan 131 = .ok (.iconst 1, 1) := by decide +kernel
theorem dX12_plan_132 : decode cX12_plan 132 = .ok (.if_icmp .ne 7, 3) := by decide +kernel
theorem dX12_plan_135 : decode cX12_plan 135 = .ok (.iconst 1, 1) := by decide +kernel
theorem dX12_plan_136 : decode cX12_plan 136 = .ok (.goto 4, 3) := by decide +kernel
theorem dX12_plan_139 : decode cX12_plan 139 = .ok (.iconst 0, 1) := by decide +kernel
theorem dX12_plan_140 : decode cX12_plan 140 = .ok (.bastore, 1) := by decide +kernel
theorem dX12_plan_141 : decode cX12_plan 141 = .ok (.iinc 2 1, 3) := by decide +kernel
theorem dX12_plan_144 : decode cX12_plan 144 = .ok (.goto (-31), 3) := by decide +kernel
theorem dX12_plan_147 : decode cX12_plan 147 = .ok (.aload_n 0, 1) := by decide +kernel
theorem dX12_plan_148 : decode cX12_plan 148 = .ok (.iconst 1, 1) := by decide +kernel
theorem dX12_plan_149 : decode cX12_plan 149 = .ok (.putfield 243, 3) := by decide +kernel
theorem dX12_plan_152 : decode cX12_plan 152 = .ok (.aload_n 0, 1) := by decide +kernel
theorem dX12_plan_153 : decode cX12_plan 153 = .ok (.aload_n 0, 1) := by decide +kernel
theorem dX12_plan_154 : decode cX12_plan 154 = .ok (.getfield 205, 3) := by decide +kernel
theorem dX12_plan_157 : decode cX12_plan 157 = .ok (.putfield 247, 3) := by decide +kernel
theorem dX12_plan_160 : decode cX12_plan 160 = .ok (.aload_n 0, 1) := by decide +kernel
theorem dX12_plan_161 : decode cX12_plan 161 = .ok (.aload_n 0, 1) := by decide +kernel
theorem dX12_plan_162 : decode cX12_plan 162 = .ok (.getfield 208, 3) := by decide +kernel
theorem dX12_plan_165 : decode cX12_plan 165 = .ok (.putfield 250, 3) := by decide +kernel
theorem dX12_plan_168 : decode cX12_plan 168 = .ok (.iconst 0, 1) := by decide +kernel
theorem dX12_plan_169 : decode cX12_plan 169 = .ok (.istore_n 2, 1) := by decide +kernel
theorem dX12_plan_170 : decode cX12_plan 170 = .ok (.iload_n 2, 1) := by decide +kernel
theorem dX12_plan_171 : decode cX12_plan 171 = .ok (.aload_n 0, 1) := by decide +kernel
theorem dX12_plan_172 : decode cX12_plan 172 = .ok (.getfield 205, 3) := by decide +kernel
theorem dX12_plan_175 : decode cX12_plan 175 = .ok (.if_icmp .ge 70, 3) := by decide +kernel
theorem dX12_plan_178 : decode cX12_plan 178 = .ok (.iconst 0, 1) := by decide +kernel
theorem dX12_plan_179 : decode cX12_plan 179 = .ok (.istore_n 3, 1) := by decide +kernel
theorem dX12_plan_180 : decode cX12_plan 180 = .ok (.iconst 0, 1) := by decide +kernel
theorem dX12_plan_181 : decode cX12_plan 181 = .ok (.istore 4, 2) := by decide +kernel
theorem dX12_plan_183 : decode cX12_plan 183 = .ok (.iload 4, 2) := by decide +kernel
theorem dX12_plan_185 : decode cX12_plan 185 = .ok (.aload_n 0, 1) := by decide +kernel
theorem dX12_plan_186 : decode cX12_plan 186 = .ok (.getfield 208, 3) := by decide +kernel
theorem dX12_plan_189 : decode cX12_plan 189 = .ok (.if_icmp .ge 31, 3) := by decide +kernel
theorem dX12_plan_192 : decode cX12_plan 192 = .ok (.iload_n 3, 1) := by decide +kernel
theorem dX12_plan_193 : decode cX12_plan 193 = .ok (.aload_n 0, 1) := by decide +kernel
theorem dX12_plan_194 : decode cX12_plan 194 = .ok (.getfield 43, 3) := by decide +kernel
theorem dX12_plan_197 : decode cX12_plan 197 = .ok (.iload_n 2, 1) := by decide +kernel
theorem dX12_plan_198 : decode cX12_plan 198 = .ok (.iload 4, 2) := by decide +kernel
theorem dX12_plan_200 : decode cX12_plan 200 = .ok (.invokestatic 225, 3) := by decide +kernel
theorem dX12_plan_203 : decode cX12_plan 203 = .ok (.baload, 1) := by decide +kernel
theorem dX12_plan_204 : decode cX12_plan 204 = .ok (.ifCond .eq 7, 3) := by decide +kernel
theorem dX12_plan_207 : decode cX12_plan 207 = .ok (.iconst 1, 1) := by decide +kernel
theorem dX12_plan_208 : decode cX12_plan 208 = .ok (.goto 4, 3) := by decide +kernel
theorem dX12_plan_211 : decode cX12_plan 211 = .ok (.iconst 0, 1) := by decide +kernel
theorem dX12_plan_212 : decode cX12_plan 212 = .ok (.iadd, 1) := by decide +kernel
theorem dX12_plan_213 : decode cX12_plan 213 = .ok (.istore_n 3, 1) := by decide +kernel
theorem dX12_plan_214 : decode cX12_plan 214 = .ok (.iinc 4 1, 3) := by decide +kernel
theorem dX12_plan_217 : decode cX12_plan 217 = .ok (.goto (-34), 3) := by decide +kernel
theorem dX12_plan_220 : decode cX12_plan 220 = .ok (.aload_n 0, 1) := by decide +kernel
theorem dX12_plan_221 : decode cX12_plan 221 = .ok (.getfield 49, 3) := by decide +kernel
theorem dX12_plan_224 : decode cX12_plan 224 = .ok (.iload_n 2, 1) := by decide +kernel
theorem dX12_plan_225 : decode cX12_plan 225 = .ok (.iload_n 3, 1) := by decide +kernel
theorem dX12_plan_226 : decode cX12_plan 226 = .ok (.aload_n 0, 1) := by decide +kernel
theorem dX12_plan_227 : decode cX12_plan 227 = .ok (.getfield 13, 3) := by decide +kernel
theorem dX12_plan_230 : decode cX12_plan 230 = .ok (.if_icmp .ge 7, 3) := by decide +kernel
theorem dX12_plan_233 : decode cX12_plan 233 = .ok (.iconst 1, 1) := by decide +kernel
theorem dX12_plan_234 : decode cX12_plan 234 = .ok (.goto 4, 3) := by decide +kernel
theorem dX12_plan_237 : decode cX12_plan 237 = .ok (.iconst 0, 1) := by decide +kernel
theorem dX12_plan_238 : decode cX12_plan 238 = .ok (.bastore, 1) := by decide +kernel
theorem dX12_plan_239 : decode cX12_plan 239 = .ok (.iinc 2 1, 3) := by decide +kernel
theorem dX12_plan_242 : decode cX12_plan 242 = .ok (.goto (-72), 3) := by decide +kernel
theorem dX12_plan_245 : decode cX12_plan 245 = .ok (.iconst 1, 1) := by decide +kernel
theorem dX12_plan_246 : decode cX12_plan 246 = .ok (.istore_n 2, 1) := by decide +kernel
theorem dX12_plan_247 : decode cX12_plan 247 = .ok (.iload_n 2, 1) := by decide +kernel
theorem dX12_plan_248 : decode cX12_plan 248 = .ok (.ifCond .eq 134, 3) := by decide +kernel
theorem dX12_plan_251 : decode cX12_plan 251 = .ok (.iconst 0, 1) := by decide +kernel
theorem dX12_plan_252 : decode cX12_plan 252 = .ok (.istore_n 2, 1) := by decide +kernel
theorem dX12_plan_253 : decode cX12_plan 253 = .ok (.iconst 0, 1) := by decide +kernel
theorem dX12_plan_254 : decode cX12_plan 254 = .ok (.istore_n 3, 1) := by decide +kernel
theorem dX12_plan_255 : decode cX12_plan 255 = .ok (.iload_n 3, 1) := by decide +kernel
theorem dX12_plan_256 : decode cX12_plan 256 = .ok (.aload_n 0, 1) := by decide +kernel
theorem dX12_plan_257 : decode cX12_plan 257 = .ok (.getfield 205, 3) := by decide +kernel
theorem dX12_plan_260 : decode cX12_plan 260 = .ok (.if_icmp .ge 119, 3) := by decide +kernel
theorem dX12_plan_263 : decode cX12_plan 263 = .ok (.iconst 0, 1) := by decide +kernel
theorem dX12_plan_264 : decode cX12_plan 264 = .ok (.istore 4, 2) := by decide +kernel
theorem dX12_plan_266 : decode cX12_plan 266 = .ok (.iload 4, 2) := by decide +kernel
theorem dX12_plan_268 : decode cX12_plan 268 = .ok (.aload_n 0, 1) := by decide +kernel
theorem dX12_plan_269 : decode cX12_plan 269 = .ok (.getfield 208, 3) := by decide +kernel
theorem dX12_plan_272 : decode cX12_plan 272 = .ok (.if_icmp .ge 101, 3) := by decide +kernel
theorem dX12_plan_275 : decode cX12_plan 275 = .ok (.aload_n 0, 1) := by decide +kernel
theorem dX12_plan_276 : decode cX12_plan 276 = .ok (.getfield 49, 3) := by decide +kernel
theorem dX12_plan_279 : decode cX12_plan 279 = .ok (.iload_n 3, 1) := by decide +kernel
theorem dX12_plan_280 : decode cX12_plan 280 = .ok (.baload, 1) := by decide +kernel
theorem dX12_plan_281 : decode cX12_plan 281 = .ok (.ifCond .eq 92, 3) := by decide +kernel
theorem dX12_plan_284 : decode cX12_plan 284 = .ok (.aload_n 0, 1) := by decide +kernel
theorem dX12_plan_285 : decode cX12_plan 285 = .ok (.iload 4, 2) := by decide +kernel
theorem dX12_plan_287 : decode cX12_plan 287 = .ok (.iload_n 3, 1) := by decide +kernel
theorem dX12_plan_288 : decode cX12_plan 288 = .ok (.invokevirtual 215, 3) := by decide +kernel
theorem dX12_plan_291 : decode cX12_plan 291 = .ok (.ifCond .eq 76, 3) := by decide +kernel
theorem dX12_plan_294 : decode cX12_plan 294 = .ok (.aload_n 0, 1) := by decide +kernel
theorem dX12_plan_295 : decode cX12_plan 295 = .ok (.getfield 43, 3) := by decide +kernel
theorem dX12_plan_298 : decode cX12_plan 298 = .ok (.iload_n 3, 1) := by decide +kernel
theorem dX12_plan_299 : decode cX12_plan 299 = .ok (.iload 4, 2) := by decide +kernel
theorem dX12_plan_301 : decode cX12_plan 301 = .ok (.invokestatic 225, 3) := by decide +kernel
theorem dX12_plan_304 : decode cX12_plan 304 = .ok (.baload, 1) := by decide +kernel
theorem dX12_plan_305 : decode cX12_plan 305 = .ok (.ifCond .eq 6, 3) := by decide +kernel
theorem dX12_plan_308 : decode cX12_plan 308 = .ok (.goto 59, 3) := by decide +kernel
theorem dX12_plan_311 : decode cX12_plan 311 = .ok (.iconst 0, 1) := by decide +kernel
theorem dX12_plan_312 : decode cX12_plan 312 = .ok (.istore 5, 2) := by decide +kernel
theorem dX12_plan_314 : decode cX12_plan 314 = .ok (.iload 5, 2) := by decide +kernel
theorem dX12_plan_316 : decode cX12_plan 316 = .ok (.aload_n 0, 1) := by decide +kernel
theorem dX12_plan_317 : decode cX12_plan 317 = .ok (.getfield 205, 3) := by decide +kernel
theorem dX12_plan_320 : decode cX12_plan 320 = .ok (.if_icmp .ge 47, 3) := by decide +kernel
theorem dX12_plan_323 : decode cX12_plan 323 = .ok (.aload_n 0, 1) := by decide +kernel
theorem dX12_plan_324 : decode cX12_plan 324 = .ok (.getfield 43, 3) := by decide +kernel
theorem dX12_plan_327 : decode cX12_plan 327 = .ok (.iload 5, 2) := by decide +kernel
theorem dX12_plan_329 : decode cX12_plan 329 = .ok (.iload 4, 2) := by decide +kernel
theorem dX12_plan_331 : decode cX12_plan 331 = .ok (.invokestatic 225, 3) := by decide +kernel
theorem dX12_plan_334 : decode cX12_plan 334 = .ok (.baload, 1) := by decide +kernel
theorem dX12_plan_335 : decode cX12_plan 335 = .ok (.ifCond .eq 26, 3) := by decide +kernel
theorem dX12_plan_338 : decode cX12_plan 338 = .ok (.aload_n 0, 1) := by decide +kernel
theorem dX12_plan_339 : decode cX12_plan 339 = .ok (.getfield 49, 3) := by decide +kernel
theorem dX12_plan_342 : decode cX12_plan 342 = .ok (.iload 5, 2) := by decide +kernel
theorem dX12_plan_344 : decode cX12_plan 344 = .ok (.baload, 1) := by decide +kernel
theorem dX12_plan_345 : decode cX12_plan 345 = .ok (.ifCond .eq 6, 3) := by decide +kernel
theorem dX12_plan_348 : decode cX12_plan 348 = .ok (.goto 13, 3) := by decide +kernel
theorem dX12_plan_351 : decode cX12_plan 351 = .ok (.aload_n 0, 1) := by decide +kernel
theorem dX12_plan_352 : decode cX12_plan 352 = .ok (.getfield 49, 3) := by decide +kernel
theorem dX12_plan_355 : decode cX12_plan 355 = .ok (.iload 5, 2) := by decide +kernel
theorem dX12_plan_357 : decode cX12_plan 357 = .ok (.iconst 1, 1) := by decide +kernel
theorem dX12_plan_358 : decode cX12_plan 358 = .ok (.bastore, 1) := by decide +kernel
theorem dX12_plan_359 : decode cX12_plan 359 = .ok (.iconst 1, 1) := by decide +kernel
theorem dX12_plan_360 : decode cX12_plan 360 = .ok (.istore_n 2, 1) := by decide +kernel
theorem dX12_plan_361 : decode cX12_plan 361 = .ok (.iinc 5 1, 3) := by decide +kernel
theorem dX12_plan_364 : decode cX12_plan 364 = .ok (.goto (-50), 3) := by decide +kernel
theorem dX12_plan_367 : decode cX12_plan 367 = .ok (.iinc 4 1, 3) := by decide +kernel
theorem dX12_plan_370 : decode cX12_plan 370 = .ok (.goto (-104), 3) := by decide +kernel
theorem dX12_plan_373 : decode cX12_plan 373 = .ok (.iinc 3 1, 3) := by decide +kernel
theorem dX12_plan_376 : decode cX12_plan 376 = .ok (.goto (-121), 3) := by decide +kernel
theorem dX12_plan_379 : decode cX12_plan 379 = .ok (.goto (-132), 3) := by decide +kernel
theorem dX12_plan_382 : decode cX12_plan 382 = .ok (.aload_n 0, 1) := by decide +kernel
theorem dX12_plan_383 : decode cX12_plan 383 = .ok (.getfield 13, 3) := by decide +kernel
theorem dX12_plan_386 : decode cX12_plan 386 = .ok (.aload_n 0, 1) := by decide +kernel
theorem dX12_plan_387 : decode cX12_plan 387 = .ok (.getfield 205, 3) := by decide +kernel
theorem dX12_plan_390 : decode cX12_plan 390 = .ok (.imul, 1) := by decide +kernel
theorem dX12_plan_391 : decode cX12_plan 391 = .ok (.iload_n 1, 1) := by decide +kernel
theorem dX12_plan_392 : decode cX12_plan 392 = .ok (.isub, 1) := by decide +kernel
theorem dX12_plan_393 : decode cX12_plan 393 = .ok (.ireturn, 1) := by decide +kernel
theorem dX12_sees_0 : decode cX12_sees 0 = .ok (.aload_n 0, 1) := by decide +kernel
theorem dX12_sees_1 : decode cX12_sees 1 = .ok (.iconst 0, 1) := by decide +kernel
theorem dX12_sees_2 : decode cX12_sees 2 = .ok (.putfield 195, 3) := by decide +kernel
theorem dX12_sees_5 : decode cX12_sees 5 = .ok (.aload_n 0, 1) := by decide +kernel
theorem dX12_sees_6 : decode cX12_sees 6 = .ok (.iconst 0, 1) := by decide +kernel
theorem dX12_sees_7 : decode cX12_sees 7 = .ok (.putfield 198, 3) := by decide +kernel
theorem dX12_sees_10 : decode cX12_sees 10 = .ok (.aload_n 0, 1) := by decide +kernel
theorem dX12_sees_11 : decode cX12_sees 11 = .ok (.getfield 243, 3) := by decide +kernel
theorem dX12_sees_14 : decode cX12_sees 14 = .ok (.ifCond .ne 9, 3) := by decide +kernel
theorem dX12_sees_17 : decode cX12_sees 17 = .ok (.aload_n 0, 1) := by decide +kernel
theorem dX12_sees_18 : decode cX12_sees 18 = .ok (.iconst 4, 1) := by decide +kernel
theorem dX12_sees_19 : decode cX12_sees 19 = .ok (.invokevirtual 201, 3) := by decide +kernel
theorem dX12_sees_22 : decode cX12_sees 22 = .ok (.ireturn, 1) := by decide +kernel
theorem dX12_sees_23 : decode cX12_sees 23 = .ok (.iload_n 1, 1) := by decide +kernel
theorem dX12_sees_24 : decode cX12_sees 24 = .ok (.ifCond .lt 23, 3) := by decide +kernel
theorem dX12_sees_27 : decode cX12_sees 27 = .ok (.iload_n 1, 1) := by decide +kernel
theorem dX12_sees_28 : decode cX12_sees 28 = .ok (.aload_n 0, 1) := by decide +kernel
theorem dX12_sees_29 : decode cX12_sees 29 = .ok (.getfield 250, 3) := by decide +kernel
theorem dX12_sees_32 : decode cX12_sees 32 = .ok (.if_icmp .ge 15, 3) := by decide +kernel
theorem dX12_sees_35 : decode cX12_sees 35 = .ok (.iload_n 2, 1) := by decide +kernel
theorem dX12_sees_36 : decode cX12_sees 36 = .ok (.ifCond .lt 11, 3) := by decide +kernel
theorem dX12_sees_39 : decode cX12_sees 39 = .ok (.iload_n 2, 1) := by decide +kernel
theorem dX12_sees_40 : decode cX12_sees 40 = .ok (.aload_n 0, 1) := by decide +kernel
theorem dX12_sees_41 : decode cX12_sees 41 = .ok (.getfield 247, 3) := by decide +kernel
theorem dX12_sees_44 : decode cX12_sees 44 = .ok (.if_icmp .lt 9, 3) := by decide +kernel
theorem dX12_sees_47 : decode cX12_sees 47 = .ok (.aload_n 0, 1) := by decide +kernel
theorem dX12_sees_48 : decode cX12_sees 48 = .ok (.iconst 1, 1) := by decide +kernel
theorem dX12_sees_49 : decode cX12_sees 49 = .ok (.invokevirtual 201, 3) := by decide +kernel
theorem dX12_sees_52 : decode cX12_sees 52 = .ok (.ireturn, 1) := by decide +kernel
theorem dX12_sees_53 : decode cX12_sees 53 = .ok (.aload_n 0, 1) := by decide +kernel
theorem dX12_sees_54 : decode cX12_sees 54 = .ok (.getfield 43, 3) := by decide +kernel
theorem dX12_sees_57 : decode cX12_sees 57 = .ok (.iload_n 2, 1) := by decide +kernel
theorem dX12_sees_58 : decode cX12_sees 58 = .ok (.iload_n 1, 1) := by decide +kernel
theorem dX12_sees_59 : decode cX12_sees 59 = .ok (.invokestatic 225, 3) := by decide +kernel
theorem dX12_sees_62 : decode cX12_sees 62 = .ok (.baload, 1) := by decide +kernel
theorem dX12_sees_63 : decode cX12_sees 63 = .ok (.ifCond .eq 7, 3) := by decide +kernel
theorem dX12_sees_66 : decode cX12_sees 66 = .ok (.iconst 1, 1) := by decide +kernel
theorem dX12_sees_67 : decode cX12_sees 67 = .ok (.goto 4, 3) := by decide +kernel
theorem dX12_sees_70 : decode cX12_sees 70 = .ok (.iconst 0, 1) := by decide +kernel
theorem dX12_sees_71 : decode cX12_sees 71 = .ok (.ireturn, 1) := by decide +kernel
theorem dX12_holds_0 : decode cX12_holds 0 = .ok (.aload_n 0, 1) := by decide +kernel
theorem dX12_holds_1 : decode cX12_holds 1 = .ok (.iconst 0, 1) := by decide +kernel
theorem dX12_holds_2 : decode cX12_holds 2 = .ok (.putfield 195, 3) := by decide +kernel
theorem dX12_holds_5 : decode cX12_holds 5 = .ok (.aload_n 0, 1) := by decide +kernel
theorem dX12_holds_6 : decode cX12_holds 6 = .ok (.iconst 0, 1) := by decide +kernel
theorem dX12_holds_7 : decode cX12_holds 7 = .ok (.putfield 198, 3) := by decide +kernel
theorem dX12_holds_10 : decode cX12_holds 10 = .ok (.aload_n 0, 1) := by decide +kernel
theorem dX12_holds_11 : decode cX12_holds 11 = .ok (.getfield 243, 3) := by decide +kernel
theorem dX12_holds_14 : decode cX12_holds 14 = .ok (.ifCond .ne 9, 3) := by decide +kernel
theorem dX12_holds_17 : decode cX12_holds 17 = .ok (.aload_n 0, 1) := by decide +kernel
theorem dX12_holds_18 : decode cX12_holds 18 = .ok (.iconst 4, 1) := by decide +kernel
theorem dX12_holds_19 : decode cX12_holds 19 = .ok (.invokevirtual 201, 3) := by decide +kernel
theorem dX12_holds_22 : decode cX12_holds 22 = .ok (.ireturn, 1) := by decide +kernel
theorem dX12_holds_23 : decode cX12_holds 23 = .ok (.iload_n 1, 1) := by decide +kernel
theorem dX12_holds_24 : decode cX12_holds 24 = .ok (.ifCond .lt 11, 3) := by decide +kernel
theorem dX12_holds_27 : decode cX12_holds 27 = .ok (.iload_n 1, 1) := by decide +kernel
theorem dX12_holds_28 : decode cX12_holds 28 = .ok (.aload_n 0, 1) := by decide +kernel
theorem dX12_holds_29 : decode cX12_holds 29 = .ok (.getfield 247, 3) := by decide +kernel
theorem dX12_holds_32 : decode cX12_holds 32 = .ok (.if_icmp .lt 9, 3) := by decide +kernel
theorem dX12_holds_35 : decode cX12_holds 35 = .ok (.aload_n 0, 1) := by decide +kernel
theorem dX12_holds_36 : decode cX12_holds 36 = .ok (.iconst 1, 1) := by decide +kernel
theorem dX12_holds_37 : decode cX12_holds 37 = .ok (.invokevirtual 201, 3) := by decide +kernel
theorem dX12_holds_40 : decode cX12_holds 40 = .ok (.ireturn, 1) := by decide +kernel
theorem dX12_holds_41 : decode cX12_holds 41 = .ok (.aload_n 0, 1) := by decide +kernel
theorem dX12_holds_42 : decode cX12_holds 42 = .ok (.getfield 49, 3) := by decide +kernel
theorem dX12_holds_45 : decode cX12_holds 45 = .ok (.iload_n 1, 1) := by decide +kernel
theorem dX12_holds_46 : decode cX12_holds 46 = .ok (.baload, 1) := by decide +kernel
theorem dX12_holds_47 : decode cX12_holds 47 = .ok (.ifCond .eq 7, 3) := by decide +kernel
theorem dX12_holds_50 : decode cX12_holds 50 = .ok (.iconst 1, 1) := by decide +kernel
theorem dX12_holds_51 : decode cX12_holds 51 = .ok (.goto 4, 3) := by decide +kernel
theorem dX12_holds_54 : decode cX12_holds 54 = .ok (.iconst 0, 1) := by decide +kernel
theorem dX12_holds_55 : decode cX12_holds 55 = .ok (.ireturn, 1) := by decide +kernel
theorem dX12_isDay_0 : decode cX12_isDay 0 = .ok (.iload_n 0, 1) := by decide +kernel
theorem dX12_isDay_1 : decode cX12_isDay 1 = .ok (.ifCond .lt 14, 3) := by decide +kernel
theorem dX12_isDay_4 : decode cX12_isDay 4 = .ok (.iload_n 0, 1) := by decide +kernel
theorem dX12_isDay_5 : decode cX12_isDay 5 = .ok (.sipush 999, 3) := by decide +kernel
theorem dX12_isDay_8 : decode cX12_isDay 8 = .ok (.if_icmp .gt 7, 3) := by decide +kernel
theorem dX12_isDay_11 : decode cX12_isDay 11 = .ok (.iconst 1, 1) := by decide +kernel
theorem dX12_isDay_12 : decode cX12_isDay 12 = .ok (.goto 4, 3) := by decide +kernel
theorem dX12_isDay_15 : decode cX12_isDay 15 = .ok (.iconst 0, 1) := by decide +kernel
theorem dX12_isDay_16 : decode cX12_isDay 16 = .ok (.ireturn, 1) := by decide +kernel
theorem dX12_mark_0 : decode cX12_mark 0 = .ok (.aload_n 0, 1) := by decide +kernel
theorem dX12_mark_1 : decode cX12_mark 1 = .ok (.iconst 0, 1) := by decide +kernel
theorem dX12_mark_2 : decode cX12_mark 2 = .ok (.putfield 195, 3) := by decide +kernel
theorem dX12_mark_5 : decode cX12_mark 5 = .ok (.aload_n 0, 1) := by decide +kernel
theorem dX12_mark_6 : decode cX12_mark 6 = .ok (.iconst 0, 1) := by decide +kernel
theorem dX12_mark_7 : decode cX12_mark 7 = .ok (.putfield 198, 3) := by decide +kernel
theorem dX12_mark_10 : decode cX12_mark 10 = .ok (.aload_n 0, 1) := by decide +kernel
theorem dX12_mark_11 : decode cX12_mark 11 = .ok (.iload_n 1, 1) := by decide +kernel
theorem dX12_mark_12 : decode cX12_mark 12 = .ok (.invokevirtual 219, 3) := by decide +kernel
theorem dX12_mark_15 : decode cX12_mark 15 = .ok (.ifCond .eq 11, 3) := by decide +kernel
theorem dX12_mark_18 : decode cX12_mark 18 = .ok (.aload_n 0, 1) := by decide +kernel
theorem dX12_mark_19 : decode cX12_mark 19 = .ok (.iload_n 2, 1) := by decide +kernel
theorem dX12_mark_20 : decode cX12_mark 20 = .ok (.invokevirtual 211, 3) := by decide +kernel
theorem dX12_mark_23 : decode cX12_mark 23 = .ok (.ifCond .ne 9, 3) := by decide +kernel
theorem dX12_mark_26 : decode cX12_mark 26 = .ok (.aload_n 0, 1) := by decide +kernel
theorem dX12_mark_27 : decode cX12_mark 27 = .ok (.iconst 1, 1) := by decide +kernel
theorem dX12_mark_28 : decode cX12_mark 28 = .ok (.invokevirtual 201, 3) := by decide +kernel
theorem dX12_mark_31 : decode cX12_mark 31 = .ok (.ireturn, 1) := by decide +kernel
theorem dX12_mark_32 : decode cX12_mark 32 = .ok (.iload_n 3, 1) := by decide +kernel
theorem dX12_mark_33 : decode cX12_mark 33 = .ok (.ifCond .lt 17, 3) := by decide +kernel
theorem dX12_mark_36 : decode cX12_mark 36 = .ok (.iload_n 3, 1) := by decide +kernel
theorem dX12_mark_37 : decode cX12_mark 37 = .ok (.bipush 100, 2) := by decide +kernel
theorem dX12_mark_39 : decode cX12_mark 39 = .ok (.if_icmp .gt 11, 3) := by decide +kernel
theorem dX12_mark_42 : decode cX12_mark 42 = .ok (.iload 4, 2) := by decide +kernel
theorem dX12_mark_44 : decode cX12_mark 44 = .ok (.invokestatic 253, 3) := by decide +kernel
theorem dX12_mark_47 : decode cX12_mark 47 = .ok (.ifCond .ne 9, 3) := by decide +kernel
theorem dX12_mark_50 : decode cX12_mark 50 = .ok (.aload_n 0, 1) := by decide +kernel
theorem dX12_mark_51 : decode cX12_mark 51 = .ok (.iconst 2, 1) := by decide +kernel
theorem dX12_mark_52 : decode cX12_mark 52 = .ok (.invokevirtual 201, 3) := by decide +kernel
theorem dX12_mark_55 : decode cX12_mark 55 = .ok (.ireturn, 1) := by decide +kernel
theorem dX12_mark_56 : decode cX12_mark 56 = .ok (.aload_n 0, 1) := by decide +kernel
theorem dX12_mark_57 : decode cX12_mark 57 = .ok (.getfield 256, 3) := by decide +kernel
theorem dX12_mark_60 : decode cX12_mark 60 = .ok (.sipush 200, 3) := by decide +kernel
theorem dX12_mark_63 : decode cX12_mark 63 = .ok (.if_icmp .ne 9, 3) := by decide +kernel
theorem dX12_mark_66 : decode cX12_mark 66 = .ok (.aload_n 0, 1) := by decide +kernel
theorem dX12_mark_67 : decode cX12_mark 67 = .ok (.iconst 3, 1) := by decide +kernel
theorem dX12_mark_68 : decode cX12_mark 68 = .ok (.invokevirtual 201, 3) := by decide +kernel
theorem dX12_mark_71 : decode cX12_mark 71 = .ok (.ireturn, 1) := by decide +kernel
theorem dX12_mark_72 : decode cX12_mark 72 = .ok (.aload_n 0, 1) := by decide +kernel
theorem dX12_mark_73 : decode cX12_mark 73 = .ok (.getfield 76, 3) := by decide +kernel
theorem dX12_mark_76 : decode cX12_mark 76 = .ok (.aload_n 0, 1) := by decide +kernel
theorem dX12_mark_77 : decode cX12_mark 77 = .ok (.getfield 256, 3) := by decide +kernel
theorem dX12_mark_80 : decode cX12_mark 80 = .ok (.iload_n 1, 1) := by decide +kernel
theorem dX12_mark_81 : decode cX12_mark 81 = .ok (.iastore, 1) := by decide +kernel
theorem dX12_mark_82 : decode cX12_mark 82 = .ok (.aload_n 0, 1) := by decide +kernel
theorem dX12_mark_83 : decode cX12_mark 83 = .ok (.getfield 79, 3) := by decide +kernel
theorem dX12_mark_86 : decode cX12_mark 86 = .ok (.aload_n 0, 1) := by decide +kernel
theorem dX12_mark_87 : decode cX12_mark 87 = .ok (.getfield 256, 3) := by decide +kernel
theorem dX12_mark_90 : decode cX12_mark 90 = .ok (.iload_n 2, 1) := by decide +kernel
theorem dX12_mark_91 : decode cX12_mark 91 = .ok (.iastore, 1) := by decide +kernel
theorem dX12_mark_92 : decode cX12_mark 92 = .ok (.aload_n 0, 1) := by decide +kernel
theorem dX12_mark_93 : decode cX12_mark 93 = .ok (.getfield 82, 3) := by decide +kernel
theorem dX12_mark_96 : decode cX12_mark 96 = .ok (.aload_n 0, 1) := by decide +kernel
theorem dX12_mark_97 : decode cX12_mark 97 = .ok (.getfield 256, 3) := by decide +kernel
theorem dX12_mark_100 : decode cX12_mark 100 = .ok (.iload_n 3, 1) := by decide +kernel
theorem dX12_mark_101 : decode cX12_mark 101 = .ok (.iastore, 1) := by decide +kernel
theorem dX12_mark_102 : decode cX12_mark 102 = .ok (.aload_n 0, 1) := by decide +kernel
theorem dX12_mark_103 : decode cX12_mark 103 = .ok (.getfield 85, 3) := by decide +kernel
theorem dX12_mark_106 : decode cX12_mark 106 = .ok (.aload_n 0, 1) := by decide +kernel
theorem dX12_mark_107 : decode cX12_mark 107 = .ok (.getfield 256, 3) := by decide +kernel
theorem dX12_mark_110 : decode cX12_mark 110 = .ok (.iload 4, 2) := by decide +kernel
theorem dX12_mark_112 : decode cX12_mark 112 = .ok (.iastore, 1) := by decide +kernel
theorem dX12_mark_113 : decode cX12_mark 113 = .ok (.aload_n 0, 1) := by decide +kernel
theorem dX12_mark_114 : decode cX12_mark 114 = .ok (.getfield 88, 3) := by decide +kernel
theorem dX12_mark_117 : decode cX12_mark 117 = .ok (.aload_n 0, 1) := by decide +kernel
theorem dX12_mark_118 : decode cX12_mark 118 = .ok (.getfield 256, 3) := by decide +kernel
theorem dX12_mark_121 : decode cX12_mark 121 = .ok (.iconst (-1), 1) := by decide +kernel
theorem dX12_mark_122 : decode cX12_mark 122 = .ok (.iastore, 1) := by decide +kernel
theorem dX12_mark_123 : decode cX12_mark 123 = .ok (.aload_n 0, 1) := by decide +kernel
theorem dX12_mark_124 : decode cX12_mark 124 = .ok (.dup, 1) := by decide +kernel
theorem dX12_mark_125 : decode cX12_mark 125 = .ok (.getfield 256, 3) := by decide +kernel
theorem dX12_mark_128 : decode cX12_mark 128 = .ok (.iconst 1, 1) := by decide +kernel
theorem dX12_mark_129 : decode cX12_mark 129 = .ok (.iadd, 1) := by decide +kernel
theorem dX12_mark_130 : decode cX12_mark 130 = .ok (.putfield 256, 3) := by decide +kernel
theorem dX12_mark_133 : decode cX12_mark 133 = .ok (.aload_n 0, 1) := by decide +kernel
theorem dX12_mark_134 : decode cX12_mark 134 = .ok (.getfield 256, 3) := by decide +kernel
theorem dX12_mark_137 : decode cX12_mark 137 = .ok (.iconst 1, 1) := by decide +kernel
theorem dX12_mark_138 : decode cX12_mark 138 = .ok (.isub, 1) := by decide +kernel
theorem dX12_mark_139 : decode cX12_mark 139 = .ok (.ireturn, 1) := by decide +kernel
theorem dX12_lose_0 : decode cX12_lose 0 = .ok (.aload_n 0, 1) := by decide +kernel
theorem dX12_lose_1 : decode cX12_lose 1 = .ok (.iconst 0, 1) := by decide +kernel
theorem dX12_lose_2 : decode cX12_lose 2 = .ok (.putfield 195, 3) := by decide +kernel
theorem dX12_lose_5 : decode cX12_lose 5 = .ok (.aload_n 0, 1) := by decide +kernel
theorem dX12_lose_6 : decode cX12_lose 6 = .ok (.iconst 0, 1) := by decide +kernel
theorem dX12_lose_7 : decode cX12_lose 7 = .ok (.putfield 198, 3) := by decide +kernel
theorem dX12_lose_10 : decode cX12_lose 10 = .ok (.iload_n 1, 1) := by decide +kernel
theorem dX12_lose_11 : decode cX12_lose 11 = .ok (.ifCond .lt 11, 3) := by decide +kernel
theorem dX12_lose_14 : decode cX12_lose 14 = .ok (.iload_n 1, 1) := by decide +kernel
theorem dX12_lose_15 : decode cX12_lose 15 = .ok (.aload_n 0, 1) := by decide +kernel
theorem dX12_lose_16 : decode cX12_lose 16 = .ok (.getfield 256, 3) := by decide +kernel
theorem dX12_lose_19 : decode cX12_lose 19 = .ok (.if_icmp .lt 9, 3) := by decide +kernel
theorem dX12_lose_22 : decode cX12_lose 22 = .ok (.aload_n 0, 1) := by decide +kernel
theorem dX12_lose_23 : decode cX12_lose 23 = .ok (.iconst 1, 1) := by decide +kernel
theorem dX12_lose_24 : decode cX12_lose 24 = .ok (.invokevirtual 222, 3) := by decide +kernel
theorem dX12_lose_27 : decode cX12_lose 27 = .ok (.ireturn, 1) := by decide +kernel
theorem dX12_lose_28 : decode cX12_lose 28 = .ok (.iload_n 2, 1) := by decide +kernel
theorem dX12_lose_29 : decode cX12_lose 29 = .ok (.invokestatic 253, 3) := by decide +kernel
theorem dX12_lose_32 : decode cX12_lose 32 = .ok (.ifCond .ne 9, 3) := by decide +kernel
theorem dX12_lose_35 : decode cX12_lose 35 = .ok (.aload_n 0, 1) := by decide +kernel
theorem dX12_lose_36 : decode cX12_lose 36 = .ok (.iconst 2, 1) := by decide +kernel
theorem dX12_lose_37 : decode cX12_lose 37 = .ok (.invokevirtual 222, 3) := by decide +kernel
theorem dX12_lose_40 : decode cX12_lose 40 = .ok (.ireturn, 1) := by decide +kernel
theorem dX12_lose_41 : decode cX12_lose 41 = .ok (.aload_n 0, 1) := by decide +kernel
theorem dX12_lose_42 : decode cX12_lose 42 = .ok (.getfield 88, 3) := by decide +kernel
theorem dX12_lose_45 : decode cX12_lose 45 = .ok (.iload_n 1, 1) := by decide +kernel
theorem dX12_lose_46 : decode cX12_lose 46 = .ok (.iaload, 1) := by decide +kernel
theorem dX12_lose_47 : decode cX12_lose 47 = .ok (.ifCond .lt 9, 3) := by decide +kernel
theorem dX12_lose_50 : decode cX12_lose 50 = .ok (.aload_n 0, 1) := by decide +kernel
theorem dX12_lose_51 : decode cX12_lose 51 = .ok (.iconst 5, 1) := by decide +kernel
theorem dX12_lose_52 : decode cX12_lose 52 = .ok (.invokevirtual 222, 3) := by decide +kernel
theorem dX12_lose_55 : decode cX12_lose 55 = .ok (.ireturn, 1) := by decide +kernel
theorem dX12_lose_56 : decode cX12_lose 56 = .ok (.aload_n 0, 1) := by decide +kernel
theorem dX12_lose_57 : decode cX12_lose 57 = .ok (.getfield 88, 3) := by decide +kernel
theorem dX12_lose_60 : decode cX12_lose 60 = .ok (.iload_n 1, 1) := by decide +kernel
theorem dX12_lose_61 : decode cX12_lose 61 = .ok (.iload_n 2, 1) := by decide +kernel
theorem dX12_lose_62 : decode cX12_lose 62 = .ok (.iastore, 1) := by decide +kernel
theorem dX12_lose_63 : decode cX12_lose 63 = .ok (.iconst 1, 1) := by decide +kernel
theorem dX12_lose_64 : decode cX12_lose 64 = .ok (.ireturn, 1) := by decide +kernel
theorem dX12_known_0 : decode cX12_known 0 = .ok (.iconst 0, 1) := by decide +kernel
theorem dX12_known_1 : decode cX12_known 1 = .ok (.istore_n 2, 1) := by decide +kernel
theorem dX12_known_2 : decode cX12_known 2 = .ok (.iload_n 2, 1) := by decide +kernel
theorem dX12_known_3 : decode cX12_known 3 = .ok (.sipush 288, 3) := by decide +kernel
theorem dX12_known_6 : decode cX12_known 6 = .ok (.if_icmp .ge 16, 3) := by decide +kernel
theorem dX12_known_9 : decode cX12_known 9 = .ok (.aload_n 0, 1) := by decide +kernel
theorem dX12_known_10 : decode cX12_known 10 = .ok (.getfield 91, 3) := by decide +kernel
theorem dX12_known_13 : decode cX12_known 13 = .ok (.iload_n 2, 1) := by decide +kernel
theorem dX12_known_14 : decode cX12_known 14 = .ok (.iconst (-1), 1) := by decide +kernel
theorem dX12_known_15 : decode cX12_known 15 = .ok (.iastore, 1) := by decide +kernel
theorem dX12_known_16 : decode cX12_known 16 = .ok (.iinc 2 1, 3) := by decide +kernel
theorem dX12_known_19 : decode cX12_known 19 = .ok (.goto (-17), 3) := by decide +kernel
theorem dX12_known_22 : decode cX12_known 22 = .ok (.iconst 0, 1) := by decide +kernel
theorem dX12_known_23 : decode cX12_known 23 = .ok (.istore_n 2, 1) := by decide +kernel
theorem dX12_known_24 : decode cX12_known 24 = .ok (.iload_n 2, 1) := by decide +kernel
theorem dX12_known_25 : decode cX12_known 25 = .ok (.aload_n 0, 1) := by decide +kernel
theorem dX12_known_26 : decode cX12_known 26 = .ok (.getfield 256, 3) := by decide +kernel
theorem dX12_known_29 : decode cX12_known 29 = .ok (.if_icmp .ge 93, 3) := by decide +kernel
theorem dX12_known_32 : decode cX12_known 32 = .ok (.aload_n 0, 1) := by decide +kernel
theorem dX12_known_33 : decode cX12_known 33 = .ok (.getfield 85, 3) := by decide +kernel
theorem dX12_known_36 : decode cX12_known 36 = .ok (.iload_n 2, 1) := by decide +kernel
theorem dX12_known_37 : decode cX12_known 37 = .ok (.iaload, 1) := by decide +kernel
theorem dX12_known_38 : decode cX12_known 38 = .ok (.iload_n 1, 1) := by decide +kernel
theorem dX12_known_39 : decode cX12_known 39 = .ok (.if_icmp .gt 77, 3) := by decide +kernel
theorem dX12_known_42 : decode cX12_known 42 = .ok (.aload_n 0, 1) := by decide +kernel
theorem dX12_known_43 : decode cX12_known 43 = .ok (.getfield 88, 3) := by decide +kernel
theorem dX12_known_46 : decode cX12_known 46 = .ok (.iload_n 2, 1) := by decide +kernel
theorem dX12_known_47 : decode cX12_known 47 = .ok (.iaload, 1) := by decide +kernel
theorem dX12_known_48 : decode cX12_known 48 = .ok (.ifCond .lt 16, 3) := by decide +kernel
theorem dX12_known_51 : decode cX12_known 51 = .ok (.aload_n 0, 1) := by decide +kernel
theorem dX12_known_52 : decode cX12_known 52 = .ok (.getfield 88, 3) := by decide +kernel
theorem dX12_known_55 : decode cX12_known 55 = .ok (.iload_n 2, 1) := by decide +kernel
theorem dX12_known_56 : decode cX12_known 56 = .ok (.iaload, 1) := by decide +kernel
theorem dX12_known_57 : decode cX12_known 57 = .ok (.iload_n 1, 1) := by decide +kernel
theorem dX12_known_58 : decode cX12_known 58 = .ok (.if_icmp .gt 6, 3) := by decide +kernel
theorem dX12_known_61 : decode cX12_known 61 = .ok (.goto 55, 3) := by decide +kernel
theorem dX12_known_64 : decode cX12_known 64 = .ok (.aload_n 0, 1) := by decide +kernel
theorem dX12_known_65 : decode cX12_known 65 = .ok (.getfield 79, 3) := by decide +kernel
theorem dX12_known_68 : decode cX12_known 68 = .ok (.iload_n 2, 1) := by decide +kernel
theorem dX12_known_69 : decode cX12_known 69 = .ok (.iaload, 1) := by decide +kernel
theorem dX12_known_70 : decode cX12_known 70 = .ok (.aload_n 0, 1) := by decide +kernel
theorem dX12_known_71 : decode cX12_known 71 = .ok (.getfield 76, 3) := by decide +kernel
theorem dX12_known_74 : decode cX12_known 74 = .ok (.iload_n 2, 1) := by decide +kernel
theorem dX12_known_75 : decode cX12_known 75 = .ok (.iaload, 1) := by decide +kernel
theorem dX12_known_76 : decode cX12_known 76 = .ok (.invokestatic 225, 3) := by decide +kernel
theorem dX12_known_79 : decode cX12_known 79 = .ok (.istore_n 3, 1) := by decide +kernel
theorem dX12_known_80 : decode cX12_known 80 = .ok (.aload_n 0, 1) := by decide +kernel
theorem dX12_known_81 : decode cX12_known 81 = .ok (.getfield 91, 3) := by decide +kernel
theorem dX12_known_84 : decode cX12_known 84 = .ok (.iload_n 3, 1) := by decide +kernel
theorem dX12_known_85 : decode cX12_known 85 = .ok (.iaload, 1) := by decide +kernel
theorem dX12_known_86 : decode cX12_known 86 = .ok (.ifCond .lt 23, 3) := by decide +kernel
theorem dX12_known_89 : decode cX12_known 89 = .ok (.aload_n 0, 1) := by decide +kernel
theorem dX12_known_90 : decode cX12_known 90 = .ok (.getfield 85, 3) := by decide +kernel
theorem dX12_known_93 : decode cX12_known 93 = .ok (.iload_n 2, 1) := by decide +kernel
theorem dX12_known_94 : decode cX12_known 94 = .ok (.iaload, 1) := by decide +kernel
theorem dX12_known_95 : decode cX12_known 95 = .ok (.aload_n 0, 1) := by decide +kernel
theorem dX12_known_96 : decode cX12_known 96 = .ok (.getfield 85, 3) := by decide +kernel
theorem dX12_known_99 : decode cX12_known 99 = .ok (.aload_n 0, 1) := by decide +kernel
theorem dX12_known_100 : decode cX12_known 100 = .ok (.getfield 91, 3) := by decide +kernel
theorem dX12_known_103 : decode cX12_known 103 = .ok (.iload_n 3, 1) := by decide +kernel
theorem dX12_known_104 : decode cX12_known 104 = .ok (.iaload, 1) := by decide +kernel
theorem dX12_known_105 : decode cX12_known 105 = .ok (.iaload, 1) := by decide +kernel
theorem dX12_known_106 : decode cX12_known 106 = .ok (.if_icmp .lt 10, 3) := by decide +kernel
theorem dX12_known_109 : decode cX12_known 109 = .ok (.aload_n 0, 1) := by decide +kernel
theorem dX12_known_110 : decode cX12_known 110 = .ok (.getfield 91, 3) := by decide +kernel
theorem dX12_known_113 : decode cX12_known 113 = .ok (.iload_n 3, 1) := by decide +kernel
theorem dX12_known_114 : decode cX12_known 114 = .ok (.iload_n 2, 1) := by decide +kernel
theorem dX12_known_115 : decode cX12_known 115 = .ok (.iastore, 1) := by decide +kernel
theorem dX12_known_116 : decode cX12_known 116 = .ok (.iinc 2 1, 3) := by decide +kernel
theorem dX12_known_119 : decode cX12_known 119 = .ok (.goto (-95), 3) := by decide +kernel
theorem dX12_known_122 : decode cX12_known 122 = .ok (.iconst 0, 1) := by decide +kernel
theorem dX12_known_123 : decode cX12_known 123 = .ok (.istore_n 2, 1) := by decide +kernel
theorem dX12_known_124 : decode cX12_known 124 = .ok (.iload_n 2, 1) := by decide +kernel
theorem dX12_known_125 : decode cX12_known 125 = .ok (.aload_n 0, 1) := by decide +kernel
theorem dX12_known_126 : decode cX12_known 126 = .ok (.getfield 208, 3) := by decide +kernel
theorem dX12_known_129 : decode cX12_known 129 = .ok (.if_icmp .ge 52, 3) := by decide +kernel
theorem dX12_known_132 : decode cX12_known 132 = .ok (.aload_n 0, 1) := by decide +kernel
theorem dX12_known_133 : decode cX12_known 133 = .ok (.getfield 94, 3) := by decide +kernel
theorem dX12_known_136 : decode cX12_known 136 = .ok (.iload_n 2, 1) := by decide +kernel
theorem dX12_known_137 : decode cX12_known 137 = .ok (.iconst (-1), 1) := by decide +kernel
theorem dX12_known_138 : decode cX12_known 138 = .ok (.iastore, 1) := by decide +kernel
theorem dX12_known_139 : decode cX12_known 139 = .ok (.iconst 0, 1) := by decide +kernel
theorem dX12_known_140 : decode cX12_known 140 = .ok (.istore_n 3, 1) := by decide +kernel
theorem dX12_known_141 : decode cX12_known 141 = .ok (.iload_n 3, 1) := by decide +kernel
theorem dX12_known_142 : decode cX12_known 142 = .ok (.aload_n 0, 1) := by decide +kernel
theorem dX12_known_143 : decode cX12_known 143 = .ok (.getfield 205, 3) := by decide +kernel
theorem dX12_known_146 : decode cX12_known 146 = .ok (.if_icmp .ge 29, 3) := by decide +kernel
theorem dX12_known_149 : decode cX12_known 149 = .ok (.aload_n 0, 1) := by decide +kernel
theorem dX12_known_150 : decode cX12_known 150 = .ok (.getfield 91, 3) := by decide +kernel
theorem dX12_known_153 : decode cX12_known 153 = .ok (.iload_n 3, 1) := by decide +kernel
theorem dX12_known_154 : decode cX12_known 154 = .ok (.iload_n 2, 1) := by decide +kernel
theorem dX12_known_155 : decode cX12_known 155 = .ok (.invokestatic 225, 3) := by decide +kernel
theorem dX12_known_158 : decode cX12_known 158 = .ok (.iaload, 1) := by decide +kernel
theorem dX12_known_159 : decode cX12_known 159 = .ok (.ifCond .lt 10, 3) := by decide +kernel
theorem dX12_known_162 : decode cX12_known 162 = .ok (.aload_n 0, 1) := by decide +kernel
theorem dX12_known_163 : decode cX12_known 163 = .ok (.getfield 94, 3) := by decide +kernel
theorem dX12_known_166 : decode cX12_known 166 = .ok (.iload_n 2, 1) := by decide +kernel
theorem dX12_known_167 : decode cX12_known 167 = .ok (.iload_n 2, 1) := by decide +kernel
theorem dX12_known_168 : decode cX12_known 168 = .ok (.iastore, 1) := by decide +kernel
theorem dX12_known_169 : decode cX12_known 169 = .ok (.iinc 3 1, 3) := by decide +kernel
theorem dX12_known_172 : decode cX12_known 172 = .ok (.goto (-31), 3) := by decide +kernel
theorem dX12_known_175 : decode cX12_known 175 = .ok (.iinc 2 1, 3) := by decide +kernel
theorem dX12_known_178 : decode cX12_known 178 = .ok (.goto (-54), 3) := by decide +kernel
theorem dX12_known_181 : decode cX12_known 181 = .ok (.iconst 1, 1) := by decide +kernel
theorem dX12_known_182 : decode cX12_known 182 = .ok (.istore_n 2, 1) := by decide +kernel
theorem dX12_known_183 : decode cX12_known 183 = .ok (.iload_n 2, 1) := by decide +kernel
theorem dX12_known_184 : decode cX12_known 184 = .ok (.ifCond .eq 132, 3) := by decide +kernel
theorem dX12_known_187 : decode cX12_known 187 = .ok (.iconst 0, 1) := by decide +kernel
theorem dX12_known_188 : decode cX12_known 188 = .ok (.istore_n 2, 1) := by decide +kernel
theorem dX12_known_189 : decode cX12_known 189 = .ok (.iconst 0, 1) := by decide +kernel
theorem dX12_known_190 : decode cX12_known 190 = .ok (.istore_n 3, 1) := by decide +kernel
theorem dX12_known_191 : decode cX12_known 191 = .ok (.iload_n 3, 1) := by decide +kernel
theorem dX12_known_192 : decode cX12_known 192 = .ok (.aload_n 0, 1) := by decide +kernel
theorem dX12_known_193 : decode cX12_known 193 = .ok (.getfield 205, 3) := by decide +kernel
theorem dX12_known_196 : decode cX12_known 196 = .ok (.if_icmp .ge 117, 3) := by decide +kernel
theorem dX12_known_199 : decode cX12_known 199 = .ok (.bipush 12, 2) := by decide +kernel
theorem dX12_known_201 : decode cX12_known 201 = .ok (.istore 4, 2) := by decide +kernel
theorem dX12_known_203 : decode cX12_known 203 = .ok (.iconst 0, 1) := by decide +kernel
theorem dX12_known_204 : decode cX12_known 204 = .ok (.istore 5, 2) := by decide +kernel
theorem dX12_known_206 : decode cX12_known 206 = .ok (.iload 5, 2) := by decide +kernel
theorem dX12_known_208 : decode cX12_known 208 = .ok (.aload_n 0, 1) := by decide +kernel
theorem dX12_known_209 : decode cX12_known 209 = .ok (.getfield 208, 3) := by decide +kernel
theorem dX12_known_212 : decode cX12_known 212 = .ok (.if_icmp .ge 37, 3) := by decide +kernel
theorem dX12_known_215 : decode cX12_known 215 = .ok (.aload_n 0, 1) := by decide +kernel
theorem dX12_known_216 : decode cX12_known 216 = .ok (.getfield 91, 3) := by decide +kernel
theorem dX12_known_219 : decode cX12_known 219 = .ok (.iload_n 3, 1) := by decide +kernel
theorem dX12_known_220 : decode cX12_known 220 = .ok (.iload 5, 2) := by decide +kernel
theorem dX12_known_222 : decode cX12_known 222 = .ok (.invokestatic 225, 3) := by decide +kernel
theorem dX12_known_225 : decode cX12_known 225 = .ok (.iaload, 1) := by decide +kernel
theorem dX12_known_226 : decode cX12_known 226 = .ok (.ifCond .lt 17, 3) := by decide +kernel
theorem dX12_known_229 : decode cX12_known 229 = .ok (.iload 4, 2) := by decide +kernel
theorem dX12_known_231 : decode cX12_known 231 = .ok (.aload_n 0, 1) := by decide +kernel
theorem dX12_known_232 : decode cX12_known 232 = .ok (.getfield 94, 3) := by decide +kernel
theorem dX12_known_235 : decode cX12_known 235 = .ok (.iload 5, 2) := by decide +kernel
theorem dX12_known_237 : decode cX12_known 237 = .ok (.iaload, 1) := by decide +kernel
theorem dX12_known_238 : decode cX12_known 238 = .ok (.invokestatic 259, 3) := by decide +kernel
theorem dX12_known_241 : decode cX12_known 241 = .ok (.istore 4, 2) := by decide +kernel
theorem dX12_known_243 : decode cX12_known 243 = .ok (.iinc 5 1, 3) := by decide +kernel
theorem dX12_known_246 : decode cX12_known 246 = .ok (.goto (-40), 3) := by decide +kernel
theorem dX12_known_249 : decode cX12_known 249 = .ok (.iconst 0, 1) := by decide +kernel
theorem dX12_known_250 : decode cX12_known 250 = .ok (.istore 5, 2) := by decide +kernel
theorem dX12_known_252 : decode cX12_known 252 = .ok (.iload 5, 2) := by decide +kernel
theorem dX12_known_254 : decode cX12_known 254 = .ok (.aload_n 0, 1) := by decide +kernel
theorem dX12_known_255 : decode cX12_known 255 = .ok (.getfield 208, 3) := by decide +kernel
theorem dX12_known_258 : decode cX12_known 258 = .ok (.if_icmp .ge 49, 3) := by decide +kernel
theorem dX12_known_261 : decode cX12_known 261 = .ok (.aload_n 0, 1) := by decide +kernel
theorem dX12_known_262 : decode cX12_known 262 = .ok (.getfield 91, 3) := by decide +kernel
theorem dX12_known_265 : decode cX12_known 265 = .ok (.iload_n 3, 1) := by decide +kernel
theorem dX12_known_266 : decode cX12_known 266 = .ok (.iload 5, 2) := by decide +kernel
theorem dX12_known_268 : decode cX12_known 268 = .ok (.invokestatic 225, 3) := by decide +kernel
theorem dX12_known_271 : decode cX12_known 271 = .ok (.iaload, 1) := by decide +kernel
theorem dX12_known_272 : decode cX12_known 272 = .ok (.ifCond .lt 29, 3) := by decide +kernel
theorem dX12_known_275 : decode cX12_known 275 = .ok (.aload_n 0, 1) := by decide +kernel
theorem dX12_known_276 : decode cX12_known 276 = .ok (.getfield 94, 3) := by decide +kernel
theorem dX12_known_279 : decode cX12_known 279 = .ok (.iload 5, 2) := by decide +kernel
theorem dX12_known_281 : decode cX12_known 281 = .ok (.iaload, 1) := by decide +kernel
theorem dX12_known_282 : decode cX12_known 282 = .ok (.iload 4, 2) := by decide +kernel
theorem dX12_known_284 : decode cX12_known 284 = .ok (.if_icmp .ne 6, 3) := by decide +kernel
theorem dX12_known_287 : decode cX12_known 287 = .ok (.goto 14, 3) := by decide +kernel
theorem dX12_known_290 : decode cX12_known 290 = .ok (.aload_n 0, 1) := by decide +kernel
theorem dX12_known_291 : decode cX12_known 291 = .ok (.getfield 94, 3) := by decide +kernel
theorem dX12_known_294 : decode cX12_known 294 = .ok (.iload 5, 2) := by decide +kernel
theorem dX12_known_296 : decode cX12_known 296 = .ok (.iload 4, 2) := by decide +kernel
theorem dX12_known_298 : decode cX12_known 298 = .ok (.iastore, 1) := by decide +kernel
theorem dX12_known_299 : decode cX12_known 299 = .ok (.iconst 1, 1) := by decide +kernel
theorem dX12_known_300 : decode cX12_known 300 = .ok (.istore_n 2, 1) := by decide +kernel
theorem dX12_known_301 : decode cX12_known 301 = .ok (.iinc 5 1, 3) := by decide +kernel
theorem dX12_known_304 : decode cX12_known 304 = .ok (.goto (-52), 3) := by decide +kernel
theorem dX12_known_307 : decode cX12_known 307 = .ok (.iinc 3 1, 3) := by decide +kernel
theorem dX12_known_310 : decode cX12_known 310 = .ok (.goto (-119), 3) := by decide +kernel
theorem dX12_known_313 : decode cX12_known 313 = .ok (.goto (-130), 3) := by decide +kernel
theorem dX12_known_316 : decode cX12_known 316 = .ok (.return_, 1) := by decide +kernel
theorem dX12_countOf_0 : decode cX12_countOf 0 = .ok (.iconst 0, 1) := by decide +kernel
theorem dX12_countOf_1 : decode cX12_countOf 1 = .ok (.istore_n 2, 1) := by decide +kernel
theorem dX12_countOf_2 : decode cX12_countOf 2 = .ok (.iconst 0, 1) := by decide +kernel
theorem dX12_countOf_3 : decode cX12_countOf 3 = .ok (.istore_n 3, 1) := by decide +kernel
theorem dX12_countOf_4 : decode cX12_countOf 4 = .ok (.iload_n 3, 1) := by decide +kernel
theorem dX12_countOf_5 : decode cX12_countOf 5 = .ok (.aload_n 0, 1) := by decide +kernel
theorem dX12_countOf_6 : decode cX12_countOf 6 = .ok (.getfield 208, 3) := by decide +kernel
theorem dX12_countOf_9 : decode cX12_countOf 9 = .ok (.if_icmp .ge 30, 3) := by decide +kernel
theorem dX12_countOf_12 : decode cX12_countOf 12 = .ok (.iload_n 2, 1) := by decide +kernel
theorem dX12_countOf_13 : decode cX12_countOf 13 = .ok (.aload_n 0, 1) := by decide +kernel
theorem dX12_countOf_14 : decode cX12_countOf 14 = .ok (.getfield 91, 3) := by decide +kernel
theorem dX12_countOf_17 : decode cX12_countOf 17 = .ok (.iload_n 1, 1) := by decide +kernel
theorem dX12_countOf_18 : decode cX12_countOf 18 = .ok (.iload_n 3, 1) := by decide +kernel
theorem dX12_countOf_19 : decode cX12_countOf 19 = .ok (.invokestatic 225, 3) := by decide +kernel
theorem dX12_countOf_22 : decode cX12_countOf 22 = .ok (.iaload, 1) := by decide +kernel
theorem dX12_countOf_23 : decode cX12_countOf 23 = .ok (.ifCond .lt 7, 3) := by decide +kernel
theorem dX12_countOf_26 : decode cX12_countOf 26 = .ok (.iconst 1, 1) := by decide +kernel
theorem dX12_countOf_27 : decode cX12_countOf 27 = .ok (.goto 4, 3) := by decide +kernel
theorem dX12_countOf_30 : decode cX12_countOf 30 = .ok (.iconst 0, 1) := by decide +kernel
theorem dX12_countOf_31 : decode cX12_countOf 31 = .ok (.iadd, 1) := by decide +kernel
theorem dX12_countOf_32 : decode cX12_countOf 32 = .ok (.istore_n 2, 1) := by decide +kernel
theorem dX12_countOf_33 : decode cX12_countOf 33 = .ok (.iinc 3 1, 3) := by decide +kernel
theorem dX12_countOf_36 : decode cX12_countOf 36 = .ok (.goto (-32), 3) := by decide +kernel
theorem dX12_countOf_39 : decode cX12_countOf 39 = .ok (.iload_n 2, 1) := by decide +kernel
theorem dX12_countOf_40 : decode cX12_countOf 40 = .ok (.ireturn, 1) := by decide +kernel
theorem dX12_seen_0 : decode cX12_seen 0 = .ok (.aload_n 0, 1) := by decide +kernel
theorem dX12_seen_1 : decode cX12_seen 1 = .ok (.iconst 0, 1) := by decide +kernel
theorem dX12_seen_2 : decode cX12_seen 2 = .ok (.putfield 195, 3) := by decide +kernel
theorem dX12_seen_5 : decode cX12_seen 5 = .ok (.aload_n 0, 1) := by decide +kernel
theorem dX12_seen_6 : decode cX12_seen 6 = .ok (.iconst 0, 1) := by decide +kernel
theorem dX12_seen_7 : decode cX12_seen 7 = .ok (.putfield 198, 3) := by decide +kernel
theorem dX12_seen_10 : decode cX12_seen 10 = .ok (.aload_n 0, 1) := by decide +kernel
theorem dX12_seen_11 : decode cX12_seen 11 = .ok (.iload_n 1, 1) := by decide +kernel
theorem dX12_seen_12 : decode cX12_seen 12 = .ok (.invokevirtual 211, 3) := by decide +kernel
theorem dX12_seen_15 : decode cX12_seen 15 = .ok (.ifCond .ne 9, 3) := by decide +kernel
theorem dX12_seen_18 : decode cX12_seen 18 = .ok (.aload_n 0, 1) := by decide +kernel
theorem dX12_seen_19 : decode cX12_seen 19 = .ok (.iconst 1, 1) := by decide +kernel
theorem dX12_seen_20 : decode cX12_seen 20 = .ok (.invokevirtual 201, 3) := by decide +kernel
theorem dX12_seen_23 : decode cX12_seen 23 = .ok (.ireturn, 1) := by decide +kernel
theorem dX12_seen_24 : decode cX12_seen 24 = .ok (.iload_n 2, 1) := by decide +kernel
theorem dX12_seen_25 : decode cX12_seen 25 = .ok (.invokestatic 253, 3) := by decide +kernel
theorem dX12_seen_28 : decode cX12_seen 28 = .ok (.ifCond .ne 9, 3) := by decide +kernel
theorem dX12_seen_31 : decode cX12_seen 31 = .ok (.aload_n 0, 1) := by decide +kernel
theorem dX12_seen_32 : decode cX12_seen 32 = .ok (.iconst 2, 1) := by decide +kernel
theorem dX12_seen_33 : decode cX12_seen 33 = .ok (.invokevirtual 201, 3) := by decide +kernel
theorem dX12_seen_36 : decode cX12_seen 36 = .ok (.ireturn, 1) := by decide +kernel
theorem dX12_seen_37 : decode cX12_seen 37 = .ok (.aload_n 0, 1) := by decide +kernel
theorem dX12_seen_38 : decode cX12_seen 38 = .ok (.iload_n 2, 1) := by decide +kernel
theorem dX12_seen_39 : decode cX12_seen 39 = .ok (.invokevirtual 264, 3) := by decide +kernel
theorem dX12_seen_42 : decode cX12_seen 42 = .ok (.aload_n 0, 1) := by decide +kernel
theorem dX12_seen_43 : decode cX12_seen 43 = .ok (.iload_n 1, 1) := by decide +kernel
theorem dX12_seen_44 : decode cX12_seen 44 = .ok (.invokevirtual 267, 3) := by decide +kernel
theorem dX12_seen_47 : decode cX12_seen 47 = .ok (.ireturn, 1) := by decide +kernel
theorem dX12_heap_0 : decode cX12_heap 0 = .ok (.aload_n 0, 1) := by decide +kernel
theorem dX12_heap_1 : decode cX12_heap 1 = .ok (.iconst 0, 1) := by decide +kernel
theorem dX12_heap_2 : decode cX12_heap 2 = .ok (.putfield 195, 3) := by decide +kernel
theorem dX12_heap_5 : decode cX12_heap 5 = .ok (.aload_n 0, 1) := by decide +kernel
theorem dX12_heap_6 : decode cX12_heap 6 = .ok (.iconst 0, 1) := by decide +kernel
theorem dX12_heap_7 : decode cX12_heap 7 = .ok (.putfield 198, 3) := by decide +kernel
theorem dX12_heap_10 : decode cX12_heap 10 = .ok (.aload_n 0, 1) := by decide +kernel
theorem dX12_heap_11 : decode cX12_heap 11 = .ok (.iload_n 1, 1) := by decide +kernel
theorem dX12_heap_12 : decode cX12_heap 12 = .ok (.invokevirtual 219, 3) := by decide +kernel
theorem dX12_heap_15 : decode cX12_heap 15 = .ok (.ifCond .ne 9, 3) := by decide +kernel
theorem dX12_heap_18 : decode cX12_heap 18 = .ok (.aload_n 0, 1) := by decide +kernel
theorem dX12_heap_19 : decode cX12_heap 19 = .ok (.iconst 1, 1) := by decide +kernel
theorem dX12_heap_20 : decode cX12_heap 20 = .ok (.invokevirtual 201, 3) := by decide +kernel
theorem dX12_heap_23 : decode cX12_heap 23 = .ok (.ireturn, 1) := by decide +kernel
theorem dX12_heap_24 : decode cX12_heap 24 = .ok (.iload_n 2, 1) := by decide +kernel
theorem dX12_heap_25 : decode cX12_heap 25 = .ok (.invokestatic 253, 3) := by decide +kernel
theorem dX12_heap_28 : decode cX12_heap 28 = .ok (.ifCond .ne 9, 3) := by decide +kernel
theorem dX12_heap_31 : decode cX12_heap 31 = .ok (.aload_n 0, 1) := by decide +kernel
theorem dX12_heap_32 : decode cX12_heap 32 = .ok (.iconst 2, 1) := by decide +kernel
theorem dX12_heap_33 : decode cX12_heap 33 = .ok (.invokevirtual 201, 3) := by decide +kernel
theorem dX12_heap_36 : decode cX12_heap 36 = .ok (.ireturn, 1) := by decide +kernel
theorem dX12_heap_37 : decode cX12_heap 37 = .ok (.aload_n 0, 1) := by decide +kernel
theorem dX12_heap_38 : decode cX12_heap 38 = .ok (.iload_n 2, 1) := by decide +kernel
theorem dX12_heap_39 : decode cX12_heap 39 = .ok (.invokevirtual 264, 3) := by decide +kernel
theorem dX12_heap_42 : decode cX12_heap 42 = .ok (.aload_n 0, 1) := by decide +kernel
theorem dX12_heap_43 : decode cX12_heap 43 = .ok (.getfield 94, 3) := by decide +kernel
theorem dX12_heap_46 : decode cX12_heap 46 = .ok (.iload_n 1, 1) := by decide +kernel
theorem dX12_heap_47 : decode cX12_heap 47 = .ok (.iaload, 1) := by decide +kernel
theorem dX12_heap_48 : decode cX12_heap 48 = .ok (.ifCond .ge 12, 3) := by decide +kernel
theorem dX12_heap_51 : decode cX12_heap 51 = .ok (.aload_n 0, 1) := by decide +kernel
theorem dX12_heap_52 : decode cX12_heap 52 = .ok (.bipush 6, 2) := by decide +kernel
theorem dX12_heap_54 : decode cX12_heap 54 = .ok (.invokevirtual 201, 3) := by decide +kernel
theorem dX12_heap_57 : decode cX12_heap 57 = .ok (.goto 9, 3) := by decide +kernel
theorem dX12_heap_60 : decode cX12_heap 60 = .ok (.aload_n 0, 1) := by decide +kernel
theorem dX12_heap_61 : decode cX12_heap 61 = .ok (.getfield 94, 3) := by decide +kernel
theorem dX12_heap_64 : decode cX12_heap 64 = .ok (.iload_n 1, 1) := by decide +kernel
theorem dX12_heap_65 : decode cX12_heap 65 = .ok (.iaload, 1) := by decide +kernel
theorem dX12_heap_66 : decode cX12_heap 66 = .ok (.ireturn, 1) := by decide +kernel
theorem dX12_sizeOf_0 : decode cX12_sizeOf 0 = .ok (.iconst 0, 1) := by decide +kernel
theorem dX12_sizeOf_1 : decode cX12_sizeOf 1 = .ok (.istore_n 2, 1) := by decide +kernel
theorem dX12_sizeOf_2 : decode cX12_sizeOf 2 = .ok (.iconst 0, 1) := by decide +kernel
theorem dX12_sizeOf_3 : decode cX12_sizeOf 3 = .ok (.istore_n 3, 1) := by decide +kernel
theorem dX12_sizeOf_4 : decode cX12_sizeOf 4 = .ok (.iload_n 3, 1) := by decide +kernel
theorem dX12_sizeOf_5 : decode cX12_sizeOf 5 = .ok (.aload_n 0, 1) := by decide +kernel
theorem dX12_sizeOf_6 : decode cX12_sizeOf 6 = .ok (.getfield 208, 3) := by decide +kernel
theorem dX12_sizeOf_9 : decode cX12_sizeOf 9 = .ok (.if_icmp .ge 27, 3) := by decide +kernel
theorem dX12_sizeOf_12 : decode cX12_sizeOf 12 = .ok (.iload_n 2, 1) := by decide +kernel
theorem dX12_sizeOf_13 : decode cX12_sizeOf 13 = .ok (.aload_n 0, 1) := by decide +kernel
theorem dX12_sizeOf_14 : decode cX12_sizeOf 14 = .ok (.getfield 94, 3) := by decide +kernel
theorem dX12_sizeOf_17 : decode cX12_sizeOf 17 = .ok (.iload_n 3, 1) := by decide +kernel
theorem dX12_sizeOf_18 : decode cX12_sizeOf 18 = .ok (.iaload, 1) := by decide +kernel
theorem dX12_sizeOf_19 : decode cX12_sizeOf 19 = .ok (.iload_n 1, 1) := by decide +kernel
theorem dX12_sizeOf_20 : decode cX12_sizeOf 20 = .ok (.if_icmp .ne 7, 3) := by decide +kernel
theorem dX12_sizeOf_23 : decode cX12_sizeOf 23 = .ok (.iconst 1, 1) := by decide +kernel
theorem dX12_sizeOf_24 : decode cX12_sizeOf 24 = .ok (.goto 4, 3) := by decide +kernel
theorem dX12_sizeOf_27 : decode cX12_sizeOf 27 = .ok (.iconst 0, 1) := by decide +kernel
theorem dX12_sizeOf_28 : decode cX12_sizeOf 28 = .ok (.iadd, 1) := by decide +kernel
theorem dX12_sizeOf_29 : decode cX12_sizeOf 29 = .ok (.istore_n 2, 1) := by decide +kernel
theorem dX12_sizeOf_30 : decode cX12_sizeOf 30 = .ok (.iinc 3 1, 3) := by decide +kernel
theorem dX12_sizeOf_33 : decode cX12_sizeOf 33 = .ok (.goto (-29), 3) := by decide +kernel
theorem dX12_sizeOf_36 : decode cX12_sizeOf 36 = .ok (.iload_n 2, 1) := by decide +kernel
theorem dX12_sizeOf_37 : decode cX12_sizeOf 37 = .ok (.ireturn, 1) := by decide +kernel
theorem dX12_square_0 : decode cX12_square 0 = .ok (.aload_n 0, 1) := by decide +kernel
theorem dX12_square_1 : decode cX12_square 1 = .ok (.getfield 270, 3) := by decide +kernel
theorem dX12_square_4 : decode cX12_square 4 = .ok (.istore_n 2, 1) := by decide +kernel
theorem dX12_square_5 : decode cX12_square 5 = .ok (.lconst 0, 1) := by decide +kernel
theorem dX12_square_6 : decode cX12_square 6 = .ok (.lstore_n 3, 1) := by decide +kernel
theorem dX12_square_7 : decode cX12_square 7 = .ok (.iconst 1, 1) := by decide +kernel
theorem dX12_square_8 : decode cX12_square 8 = .ok (.istore 5, 2) := by decide +kernel
theorem dX12_square_10 : decode cX12_square 10 = .ok (.iconst 0, 1) := by decide +kernel
theorem dX12_square_11 : decode cX12_square 11 = .ok (.istore 6, 2) := by decide +kernel
theorem dX12_square_13 : decode cX12_square 13 = .ok (.iload 6, 2) := by decide +kernel
theorem dX12_square_15 : decode cX12_square 15 = .ok (.iload_n 2, 1) := by decide +kernel
theorem dX12_square_16 : decode cX12_square 16 = .ok (.if_icmp .ge 15, 3) := by decide +kernel
theorem dX12_square_19 : decode cX12_square 19 = .ok (.iload 5, 2) := by decide +kernel
theorem dX12_square_21 : decode cX12_square 21 = .ok (.iload_n 2, 1) := by decide +kernel
theorem dX12_square_22 : decode cX12_square 22 = .ok (.imul, 1) := by decide +kernel
theorem dX12_square_23 : decode cX12_square 23 = .ok (.istore 5, 2) := by decide +kernel
theorem dX12_square_25 : decode cX12_square 25 = .ok (.iinc 6 1, 3) := by decide +kernel
theorem dX12_square_28 : decode cX12_square 28 = .ok (.goto (-15), 3) := by decide +kernel
theorem dX12_square_31 : decode cX12_square 31 = .ok (.iconst 0, 1) := by decide +kernel
theorem dX12_square_32 : decode cX12_square 32 = .ok (.istore 6, 2) := by decide +kernel
theorem dX12_square_34 : decode cX12_square 34 = .ok (.iload 6, 2) := by decide +kernel
theorem dX12_square_36 : decode cX12_square 36 = .ok (.iload 5, 2) := by decide +kernel
theorem dX12_square_38 : decode cX12_square 38 = .ok (.if_icmp .ge 192, 3) := by decide +kernel
theorem dX12_square_41 : decode cX12_square 41 = .ok (.iload 6, 2) := by decide +kernel
theorem dX12_square_43 : decode cX12_square 43 = .ok (.istore 7, 2) := by decide +kernel
theorem dX12_square_45 : decode cX12_square 45 = .ok (.iconst 0, 1) := by decide +kernel
theorem dX12_square_46 : decode cX12_square 46 = .ok (.istore 8, 2) := by decide +kernel
theorem dX12_square_48 : decode cX12_square 48 = .ok (.iconst 0, 1) := by decide +kernel
theorem dX12_square_49 : decode cX12_square 49 = .ok (.istore 9, 2) := by decide +kernel
theorem dX12_square_51 : decode cX12_square 51 = .ok (.iconst 0, 1) := by decide +kernel
theorem dX12_square_52 : decode cX12_square 52 = .ok (.istore 10, 2) := by decide +kernel
theorem dX12_square_54 : decode cX12_square 54 = .ok (.iload 10, 2) := by decide +kernel
theorem dX12_square_56 : decode cX12_square 56 = .ok (.iload_n 2, 1) := by decide +kernel
theorem dX12_square_57 : decode cX12_square 57 = .ok (.if_icmp .ge 75, 3) := by decide +kernel
theorem dX12_square_60 : decode cX12_square 60 = .ok (.aload_n 0, 1) := by decide +kernel
theorem dX12_square_61 : decode cX12_square 61 = .ok (.getfield 100, 3) := by decide +kernel
theorem dX12_square_64 : decode cX12_square 64 = .ok (.iload 10, 2) := by decide +kernel
theorem dX12_square_66 : decode cX12_square 66 = .ok (.iload 7, 2) := by decide +kernel
theorem dX12_square_68 : decode cX12_square 68 = .ok (.iload_n 2, 1) := by decide +kernel
theorem dX12_square_69 : decode cX12_square 69 = .ok (.irem, 1) := by decide +kernel
theorem dX12_square_70 : decode cX12_square 70 = .ok (.iastore, 1) := by decide +kernel
theorem dX12_square_71 : decode cX12_square 71 = .ok (.iload 7, 2) := by decide +kernel
theorem dX12_square_73 : decode cX12_square 73 = .ok (.iload_n 2, 1) := by decide +kernel
theorem dX12_square_74 : decode cX12_square 74 = .ok (.idiv, 1) := by decide +kernel
theorem dX12_square_75 : decode cX12_square 75 = .ok (.istore 7, 2) := by decide +kernel
theorem dX12_square_77 : decode cX12_square 77 = .ok (.aload_n 0, 1) := by decide +kernel
theorem dX12_square_78 : decode cX12_square 78 = .ok (.getfield 100, 3) := by decide +kernel
theorem dX12_square_81 : decode cX12_square 81 = .ok (.iload 10, 2) := by decide +kernel
theorem dX12_square_83 : decode cX12_square 83 = .ok (.iaload, 1) := by decide +kernel
theorem dX12_square_84 : decode cX12_square 84 = .ok (.iconst 1, 1) := by decide +kernel
theorem dX12_square_85 : decode cX12_square 85 = .ok (.iadd, 1) := by decide +kernel
theorem dX12_square_86 : decode cX12_square 86 = .ok (.istore 11, 2) := by decide +kernel
theorem dX12_square_88 : decode cX12_square 88 = .ok (.iload 11, 2) := by decide +kernel
theorem dX12_square_90 : decode cX12_square 90 = .ok (.iload_n 2, 1) := by decide +kernel
theorem dX12_square_91 : decode cX12_square 91 = .ok (.if_icmp .ge 21, 3) := by decide +kernel
theorem dX12_square_94 : decode cX12_square 94 = .ok (.iload 9, 2) := by decide +kernel
theorem dX12_square_96 : decode cX12_square 96 = .ok (.iload 8, 2) := by decide +kernel
theorem dX12_square_98 : decode cX12_square 98 = .ok (.iload 11, 2) := by decide +kernel
theorem dX12_square_100 : decode cX12_square 100 = .ok (.ishr, 1) := by decide +kernel
theorem dX12_square_101 : decode cX12_square 101 = .ok (.iconst 1, 1) := by decide +kernel
theorem dX12_square_102 : decode cX12_square 102 = .ok (.iand, 1) := by decide +kernel
theorem dX12_square_103 : decode cX12_square 103 = .ok (.iadd, 1) := by decide +kernel
theorem dX12_square_104 : decode cX12_square 104 = .ok (.istore 9, 2) := by decide +kernel
theorem dX12_square_106 : decode cX12_square 106 = .ok (.iinc 11 1, 3) := by decide +kernel
theorem dX12_square_109 : decode cX12_square 109 = .ok (.goto (-21), 3) := by decide +kernel
theorem dX12_square_112 : decode cX12_square 112 = .ok (.iload 8, 2) := by decide +kernel
theorem dX12_square_114 : decode cX12_square 114 = .ok (.iconst 1, 1) := by decide +kernel
theorem dX12_square_115 : decode cX12_square 115 = .ok (.aload_n 0, 1) := by decide +kernel
theorem dX12_square_116 : decode cX12_square 116 = .ok (.getfield 100, 3) := by decide +kernel
theorem dX12_square_119 : decode cX12_square 119 = .ok (.iload 10, 2) := by decide +kernel
theorem dX12_square_121 : decode cX12_square 121 = .ok (.iaload, 1) := by decide +kernel
theorem dX12_square_122 : decode cX12_square 122 = .ok (.ishl, 1) := by decide +kernel
theorem dX12_square_123 : decode cX12_square 123 = .ok (.ior, 1) := by decide +kernel
theorem dX12_square_124 : decode cX12_square 124 = .ok (.istore 8, 2) := by decide +kernel
theorem dX12_square_126 : decode cX12_square 126 = .ok (.iinc 10 1, 3) := by decide +kernel
theorem dX12_square_129 : decode cX12_square 129 = .ok (.goto (-75), 3) := by decide +kernel
theorem dX12_square_132 : decode cX12_square 132 = .ok (.iload 8, 2) := by decide +kernel
theorem dX12_square_134 : decode cX12_square 134 = .ok (.iconst 1, 1) := by decide +kernel
theorem dX12_square_135 : decode cX12_square 135 = .ok (.iload_n 2, 1) := by decide +kernel
theorem dX12_square_136 : decode cX12_square 136 = .ok (.ishl, 1) := by decide +kernel
theorem dX12_square_137 : decode cX12_square 137 = .ok (.iconst 1, 1) := by decide +kernel
theorem dX12_square_138 : decode cX12_square 138 = .ok (.isub, 1) := by decide +kernel
theorem dX12_square_139 : decode cX12_square 139 = .ok (.if_icmp .eq 6, 3) := by decide +kernel
theorem dX12_square_142 : decode cX12_square 142 = .ok (.goto 82, 3) := by decide +kernel
theorem dX12_square_145 : decode cX12_square 145 = .ok (.iload 9, 2) := by decide +kernel
theorem dX12_square_147 : decode cX12_square 147 = .ok (.iconst 2, 1) := by decide +kernel
theorem dX12_square_148 : decode cX12_square 148 = .ok (.irem, 1) := by decide +kernel
theorem dX12_square_149 : decode cX12_square 149 = .ok (.ifCond .ne 7, 3) := by decide +kernel
theorem dX12_square_152 : decode cX12_square 152 = .ok (.lconst 1, 1) := by decide +kernel
theorem dX12_square_153 : decode cX12_square 153 = .ok (.goto 6, 3) := by decide +kernel
theorem dX12_square_156 : decode cX12_square 156 = .ok (.ldc2_w 273, 3) := by decide +kernel
theorem dX12_square_159 : decode cX12_square 159 = .ok (.lstore 10, 2) := by decide +kernel
theorem dX12_square_161 : decode cX12_square 161 = .ok (.iconst 0, 1) := by decide +kernel
theorem dX12_square_162 : decode cX12_square 162 = .ok (.istore 12, 2) := by decide +kernel
theorem dX12_square_164 : decode cX12_square 164 = .ok (.iload 12, 2) := by decide +kernel
theorem dX12_square_166 : decode cX12_square 166 = .ok (.iload_n 2, 1) := by decide +kernel
theorem dX12_square_167 : decode cX12_square 167 = .ok (.if_icmp .ge 52, 3) := by decide +kernel
theorem dX12_square_170 : decode cX12_square 170 = .ok (.lload 10, 2) := by decide +kernel
theorem dX12_square_172 : decode cX12_square 172 = .ok (.aload_n 0, 1) := by decide +kernel
theorem dX12_square_173 : decode cX12_square 173 = .ok (.getfield 100, 3) := by decide +kernel
theorem dX12_square_176 : decode cX12_square 176 = .ok (.iload 12, 2) := by decide +kernel
theorem dX12_square_178 : decode cX12_square 178 = .ok (.iaload, 1) := by decide +kernel
theorem dX12_square_179 : decode cX12_square 179 = .ok (.iload_n 1, 1) := by decide +kernel
theorem dX12_square_180 : decode cX12_square 180 = .ok (.if_icmp .ne 13, 3) := by decide +kernel
theorem dX12_square_183 : decode cX12_square 183 = .ok (.aload_n 0, 1) := by decide +kernel
theorem dX12_square_184 : decode cX12_square 184 = .ok (.getfield 107, 3) := by decide +kernel
theorem dX12_square_187 : decode cX12_square 187 = .ok (.iload 12, 2) := by decide +kernel
theorem dX12_square_189 : decode cX12_square 189 = .ok (.laload, 1) := by decide +kernel
theorem dX12_square_190 : decode cX12_square 190 = .ok (.goto 20, 3) := by decide +kernel
theorem dX12_square_193 : decode cX12_square 193 = .ok (.aload_n 0, 1) := by decide +kernel
theorem dX12_square_194 : decode cX12_square 194 = .ok (.getfield 103, 3) := by decide +kernel
theorem dX12_square_197 : decode cX12_square 197 = .ok (.iconst 5, 1) := by decide +kernel
theorem dX12_square_198 : decode cX12_square 198 = .ok (.iload 12, 2) := by decide +kernel
theorem dX12_square_200 : decode cX12_square 200 = .ok (.imul, 1) := by decide +kernel
theorem dX12_square_201 : decode cX12_square 201 = .ok (.aload_n 0, 1) := by decide +kernel
theorem dX12_square_202 : decode cX12_square 202 = .ok (.getfield 100, 3) := by decide +kernel
theorem dX12_square_205 : decode cX12_square 205 = .ok (.iload 12, 2) := by decide +kernel
theorem dX12_square_207 : decode cX12_square 207 = .ok (.iaload, 1) := by decide +kernel
theorem dX12_square_208 : decode cX12_square 208 = .ok (.iadd, 1) := by decide +kernel
theorem dX12_square_209 : decode cX12_square 209 = .ok (.laload, 1) := by decide +kernel
theorem dX12_square_210 : decode cX12_square 210 = .ok (.lmul, 1) := by decide +kernel
theorem dX12_square_211 : decode cX12_square 211 = .ok (.lstore 10, 2) := by decide +kernel
theorem dX12_square_213 : decode cX12_square 213 = .ok (.iinc 12 1, 3) := by decide +kernel
theorem dX12_square_216 : decode cX12_square 216 = .ok (.goto (-52), 3) := by decide +kernel
theorem dX12_square_219 : decode cX12_square 219 = .ok (.lload_n 3, 1) := by decide +kernel
theorem dX12_square_220 : decode cX12_square 220 = .ok (.lload 10, 2) := by decide +kernel
theorem dX12_square_222 : decode cX12_square 222 = .ok (.ladd, 1) := by decide +kernel
theorem dX12_square_223 : decode cX12_square 223 = .ok (.lstore_n 3, 1) := by decide +kernel
theorem dX12_square_224 : decode cX12_square 224 = .ok (.iinc 6 1, 3) := by decide +kernel
theorem dX12_square_227 : decode cX12_square 227 = .ok (.goto (-193), 3) := by decide +kernel
theorem dX12_square_230 : decode cX12_square 230 = .ok (.lload_n 3, 1) := by decide +kernel
theorem dX12_square_231 : decode cX12_square 231 = .ok (.lreturn, 1) := by decide +kernel
theorem dX12_solve_0 : decode cX12_solve 0 = .ok (.aload_n 0, 1) := by decide +kernel
theorem dX12_solve_1 : decode cX12_solve 1 = .ok (.iconst 0, 1) := by decide +kernel
theorem dX12_solve_2 : decode cX12_solve 2 = .ok (.putfield 270, 3) := by decide +kernel
theorem dX12_solve_5 : decode cX12_solve 5 = .ok (.iconst 0, 1) := by decide +kernel
theorem dX12_solve_6 : decode cX12_solve 6 = .ok (.istore_n 2, 1) := by decide +kernel
theorem dX12_solve_7 : decode cX12_solve 7 = .ok (.iload_n 2, 1) := by decide +kernel
theorem dX12_solve_8 : decode cX12_solve 8 = .ok (.aload_n 0, 1) := by decide +kernel
theorem dX12_solve_9 : decode cX12_solve 9 = .ok (.getfield 208, 3) := by decide +kernel
theorem dX12_solve_12 : decode cX12_solve 12 = .ok (.if_icmp .ge 42, 3) := by decide +kernel
theorem dX12_solve_15 : decode cX12_solve 15 = .ok (.aload_n 0, 1) := by decide +kernel
theorem dX12_solve_16 : decode cX12_solve 16 = .ok (.getfield 94, 3) := by decide +kernel
theorem dX12_solve_19 : decode cX12_solve 19 = .ok (.iload_n 2, 1) := by decide +kernel
theorem dX12_solve_20 : decode cX12_solve 20 = .ok (.iaload, 1) := by decide +kernel
theorem dX12_solve_21 : decode cX12_solve 21 = .ok (.iload_n 1, 1) := by decide +kernel
theorem dX12_solve_22 : decode cX12_solve 22 = .ok (.if_icmp .eq 6, 3) := by decide +kernel
theorem dX12_solve_25 : decode cX12_solve 25 = .ok (.goto 23, 3) := by decide +kernel
theorem dX12_solve_28 : decode cX12_solve 28 = .ok (.aload_n 0, 1) := by decide +kernel
theorem dX12_solve_29 : decode cX12_solve 29 = .ok (.getfield 97, 3) := by decide +kernel
theorem dX12_solve_32 : decode cX12_solve 32 = .ok (.aload_n 0, 1) := by decide +kernel
theorem dX12_solve_33 : decode cX12_solve 33 = .ok (.getfield 270, 3) := by decide +kernel
theorem dX12_solve_36 : decode cX12_solve 36 = .ok (.iload_n 2, 1) := by decide +kernel
theorem dX12_solve_37 : decode cX12_solve 37 = .ok (.iastore, 1) := by decide +kernel
theorem dX12_solve_38 : decode cX12_solve 38 = .ok (.aload_n 0, 1) := by decide +kernel
theorem dX12_solve_39 : decode cX12_solve 39 = .ok (.dup, 1) := by decide +kernel
theorem dX12_solve_40 : decode cX12_solve 40 = .ok (.getfield 270, 3) := by decide +kernel
theorem dX12_solve_43 : decode cX12_solve 43 = .ok (.iconst 1, 1) := by decide +kernel
theorem dX12_solve_44 : decode cX12_solve 44 = .ok (.iadd, 1) := by decide +kernel
theorem dX12_solve_45 : decode cX12_solve 45 = .ok (.putfield 270, 3) := by decide +kernel
theorem dX12_solve_48 : decode cX12_solve 48 = .ok (.iinc 2 1, 3) := by decide +kernel
theorem dX12_solve_51 : decode cX12_solve 51 = .ok (.goto (-44), 3) := by decide +kernel
theorem dX12_solve_54 : decode cX12_solve 54 = .ok (.aload_n 0, 1) := by decide +kernel
theorem dX12_solve_55 : decode cX12_solve 55 = .ok (.getfield 270, 3) := by decide +kernel
theorem dX12_solve_58 : decode cX12_solve 58 = .ok (.istore_n 2, 1) := by decide +kernel
theorem dX12_solve_59 : decode cX12_solve 59 = .ok (.iconst 0, 1) := by decide +kernel
theorem dX12_solve_60 : decode cX12_solve 60 = .ok (.istore_n 3, 1) := by decide +kernel
theorem dX12_solve_61 : decode cX12_solve 61 = .ok (.iload_n 3, 1) := by decide +kernel
theorem dX12_solve_62 : decode cX12_solve 62 = .ok (.bipush 25, 2) := by decide +kernel
theorem dX12_solve_64 : decode cX12_solve 64 = .ok (.if_icmp .ge 16, 3) := by decide +kernel
theorem dX12_solve_67 : decode cX12_solve 67 = .ok (.aload_n 0, 1) := by decide +kernel
theorem dX12_solve_68 : decode cX12_solve 68 = .ok (.getfield 103, 3) := by decide +kernel
theorem dX12_solve_71 : decode cX12_solve 71 = .ok (.iload_n 3, 1) := by decide +kernel
theorem dX12_solve_72 : decode cX12_solve 72 = .ok (.lconst 0, 1) := by decide +kernel
theorem dX12_solve_73 : decode cX12_solve 73 = .ok (.lastore, 1) := by decide +kernel
theorem dX12_solve_74 : decode cX12_solve 74 = .ok (.iinc 3 1, 3) := by decide +kernel
theorem dX12_solve_77 : decode cX12_solve 77 = .ok (.goto (-16), 3) := by decide +kernel
theorem dX12_solve_80 : decode cX12_solve 80 = .ok (.iconst 0, 1) := by decide +kernel
theorem dX12_solve_81 : decode cX12_solve 81 = .ok (.istore_n 3, 1) := by decide +kernel
theorem dX12_solve_82 : decode cX12_solve 82 = .ok (.iload_n 3, 1) := by decide +kernel
theorem dX12_solve_83 : decode cX12_solve 83 = .ok (.iload_n 2, 1) := by decide +kernel
theorem dX12_solve_84 : decode cX12_solve 84 = .ok (.if_icmp .ge 16, 3) := by decide +kernel
theorem dX12_solve_87 : decode cX12_solve 87 = .ok (.aload_n 0, 1) := by decide +kernel
theorem dX12_solve_88 : decode cX12_solve 88 = .ok (.getfield 107, 3) := by decide +kernel
theorem dX12_solve_91 : decode cX12_solve 91 = .ok (.iload_n 3, 1) := by decide +kernel
theorem dX12_solve_92 : decode cX12_solve 92 = .ok (.lconst 0, 1) := by decide +kernel
theorem dX12_solve_93 : decode cX12_solve 93 = .ok (.lastore, 1) := by decide +kernel
theorem dX12_solve_94 : decode cX12_solve 94 = .ok (.iinc 3 1, 3) := by decide +kernel
theorem dX12_solve_97 : decode cX12_solve 97 = .ok (.goto (-15), 3) := by decide +kernel
theorem dX12_solve_100 : decode cX12_solve 100 = .ok (.iconst 0, 1) := by decide +kernel
theorem dX12_solve_101 : decode cX12_solve 101 = .ok (.istore_n 3, 1) := by decide +kernel
theorem dX12_solve_102 : decode cX12_solve 102 = .ok (.iload_n 3, 1) := by decide +kernel
theorem dX12_solve_103 : decode cX12_solve 103 = .ok (.aload_n 0, 1) := by decide +kernel
theorem dX12_solve_104 : decode cX12_solve 104 = .ok (.getfield 205, 3) := by decide +kernel
theorem dX12_solve_107 : decode cX12_solve 107 = .ok (.if_icmp .ge 237, 3) := by decide +kernel
theorem dX12_solve_110 : decode cX12_solve 110 = .ok (.aload_n 0, 1) := by decide +kernel
theorem dX12_solve_111 : decode cX12_solve 111 = .ok (.iload_n 3, 1) := by decide +kernel
theorem dX12_solve_112 : decode cX12_solve 112 = .ok (.invokevirtual 267, 3) := by decide +kernel
theorem dX12_solve_115 : decode cX12_solve 115 = .ok (.istore 4, 2) := by decide +kernel
theorem dX12_solve_117 : decode cX12_solve 117 = .ok (.iload 4, 2) := by decide +kernel
theorem dX12_solve_119 : decode cX12_solve 119 = .ok (.ifCond .ne 6, 3) := by decide +kernel
theorem dX12_solve_122 : decode cX12_solve 122 = .ok (.goto 216, 3) := by decide +kernel
theorem dX12_solve_125 : decode cX12_solve 125 = .ok (.lconst 0, 1) := by decide +kernel
theorem dX12_solve_126 : decode cX12_solve 126 = .ok (.lstore 5, 2) := by decide +kernel
theorem dX12_solve_128 : decode cX12_solve 128 = .ok (.iconst 0, 1) := by decide +kernel
theorem dX12_solve_129 : decode cX12_solve 129 = .ok (.istore 7, 2) := by decide +kernel
theorem dX12_solve_131 : decode cX12_solve 131 = .ok (.iload 7, 2) := by decide +kernel
theorem dX12_solve_133 : decode cX12_solve 133 = .ok (.aload_n 0, 1) := by decide +kernel
theorem dX12_solve_134 : decode cX12_solve 134 = .ok (.getfield 208, 3) := by decide +kernel
theorem dX12_solve_137 : decode cX12_solve 137 = .ok (.if_icmp .ge 49, 3) := by decide +kernel
theorem dX12_solve_140 : decode cX12_solve 140 = .ok (.lload 5, 2) := by decide +kernel
theorem dX12_solve_142 : decode cX12_solve 142 = .ok (.aload_n 0, 1) := by decide +kernel
theorem dX12_solve_143 : decode cX12_solve 143 = .ok (.getfield 91, 3) := by decide +kernel
theorem dX12_solve_146 : decode cX12_solve 146 = .ok (.iload_n 3, 1) := by decide +kernel
theorem dX12_solve_147 : decode cX12_solve 147 = .ok (.iload 7, 2) := by decide +kernel
theorem dX12_solve_149 : decode cX12_solve 149 = .ok (.invokestatic 225, 3) := by decide +kernel
theorem dX12_solve_152 : decode cX12_solve 152 = .ok (.iaload, 1) := by decide +kernel
theorem dX12_solve_153 : decode cX12_solve 153 = .ok (.ifCond .lt 23, 3) := by decide +kernel
theorem dX12_solve_156 : decode cX12_solve 156 = .ok (.aload_n 0, 1) := by decide +kernel
theorem dX12_solve_157 : decode cX12_solve 157 = .ok (.getfield 82, 3) := by decide +kernel
theorem dX12_solve_160 : decode cX12_solve 160 = .ok (.aload_n 0, 1) := by decide +kernel
theorem dX12_solve_161 : decode cX12_solve 161 = .ok (.getfield 91, 3) := by decide +kernel
theorem dX12_solve_164 : decode cX12_solve 164 = .ok (.iload_n 3, 1) := by decide +kernel
theorem dX12_solve_165 : decode cX12_solve 165 = .ok (.iload 7, 2) := by decide +kernel
theorem dX12_solve_167 : decode cX12_solve 167 = .ok (.invokestatic 225, 3) := by decide +kernel
theorem dX12_solve_170 : decode cX12_solve 170 = .ok (.iaload, 1) := by decide +kernel
theorem dX12_solve_171 : decode cX12_solve 171 = .ok (.iaload, 1) := by decide +kernel
theorem dX12_solve_172 : decode cX12_solve 172 = .ok (.i2l, 1) := by decide +kernel
theorem dX12_solve_173 : decode cX12_solve 173 = .ok (.goto 4, 3) := by decide +kernel
theorem dX12_solve_176 : decode cX12_solve 176 = .ok (.lconst 0, 1) := by decide +kernel
theorem dX12_solve_177 : decode cX12_solve 177 = .ok (.ladd, 1) := by decide +kernel
theorem dX12_solve_178 : decode cX12_solve 178 = .ok (.lstore 5, 2) := by decide +kernel
theorem dX12_solve_180 : decode cX12_solve 180 = .ok (.iinc 7 1, 3) := by decide +kernel
theorem dX12_solve_183 : decode cX12_solve 183 = .ok (.goto (-52), 3) := by decide +kernel
theorem dX12_solve_186 : decode cX12_solve 186 = .ok (.iconst 0, 1) := by decide +kernel
theorem dX12_solve_187 : decode cX12_solve 187 = .ok (.istore 7, 2) := by decide +kernel
theorem dX12_solve_189 : decode cX12_solve 189 = .ok (.iload 7, 2) := by decide +kernel
theorem dX12_solve_191 : decode cX12_solve 191 = .ok (.iload_n 2, 1) := by decide +kernel
theorem dX12_solve_192 : decode cX12_solve 192 = .ok (.if_icmp .ge 146, 3) := by decide +kernel
theorem dX12_solve_195 : decode cX12_solve 195 = .ok (.aload_n 0, 1) := by decide +kernel
theorem dX12_solve_196 : decode cX12_solve 196 = .ok (.getfield 91, 3) := by decide +kernel
theorem dX12_solve_199 : decode cX12_solve 199 = .ok (.iload_n 3, 1) := by decide +kernel
theorem dX12_solve_200 : decode cX12_solve 200 = .ok (.aload_n 0, 1) := by decide +kernel
theorem dX12_solve_201 : decode cX12_solve 201 = .ok (.getfield 97, 3) := by decide +kernel
theorem dX12_solve_204 : decode cX12_solve 204 = .ok (.iload 7, 2) := by decide +kernel
theorem dX12_solve_206 : decode cX12_solve 206 = .ok (.iaload, 1) := by decide +kernel
theorem dX12_solve_207 : decode cX12_solve 207 = .ok (.invokestatic 225, 3) := by decide +kernel
theorem dX12_solve_210 : decode cX12_solve 210 = .ok (.iaload, 1) := by decide +kernel
theorem dX12_solve_211 : decode cX12_solve 211 = .ok (.istore 8, 2) := by decide +kernel
theorem dX12_solve_213 : decode cX12_solve 213 = .ok (.iload 8, 2) := by decide +kernel
theorem dX12_solve_215 : decode cX12_solve 215 = .ok (.ifCond .ge 6, 3) := by decide +kernel
theorem dX12_solve_218 : decode cX12_solve 218 = .ok (.goto 114, 3) := by decide +kernel
theorem dX12_solve_221 : decode cX12_solve 221 = .ok (.aload_n 0, 1) := by decide +kernel
theorem dX12_solve_222 : decode cX12_solve 222 = .ok (.getfield 103, 3) := by decide +kernel
theorem dX12_solve_225 : decode cX12_solve 225 = .ok (.iconst 5, 1) := by decide +kernel
theorem dX12_solve_226 : decode cX12_solve 226 = .ok (.iload 7, 2) := by decide +kernel
theorem dX12_solve_228 : decode cX12_solve 228 = .ok (.imul, 1) := by decide +kernel
theorem dX12_solve_229 : decode cX12_solve 229 = .ok (.iload 7, 2) := by decide +kernel
theorem dX12_solve_231 : decode cX12_solve 231 = .ok (.iadd, 1) := by decide +kernel
theorem dX12_solve_232 : decode cX12_solve 232 = .ok (.dup2, 1) := by decide +kernel
theorem dX12_solve_233 : decode cX12_solve 233 = .ok (.laload, 1) := by decide +kernel
theorem dX12_solve_234 : decode cX12_solve 234 = .ok (.ldc2_w 275, 3) := by decide +kernel
theorem dX12_solve_237 : decode cX12_solve 237 = .ok (.ladd, 1) := by decide +kernel
theorem dX12_solve_238 : decode cX12_solve 238 = .ok (.lastore, 1) := by decide +kernel
theorem dX12_solve_239 : decode cX12_solve 239 = .ok (.aload_n 0, 1) := by decide +kernel
theorem dX12_solve_240 : decode cX12_solve 240 = .ok (.getfield 107, 3) := by decide +kernel
theorem dX12_solve_243 : decode cX12_solve 243 = .ok (.iload 7, 2) := by decide +kernel
theorem dX12_solve_245 : decode cX12_solve 245 = .ok (.dup2, 1) := by decide +kernel
theorem dX12_solve_246 : decode cX12_solve 246 = .ok (.laload, 1) := by decide +kernel
theorem dX12_solve_247 : decode cX12_solve 247 = .ok (.ldc2_w 275, 3) := by decide +kernel
theorem dX12_solve_250 : decode cX12_solve 250 = .ok (.aload_n 0, 1) := by decide +kernel
theorem dX12_solve_251 : decode cX12_solve 251 = .ok (.getfield 82, 3) := by decide +kernel
theorem dX12_solve_254 : decode cX12_solve 254 = .ok (.iload 8, 2) := by decide +kernel
theorem dX12_solve_256 : decode cX12_solve 256 = .ok (.iaload, 1) := by decide +kernel
theorem dX12_solve_257 : decode cX12_solve 257 = .ok (.i2l, 1) := by decide +kernel
theorem dX12_solve_258 : decode cX12_solve 258 = .ok (.lmul, 1) := by decide +kernel
theorem dX12_solve_259 : decode cX12_solve 259 = .ok (.ldc2_w 275, 3) := by decide +kernel
theorem dX12_solve_262 : decode cX12_solve 262 = .ok (.iload 4, 2) := by decide +kernel
theorem dX12_solve_264 : decode cX12_solve 264 = .ok (.i2l, 1) := by decide +kernel
theorem dX12_solve_265 : decode cX12_solve 265 = .ok (.ldiv, 1) := by decide +kernel
theorem dX12_solve_266 : decode cX12_solve 266 = .ok (.lload 5, 2) := by decide +kernel
theorem dX12_solve_268 : decode cX12_solve 268 = .ok (.lmul, 1) := by decide +kernel
theorem dX12_solve_269 : decode cX12_solve 269 = .ok (.lsub, 1) := by decide +kernel
theorem dX12_solve_270 : decode cX12_solve 270 = .ok (.ladd, 1) := by decide +kernel
theorem dX12_solve_271 : decode cX12_solve 271 = .ok (.lastore, 1) := by decide +kernel
theorem dX12_solve_272 : decode cX12_solve 272 = .ok (.iconst 0, 1) := by decide +kernel
theorem dX12_solve_273 : decode cX12_solve 273 = .ok (.istore 9, 2) := by decide +kernel
theorem dX12_solve_275 : decode cX12_solve 275 = .ok (.iload 9, 2) := by decide +kernel
theorem dX12_solve_277 : decode cX12_solve 277 = .ok (.iload_n 2, 1) := by decide +kernel
theorem dX12_solve_278 : decode cX12_solve 278 = .ok (.if_icmp .ge 54, 3) := by decide +kernel
theorem dX12_solve_281 : decode cX12_solve 281 = .ok (.aload_n 0, 1) := by decide +kernel
theorem dX12_solve_282 : decode cX12_solve 282 = .ok (.getfield 103, 3) := by decide +kernel
theorem dX12_solve_285 : decode cX12_solve 285 = .ok (.iconst 5, 1) := by decide +kernel
theorem dX12_solve_286 : decode cX12_solve 286 = .ok (.iload 7, 2) := by decide +kernel
theorem dX12_solve_288 : decode cX12_solve 288 = .ok (.imul, 1) := by decide +kernel
theorem dX12_solve_289 : decode cX12_solve 289 = .ok (.iload 9, 2) := by decide +kernel
theorem dX12_solve_291 : decode cX12_solve 291 = .ok (.iadd, 1) := by decide +kernel
theorem dX12_solve_292 : decode cX12_solve 292 = .ok (.dup2, 1) := by decide +kernel
theorem dX12_solve_293 : decode cX12_solve 293 = .ok (.laload, 1) := by decide +kernel
theorem dX12_solve_294 : decode cX12_solve 294 = .ok (.aload_n 0, 1) := by decide +kernel
theorem dX12_solve_295 : decode cX12_solve 295 = .ok (.getfield 91, 3) := by decide +kernel
theorem dX12_solve_298 : decode cX12_solve 298 = .ok (.iload_n 3, 1) := by decide +kernel
theorem dX12_solve_299 : decode cX12_solve 299 = .ok (.aload_n 0, 1) := by decide +kernel
theorem dX12_solve_300 : decode cX12_solve 300 = .ok (.getfield 97, 3) := by decide +kernel
theorem dX12_solve_303 : decode cX12_solve 303 = .ok (.iload 9, 2) := by decide +kernel
theorem dX12_solve_305 : decode cX12_solve 305 = .ok (.iaload, 1) := by decide +kernel
theorem dX12_solve_306 : decode cX12_solve 306 = .ok (.invokestatic 225, 3) := by decide +kernel
theorem dX12_solve_309 : decode cX12_solve 309 = .ok (.iaload, 1) := by decide +kernel
theorem dX12_solve_310 : decode cX12_solve 310 = .ok (.ifCond .lt 13, 3) := by decide +kernel
theorem dX12_solve_313 : decode cX12_solve 313 = .ok (.ldc2_w 275, 3) := by decide +kernel
theorem dX12_solve_316 : decode cX12_solve 316 = .ok (.iload 4, 2) := by decide +kernel
theorem dX12_solve_318 : decode cX12_solve 318 = .ok (.i2l, 1) := by decide +kernel
theorem dX12_solve_319 : decode cX12_solve 319 = .ok (.ldiv, 1) := by decide +kernel
theorem dX12_solve_320 : decode cX12_solve 320 = .ok (.goto 4, 3) := by decide +kernel
theorem dX12_solve_323 : decode cX12_solve 323 = .ok (.lconst 0, 1) := by decide +kernel
theorem dX12_solve_324 : decode cX12_solve 324 = .ok (.lsub, 1) := by decide +kernel
theorem dX12_solve_325 : decode cX12_solve 325 = .ok (.lastore, 1) := by decide +kernel
theorem dX12_solve_326 : decode cX12_solve 326 = .ok (.iinc 9 1, 3) := by decide +kernel
theorem dX12_solve_329 : decode cX12_solve 329 = .ok (.goto (-54), 3) := by decide +kernel
theorem dX12_solve_332 : decode cX12_solve 332 = .ok (.iinc 7 1, 3) := by decide +kernel
theorem dX12_solve_335 : decode cX12_solve 335 = .ok (.goto (-146), 3) := by decide +kernel
theorem dX12_solve_338 : decode cX12_solve 338 = .ok (.iinc 3 1, 3) := by decide +kernel
theorem dX12_solve_341 : decode cX12_solve 341 = .ok (.goto (-239), 3) := by decide +kernel
theorem dX12_solve_344 : decode cX12_solve 344 = .ok (.iconst 0, 1) := by decide +kernel
theorem dX12_solve_345 : decode cX12_solve 345 = .ok (.istore_n 3, 1) := by decide +kernel
theorem dX12_solve_346 : decode cX12_solve 346 = .ok (.iload_n 3, 1) := by decide +kernel
theorem dX12_solve_347 : decode cX12_solve 347 = .ok (.iload_n 2, 1) := by decide +kernel
theorem dX12_solve_348 : decode cX12_solve 348 = .ok (.if_icmp .ge 22, 3) := by decide +kernel
theorem dX12_solve_351 : decode cX12_solve 351 = .ok (.aload_n 0, 1) := by decide +kernel
theorem dX12_solve_352 : decode cX12_solve 352 = .ok (.getfield 103, 3) := by decide +kernel
theorem dX12_solve_355 : decode cX12_solve 355 = .ok (.iconst 5, 1) := by decide +kernel
theorem dX12_solve_356 : decode cX12_solve 356 = .ok (.iload_n 2, 1) := by decide +kernel
theorem dX12_solve_357 : decode cX12_solve 357 = .ok (.iconst 1, 1) := by decide +kernel
theorem dX12_solve_358 : decode cX12_solve 358 = .ok (.isub, 1) := by decide +kernel
theorem dX12_solve_359 : decode cX12_solve 359 = .ok (.imul, 1) := by decide +kernel
theorem dX12_solve_360 : decode cX12_solve 360 = .ok (.iload_n 3, 1) := by decide +kernel
theorem dX12_solve_361 : decode cX12_solve 361 = .ok (.iadd, 1) := by decide +kernel
theorem dX12_solve_362 : decode cX12_solve 362 = .ok (.lconst 1, 1) := by decide +kernel
theorem dX12_solve_363 : decode cX12_solve 363 = .ok (.lastore, 1) := by decide +kernel
theorem dX12_solve_364 : decode cX12_solve 364 = .ok (.iinc 3 1, 3) := by decide +kernel
theorem dX12_solve_367 : decode cX12_solve 367 = .ok (.goto (-21), 3) := by decide +kernel
theorem dX12_solve_370 : decode cX12_solve 370 = .ok (.aload_n 0, 1) := by decide +kernel
theorem dX12_solve_371 : decode cX12_solve 371 = .ok (.getfield 107, 3) := by decide +kernel
theorem dX12_solve_374 : decode cX12_solve 374 = .ok (.iload_n 2, 1) := by decide +kernel
theorem dX12_solve_375 : decode cX12_solve 375 = .ok (.iconst 1, 1) := by decide +kernel
theorem dX12_solve_376 : decode cX12_solve 376 = .ok (.isub, 1) := by decide +kernel
theorem dX12_solve_377 : decode cX12_solve 377 = .ok (.lconst 0, 1) := by decide +kernel
theorem dX12_solve_378 : decode cX12_solve 378 = .ok (.lastore, 1) := by decide +kernel
theorem dX12_solve_379 : decode cX12_solve 379 = .ok (.aload_n 0, 1) := by decide +kernel
theorem dX12_solve_380 : decode cX12_solve 380 = .ok (.aload_n 0, 1) := by decide +kernel
theorem dX12_solve_381 : decode cX12_solve 381 = .ok (.iconst (-1), 1) := by decide +kernel
theorem dX12_solve_382 : decode cX12_solve 382 = .ok (.invokevirtual 277, 3) := by decide +kernel
theorem dX12_solve_385 : decode cX12_solve 385 = .ok (.putfield 281, 3) := by decide +kernel
theorem dX12_solve_388 : decode cX12_solve 388 = .ok (.iconst 0, 1) := by decide +kernel
theorem dX12_solve_389 : decode cX12_solve 389 = .ok (.istore_n 3, 1) := by decide +kernel
theorem dX12_solve_390 : decode cX12_solve 390 = .ok (.iload_n 3, 1) := by decide +kernel
theorem dX12_solve_391 : decode cX12_solve 391 = .ok (.iload_n 2, 1) := by decide +kernel
theorem dX12_solve_392 : decode cX12_solve 392 = .ok (.if_icmp .ge 20, 3) := by decide +kernel
theorem dX12_solve_395 : decode cX12_solve 395 = .ok (.aload_n 0, 1) := by decide +kernel
theorem dX12_solve_396 : decode cX12_solve 396 = .ok (.getfield 110, 3) := by decide +kernel
theorem dX12_solve_399 : decode cX12_solve 399 = .ok (.iload_n 3, 1) := by decide +kernel
theorem dX12_solve_400 : decode cX12_solve 400 = .ok (.aload_n 0, 1) := by decide +kernel
theorem dX12_solve_401 : decode cX12_solve 401 = .ok (.iload_n 3, 1) := by decide +kernel
theorem dX12_solve_402 : decode cX12_solve 402 = .ok (.invokevirtual 277, 3) := by decide +kernel
theorem dX12_solve_405 : decode cX12_solve 405 = .ok (.lastore, 1) := by decide +kernel
theorem dX12_solve_406 : decode cX12_solve 406 = .ok (.iinc 3 1, 3) := by decide +kernel
theorem dX12_solve_409 : decode cX12_solve 409 = .ok (.goto (-19), 3) := by decide +kernel
theorem dX12_solve_412 : decode cX12_solve 412 = .ok (.return_, 1) := by decide +kernel
theorem dX12_common_0 : decode cX12_common 0 = .ok (.lload_n 0, 1) := by decide +kernel
theorem dX12_common_1 : decode cX12_common 1 = .ok (.invokestatic 284, 3) := by decide +kernel
theorem dX12_common_4 : decode cX12_common 4 = .ok (.lstore 4, 2) := by decide +kernel
theorem dX12_common_6 : decode cX12_common 6 = .ok (.lload_n 2, 1) := by decide +kernel
theorem dX12_common_7 : decode cX12_common 7 = .ok (.invokestatic 284, 3) := by decide +kernel
theorem dX12_common_10 : decode cX12_common 10 = .ok (.lstore 6, 2) := by decide +kernel
theorem dX12_common_12 : decode cX12_common 12 = .ok (.lload 6, 2) := by decide +kernel
theorem dX12_common_14 : decode cX12_common 14 = .ok (.lconst 0, 1) := by decide +kernel
theorem dX12_common_15 : decode cX12_common 15 = .ok (.lcmp, 1) := by decide +kernel
theorem dX12_common_16 : decode cX12_common 16 = .ok (.ifCond .eq 21, 3) := by decide +kernel
theorem dX12_common_19 : decode cX12_common 19 = .ok (.lload 4, 2) := by decide +kernel
theorem dX12_common_21 : decode cX12_common 21 = .ok (.lload 6, 2) := by decide +kernel
theorem dX12_common_23 : decode cX12_common 23 = .ok (.lrem, 1) := by decide +kernel
theorem dX12_common_24 : decode cX12_common 24 = .ok (.lstore 8, 2) := by decide +kernel
theorem dX12_common_26 : decode cX12_common 26 = .ok (.lload 6, 2) := by decide +kernel
theorem dX12_common_28 : decode cX12_common 28 = .ok (.lstore 4, 2) := by decide +kernel
theorem dX12_common_30 : decode cX12_common 30 = .ok (.lload 8, 2) := by decide +kernel
theorem dX12_common_32 : decode cX12_common 32 = .ok (.lstore 6, 2) := by decide +kernel
theorem dX12_common_34 : decode cX12_common 34 = .ok (.goto (-22), 3) := by decide +kernel
theorem dX12_common_37 : decode cX12_common 37 = .ok (.lload 4, 2) := by decide +kernel
theorem dX12_common_39 : decode cX12_common 39 = .ok (.lreturn, 1) := by decide +kernel
theorem dX12_tells_0 : decode cX12_tells 0 = .ok (.lload_n 1, 1) := by decide +kernel
theorem dX12_tells_1 : decode cX12_tells 1 = .ok (.lload_n 3, 1) := by decide +kernel
theorem dX12_tells_2 : decode cX12_tells 2 = .ok (.invokestatic 288, 3) := by decide +kernel
theorem dX12_tells_5 : decode cX12_tells 5 = .ok (.lstore 5, 2) := by decide +kernel
theorem dX12_tells_7 : decode cX12_tells 7 = .ok (.lload_n 3, 1) := by decide +kernel
theorem dX12_tells_8 : decode cX12_tells 8 = .ok (.lconst 0, 1) := by decide +kernel
theorem dX12_tells_9 : decode cX12_tells 9 = .ok (.lcmp, 1) := by decide +kernel
theorem dX12_tells_10 : decode cX12_tells 10 = .ok (.ifCond .ge 8, 3) := by decide +kernel
theorem dX12_tells_13 : decode cX12_tells 13 = .ok (.lload 5, 2) := by decide +kernel
theorem dX12_tells_15 : decode cX12_tells 15 = .ok (.lneg, 1) := by decide +kernel
theorem dX12_tells_16 : decode cX12_tells 16 = .ok (.lstore 5, 2) := by decide +kernel
theorem dX12_tells_18 : decode cX12_tells 18 = .ok (.aload_n 0, 1) := by decide +kernel
theorem dX12_tells_19 : decode cX12_tells 19 = .ok (.lload_n 1, 1) := by decide +kernel
theorem dX12_tells_20 : decode cX12_tells 20 = .ok (.lload 5, 2) := by decide +kernel
theorem dX12_tells_22 : decode cX12_tells 22 = .ok (.ldiv, 1) := by decide +kernel
theorem dX12_tells_23 : decode cX12_tells 23 = .ok (.putfield 292, 3) := by decide +kernel
theorem dX12_tells_26 : decode cX12_tells 26 = .ok (.aload_n 0, 1) := by decide +kernel
theorem dX12_tells_27 : decode cX12_tells 27 = .ok (.lload_n 3, 1) := by decide +kernel
theorem dX12_tells_28 : decode cX12_tells 28 = .ok (.lload 5, 2) := by decide +kernel
theorem dX12_tells_30 : decode cX12_tells 30 = .ok (.ldiv, 1) := by decide +kernel
theorem dX12_tells_31 : decode cX12_tells 31 = .ok (.putfield 7, 3) := by decide +kernel
theorem dX12_tells_34 : decode cX12_tells 34 = .ok (.return_, 1) := by decide +kernel
theorem dX12_hardness_0 : decode cX12_hardness 0 = .ok (.aload_n 0, 1) := by decide +kernel
theorem dX12_hardness_1 : decode cX12_hardness 1 = .ok (.iconst 0, 1) := by decide +kernel
theorem dX12_hardness_2 : decode cX12_hardness 2 = .ok (.putfield 195, 3) := by decide +kernel
theorem dX12_hardness_5 : decode cX12_hardness 5 = .ok (.aload_n 0, 1) := by decide +kernel
theorem dX12_hardness_6 : decode cX12_hardness 6 = .ok (.iconst 0, 1) := by decide +kernel
theorem dX12_hardness_7 : decode cX12_hardness 7 = .ok (.putfield 198, 3) := by decide +kernel
theorem dX12_hardness_10 : decode cX12_hardness 10 = .ok (.aload_n 0, 1) := by decide +kernel
theorem dX12_hardness_11 : decode cX12_hardness 11 = .ok (.iload_n 1, 1) := by decide +kernel
theorem dX12_hardness_12 : decode cX12_hardness 12 = .ok (.invokevirtual 219, 3) := by decide +kernel
theorem dX12_hardness_15 : decode cX12_hardness 15 = .ok (.ifCond .ne 9, 3) := by decide +kernel
theorem dX12_hardness_18 : decode cX12_hardness 18 = .ok (.aload_n 0, 1) := by decide +kernel
theorem dX12_hardness_19 : decode cX12_hardness 19 = .ok (.iconst 1, 1) := by decide +kernel
theorem dX12_hardness_20 : decode cX12_hardness 20 = .ok (.invokevirtual 222, 3) := by decide +kernel
theorem dX12_hardness_23 : decode cX12_hardness 23 = .ok (.ireturn, 1) := by decide +kernel
theorem dX12_hardness_24 : decode cX12_hardness 24 = .ok (.iload_n 2, 1) := by decide +kernel
theorem dX12_hardness_25 : decode cX12_hardness 25 = .ok (.invokestatic 253, 3) := by decide +kernel
theorem dX12_hardness_28 : decode cX12_hardness 28 = .ok (.ifCond .ne 9, 3) := by decide +kernel
theorem dX12_hardness_31 : decode cX12_hardness 31 = .ok (.aload_n 0, 1) := by decide +kernel
theorem dX12_hardness_32 : decode cX12_hardness 32 = .ok (.iconst 2, 1) := by decide +kernel
theorem dX12_hardness_33 : decode cX12_hardness 33 = .ok (.invokevirtual 222, 3) := by decide +kernel
theorem dX12_hardness_36 : decode cX12_hardness 36 = .ok (.ireturn, 1) := by decide +kernel
theorem dX12_hardness_37 : decode cX12_hardness 37 = .ok (.aload_n 0, 1) := by decide +kernel
theorem dX12_hardness_38 : decode cX12_hardness 38 = .ok (.iload_n 2, 1) := by decide +kernel
theorem dX12_hardness_39 : decode cX12_hardness 39 = .ok (.invokevirtual 264, 3) := by decide +kernel
theorem dX12_hardness_42 : decode cX12_hardness 42 = .ok (.aload_n 0, 1) := by decide +kernel
theorem dX12_hardness_43 : decode cX12_hardness 43 = .ok (.getfield 94, 3) := by decide +kernel
theorem dX12_hardness_46 : decode cX12_hardness 46 = .ok (.iload_n 1, 1) := by decide +kernel
theorem dX12_hardness_47 : decode cX12_hardness 47 = .ok (.iaload, 1) := by decide +kernel
theorem dX12_hardness_48 : decode cX12_hardness 48 = .ok (.ifCond .ge 10, 3) := by decide +kernel
theorem dX12_hardness_51 : decode cX12_hardness 51 = .ok (.aload_n 0, 1) := by decide +kernel
theorem dX12_hardness_52 : decode cX12_hardness 52 = .ok (.bipush 6, 2) := by decide +kernel
theorem dX12_hardness_54 : decode cX12_hardness 54 = .ok (.invokevirtual 222, 3) := by decide +kernel
theorem dX12_hardness_57 : decode cX12_hardness 57 = .ok (.ireturn, 1) := by decide +kernel
theorem dX12_hardness_58 : decode cX12_hardness 58 = .ok (.aload_n 0, 1) := by decide +kernel
theorem dX12_hardness_59 : decode cX12_hardness 59 = .ok (.aload_n 0, 1) := by decide +kernel
theorem dX12_hardness_60 : decode cX12_hardness 60 = .ok (.getfield 94, 3) := by decide +kernel
theorem dX12_hardness_63 : decode cX12_hardness 63 = .ok (.iload_n 1, 1) := by decide +kernel
theorem dX12_hardness_64 : decode cX12_hardness 64 = .ok (.iaload, 1) := by decide +kernel
theorem dX12_hardness_65 : decode cX12_hardness 65 = .ok (.invokevirtual 295, 3) := by decide +kernel
theorem dX12_hardness_68 : decode cX12_hardness 68 = .ok (.iconst 5, 1) := by decide +kernel
theorem dX12_hardness_69 : decode cX12_hardness 69 = .ok (.if_icmp .le 10, 3) := by decide +kernel
theorem dX12_hardness_72 : decode cX12_hardness 72 = .ok (.aload_n 0, 1) := by decide +kernel
theorem dX12_hardness_73 : decode cX12_hardness 73 = .ok (.bipush 9, 2) := by decide +kernel
theorem dX12_hardness_75 : decode cX12_hardness 75 = .ok (.invokevirtual 222, 3) := by decide +kernel
theorem dX12_hardness_78 : decode cX12_hardness 78 = .ok (.ireturn, 1) := by decide +kernel
theorem dX12_hardness_79 : decode cX12_hardness 79 = .ok (.aload_n 0, 1) := by decide +kernel
theorem dX12_hardness_80 : decode cX12_hardness 80 = .ok (.aload_n 0, 1) := by decide +kernel
theorem dX12_hardness_81 : decode cX12_hardness 81 = .ok (.getfield 94, 3) := by decide +kernel
theorem dX12_hardness_84 : decode cX12_hardness 84 = .ok (.iload_n 1, 1) := by decide +kernel
theorem dX12_hardness_85 : decode cX12_hardness 85 = .ok (.iaload, 1) := by decide +kernel
theorem dX12_hardness_86 : decode cX12_hardness 86 = .ok (.invokevirtual 298, 3) := by decide +kernel
theorem dX12_hardness_89 : decode cX12_hardness 89 = .ok (.iconst 0, 1) := by decide +kernel
theorem dX12_hardness_90 : decode cX12_hardness 90 = .ok (.istore_n 3, 1) := by decide +kernel
theorem dX12_hardness_91 : decode cX12_hardness 91 = .ok (.iload_n 3, 1) := by decide +kernel
theorem dX12_hardness_92 : decode cX12_hardness 92 = .ok (.aload_n 0, 1) := by decide +kernel
theorem dX12_hardness_93 : decode cX12_hardness 93 = .ok (.getfield 270, 3) := by decide +kernel
theorem dX12_hardness_96 : decode cX12_hardness 96 = .ok (.if_icmp .ge 33, 3) := by decide +kernel
theorem dX12_hardness_99 : decode cX12_hardness 99 = .ok (.aload_n 0, 1) := by decide +kernel
theorem dX12_hardness_100 : decode cX12_hardness 100 = .ok (.getfield 97, 3) := by decide +kernel
theorem dX12_hardness_103 : decode cX12_hardness 103 = .ok (.iload_n 3, 1) := by decide +kernel
theorem dX12_hardness_104 : decode cX12_hardness 104 = .ok (.iaload, 1) := by decide +kernel
theorem dX12_hardness_105 : decode cX12_hardness 105 = .ok (.iload_n 1, 1) := by decide +kernel
theorem dX12_hardness_106 : decode cX12_hardness 106 = .ok (.if_icmp .ne 17, 3) := by decide +kernel
theorem dX12_hardness_109 : decode cX12_hardness 109 = .ok (.aload_n 0, 1) := by decide +kernel
theorem dX12_hardness_110 : decode cX12_hardness 110 = .ok (.aload_n 0, 1) := by decide +kernel
theorem dX12_hardness_111 : decode cX12_hardness 111 = .ok (.getfield 110, 3) := by decide +kernel
theorem dX12_hardness_114 : decode cX12_hardness 114 = .ok (.iload_n 3, 1) := by decide +kernel
theorem dX12_hardness_115 : decode cX12_hardness 115 = .ok (.laload, 1) := by decide +kernel
theorem dX12_hardness_116 : decode cX12_hardness 116 = .ok (.aload_n 0, 1) := by decide +kernel
theorem dX12_hardness_117 : decode cX12_hardness 117 = .ok (.getfield 281, 3) := by decide +kernel
theorem dX12_hardness_120 : decode cX12_hardness 120 = .ok (.invokevirtual 301, 3) := by decide +kernel
theorem dX12_hardness_123 : decode cX12_hardness 123 = .ok (.iinc 3 1, 3) := by decide +kernel
theorem dX12_hardness_126 : decode cX12_hardness 126 = .ok (.goto (-35), 3) := by decide +kernel
theorem dX12_hardness_129 : decode cX12_hardness 129 = .ok (.iconst 1, 1) := by decide +kernel
theorem dX12_hardness_130 : decode cX12_hardness 130 = .ok (.ireturn, 1) := by decide +kernel
theorem dX12_fairOf_0 : decode cX12_fairOf 0 = .ok (.iconst (-1), 1) := by decide +kernel
theorem dX12_fairOf_1 : decode cX12_fairOf 1 = .ok (.istore_n 2, 1) := by decide +kernel
theorem dX12_fairOf_2 : decode cX12_fairOf 2 = .ok (.iconst 0, 1) := by decide +kernel
theorem dX12_fairOf_3 : decode cX12_fairOf 3 = .ok (.istore_n 3, 1) := by decide +kernel
theorem dX12_fairOf_4 : decode cX12_fairOf 4 = .ok (.iload_n 3, 1) := by decide +kernel
theorem dX12_fairOf_5 : decode cX12_fairOf 5 = .ok (.aload_n 0, 1) := by decide +kernel
theorem dX12_fairOf_6 : decode cX12_fairOf 6 = .ok (.getfield 208, 3) := by decide +kernel
theorem dX12_fairOf_9 : decode cX12_fairOf 9 = .ok (.if_icmp .ge 29, 3) := by decide +kernel
theorem dX12_fairOf_12 : decode cX12_fairOf 12 = .ok (.aload_n 0, 1) := by decide +kernel
theorem dX12_fairOf_13 : decode cX12_fairOf 13 = .ok (.getfield 91, 3) := by decide +kernel
theorem dX12_fairOf_16 : decode cX12_fairOf 16 = .ok (.iload_n 1, 1) := by decide +kernel
theorem dX12_fairOf_17 : decode cX12_fairOf 17 = .ok (.iload_n 3, 1) := by decide +kernel
theorem dX12_fairOf_18 : decode cX12_fairOf 18 = .ok (.invokestatic 225, 3) := by decide +kernel
theorem dX12_fairOf_21 : decode cX12_fairOf 21 = .ok (.iaload, 1) := by decide +kernel
theorem dX12_fairOf_22 : decode cX12_fairOf 22 = .ok (.ifCond .lt 10, 3) := by decide +kernel
theorem dX12_fairOf_25 : decode cX12_fairOf 25 = .ok (.aload_n 0, 1) := by decide +kernel
theorem dX12_fairOf_26 : decode cX12_fairOf 26 = .ok (.getfield 94, 3) := by decide +kernel
theorem dX12_fairOf_29 : decode cX12_fairOf 29 = .ok (.iload_n 3, 1) := by decide +kernel
theorem dX12_fairOf_30 : decode cX12_fairOf 30 = .ok (.iaload, 1) := by decide +kernel
theorem dX12_fairOf_31 : decode cX12_fairOf 31 = .ok (.istore_n 2, 1) := by decide +kernel
theorem dX12_fairOf_32 : decode cX12_fairOf 32 = .ok (.iinc 3 1, 3) := by decide +kernel
theorem dX12_fairOf_35 : decode cX12_fairOf 35 = .ok (.goto (-31), 3) := by decide +kernel
theorem dX12_fairOf_38 : decode cX12_fairOf 38 = .ok (.aload_n 0, 1) := by decide +kernel
theorem dX12_fairOf_39 : decode cX12_fairOf 39 = .ok (.iload_n 2, 1) := by decide +kernel
theorem dX12_fairOf_40 : decode cX12_fairOf 40 = .ok (.invokevirtual 298, 3) := by decide +kernel
theorem dX12_fairOf_43 : decode cX12_fairOf 43 = .ok (.lconst 0, 1) := by decide +kernel
theorem dX12_fairOf_44 : decode cX12_fairOf 44 = .ok (.lstore_n 3, 1) := by decide +kernel
theorem dX12_fairOf_45 : decode cX12_fairOf 45 = .ok (.iconst 0, 1) := by decide +kernel
theorem dX12_fairOf_46 : decode cX12_fairOf 46 = .ok (.istore 5, 2) := by decide +kernel
theorem dX12_fairOf_48 : decode cX12_fairOf 48 = .ok (.iconst 0, 1) := by decide +kernel
theorem dX12_fairOf_49 : decode cX12_fairOf 49 = .ok (.istore 6, 2) := by decide +kernel
theorem dX12_fairOf_51 : decode cX12_fairOf 51 = .ok (.iload 6, 2) := by decide +kernel
theorem dX12_fairOf_53 : decode cX12_fairOf 53 = .ok (.aload_n 0, 1) := by decide +kernel
theorem dX12_fairOf_54 : decode cX12_fairOf 54 = .ok (.getfield 270, 3) := by decide +kernel
theorem dX12_fairOf_57 : decode cX12_fairOf 57 = .ok (.if_icmp .ge 62, 3) := by decide +kernel
theorem dX12_fairOf_60 : decode cX12_fairOf 60 = .ok (.aload_n 0, 1) := by decide +kernel
theorem dX12_fairOf_61 : decode cX12_fairOf 61 = .ok (.getfield 91, 3) := by decide +kernel
theorem dX12_fairOf_64 : decode cX12_fairOf 64 = .ok (.iload_n 1, 1) := by decide +kernel
theorem dX12_fairOf_65 : decode cX12_fairOf 65 = .ok (.aload_n 0, 1) := by decide +kernel
theorem dX12_fairOf_66 : decode cX12_fairOf 66 = .ok (.getfield 97, 3) := by decide +kernel
theorem dX12_fairOf_69 : decode cX12_fairOf 69 = .ok (.iload 6, 2) := by decide +kernel
theorem dX12_fairOf_71 : decode cX12_fairOf 71 = .ok (.iaload, 1) := by decide +kernel
theorem dX12_fairOf_72 : decode cX12_fairOf 72 = .ok (.invokestatic 225, 3) := by decide +kernel
theorem dX12_fairOf_75 : decode cX12_fairOf 75 = .ok (.iaload, 1) := by decide +kernel
theorem dX12_fairOf_76 : decode cX12_fairOf 76 = .ok (.istore 7, 2) := by decide +kernel
theorem dX12_fairOf_78 : decode cX12_fairOf 78 = .ok (.iload 7, 2) := by decide +kernel
theorem dX12_fairOf_80 : decode cX12_fairOf 80 = .ok (.ifCond .ge 6, 3) := by decide +kernel
theorem dX12_fairOf_83 : decode cX12_fairOf 83 = .ok (.goto 30, 3) := by decide +kernel
theorem dX12_fairOf_86 : decode cX12_fairOf 86 = .ok (.lload_n 3, 1) := by decide +kernel
theorem dX12_fairOf_87 : decode cX12_fairOf 87 = .ok (.aload_n 0, 1) := by decide +kernel
theorem dX12_fairOf_88 : decode cX12_fairOf 88 = .ok (.getfield 82, 3) := by decide +kernel
theorem dX12_fairOf_91 : decode cX12_fairOf 91 = .ok (.iload 7, 2) := by decide +kernel
theorem dX12_fairOf_93 : decode cX12_fairOf 93 = .ok (.iaload, 1) := by decide +kernel
theorem dX12_fairOf_94 : decode cX12_fairOf 94 = .ok (.i2l, 1) := by decide +kernel
theorem dX12_fairOf_95 : decode cX12_fairOf 95 = .ok (.aload_n 0, 1) := by decide +kernel
theorem dX12_fairOf_96 : decode cX12_fairOf 96 = .ok (.getfield 281, 3) := by decide +kernel
theorem dX12_fairOf_99 : decode cX12_fairOf 99 = .ok (.lmul, 1) := by decide +kernel
theorem dX12_fairOf_100 : decode cX12_fairOf 100 = .ok (.aload_n 0, 1) := by decide +kernel
theorem dX12_fairOf_101 : decode cX12_fairOf 101 = .ok (.getfield 110, 3) := by decide +kernel
theorem dX12_fairOf_104 : decode cX12_fairOf 104 = .ok (.iload 6, 2) := by decide +kernel
theorem dX12_fairOf_106 : decode cX12_fairOf 106 = .ok (.laload, 1) := by decide +kernel
theorem dX12_fairOf_107 : decode cX12_fairOf 107 = .ok (.lsub, 1) := by decide +kernel
theorem dX12_fairOf_108 : decode cX12_fairOf 108 = .ok (.ladd, 1) := by decide +kernel
theorem dX12_fairOf_109 : decode cX12_fairOf 109 = .ok (.lstore_n 3, 1) := by decide +kernel
theorem dX12_fairOf_110 : decode cX12_fairOf 110 = .ok (.iinc 5 1, 3) := by decide +kernel
theorem dX12_fairOf_113 : decode cX12_fairOf 113 = .ok (.iinc 6 1, 3) := by decide +kernel
theorem dX12_fairOf_116 : decode cX12_fairOf 116 = .ok (.goto (-65), 3) := by decide +kernel
theorem dX12_fairOf_119 : decode cX12_fairOf 119 = .ok (.iload 5, 2) := by decide +kernel
theorem dX12_fairOf_121 : decode cX12_fairOf 121 = .ok (.i2l, 1) := by decide +kernel
theorem dX12_fairOf_122 : decode cX12_fairOf 122 = .ok (.aload_n 0, 1) := by decide +kernel
theorem dX12_fairOf_123 : decode cX12_fairOf 123 = .ok (.getfield 281, 3) := by decide +kernel
theorem dX12_fairOf_126 : decode cX12_fairOf 126 = .ok (.lmul, 1) := by decide +kernel
theorem dX12_fairOf_127 : decode cX12_fairOf 127 = .ok (.lstore 6, 2) := by decide +kernel
theorem dX12_fairOf_129 : decode cX12_fairOf 129 = .ok (.lload_n 3, 1) := by decide +kernel
theorem dX12_fairOf_130 : decode cX12_fairOf 130 = .ok (.lload 6, 2) := by decide +kernel
theorem dX12_fairOf_132 : decode cX12_fairOf 132 = .ok (.invokestatic 288, 3) := by decide +kernel
theorem dX12_fairOf_135 : decode cX12_fairOf 135 = .ok (.lstore 8, 2) := by decide +kernel
theorem dX12_fairOf_137 : decode cX12_fairOf 137 = .ok (.lload 6, 2) := by decide +kernel
theorem dX12_fairOf_139 : decode cX12_fairOf 139 = .ok (.lconst 0, 1) := by decide +kernel
theorem dX12_fairOf_140 : decode cX12_fairOf 140 = .ok (.lcmp, 1) := by decide +kernel
theorem dX12_fairOf_141 : decode cX12_fairOf 141 = .ok (.ifCond .ge 8, 3) := by decide +kernel
theorem dX12_fairOf_144 : decode cX12_fairOf 144 = .ok (.lload 8, 2) := by decide +kernel
theorem dX12_fairOf_146 : decode cX12_fairOf 146 = .ok (.lneg, 1) := by decide +kernel
theorem dX12_fairOf_147 : decode cX12_fairOf 147 = .ok (.lstore 8, 2) := by decide +kernel
theorem dX12_fairOf_149 : decode cX12_fairOf 149 = .ok (.aload_n 0, 1) := by decide +kernel
theorem dX12_fairOf_150 : decode cX12_fairOf 150 = .ok (.lload_n 3, 1) := by decide +kernel
theorem dX12_fairOf_151 : decode cX12_fairOf 151 = .ok (.lload 8, 2) := by decide +kernel
theorem dX12_fairOf_153 : decode cX12_fairOf 153 = .ok (.ldiv, 1) := by decide +kernel
theorem dX12_fairOf_154 : decode cX12_fairOf 154 = .ok (.putfield 305, 3) := by decide +kernel
theorem dX12_fairOf_157 : decode cX12_fairOf 157 = .ok (.aload_n 0, 1) := by decide +kernel
theorem dX12_fairOf_158 : decode cX12_fairOf 158 = .ok (.lload 6, 2) := by decide +kernel
theorem dX12_fairOf_160 : decode cX12_fairOf 160 = .ok (.lload 8, 2) := by decide +kernel
theorem dX12_fairOf_162 : decode cX12_fairOf 162 = .ok (.ldiv, 1) := by decide +kernel
theorem dX12_fairOf_163 : decode cX12_fairOf 163 = .ok (.putfield 308, 3) := by decide +kernel
theorem dX12_fairOf_166 : decode cX12_fairOf 166 = .ok (.return_, 1) := by decide +kernel
theorem dX12_fair_0 : decode cX12_fair 0 = .ok (.aload_n 0, 1) := by decide +kernel
theorem dX12_fair_1 : decode cX12_fair 1 = .ok (.iconst 0, 1) := by decide +kernel
theorem dX12_fair_2 : decode cX12_fair 2 = .ok (.putfield 195, 3) := by decide +kernel
theorem dX12_fair_5 : decode cX12_fair 5 = .ok (.aload_n 0, 1) := by decide +kernel
theorem dX12_fair_6 : decode cX12_fair 6 = .ok (.iconst 0, 1) := by decide +kernel
theorem dX12_fair_7 : decode cX12_fair 7 = .ok (.putfield 198, 3) := by decide +kernel
theorem dX12_fair_10 : decode cX12_fair 10 = .ok (.aload_n 0, 1) := by decide +kernel
theorem dX12_fair_11 : decode cX12_fair 11 = .ok (.iload_n 1, 1) := by decide +kernel
theorem dX12_fair_12 : decode cX12_fair 12 = .ok (.invokevirtual 211, 3) := by decide +kernel
theorem dX12_fair_15 : decode cX12_fair 15 = .ok (.ifCond .ne 9, 3) := by decide +kernel
theorem dX12_fair_18 : decode cX12_fair 18 = .ok (.aload_n 0, 1) := by decide +kernel
theorem dX12_fair_19 : decode cX12_fair 19 = .ok (.iconst 1, 1) := by decide +kernel
theorem dX12_fair_20 : decode cX12_fair 20 = .ok (.invokevirtual 222, 3) := by decide +kernel
theorem dX12_fair_23 : decode cX12_fair 23 = .ok (.ireturn, 1) := by decide +kernel
theorem dX12_fair_24 : decode cX12_fair 24 = .ok (.iload_n 2, 1) := by decide +kernel
theorem dX12_fair_25 : decode cX12_fair 25 = .ok (.invokestatic 253, 3) := by decide +kernel
theorem dX12_fair_28 : decode cX12_fair 28 = .ok (.ifCond .ne 9, 3) := by decide +kernel
theorem dX12_fair_31 : decode cX12_fair 31 = .ok (.aload_n 0, 1) := by decide +kernel
theorem dX12_fair_32 : decode cX12_fair 32 = .ok (.iconst 2, 1) := by decide +kernel
theorem dX12_fair_33 : decode cX12_fair 33 = .ok (.invokevirtual 222, 3) := by decide +kernel
theorem dX12_fair_36 : decode cX12_fair 36 = .ok (.ireturn, 1) := by decide +kernel
theorem dX12_fair_37 : decode cX12_fair 37 = .ok (.aload_n 0, 1) := by decide +kernel
theorem dX12_fair_38 : decode cX12_fair 38 = .ok (.iload_n 2, 1) := by decide +kernel
theorem dX12_fair_39 : decode cX12_fair 39 = .ok (.invokevirtual 264, 3) := by decide +kernel
theorem dX12_fair_42 : decode cX12_fair 42 = .ok (.aload_n 0, 1) := by decide +kernel
theorem dX12_fair_43 : decode cX12_fair 43 = .ok (.iload_n 1, 1) := by decide +kernel
theorem dX12_fair_44 : decode cX12_fair 44 = .ok (.invokevirtual 267, 3) := by decide +kernel
theorem dX12_fair_47 : decode cX12_fair 47 = .ok (.ifCond .ne 10, 3) := by decide +kernel
theorem dX12_fair_50 : decode cX12_fair 50 = .ok (.aload_n 0, 1) := by decide +kernel
theorem dX12_fair_51 : decode cX12_fair 51 = .ok (.bipush 6, 2) := by decide +kernel
theorem dX12_fair_53 : decode cX12_fair 53 = .ok (.invokevirtual 222, 3) := by decide +kernel
theorem dX12_fair_56 : decode cX12_fair 56 = .ok (.ireturn, 1) := by decide +kernel
theorem dX12_fair_57 : decode cX12_fair 57 = .ok (.iconst 0, 1) := by decide +kernel
theorem dX12_fair_58 : decode cX12_fair 58 = .ok (.istore_n 3, 1) := by decide +kernel
theorem dX12_fair_59 : decode cX12_fair 59 = .ok (.iload_n 3, 1) := by decide +kernel
theorem dX12_fair_60 : decode cX12_fair 60 = .ok (.aload_n 0, 1) := by decide +kernel
theorem dX12_fair_61 : decode cX12_fair 61 = .ok (.getfield 208, 3) := by decide +kernel
theorem dX12_fair_64 : decode cX12_fair 64 = .ok (.if_icmp .ge 43, 3) := by decide +kernel
theorem dX12_fair_67 : decode cX12_fair 67 = .ok (.aload_n 0, 1) := by decide +kernel
theorem dX12_fair_68 : decode cX12_fair 68 = .ok (.getfield 91, 3) := by decide +kernel
theorem dX12_fair_71 : decode cX12_fair 71 = .ok (.iload_n 1, 1) := by decide +kernel
theorem dX12_fair_72 : decode cX12_fair 72 = .ok (.iload_n 3, 1) := by decide +kernel
theorem dX12_fair_73 : decode cX12_fair 73 = .ok (.invokestatic 225, 3) := by decide +kernel
theorem dX12_fair_76 : decode cX12_fair 76 = .ok (.iaload, 1) := by decide +kernel
theorem dX12_fair_77 : decode cX12_fair 77 = .ok (.ifCond .lt 24, 3) := by decide +kernel
theorem dX12_fair_80 : decode cX12_fair 80 = .ok (.aload_n 0, 1) := by decide +kernel
theorem dX12_fair_81 : decode cX12_fair 81 = .ok (.aload_n 0, 1) := by decide +kernel
theorem dX12_fair_82 : decode cX12_fair 82 = .ok (.getfield 94, 3) := by decide +kernel
theorem dX12_fair_85 : decode cX12_fair 85 = .ok (.iload_n 3, 1) := by decide +kernel
theorem dX12_fair_86 : decode cX12_fair 86 = .ok (.iaload, 1) := by decide +kernel
theorem dX12_fair_87 : decode cX12_fair 87 = .ok (.invokevirtual 295, 3) := by decide +kernel
theorem dX12_fair_90 : decode cX12_fair 90 = .ok (.iconst 5, 1) := by decide +kernel
theorem dX12_fair_91 : decode cX12_fair 91 = .ok (.if_icmp .le 10, 3) := by decide +kernel
theorem dX12_fair_94 : decode cX12_fair 94 = .ok (.aload_n 0, 1) := by decide +kernel
theorem dX12_fair_95 : decode cX12_fair 95 = .ok (.bipush 9, 2) := by decide +kernel
theorem dX12_fair_97 : decode cX12_fair 97 = .ok (.invokevirtual 222, 3) := by decide +kernel
theorem dX12_fair_100 : decode cX12_fair 100 = .ok (.ireturn, 1) := by decide +kernel
theorem dX12_fair_101 : decode cX12_fair 101 = .ok (.iinc 3 1, 3) := by decide +kernel
theorem dX12_fair_104 : decode cX12_fair 104 = .ok (.goto (-45), 3) := by decide +kernel
theorem dX12_fair_107 : decode cX12_fair 107 = .ok (.aload_n 0, 1) := by decide +kernel
theorem dX12_fair_108 : decode cX12_fair 108 = .ok (.iload_n 1, 1) := by decide +kernel
theorem dX12_fair_109 : decode cX12_fair 109 = .ok (.invokevirtual 311, 3) := by decide +kernel
theorem dX12_fair_112 : decode cX12_fair 112 = .ok (.aload_n 0, 1) := by decide +kernel
theorem dX12_fair_113 : decode cX12_fair 113 = .ok (.aload_n 0, 1) := by decide +kernel
theorem dX12_fair_114 : decode cX12_fair 114 = .ok (.getfield 305, 3) := by decide +kernel
theorem dX12_fair_117 : decode cX12_fair 117 = .ok (.putfield 292, 3) := by decide +kernel
theorem dX12_fair_120 : decode cX12_fair 120 = .ok (.aload_n 0, 1) := by decide +kernel
theorem dX12_fair_121 : decode cX12_fair 121 = .ok (.aload_n 0, 1) := by decide +kernel
theorem dX12_fair_122 : decode cX12_fair 122 = .ok (.getfield 308, 3) := by decide +kernel
theorem dX12_fair_125 : decode cX12_fair 125 = .ok (.putfield 7, 3) := by decide +kernel
theorem dX12_fair_128 : decode cX12_fair 128 = .ok (.iconst 1, 1) := by decide +kernel
theorem dX12_fair_129 : decode cX12_fair 129 = .ok (.ireturn, 1) := by decide +kernel
theorem dX12_upper_0 : decode cX12_upper 0 = .ok (.aload_n 0, 1) := by decide +kernel
theorem dX12_upper_1 : decode cX12_upper 1 = .ok (.iconst 0, 1) := by decide +kernel
theorem dX12_upper_2 : decode cX12_upper 2 = .ok (.putfield 195, 3) := by decide +kernel
theorem dX12_upper_5 : decode cX12_upper 5 = .ok (.aload_n 0, 1) := by decide +kernel
theorem dX12_upper_6 : decode cX12_upper 6 = .ok (.getfield 292, 3) := by decide +kernel
theorem dX12_upper_9 : decode cX12_upper 9 = .ok (.lreturn, 1) := by decide +kernel
theorem dX12_lower_0 : decode cX12_lower 0 = .ok (.aload_n 0, 1) := by decide +kernel
theorem dX12_lower_1 : decode cX12_lower 1 = .ok (.iconst 0, 1) := by decide +kernel
theorem dX12_lower_2 : decode cX12_lower 2 = .ok (.putfield 195, 3) := by decide +kernel
theorem dX12_lower_5 : decode cX12_lower 5 = .ok (.aload_n 0, 1) := by decide +kernel
theorem dX12_lower_6 : decode cX12_lower 6 = .ok (.getfield 7, 3) := by decide +kernel
theorem dX12_lower_9 : decode cX12_lower 9 = .ok (.lreturn, 1) := by decide +kernel
theorem dX12_look_0 : decode cX12_look 0 = .ok (.iload_n 1, 1) := by decide +kernel
theorem dX12_look_1 : decode cX12_look 1 = .ok (.aload_n 0, 1) := by decide +kernel
theorem dX12_look_2 : decode cX12_look 2 = .ok (.getfield 314, 3) := by decide +kernel
theorem dX12_look_5 : decode cX12_look 5 = .ok (.if_icmp .ge 16, 3) := by decide +kernel
theorem dX12_look_8 : decode cX12_look 8 = .ok (.aload_n 0, 1) := by decide +kernel
theorem dX12_look_9 : decode cX12_look 9 = .ok (.getfield 113, 3) := by decide +kernel
theorem dX12_look_12 : decode cX12_look 12 = .ok (.iload_n 1, 1) := by decide +kernel
theorem dX12_look_13 : decode cX12_look 13 = .ok (.baload, 1) := by decide +kernel
theorem dX12_look_14 : decode cX12_look 14 = .ok (.sipush 255, 3) := by decide +kernel
theorem dX12_look_17 : decode cX12_look 17 = .ok (.iand, 1) := by decide +kernel
theorem dX12_look_18 : decode cX12_look 18 = .ok (.goto 4, 3) := by decide +kernel
theorem dX12_look_21 : decode cX12_look 21 = .ok (.iconst 0, 1) := by decide +kernel
theorem dX12_look_22 : decode cX12_look 22 = .ok (.ireturn, 1) := by decide +kernel
theorem dX12_isLetter_0 : decode cX12_isLetter 0 = .ok (.iload_n 0, 1) := by decide +kernel
theorem dX12_isLetter_1 : decode cX12_isLetter 1 = .ok (.bipush 97, 2) := by decide +kernel
theorem dX12_isLetter_3 : decode cX12_isLetter 3 = .ok (.if_icmp .lt 13, 3) := by decide +kernel
theorem dX12_isLetter_6 : decode cX12_isLetter 6 = .ok (.iload_n 0, 1) := by decide +kernel
theorem dX12_isLetter_7 : decode cX12_isLetter 7 = .ok (.bipush 122, 2) := by decide +kernel
theorem dX12_isLetter_9 : decode cX12_isLetter 9 = .ok (.if_icmp .gt 7, 3) := by decide +kernel
theorem dX12_isLetter_12 : decode cX12_isLetter 12 = .ok (.iconst 1, 1) := by decide +kernel
theorem dX12_isLetter_13 : decode cX12_isLetter 13 = .ok (.goto 4, 3) := by decide +kernel
theorem dX12_isLetter_16 : decode cX12_isLetter 16 = .ok (.iconst 0, 1) := by decide +kernel
theorem dX12_isLetter_17 : decode cX12_isLetter 17 = .ok (.ireturn, 1) := by decide +kernel
theorem dX12_isDigit_0 : decode cX12_isDigit 0 = .ok (.iload_n 0, 1) := by decide +kernel
theorem dX12_isDigit_1 : decode cX12_isDigit 1 = .ok (.bipush 48, 2) := by decide +kernel
theorem dX12_isDigit_3 : decode cX12_isDigit 3 = .ok (.if_icmp .lt 13, 3) := by decide +kernel
theorem dX12_isDigit_6 : decode cX12_isDigit 6 = .ok (.iload_n 0, 1) := by decide +kernel
theorem dX12_isDigit_7 : decode cX12_isDigit 7 = .ok (.bipush 57, 2) := by decide +kernel
theorem dX12_isDigit_9 : decode cX12_isDigit 9 = .ok (.if_icmp .gt 7, 3) := by decide +kernel
theorem dX12_isDigit_12 : decode cX12_isDigit 12 = .ok (.iconst 1, 1) := by decide +kernel
theorem dX12_isDigit_13 : decode cX12_isDigit 13 = .ok (.goto 4, 3) := by decide +kernel
theorem dX12_isDigit_16 : decode cX12_isDigit 16 = .ok (.iconst 0, 1) := by decide +kernel
theorem dX12_isDigit_17 : decode cX12_isDigit 17 = .ok (.ireturn, 1) := by decide +kernel
theorem dX12_next_0 : decode cX12_next 0 = .ok (.aload_n 0, 1) := by decide +kernel
theorem dX12_next_1 : decode cX12_next 1 = .ok (.aload_n 0, 1) := by decide +kernel
theorem dX12_next_2 : decode cX12_next 2 = .ok (.getfield 317, 3) := by decide +kernel
theorem dX12_next_5 : decode cX12_next 5 = .ok (.putfield 320, 3) := by decide +kernel
theorem dX12_next_8 : decode cX12_next 8 = .ok (.aload_n 0, 1) := by decide +kernel
theorem dX12_next_9 : decode cX12_next 9 = .ok (.getfield 320, 3) := by decide +kernel
theorem dX12_next_12 : decode cX12_next 12 = .ok (.aload_n 0, 1) := by decide +kernel
theorem dX12_next_13 : decode cX12_next 13 = .ok (.getfield 314, 3) := by decide +kernel
theorem dX12_next_16 : decode cX12_next 16 = .ok (.if_icmp .ge 42, 3) := by decide +kernel
theorem dX12_next_19 : decode cX12_next 19 = .ok (.aload_n 0, 1) := by decide +kernel
theorem dX12_next_20 : decode cX12_next 20 = .ok (.aload_n 0, 1) := by decide +kernel
theorem dX12_next_21 : decode cX12_next 21 = .ok (.getfield 320, 3) := by decide +kernel
theorem dX12_next_24 : decode cX12_next 24 = .ok (.invokevirtual 323, 3) := by decide +kernel
theorem dX12_next_27 : decode cX12_next 27 = .ok (.bipush 10, 2) := by decide +kernel
theorem dX12_next_29 : decode cX12_next 29 = .ok (.if_icmp .eq 16, 3) := by decide +kernel
theorem dX12_next_32 : decode cX12_next 32 = .ok (.aload_n 0, 1) := by decide +kernel
theorem dX12_next_33 : decode cX12_next 33 = .ok (.aload_n 0, 1) := by decide +kernel
theorem dX12_next_34 : decode cX12_next 34 = .ok (.getfield 320, 3) := by decide +kernel
theorem dX12_next_37 : decode cX12_next 37 = .ok (.invokevirtual 323, 3) := by decide +kernel
theorem dX12_next_40 : decode cX12_next 40 = .ok (.bipush 32, 2) := by decide +kernel
theorem dX12_next_42 : decode cX12_next 42 = .ok (.if_icmp .ne 16, 3) := by decide +kernel
theorem dX12_next_45 : decode cX12_next 45 = .ok (.aload_n 0, 1) := by decide +kernel
theorem dX12_next_46 : decode cX12_next 46 = .ok (.dup, 1) := by decide +kernel
theorem dX12_next_47 : decode cX12_next 47 = .ok (.getfield 320, 3) := by decide +kernel
theorem dX12_next_50 : decode cX12_next 50 = .ok (.iconst 1, 1) := by decide +kernel
theorem dX12_next_51 : decode cX12_next 51 = .ok (.iadd, 1) := by decide +kernel
theorem dX12_next_52 : decode cX12_next 52 = .ok (.putfield 320, 3) := by decide +kernel
theorem dX12_next_55 : decode cX12_next 55 = .ok (.goto (-47), 3) := by decide +kernel
theorem dX12_next_58 : decode cX12_next 58 = .ok (.aload_n 0, 1) := by decide +kernel
theorem dX12_next_59 : decode cX12_next 59 = .ok (.aload_n 0, 1) := by decide +kernel
theorem dX12_next_60 : decode cX12_next 60 = .ok (.getfield 320, 3) := by decide +kernel
theorem dX12_next_63 : decode cX12_next 63 = .ok (.putfield 317, 3) := by decide +kernel
theorem dX12_next_66 : decode cX12_next 66 = .ok (.aload_n 0, 1) := by decide +kernel
theorem dX12_next_67 : decode cX12_next 67 = .ok (.getfield 320, 3) := by decide +kernel
theorem dX12_next_70 : decode cX12_next 70 = .ok (.aload_n 0, 1) := by decide +kernel
theorem dX12_next_71 : decode cX12_next 71 = .ok (.getfield 314, 3) := by decide +kernel
theorem dX12_next_74 : decode cX12_next 74 = .ok (.if_icmp .lt 9, 3) := by decide +kernel
theorem dX12_next_77 : decode cX12_next 77 = .ok (.aload_n 0, 1) := by decide +kernel
theorem dX12_next_78 : decode cX12_next 78 = .ok (.iconst 0, 1) := by decide +kernel
theorem dX12_next_79 : decode cX12_next 79 = .ok (.putfield 326, 3) := by decide +kernel
theorem dX12_next_82 : decode cX12_next 82 = .ok (.return_, 1) := by decide +kernel
theorem dX12_next_83 : decode cX12_next 83 = .ok (.aload_n 0, 1) := by decide +kernel
theorem dX12_next_84 : decode cX12_next 84 = .ok (.aload_n 0, 1) := by decide +kernel
theorem dX12_next_85 : decode cX12_next 85 = .ok (.getfield 320, 3) := by decide +kernel
theorem dX12_next_88 : decode cX12_next 88 = .ok (.invokevirtual 323, 3) := by decide +kernel
theorem dX12_next_91 : decode cX12_next 91 = .ok (.istore_n 1, 1) := by decide +kernel
theorem dX12_next_92 : decode cX12_next 92 = .ok (.iload_n 1, 1) := by decide +kernel
theorem dX12_next_93 : decode cX12_next 93 = .ok (.invokestatic 329, 3) := by decide +kernel
theorem dX12_next_96 : decode cX12_next 96 = .ok (.ifCond .eq 86, 3) := by decide +kernel
theorem dX12_next_99 : decode cX12_next 99 = .ok (.aload_n 0, 1) := by decide +kernel
theorem dX12_next_100 : decode cX12_next 100 = .ok (.iconst 1, 1) := by decide +kernel
theorem dX12_next_101 : decode cX12_next 101 = .ok (.putfield 326, 3) := by decide +kernel
theorem dX12_next_104 : decode cX12_next 104 = .ok (.aload_n 0, 1) := by decide +kernel
theorem dX12_next_105 : decode cX12_next 105 = .ok (.lconst 0, 1) := by decide +kernel
theorem dX12_next_106 : decode cX12_next 106 = .ok (.putfield 332, 3) := by decide +kernel
theorem dX12_next_109 : decode cX12_next 109 = .ok (.aload_n 0, 1) := by decide +kernel
theorem dX12_next_110 : decode cX12_next 110 = .ok (.aload_n 0, 1) := by decide +kernel
theorem dX12_next_111 : decode cX12_next 111 = .ok (.getfield 317, 3) := by decide +kernel
theorem dX12_next_114 : decode cX12_next 114 = .ok (.invokevirtual 323, 3) := by decide +kernel
theorem dX12_next_117 : decode cX12_next 117 = .ok (.invokestatic 329, 3) := by decide +kernel
theorem dX12_next_120 : decode cX12_next 120 = .ok (.ifCond .eq 187, 3) := by decide +kernel
theorem dX12_next_123 : decode cX12_next 123 = .ok (.aload_n 0, 1) := by decide +kernel
theorem dX12_next_124 : decode cX12_next 124 = .ok (.aload_n 0, 1) := by decide +kernel
theorem dX12_next_125 : decode cX12_next 125 = .ok (.getfield 317, 3) := by decide +kernel
theorem dX12_next_128 : decode cX12_next 128 = .ok (.aload_n 0, 1) := by decide +kernel
theorem dX12_next_129 : decode cX12_next 129 = .ok (.getfield 320, 3) := by decide +kernel
theorem dX12_next_132 : decode cX12_next 132 = .ok (.isub, 1) := by decide +kernel
theorem dX12_next_133 : decode cX12_next 133 = .ok (.bipush 12, 2) := by decide +kernel
theorem dX12_next_135 : decode cX12_next 135 = .ok (.if_icmp .ge 28, 3) := by decide +kernel
theorem dX12_next_138 : decode cX12_next 138 = .ok (.aload_n 0, 1) := by decide +kernel
theorem dX12_next_139 : decode cX12_next 139 = .ok (.getfield 332, 3) := by decide +kernel
theorem dX12_next_142 : decode cX12_next 142 = .ok (.ldc2_w 335, 3) := by decide +kernel
theorem dX12_next_145 : decode cX12_next 145 = .ok (.lmul, 1) := by decide +kernel
theorem dX12_next_146 : decode cX12_next 146 = .ok (.aload_n 0, 1) := by decide +kernel
theorem dX12_next_147 : decode cX12_next 147 = .ok (.aload_n 0, 1) := by decide +kernel
theorem dX12_next_148 : decode cX12_next 148 = .ok (.getfield 317, 3) := by decide +kernel
theorem dX12_next_151 : decode cX12_next 151 = .ok (.invokevirtual 323, 3) := by decide +kernel
theorem dX12_next_154 : decode cX12_next 154 = .ok (.i2l, 1) := by decide +kernel
theorem dX12_next_155 : decode cX12_next 155 = .ok (.ladd, 1) := by decide +kernel
theorem dX12_next_156 : decode cX12_next 156 = .ok (.ldc2_w 337, 3) := by decide +kernel
theorem dX12_next_159 : decode cX12_next 159 = .ok (.lsub, 1) := by decide +kernel
theorem dX12_next_160 : decode cX12_next 160 = .ok (.goto 6, 3) := by decide +kernel
theorem dX12_next_163 : decode cX12_next 163 = .ok (.ldc2_w 273, 3) := by decide +kernel
theorem dX12_next_166 : decode cX12_next 166 = .ok (.putfield 332, 3) := by decide +kernel
theorem dX12_next_169 : decode cX12_next 169 = .ok (.aload_n 0, 1) := by decide +kernel
theorem dX12_next_170 : decode cX12_next 170 = .ok (.dup, 1) := by decide +kernel
theorem dX12_next_171 : decode cX12_next 171 = .ok (.getfield 317, 3) := by decide +kernel
theorem dX12_next_174 : decode cX12_next 174 = .ok (.iconst 1, 1) := by decide +kernel
theorem dX12_next_175 : decode cX12_next 175 = .ok (.iadd, 1) := by decide +kernel
theorem dX12_next_176 : decode cX12_next 176 = .ok (.putfield 317, 3) := by decide +kernel
theorem dX12_next_179 : decode cX12_next 179 = .ok (.goto (-70), 3) := by decide +kernel
theorem dX12_next_182 : decode cX12_next 182 = .ok (.iload_n 1, 1) := by decide +kernel
theorem dX12_next_183 : decode cX12_next 183 = .ok (.invokestatic 339, 3) := by decide +kernel
theorem dX12_next_186 : decode cX12_next 186 = .ok (.ifCond .eq 96, 3) := by decide +kernel
theorem dX12_next_189 : decode cX12_next 189 = .ok (.aload_n 0, 1) := by decide +kernel
theorem dX12_next_190 : decode cX12_next 190 = .ok (.iconst 0, 1) := by decide +kernel
theorem dX12_next_191 : decode cX12_next 191 = .ok (.putfield 342, 3) := by decide +kernel
theorem dX12_next_194 : decode cX12_next 194 = .ok (.aload_n 0, 1) := by decide +kernel
theorem dX12_next_195 : decode cX12_next 195 = .ok (.aload_n 0, 1) := by decide +kernel
theorem dX12_next_196 : decode cX12_next 196 = .ok (.getfield 317, 3) := by decide +kernel
theorem dX12_next_199 : decode cX12_next 199 = .ok (.invokevirtual 323, 3) := by decide +kernel
theorem dX12_next_202 : decode cX12_next 202 = .ok (.invokestatic 339, 3) := by decide +kernel
theorem dX12_next_205 : decode cX12_next 205 = .ok (.ifCond .eq 52, 3) := by decide +kernel
theorem dX12_next_208 : decode cX12_next 208 = .ok (.aload_n 0, 1) := by decide +kernel
theorem dX12_next_209 : decode cX12_next 209 = .ok (.getfield 317, 3) := by decide +kernel
theorem dX12_next_212 : decode cX12_next 212 = .ok (.aload_n 0, 1) := by decide +kernel
theorem dX12_next_213 : decode cX12_next 213 = .ok (.getfield 320, 3) := by decide +kernel
theorem dX12_next_216 : decode cX12_next 216 = .ok (.isub, 1) := by decide +kernel
theorem dX12_next_217 : decode cX12_next 217 = .ok (.iconst 3, 1) := by decide +kernel
theorem dX12_next_218 : decode cX12_next 218 = .ok (.if_icmp .ge 26, 3) := by decide +kernel
theorem dX12_next_221 : decode cX12_next 221 = .ok (.aload_n 0, 1) := by decide +kernel
theorem dX12_next_222 : decode cX12_next 222 = .ok (.bipush 10, 2) := by decide +kernel
theorem dX12_next_224 : decode cX12_next 224 = .ok (.aload_n 0, 1) := by decide +kernel
theorem dX12_next_225 : decode cX12_next 225 = .ok (.getfield 342, 3) := by decide +kernel
theorem dX12_next_228 : decode cX12_next 228 = .ok (.imul, 1) := by decide +kernel
theorem dX12_next_229 : decode cX12_next 229 = .ok (.aload_n 0, 1) := by decide +kernel
theorem dX12_next_230 : decode cX12_next 230 = .ok (.aload_n 0, 1) := by decide +kernel
theorem dX12_next_231 : decode cX12_next 231 = .ok (.getfield 317, 3) := by decide +kernel
theorem dX12_next_234 : decode cX12_next 234 = .ok (.invokevirtual 323, 3) := by decide +kernel
theorem dX12_next_237 : decode cX12_next 237 = .ok (.iadd, 1) := by decide +kernel
theorem dX12_next_238 : decode cX12_next 238 = .ok (.bipush 48, 2) := by decide +kernel
theorem dX12_next_240 : decode cX12_next 240 = .ok (.isub, 1) := by decide +kernel
theorem dX12_next_241 : decode cX12_next 241 = .ok (.putfield 342, 3) := by decide +kernel
theorem dX12_next_244 : decode cX12_next 244 = .ok (.aload_n 0, 1) := by decide +kernel
theorem dX12_next_245 : decode cX12_next 245 = .ok (.dup, 1) := by decide +kernel
theorem dX12_next_246 : decode cX12_next 246 = .ok (.getfield 317, 3) := by decide +kernel
theorem dX12_next_249 : decode cX12_next 249 = .ok (.iconst 1, 1) := by decide +kernel
theorem dX12_next_250 : decode cX12_next 250 = .ok (.iadd, 1) := by decide +kernel
theorem dX12_next_251 : decode cX12_next 251 = .ok (.putfield 317, 3) := by decide +kernel
theorem dX12_next_254 : decode cX12_next 254 = .ok (.goto (-60), 3) := by decide +kernel
theorem dX12_next_257 : decode cX12_next 257 = .ok (.aload_n 0, 1) := by decide +kernel
theorem dX12_next_258 : decode cX12_next 258 = .ok (.aload_n 0, 1) := by decide +kernel
theorem dX12_next_259 : decode cX12_next 259 = .ok (.getfield 317, 3) := by decide +kernel
theorem dX12_next_262 : decode cX12_next 262 = .ok (.aload_n 0, 1) := by decide +kernel
theorem dX12_next_263 : decode cX12_next 263 = .ok (.getfield 320, 3) := by decide +kernel
theorem dX12_next_266 : decode cX12_next 266 = .ok (.isub, 1) := by decide +kernel
theorem dX12_next_267 : decode cX12_next 267 = .ok (.iconst 3, 1) := by decide +kernel
theorem dX12_next_268 : decode cX12_next 268 = .ok (.if_icmp .le 7, 3) := by decide +kernel
theorem dX12_next_271 : decode cX12_next 271 = .ok (.iconst 4, 1) := by decide +kernel
theorem dX12_next_272 : decode cX12_next 272 = .ok (.goto 4, 3) := by decide +kernel
theorem dX12_next_275 : decode cX12_next 275 = .ok (.iconst 2, 1) := by decide +kernel
theorem dX12_next_276 : decode cX12_next 276 = .ok (.putfield 326, 3) := by decide +kernel
theorem dX12_next_279 : decode cX12_next 279 = .ok (.goto 28, 3) := by decide +kernel
theorem dX12_next_282 : decode cX12_next 282 = .ok (.aload_n 0, 1) := by decide +kernel
theorem dX12_next_283 : decode cX12_next 283 = .ok (.aload_n 0, 1) := by decide +kernel
theorem dX12_next_284 : decode cX12_next 284 = .ok (.getfield 320, 3) := by decide +kernel
theorem dX12_next_287 : decode cX12_next 287 = .ok (.iconst 1, 1) := by decide +kernel
theorem dX12_next_288 : decode cX12_next 288 = .ok (.iadd, 1) := by decide +kernel
theorem dX12_next_289 : decode cX12_next 289 = .ok (.putfield 317, 3) := by decide +kernel
theorem dX12_next_292 : decode cX12_next 292 = .ok (.aload_n 0, 1) := by decide +kernel
theorem dX12_next_293 : decode cX12_next 293 = .ok (.iload_n 1, 1) := by decide +kernel
theorem dX12_next_294 : decode cX12_next 294 = .ok (.bipush 59, 2) := by decide +kernel
theorem dX12_next_296 : decode cX12_next 296 = .ok (.if_icmp .ne 7, 3) := by decide +kernel
theorem dX12_next_299 : decode cX12_next 299 = .ok (.iconst 3, 1) := by decide +kernel
theorem dX12_next_300 : decode cX12_next 300 = .ok (.goto 4, 3) := by decide +kernel
theorem dX12_next_303 : decode cX12_next 303 = .ok (.iconst 4, 1) := by decide +kernel
theorem dX12_next_304 : decode cX12_next 304 = .ok (.putfield 326, 3) := by decide +kernel
theorem dX12_next_307 : decode cX12_next 307 = .ok (.return_, 1) := by decide +kernel
theorem dX12_spelled_0 : decode cX12_spelled 0 = .ok (.iload_n 0, 1) := by decide +kernel
theorem dX12_spelled_1 : decode cX12_spelled 1 = .ok (.i2l, 1) := by decide +kernel
theorem dX12_spelled_2 : decode cX12_spelled 2 = .ok (.ldc2_w 337, 3) := by decide +kernel
theorem dX12_spelled_5 : decode cX12_spelled 5 = .ok (.lsub, 1) := by decide +kernel
theorem dX12_spelled_6 : decode cX12_spelled 6 = .ok (.lstore 6, 2) := by decide +kernel
theorem dX12_spelled_8 : decode cX12_spelled 8 = .ok (.lload 6, 2) := by decide +kernel
theorem dX12_spelled_10 : decode cX12_spelled 10 = .ok (.ldc2_w 335, 3) := by decide +kernel
theorem dX12_spelled_13 : decode cX12_spelled 13 = .ok (.lmul, 1) := by decide +kernel
theorem dX12_spelled_14 : decode cX12_spelled 14 = .ok (.iload_n 1, 1) := by decide +kernel
theorem dX12_spelled_15 : decode cX12_spelled 15 = .ok (.i2l, 1) := by decide +kernel
theorem dX12_spelled_16 : decode cX12_spelled 16 = .ok (.ladd, 1) := by decide +kernel
theorem dX12_spelled_17 : decode cX12_spelled 17 = .ok (.ldc2_w 337, 3) := by decide +kernel
theorem dX12_spelled_20 : decode cX12_spelled 20 = .ok (.lsub, 1) := by decide +kernel
theorem dX12_spelled_21 : decode cX12_spelled 21 = .ok (.lstore 6, 2) := by decide +kernel
theorem dX12_spelled_23 : decode cX12_spelled 23 = .ok (.lload 6, 2) := by decide +kernel
theorem dX12_spelled_25 : decode cX12_spelled 25 = .ok (.ldc2_w 335, 3) := by decide +kernel
theorem dX12_spelled_28 : decode cX12_spelled 28 = .ok (.lmul, 1) := by decide +kernel
theorem dX12_spelled_29 : decode cX12_spelled 29 = .ok (.iload_n 2, 1) := by decide +kernel
theorem dX12_spelled_30 : decode cX12_spelled 30 = .ok (.i2l, 1) := by decide +kernel
theorem dX12_spelled_31 : decode cX12_spelled 31 = .ok (.ladd, 1) := by decide +kernel
theorem dX12_spelled_32 : decode cX12_spelled 32 = .ok (.ldc2_w 337, 3) := by decide +kernel
theorem dX12_spelled_35 : decode cX12_spelled 35 = .ok (.lsub, 1) := by decide +kernel
theorem dX12_spelled_36 : decode cX12_spelled 36 = .ok (.lstore 6, 2) := by decide +kernel
theorem dX12_spelled_38 : decode cX12_spelled 38 = .ok (.iload_n 3, 1) := by decide +kernel
theorem dX12_spelled_39 : decode cX12_spelled 39 = .ok (.ifCond .le 19, 3) := by decide +kernel
theorem dX12_spelled_42 : decode cX12_spelled 42 = .ok (.lload 6, 2) := by decide +kernel
theorem dX12_spelled_44 : decode cX12_spelled 44 = .ok (.ldc2_w 335, 3) := by decide +kernel
theorem dX12_spelled_47 : decode cX12_spelled 47 = .ok (.lmul, 1) := by decide +kernel
theorem dX12_spelled_48 : decode cX12_spelled 48 = .ok (.iload_n 3, 1) := by decide +kernel
theorem dX12_spelled_49 : decode cX12_spelled 49 = .ok (.i2l, 1) := by decide +kernel
theorem dX12_spelled_50 : decode cX12_spelled 50 = .ok (.ladd, 1) := by decide +kernel
theorem dX12_spelled_51 : decode cX12_spelled 51 = .ok (.ldc2_w 337, 3) := by decide +kernel
theorem dX12_spelled_54 : decode cX12_spelled 54 = .ok (.lsub, 1) := by decide +kernel
theorem dX12_spelled_55 : decode cX12_spelled 55 = .ok (.goto 5, 3) := by decide +kernel
theorem dX12_spelled_58 : decode cX12_spelled 58 = .ok (.lload 6, 2) := by decide +kernel
theorem dX12_spelled_60 : decode cX12_spelled 60 = .ok (.lstore 6, 2) := by decide +kernel
theorem dX12_spelled_62 : decode cX12_spelled 62 = .ok (.iload 4, 2) := by decide +kernel
theorem dX12_spelled_64 : decode cX12_spelled 64 = .ok (.ifCond .le 20, 3) := by decide +kernel
theorem dX12_spelled_67 : decode cX12_spelled 67 = .ok (.lload 6, 2) := by decide +kernel
theorem dX12_spelled_69 : decode cX12_spelled 69 = .ok (.ldc2_w 335, 3) := by decide +kernel
theorem dX12_spelled_72 : decode cX12_spelled 72 = .ok (.lmul, 1) := by decide +kernel
theorem dX12_spelled_73 : decode cX12_spelled 73 = .ok (.iload 4, 2) := by decide +kernel
theorem dX12_spelled_75 : decode cX12_spelled 75 = .ok (.i2l, 1) := by decide +kernel
theorem dX12_spelled_76 : decode cX12_spelled 76 = .ok (.ladd, 1) := by decide +kernel
theorem dX12_spelled_77 : decode cX12_spelled 77 = .ok (.ldc2_w 337, 3) := by decide +kernel
theorem dX12_spelled_80 : decode cX12_spelled 80 = .ok (.lsub, 1) := by decide +kernel
theorem dX12_spelled_81 : decode cX12_spelled 81 = .ok (.goto 5, 3) := by decide +kernel
theorem dX12_spelled_84 : decode cX12_spelled 84 = .ok (.lload 6, 2) := by decide +kernel
theorem dX12_spelled_86 : decode cX12_spelled 86 = .ok (.lstore 6, 2) := by decide +kernel
theorem dX12_spelled_88 : decode cX12_spelled 88 = .ok (.iload 5, 2) := by decide +kernel
theorem dX12_spelled_90 : decode cX12_spelled 90 = .ok (.ifCond .le 20, 3) := by decide +kernel
theorem dX12_spelled_93 : decode cX12_spelled 93 = .ok (.lload 6, 2) := by decide +kernel
theorem dX12_spelled_95 : decode cX12_spelled 95 = .ok (.ldc2_w 335, 3) := by decide +kernel
theorem dX12_spelled_98 : decode cX12_spelled 98 = .ok (.lmul, 1) := by decide +kernel
theorem dX12_spelled_99 : decode cX12_spelled 99 = .ok (.iload 5, 2) := by decide +kernel
theorem dX12_spelled_101 : decode cX12_spelled 101 = .ok (.i2l, 1) := by decide +kernel
theorem dX12_spelled_102 : decode cX12_spelled 102 = .ok (.ladd, 1) := by decide +kernel
theorem dX12_spelled_103 : decode cX12_spelled 103 = .ok (.ldc2_w 337, 3) := by decide +kernel
theorem dX12_spelled_106 : decode cX12_spelled 106 = .ok (.lsub, 1) := by decide +kernel
theorem dX12_spelled_107 : decode cX12_spelled 107 = .ok (.goto 5, 3) := by decide +kernel
theorem dX12_spelled_110 : decode cX12_spelled 110 = .ok (.lload 6, 2) := by decide +kernel
theorem dX12_spelled_112 : decode cX12_spelled 112 = .ok (.lreturn, 1) := by decide +kernel
theorem dX12_isWord_0 : decode cX12_isWord 0 = .ok (.aload_n 0, 1) := by decide +kernel
theorem dX12_isWord_1 : decode cX12_isWord 1 = .ok (.getfield 326, 3) := by decide +kernel
theorem dX12_isWord_4 : decode cX12_isWord 4 = .ok (.iconst 1, 1) := by decide +kernel
theorem dX12_isWord_5 : decode cX12_isWord 5 = .ok (.if_icmp .ne 16, 3) := by decide +kernel
theorem dX12_isWord_8 : decode cX12_isWord 8 = .ok (.aload_n 0, 1) := by decide +kernel
theorem dX12_isWord_9 : decode cX12_isWord 9 = .ok (.getfield 332, 3) := by decide +kernel
theorem dX12_isWord_12 : decode cX12_isWord 12 = .ok (.lload_n 1, 1) := by decide +kernel
theorem dX12_isWord_13 : decode cX12_isWord 13 = .ok (.lcmp, 1) := by decide +kernel
theorem dX12_isWord_14 : decode cX12_isWord 14 = .ok (.ifCond .ne 7, 3) := by decide +kernel
theorem dX12_isWord_17 : decode cX12_isWord 17 = .ok (.iconst 1, 1) := by decide +kernel
theorem dX12_isWord_18 : decode cX12_isWord 18 = .ok (.goto 4, 3) := by decide +kernel
theorem dX12_isWord_21 : decode cX12_isWord 21 = .ok (.iconst 0, 1) := by decide +kernel
theorem dX12_isWord_22 : decode cX12_isWord 22 = .ok (.ireturn, 1) := by decide +kernel
theorem dX12_fail_0 : decode cX12_fail 0 = .ok (.aload_n 0, 1) := by decide +kernel
theorem dX12_fail_1 : decode cX12_fail 1 = .ok (.getfield 345, 3) := by decide +kernel
theorem dX12_fail_4 : decode cX12_fail 4 = .ok (.ifCond .le 4, 3) := by decide +kernel
theorem dX12_fail_7 : decode cX12_fail 7 = .ok (.return_, 1) := by decide +kernel
theorem dX12_fail_8 : decode cX12_fail 8 = .ok (.aload_n 0, 1) := by decide +kernel
theorem dX12_fail_9 : decode cX12_fail 9 = .ok (.iload_n 1, 1) := by decide +kernel
theorem dX12_fail_10 : decode cX12_fail 10 = .ok (.putfield 345, 3) := by decide +kernel
theorem dX12_fail_13 : decode cX12_fail 13 = .ok (.aload_n 0, 1) := by decide +kernel
theorem dX12_fail_14 : decode cX12_fail 14 = .ok (.iload_n 2, 1) := by decide +kernel
theorem dX12_fail_15 : decode cX12_fail 15 = .ok (.putfield 348, 3) := by decide +kernel
theorem dX12_fail_18 : decode cX12_fail 18 = .ok (.return_, 1) := by decide +kernel
theorem dX12_wrong_0 : decode cX12_wrong 0 = .ok (.aload_n 0, 1) := by decide +kernel
theorem dX12_wrong_1 : decode cX12_wrong 1 = .ok (.aload_n 0, 1) := by decide +kernel
theorem dX12_wrong_2 : decode cX12_wrong 2 = .ok (.getfield 326, 3) := by decide +kernel
theorem dX12_wrong_5 : decode cX12_wrong 5 = .ok (.iconst 4, 1) := by decide +kernel
theorem dX12_wrong_6 : decode cX12_wrong 6 = .ok (.if_icmp .ne 7, 3) := by decide +kernel
theorem dX12_wrong_9 : decode cX12_wrong 9 = .ok (.iconst 1, 1) := by decide +kernel
theorem dX12_wrong_10 : decode cX12_wrong 10 = .ok (.goto 4, 3) := by decide +kernel
theorem dX12_wrong_13 : decode cX12_wrong 13 = .ok (.iconst 2, 1) := by decide +kernel
theorem dX12_wrong_14 : decode cX12_wrong 14 = .ok (.aload_n 0, 1) := by decide +kernel
theorem dX12_wrong_15 : decode cX12_wrong 15 = .ok (.getfield 320, 3) := by decide +kernel
theorem dX12_wrong_18 : decode cX12_wrong 18 = .ok (.invokevirtual 351, 3) := by decide +kernel
theorem dX12_wrong_21 : decode cX12_wrong 21 = .ok (.return_, 1) := by decide +kernel
theorem dX12_numberOf_0 : decode cX12_numberOf 0 = .ok (.aload_n 0, 1) := by decide +kernel
theorem dX12_numberOf_1 : decode cX12_numberOf 1 = .ok (.getfield 326, 3) := by decide +kernel
theorem dX12_numberOf_4 : decode cX12_numberOf 4 = .ok (.iconst 2, 1) := by decide +kernel
theorem dX12_numberOf_5 : decode cX12_numberOf 5 = .ok (.if_icmp .eq 9, 3) := by decide +kernel
theorem dX12_numberOf_8 : decode cX12_numberOf 8 = .ok (.aload_n 0, 1) := by decide +kernel
theorem dX12_numberOf_9 : decode cX12_numberOf 9 = .ok (.invokevirtual 355, 3) := by decide +kernel
theorem dX12_numberOf_12 : decode cX12_numberOf 12 = .ok (.iload_n 1, 1) := by decide +kernel
theorem dX12_numberOf_13 : decode cX12_numberOf 13 = .ok (.ireturn, 1) := by decide +kernel
theorem dX12_numberOf_14 : decode cX12_numberOf 14 = .ok (.aload_n 0, 1) := by decide +kernel
theorem dX12_numberOf_15 : decode cX12_numberOf 15 = .ok (.getfield 342, 3) := by decide +kernel
theorem dX12_numberOf_18 : decode cX12_numberOf 18 = .ok (.istore_n 3, 1) := by decide +kernel
theorem dX12_numberOf_19 : decode cX12_numberOf 19 = .ok (.iload_n 3, 1) := by decide +kernel
theorem dX12_numberOf_20 : decode cX12_numberOf 20 = .ok (.iload_n 1, 1) := by decide +kernel
theorem dX12_numberOf_21 : decode cX12_numberOf 21 = .ok (.if_icmp .lt 8, 3) := by decide +kernel
theorem dX12_numberOf_24 : decode cX12_numberOf 24 = .ok (.iload_n 3, 1) := by decide +kernel
theorem dX12_numberOf_25 : decode cX12_numberOf 25 = .ok (.iload_n 2, 1) := by decide +kernel
theorem dX12_numberOf_26 : decode cX12_numberOf 26 = .ok (.if_icmp .le 12, 3) := by decide +kernel
theorem dX12_numberOf_29 : decode cX12_numberOf 29 = .ok (.aload_n 0, 1) := by decide +kernel
theorem dX12_numberOf_30 : decode cX12_numberOf 30 = .ok (.iconst 4, 1) := by decide +kernel
theorem dX12_numberOf_31 : decode cX12_numberOf 31 = .ok (.aload_n 0, 1) := by decide +kernel
theorem dX12_numberOf_32 : decode cX12_numberOf 32 = .ok (.getfield 320, 3) := by decide +kernel
theorem dX12_numberOf_35 : decode cX12_numberOf 35 = .ok (.invokevirtual 351, 3) := by decide +kernel
theorem dX12_numberOf_38 : decode cX12_numberOf 38 = .ok (.aload_n 0, 1) := by decide +kernel
theorem dX12_numberOf_39 : decode cX12_numberOf 39 = .ok (.getfield 345, 3) := by decide +kernel
theorem dX12_numberOf_42 : decode cX12_numberOf 42 = .ok (.ifCond .ne 7, 3) := by decide +kernel
theorem dX12_numberOf_45 : decode cX12_numberOf 45 = .ok (.aload_n 0, 1) := by decide +kernel
theorem dX12_numberOf_46 : decode cX12_numberOf 46 = .ok (.invokevirtual 358, 3) := by decide +kernel
theorem dX12_numberOf_49 : decode cX12_numberOf 49 = .ok (.aload_n 0, 1) := by decide +kernel
theorem dX12_numberOf_50 : decode cX12_numberOf 50 = .ok (.getfield 345, 3) := by decide +kernel
theorem dX12_numberOf_53 : decode cX12_numberOf 53 = .ok (.ifCond .ne 7, 3) := by decide +kernel
theorem dX12_numberOf_56 : decode cX12_numberOf 56 = .ok (.iload_n 3, 1) := by decide +kernel
theorem dX12_numberOf_57 : decode cX12_numberOf 57 = .ok (.goto 4, 3) := by decide +kernel
theorem dX12_numberOf_60 : decode cX12_numberOf 60 = .ok (.iload_n 1, 1) := by decide +kernel
theorem dX12_numberOf_61 : decode cX12_numberOf 61 = .ok (.ireturn, 1) := by decide +kernel
theorem dX12_wishOf_0 : decode cX12_wishOf 0 = .ok (.aload_n 0, 1) := by decide +kernel
theorem dX12_wishOf_1 : decode cX12_wishOf 1 = .ok (.bipush 102, 2) := by decide +kernel
theorem dX12_wishOf_3 : decode cX12_wishOf 3 = .ok (.bipush 105, 2) := by decide +kernel
theorem dX12_wishOf_5 : decode cX12_wishOf 5 = .ok (.bipush 101, 2) := by decide +kernel
theorem dX12_wishOf_7 : decode cX12_wishOf 7 = .ok (.bipush 108, 2) := by decide +kernel
theorem dX12_wishOf_9 : decode cX12_wishOf 9 = .ok (.bipush 100, 2) := by decide +kernel
theorem dX12_wishOf_11 : decode cX12_wishOf 11 = .ok (.iconst 0, 1) := by decide +kernel
theorem dX12_wishOf_12 : decode cX12_wishOf 12 = .ok (.invokestatic 361, 3) := by decide +kernel
theorem dX12_wishOf_15 : decode cX12_wishOf 15 = .ok (.invokevirtual 365, 3) := by decide +kernel
theorem dX12_wishOf_18 : decode cX12_wishOf 18 = .ok (.ifCond .eq 5, 3) := by decide +kernel
theorem dX12_wishOf_21 : decode cX12_wishOf 21 = .ok (.iconst 0, 1) := by decide +kernel
theorem dX12_wishOf_22 : decode cX12_wishOf 22 = .ok (.ireturn, 1) := by decide +kernel
theorem dX12_wishOf_23 : decode cX12_wishOf 23 = .ok (.aload_n 0, 1) := by decide +kernel
theorem dX12_wishOf_24 : decode cX12_wishOf 24 = .ok (.bipush 97, 2) := by decide +kernel
theorem dX12_wishOf_26 : decode cX12_wishOf 26 = .ok (.bipush 103, 2) := by decide +kernel
theorem dX12_wishOf_28 : decode cX12_wishOf 28 = .ok (.bipush 101, 2) := by decide +kernel
theorem dX12_wishOf_30 : decode cX12_wishOf 30 = .ok (.iconst 0, 1) := by decide +kernel
theorem dX12_wishOf_31 : decode cX12_wishOf 31 = .ok (.iconst 0, 1) := by decide +kernel
theorem dX12_wishOf_32 : decode cX12_wishOf 32 = .ok (.iconst 0, 1) := by decide +kernel
theorem dX12_wishOf_33 : decode cX12_wishOf 33 = .ok (.invokestatic 361, 3) := by decide +kernel
theorem dX12_wishOf_36 : decode cX12_wishOf 36 = .ok (.invokevirtual 365, 3) := by decide +kernel
theorem dX12_wishOf_39 : decode cX12_wishOf 39 = .ok (.ifCond .eq 5, 3) := by decide +kernel
theorem dX12_wishOf_42 : decode cX12_wishOf 42 = .ok (.iconst 1, 1) := by decide +kernel
theorem dX12_wishOf_43 : decode cX12_wishOf 43 = .ok (.ireturn, 1) := by decide +kernel
theorem dX12_wishOf_44 : decode cX12_wishOf 44 = .ok (.aload_n 0, 1) := by decide +kernel
theorem dX12_wishOf_45 : decode cX12_wishOf 45 = .ok (.bipush 115, 2) := by decide +kernel
theorem dX12_wishOf_47 : decode cX12_wishOf 47 = .ok (.bipush 99, 2) := by decide +kernel
theorem dX12_wishOf_49 : decode cX12_wishOf 49 = .ok (.bipush 104, 2) := by decide +kernel
theorem dX12_wishOf_51 : decode cX12_wishOf 51 = .ok (.bipush 111, 2) := by decide +kernel
theorem dX12_wishOf_53 : decode cX12_wishOf 53 = .ok (.bipush 111, 2) := by decide +kernel
theorem dX12_wishOf_55 : decode cX12_wishOf 55 = .ok (.bipush 108, 2) := by decide +kernel
theorem dX12_wishOf_57 : decode cX12_wishOf 57 = .ok (.invokestatic 361, 3) := by decide +kernel
theorem dX12_wishOf_60 : decode cX12_wishOf 60 = .ok (.invokevirtual 365, 3) := by decide +kernel
theorem dX12_wishOf_63 : decode cX12_wishOf 63 = .ok (.ifCond .eq 5, 3) := by decide +kernel
theorem dX12_wishOf_66 : decode cX12_wishOf 66 = .ok (.iconst 2, 1) := by decide +kernel
theorem dX12_wishOf_67 : decode cX12_wishOf 67 = .ok (.ireturn, 1) := by decide +kernel
theorem dX12_wishOf_68 : decode cX12_wishOf 68 = .ok (.aload_n 0, 1) := by decide +kernel
theorem dX12_wishOf_69 : decode cX12_wishOf 69 = .ok (.bipush 115, 2) := by decide +kernel
theorem dX12_wishOf_71 : decode cX12_wishOf 71 = .ok (.bipush 101, 2) := by decide +kernel
theorem dX12_wishOf_73 : decode cX12_wishOf 73 = .ok (.bipush 101, 2) := by decide +kernel
theorem dX12_wishOf_75 : decode cX12_wishOf 75 = .ok (.bipush 110, 2) := by decide +kernel
theorem dX12_wishOf_77 : decode cX12_wishOf 77 = .ok (.iconst 0, 1) := by decide +kernel
theorem dX12_wishOf_78 : decode cX12_wishOf 78 = .ok (.iconst 0, 1) := by decide +kernel
theorem dX12_wishOf_79 : decode cX12_wishOf 79 = .ok (.invokestatic 361, 3) := by decide +kernel
theorem dX12_wishOf_82 : decode cX12_wishOf 82 = .ok (.invokevirtual 365, 3) := by decide +kernel
theorem dX12_wishOf_85 : decode cX12_wishOf 85 = .ok (.ifCond .eq 7, 3) := by decide +kernel
theorem dX12_wishOf_88 : decode cX12_wishOf 88 = .ok (.iconst 3, 1) := by decide +kernel
theorem dX12_wishOf_89 : decode cX12_wishOf 89 = .ok (.goto 4, 3) := by decide +kernel
theorem dX12_wishOf_92 : decode cX12_wishOf 92 = .ok (.iconst (-1), 1) := by decide +kernel
theorem dX12_wishOf_93 : decode cX12_wishOf 93 = .ok (.ireturn, 1) := by decide +kernel
theorem dX12_readPrize_0 : decode cX12_readPrize 0 = .ok (.aload_n 0, 1) := by decide +kernel
theorem dX12_readPrize_1 : decode cX12_readPrize 1 = .ok (.getfield 369, 3) := by decide +kernel
theorem dX12_readPrize_4 : decode cX12_readPrize 4 = .ok (.bipush 8, 2) := by decide +kernel
theorem dX12_readPrize_6 : decode cX12_readPrize 6 = .ok (.if_icmp .ne 13, 3) := by decide +kernel
theorem dX12_readPrize_9 : decode cX12_readPrize 9 = .ok (.aload_n 0, 1) := by decide +kernel
theorem dX12_readPrize_10 : decode cX12_readPrize 10 = .ok (.iconst 3, 1) := by decide +kernel
theorem dX12_readPrize_11 : decode cX12_readPrize 11 = .ok (.aload_n 0, 1) := by decide +kernel
theorem dX12_readPrize_12 : decode cX12_readPrize 12 = .ok (.getfield 320, 3) := by decide +kernel
theorem dX12_readPrize_15 : decode cX12_readPrize 15 = .ok (.invokevirtual 351, 3) := by decide +kernel
theorem dX12_readPrize_18 : decode cX12_readPrize 18 = .ok (.return_, 1) := by decide +kernel
theorem dX12_readPrize_19 : decode cX12_readPrize 19 = .ok (.aload_n 0, 1) := by decide +kernel
theorem dX12_readPrize_20 : decode cX12_readPrize 20 = .ok (.getfield 369, 3) := by decide +kernel
theorem dX12_readPrize_23 : decode cX12_readPrize 23 = .ok (.istore_n 1, 1) := by decide +kernel
theorem dX12_readPrize_24 : decode cX12_readPrize 24 = .ok (.aload_n 0, 1) := by decide +kernel
theorem dX12_readPrize_25 : decode cX12_readPrize 25 = .ok (.invokevirtual 358, 3) := by decide +kernel
theorem dX12_readPrize_28 : decode cX12_readPrize 28 = .ok (.aload_n 0, 1) := by decide +kernel
theorem dX12_readPrize_29 : decode cX12_readPrize 29 = .ok (.getfield 141, 3) := by decide +kernel
theorem dX12_readPrize_32 : decode cX12_readPrize 32 = .ok (.iload_n 1, 1) := by decide +kernel
theorem dX12_readPrize_33 : decode cX12_readPrize 33 = .ok (.iconst (-1), 1) := by decide +kernel
theorem dX12_readPrize_34 : decode cX12_readPrize 34 = .ok (.iastore, 1) := by decide +kernel
theorem dX12_readPrize_35 : decode cX12_readPrize 35 = .ok (.aload_n 0, 1) := by decide +kernel
theorem dX12_readPrize_36 : decode cX12_readPrize 36 = .ok (.getfield 144, 3) := by decide +kernel
theorem dX12_readPrize_39 : decode cX12_readPrize 39 = .ok (.iload_n 1, 1) := by decide +kernel
theorem dX12_readPrize_40 : decode cX12_readPrize 40 = .ok (.iconst (-1), 1) := by decide +kernel
theorem dX12_readPrize_41 : decode cX12_readPrize 41 = .ok (.iastore, 1) := by decide +kernel
theorem dX12_readPrize_42 : decode cX12_readPrize 42 = .ok (.aload_n 0, 1) := by decide +kernel
theorem dX12_readPrize_43 : decode cX12_readPrize 43 = .ok (.getfield 147, 3) := by decide +kernel
theorem dX12_readPrize_46 : decode cX12_readPrize 46 = .ok (.iload_n 1, 1) := by decide +kernel
theorem dX12_readPrize_47 : decode cX12_readPrize 47 = .ok (.iconst (-1), 1) := by decide +kernel
theorem dX12_readPrize_48 : decode cX12_readPrize 48 = .ok (.iastore, 1) := by decide +kernel
theorem dX12_readPrize_49 : decode cX12_readPrize 49 = .ok (.aload_n 0, 1) := by decide +kernel
theorem dX12_readPrize_50 : decode cX12_readPrize 50 = .ok (.getfield 150, 3) := by decide +kernel
theorem dX12_readPrize_53 : decode cX12_readPrize 53 = .ok (.iload_n 1, 1) := by decide +kernel
theorem dX12_readPrize_54 : decode cX12_readPrize 54 = .ok (.iconst 1, 1) := by decide +kernel
theorem dX12_readPrize_55 : decode cX12_readPrize 55 = .ok (.iastore, 1) := by decide +kernel
theorem dX12_readPrize_56 : decode cX12_readPrize 56 = .ok (.aload_n 0, 1) := by decide +kernel
theorem dX12_readPrize_57 : decode cX12_readPrize 57 = .ok (.getfield 156, 3) := by decide +kernel
theorem dX12_readPrize_60 : decode cX12_readPrize 60 = .ok (.iload_n 1, 1) := by decide +kernel
theorem dX12_readPrize_61 : decode cX12_readPrize 61 = .ok (.iconst 0, 1) := by decide +kernel
theorem dX12_readPrize_62 : decode cX12_readPrize 62 = .ok (.bastore, 1) := by decide +kernel
theorem dX12_readPrize_63 : decode cX12_readPrize 63 = .ok (.iconst 0, 1) := by decide +kernel
theorem dX12_readPrize_64 : decode cX12_readPrize 64 = .ok (.istore_n 2, 1) := by decide +kernel
theorem dX12_readPrize_65 : decode cX12_readPrize 65 = .ok (.aload_n 0, 1) := by decide +kernel
theorem dX12_readPrize_66 : decode cX12_readPrize 66 = .ok (.invokevirtual 372, 3) := by decide +kernel
theorem dX12_readPrize_69 : decode cX12_readPrize 69 = .ok (.istore_n 3, 1) := by decide +kernel
theorem dX12_readPrize_70 : decode cX12_readPrize 70 = .ok (.iload_n 3, 1) := by decide +kernel
theorem dX12_readPrize_71 : decode cX12_readPrize 71 = .ok (.ifCond .lt 166, 3) := by decide +kernel
theorem dX12_readPrize_74 : decode cX12_readPrize 74 = .ok (.aload_n 0, 1) := by decide +kernel
theorem dX12_readPrize_75 : decode cX12_readPrize 75 = .ok (.getfield 345, 3) := by decide +kernel
theorem dX12_readPrize_78 : decode cX12_readPrize 78 = .ok (.ifCond .ne 159, 3) := by decide +kernel
theorem dX12_readPrize_81 : decode cX12_readPrize 81 = .ok (.iload_n 2, 1) := by decide +kernel
theorem dX12_readPrize_82 : decode cX12_readPrize 82 = .ok (.iload_n 3, 1) := by decide +kernel
theorem dX12_readPrize_83 : decode cX12_readPrize 83 = .ok (.ishr, 1) := by decide +kernel
theorem dX12_readPrize_84 : decode cX12_readPrize 84 = .ok (.iconst 1, 1) := by decide +kernel
theorem dX12_readPrize_85 : decode cX12_readPrize 85 = .ok (.iand, 1) := by decide +kernel
theorem dX12_readPrize_86 : decode cX12_readPrize 86 = .ok (.iconst 1, 1) := by decide +kernel
theorem dX12_readPrize_87 : decode cX12_readPrize 87 = .ok (.if_icmp .ne 12, 3) := by decide +kernel
theorem dX12_readPrize_90 : decode cX12_readPrize 90 = .ok (.aload_n 0, 1) := by decide +kernel
theorem dX12_readPrize_91 : decode cX12_readPrize 91 = .ok (.iconst 5, 1) := by decide +kernel
theorem dX12_readPrize_92 : decode cX12_readPrize 92 = .ok (.aload_n 0, 1) := by decide +kernel
theorem dX12_readPrize_93 : decode cX12_readPrize 93 = .ok (.getfield 320, 3) := by decide +kernel
theorem dX12_readPrize_96 : decode cX12_readPrize 96 = .ok (.invokevirtual 351, 3) := by decide +kernel
theorem dX12_readPrize_99 : decode cX12_readPrize 99 = .ok (.iload_n 2, 1) := by decide +kernel
theorem dX12_readPrize_100 : decode cX12_readPrize 100 = .ok (.iconst 1, 1) := by decide +kernel
theorem dX12_readPrize_101 : decode cX12_readPrize 101 = .ok (.iload_n 3, 1) := by decide +kernel
theorem dX12_readPrize_102 : decode cX12_readPrize 102 = .ok (.ishl, 1) := by decide +kernel
theorem dX12_readPrize_103 : decode cX12_readPrize 103 = .ok (.ior, 1) := by decide +kernel
theorem dX12_readPrize_104 : decode cX12_readPrize 104 = .ok (.istore_n 2, 1) := by decide +kernel
theorem dX12_readPrize_105 : decode cX12_readPrize 105 = .ok (.aload_n 0, 1) := by decide +kernel
theorem dX12_readPrize_106 : decode cX12_readPrize 106 = .ok (.getfield 345, 3) := by decide +kernel
theorem dX12_readPrize_109 : decode cX12_readPrize 109 = .ok (.ifCond .le 4, 3) := by decide +kernel
theorem dX12_readPrize_112 : decode cX12_readPrize 112 = .ok (.return_, 1) := by decide +kernel
theorem dX12_readPrize_113 : decode cX12_readPrize 113 = .ok (.aload_n 0, 1) := by decide +kernel
theorem dX12_readPrize_114 : decode cX12_readPrize 114 = .ok (.invokevirtual 358, 3) := by decide +kernel
theorem dX12_readPrize_117 : decode cX12_readPrize 117 = .ok (.aload_n 0, 1) := by decide +kernel
theorem dX12_readPrize_118 : decode cX12_readPrize 118 = .ok (.iload_n 3, 1) := by decide +kernel
theorem dX12_readPrize_119 : decode cX12_readPrize 119 = .ok (.iconst 3, 1) := by decide +kernel
theorem dX12_readPrize_120 : decode cX12_readPrize 120 = .ok (.if_icmp .ne 7, 3) := by decide +kernel
theorem dX12_readPrize_123 : decode cX12_readPrize 123 = .ok (.iconst 1, 1) := by decide +kernel
theorem dX12_readPrize_124 : decode cX12_readPrize 124 = .ok (.goto 4, 3) := by decide +kernel
theorem dX12_readPrize_127 : decode cX12_readPrize 127 = .ok (.iconst 0, 1) := by decide +kernel
theorem dX12_readPrize_128 : decode cX12_readPrize 128 = .ok (.iload_n 3, 1) := by decide +kernel
theorem dX12_readPrize_129 : decode cX12_readPrize 129 = .ok (.ifCond .ne 8, 3) := by decide +kernel
theorem dX12_readPrize_132 : decode cX12_readPrize 132 = .ok (.bipush 7, 2) := by decide +kernel
theorem dX12_readPrize_134 : decode cX12_readPrize 134 = .ok (.goto 24, 3) := by decide +kernel
theorem dX12_readPrize_137 : decode cX12_readPrize 137 = .ok (.iload_n 3, 1) := by decide +kernel
theorem dX12_readPrize_138 : decode cX12_readPrize 138 = .ok (.iconst 1, 1) := by decide +kernel
theorem dX12_readPrize_139 : decode cX12_readPrize 139 = .ok (.if_icmp .ne 7, 3) := by decide +kernel
theorem dX12_readPrize_142 : decode cX12_readPrize 142 = .ok (.iconst 3, 1) := by decide +kernel
theorem dX12_readPrize_143 : decode cX12_readPrize 143 = .ok (.goto 15, 3) := by decide +kernel
theorem dX12_readPrize_146 : decode cX12_readPrize 146 = .ok (.iload_n 3, 1) := by decide +kernel
theorem dX12_readPrize_147 : decode cX12_readPrize 147 = .ok (.iconst 2, 1) := by decide +kernel
theorem dX12_readPrize_148 : decode cX12_readPrize 148 = .ok (.if_icmp .ne 8, 3) := by decide +kernel
theorem dX12_readPrize_151 : decode cX12_readPrize 151 = .ok (.bipush 15, 2) := by decide +kernel
theorem dX12_readPrize_153 : decode cX12_readPrize 153 = .ok (.goto 5, 3) := by decide +kernel
theorem dX12_readPrize_156 : decode cX12_readPrize 156 = .ok (.bipush 12, 2) := by decide +kernel
theorem dX12_readPrize_158 : decode cX12_readPrize 158 = .ok (.invokevirtual 375, 3) := by decide +kernel
theorem dX12_readPrize_161 : decode cX12_readPrize 161 = .ok (.istore 4, 2) := by decide +kernel
theorem dX12_readPrize_163 : decode cX12_readPrize 163 = .ok (.iload_n 3, 1) := by decide +kernel
theorem dX12_readPrize_164 : decode cX12_readPrize 164 = .ok (.ifCond .ne 14, 3) := by decide +kernel
theorem dX12_readPrize_167 : decode cX12_readPrize 167 = .ok (.aload_n 0, 1) := by decide +kernel
theorem dX12_readPrize_168 : decode cX12_readPrize 168 = .ok (.getfield 141, 3) := by decide +kernel
theorem dX12_readPrize_171 : decode cX12_readPrize 171 = .ok (.iload_n 1, 1) := by decide +kernel
theorem dX12_readPrize_172 : decode cX12_readPrize 172 = .ok (.iload 4, 2) := by decide +kernel
theorem dX12_readPrize_174 : decode cX12_readPrize 174 = .ok (.iastore, 1) := by decide +kernel
theorem dX12_readPrize_175 : decode cX12_readPrize 175 = .ok (.goto 43, 3) := by decide +kernel
theorem dX12_readPrize_178 : decode cX12_readPrize 178 = .ok (.iload_n 3, 1) := by decide +kernel
theorem dX12_readPrize_179 : decode cX12_readPrize 179 = .ok (.iconst 1, 1) := by decide +kernel
theorem dX12_readPrize_180 : decode cX12_readPrize 180 = .ok (.if_icmp .ne 14, 3) := by decide +kernel
theorem dX12_readPrize_183 : decode cX12_readPrize 183 = .ok (.aload_n 0, 1) := by decide +kernel
theorem dX12_readPrize_184 : decode cX12_readPrize 184 = .ok (.getfield 144, 3) := by decide +kernel
theorem dX12_readPrize_187 : decode cX12_readPrize 187 = .ok (.iload_n 1, 1) := by decide +kernel
theorem dX12_readPrize_188 : decode cX12_readPrize 188 = .ok (.iload 4, 2) := by decide +kernel
theorem dX12_readPrize_190 : decode cX12_readPrize 190 = .ok (.iastore, 1) := by decide +kernel
theorem dX12_readPrize_191 : decode cX12_readPrize 191 = .ok (.goto 27, 3) := by decide +kernel
theorem dX12_readPrize_194 : decode cX12_readPrize 194 = .ok (.iload_n 3, 1) := by decide +kernel
theorem dX12_readPrize_195 : decode cX12_readPrize 195 = .ok (.iconst 2, 1) := by decide +kernel
theorem dX12_readPrize_196 : decode cX12_readPrize 196 = .ok (.if_icmp .ne 14, 3) := by decide +kernel
theorem dX12_readPrize_199 : decode cX12_readPrize 199 = .ok (.aload_n 0, 1) := by decide +kernel
theorem dX12_readPrize_200 : decode cX12_readPrize 200 = .ok (.getfield 147, 3) := by decide +kernel
theorem dX12_readPrize_203 : decode cX12_readPrize 203 = .ok (.iload_n 1, 1) := by decide +kernel
theorem dX12_readPrize_204 : decode cX12_readPrize 204 = .ok (.iload 4, 2) := by decide +kernel
theorem dX12_readPrize_206 : decode cX12_readPrize 206 = .ok (.iastore, 1) := by decide +kernel
theorem dX12_readPrize_207 : decode cX12_readPrize 207 = .ok (.goto 11, 3) := by decide +kernel
theorem dX12_readPrize_210 : decode cX12_readPrize 210 = .ok (.aload_n 0, 1) := by decide +kernel
theorem dX12_readPrize_211 : decode cX12_readPrize 211 = .ok (.getfield 150, 3) := by decide +kernel
theorem dX12_readPrize_214 : decode cX12_readPrize 214 = .ok (.iload_n 1, 1) := by decide +kernel
theorem dX12_readPrize_215 : decode cX12_readPrize 215 = .ok (.iload 4, 2) := by decide +kernel
theorem dX12_readPrize_217 : decode cX12_readPrize 217 = .ok (.iastore, 1) := by decide +kernel
theorem dX12_readPrize_218 : decode cX12_readPrize 218 = .ok (.aload_n 0, 1) := by decide +kernel
theorem dX12_readPrize_219 : decode cX12_readPrize 219 = .ok (.getfield 345, 3) := by decide +kernel
theorem dX12_readPrize_222 : decode cX12_readPrize 222 = .ok (.ifCond .ne 10, 3) := by decide +kernel
theorem dX12_readPrize_225 : decode cX12_readPrize 225 = .ok (.aload_n 0, 1) := by decide +kernel
theorem dX12_readPrize_226 : decode cX12_readPrize 226 = .ok (.invokevirtual 372, 3) := by decide +kernel
theorem dX12_readPrize_229 : decode cX12_readPrize 229 = .ok (.goto 4, 3) := by decide +kernel
theorem dX12_readPrize_232 : decode cX12_readPrize 232 = .ok (.iconst (-1), 1) := by decide +kernel
theorem dX12_readPrize_233 : decode cX12_readPrize 233 = .ok (.istore_n 3, 1) := by decide +kernel
theorem dX12_readPrize_234 : decode cX12_readPrize 234 = .ok (.goto (-164), 3) := by decide +kernel
theorem dX12_readPrize_237 : decode cX12_readPrize 237 = .ok (.aload_n 0, 1) := by decide +kernel
theorem dX12_readPrize_238 : decode cX12_readPrize 238 = .ok (.getfield 345, 3) := by decide +kernel
theorem dX12_readPrize_241 : decode cX12_readPrize 241 = .ok (.ifCond .le 4, 3) := by decide +kernel
theorem dX12_readPrize_244 : decode cX12_readPrize 244 = .ok (.return_, 1) := by decide +kernel
theorem dX12_readPrize_245 : decode cX12_readPrize 245 = .ok (.aload_n 0, 1) := by decide +kernel
theorem dX12_readPrize_246 : decode cX12_readPrize 246 = .ok (.bipush 98, 2) := by decide +kernel
theorem dX12_readPrize_248 : decode cX12_readPrize 248 = .ok (.bipush 101, 2) := by decide +kernel
theorem dX12_readPrize_250 : decode cX12_readPrize 250 = .ok (.bipush 115, 2) := by decide +kernel
theorem dX12_readPrize_252 : decode cX12_readPrize 252 = .ok (.bipush 116, 2) := by decide +kernel
theorem dX12_readPrize_254 : decode cX12_readPrize 254 = .ok (.iconst 0, 1) := by decide +kernel
theorem dX12_readPrize_255 : decode cX12_readPrize 255 = .ok (.iconst 0, 1) := by decide +kernel
theorem dX12_readPrize_256 : decode cX12_readPrize 256 = .ok (.invokestatic 361, 3) := by decide +kernel
theorem dX12_readPrize_259 : decode cX12_readPrize 259 = .ok (.invokevirtual 365, 3) := by decide +kernel
theorem dX12_readPrize_262 : decode cX12_readPrize 262 = .ok (.ifCond .ne 8, 3) := by decide +kernel
theorem dX12_readPrize_265 : decode cX12_readPrize 265 = .ok (.aload_n 0, 1) := by decide +kernel
theorem dX12_readPrize_266 : decode cX12_readPrize 266 = .ok (.invokevirtual 355, 3) := by decide +kernel
theorem dX12_readPrize_269 : decode cX12_readPrize 269 = .ok (.return_, 1) := by decide +kernel
theorem dX12_readPrize_270 : decode cX12_readPrize 270 = .ok (.aload_n 0, 1) := by decide +kernel
theorem dX12_readPrize_271 : decode cX12_readPrize 271 = .ok (.invokevirtual 358, 3) := by decide +kernel
theorem dX12_readPrize_274 : decode cX12_readPrize 274 = .ok (.aload_n 0, 1) := by decide +kernel
theorem dX12_readPrize_275 : decode cX12_readPrize 275 = .ok (.getfield 153, 3) := by decide +kernel
theorem dX12_readPrize_278 : decode cX12_readPrize 278 = .ok (.iload_n 1, 1) := by decide +kernel
theorem dX12_readPrize_279 : decode cX12_readPrize 279 = .ok (.aload_n 0, 1) := by decide +kernel
theorem dX12_readPrize_280 : decode cX12_readPrize 280 = .ok (.iconst 1, 1) := by decide +kernel
theorem dX12_readPrize_281 : decode cX12_readPrize 281 = .ok (.bipush 24, 2) := by decide +kernel
theorem dX12_readPrize_283 : decode cX12_readPrize 283 = .ok (.invokevirtual 375, 3) := by decide +kernel
theorem dX12_readPrize_286 : decode cX12_readPrize 286 = .ok (.iastore, 1) := by decide +kernel
theorem dX12_readPrize_287 : decode cX12_readPrize 287 = .ok (.aload_n 0, 1) := by decide +kernel
theorem dX12_readPrize_288 : decode cX12_readPrize 288 = .ok (.getfield 345, 3) := by decide +kernel
theorem dX12_readPrize_291 : decode cX12_readPrize 291 = .ok (.ifCond .le 4, 3) := by decide +kernel
theorem dX12_readPrize_294 : decode cX12_readPrize 294 = .ok (.return_, 1) := by decide +kernel
theorem dX12_readPrize_295 : decode cX12_readPrize 295 = .ok (.aload_n 0, 1) := by decide +kernel
theorem dX12_readPrize_296 : decode cX12_readPrize 296 = .ok (.getfield 156, 3) := by decide +kernel
theorem dX12_readPrize_299 : decode cX12_readPrize 299 = .ok (.iload_n 1, 1) := by decide +kernel
theorem dX12_readPrize_300 : decode cX12_readPrize 300 = .ok (.aload_n 0, 1) := by decide +kernel
theorem dX12_readPrize_301 : decode cX12_readPrize 301 = .ok (.bipush 97, 2) := by decide +kernel
theorem dX12_readPrize_303 : decode cX12_readPrize 303 = .ok (.bipush 108, 2) := by decide +kernel
theorem dX12_readPrize_305 : decode cX12_readPrize 305 = .ok (.bipush 111, 2) := by decide +kernel
theorem dX12_readPrize_307 : decode cX12_readPrize 307 = .ok (.bipush 110, 2) := by decide +kernel
theorem dX12_readPrize_309 : decode cX12_readPrize 309 = .ok (.bipush 101, 2) := by decide +kernel
theorem dX12_readPrize_311 : decode cX12_readPrize 311 = .ok (.iconst 0, 1) := by decide +kernel
theorem dX12_readPrize_312 : decode cX12_readPrize 312 = .ok (.invokestatic 361, 3) := by decide +kernel
theorem dX12_readPrize_315 : decode cX12_readPrize 315 = .ok (.invokevirtual 365, 3) := by decide +kernel
theorem dX12_readPrize_318 : decode cX12_readPrize 318 = .ok (.bastore, 1) := by decide +kernel
theorem dX12_readPrize_319 : decode cX12_readPrize 319 = .ok (.aload_n 0, 1) := by decide +kernel
theorem dX12_readPrize_320 : decode cX12_readPrize 320 = .ok (.getfield 156, 3) := by decide +kernel
theorem dX12_readPrize_323 : decode cX12_readPrize 323 = .ok (.iload_n 1, 1) := by decide +kernel
theorem dX12_readPrize_324 : decode cX12_readPrize 324 = .ok (.baload, 1) := by decide +kernel
theorem dX12_readPrize_325 : decode cX12_readPrize 325 = .ok (.ifCond .eq 7, 3) := by decide +kernel
theorem dX12_readPrize_328 : decode cX12_readPrize 328 = .ok (.aload_n 0, 1) := by decide +kernel
theorem dX12_readPrize_329 : decode cX12_readPrize 329 = .ok (.invokevirtual 358, 3) := by decide +kernel
theorem dX12_readPrize_332 : decode cX12_readPrize 332 = .ok (.aload_n 0, 1) := by decide +kernel
theorem dX12_readPrize_333 : decode cX12_readPrize 333 = .ok (.getfield 326, 3) := by decide +kernel
theorem dX12_readPrize_336 : decode cX12_readPrize 336 = .ok (.iconst 3, 1) := by decide +kernel
theorem dX12_readPrize_337 : decode cX12_readPrize 337 = .ok (.if_icmp .eq 8, 3) := by decide +kernel
theorem dX12_readPrize_340 : decode cX12_readPrize 340 = .ok (.aload_n 0, 1) := by decide +kernel
theorem dX12_readPrize_341 : decode cX12_readPrize 341 = .ok (.invokevirtual 355, 3) := by decide +kernel
theorem dX12_readPrize_344 : decode cX12_readPrize 344 = .ok (.return_, 1) := by decide +kernel
theorem dX12_readPrize_345 : decode cX12_readPrize 345 = .ok (.aload_n 0, 1) := by decide +kernel
theorem dX12_readPrize_346 : decode cX12_readPrize 346 = .ok (.invokevirtual 358, 3) := by decide +kernel
theorem dX12_readPrize_349 : decode cX12_readPrize 349 = .ok (.aload_n 0, 1) := by decide +kernel
theorem dX12_readPrize_350 : decode cX12_readPrize 350 = .ok (.dup, 1) := by decide +kernel
theorem dX12_readPrize_351 : decode cX12_readPrize 351 = .ok (.getfield 369, 3) := by decide +kernel
theorem dX12_readPrize_354 : decode cX12_readPrize 354 = .ok (.iconst 1, 1) := by decide +kernel
theorem dX12_readPrize_355 : decode cX12_readPrize 355 = .ok (.iadd, 1) := by decide +kernel
theorem dX12_readPrize_356 : decode cX12_readPrize 356 = .ok (.putfield 369, 3) := by decide +kernel
theorem dX12_readPrize_359 : decode cX12_readPrize 359 = .ok (.return_, 1) := by decide +kernel
theorem dX12_feed_0 : decode cX12_feed 0 = .ok (.aload_n 0, 1) := by decide +kernel
theorem dX12_feed_1 : decode cX12_feed 1 = .ok (.iconst 0, 1) := by decide +kernel
theorem dX12_feed_2 : decode cX12_feed 2 = .ok (.putfield 195, 3) := by decide +kernel
theorem dX12_feed_5 : decode cX12_feed 5 = .ok (.aload_n 0, 1) := by decide +kernel
theorem dX12_feed_6 : decode cX12_feed 6 = .ok (.getfield 378, 3) := by decide +kernel
theorem dX12_feed_9 : decode cX12_feed 9 = .ok (.bipush 20, 2) := by decide +kernel
theorem dX12_feed_11 : decode cX12_feed 11 = .ok (.iadd, 1) := by decide +kernel
theorem dX12_feed_12 : decode cX12_feed 12 = .ok (.sipush 300, 3) := by decide +kernel
theorem dX12_feed_15 : decode cX12_feed 15 = .ok (.if_icmp .le 5, 3) := by decide +kernel
theorem dX12_feed_18 : decode cX12_feed 18 = .ok (.iconst (-1), 1) := by decide +kernel
theorem dX12_feed_19 : decode cX12_feed 19 = .ok (.ireturn, 1) := by decide +kernel
theorem dX12_feed_20 : decode cX12_feed 20 = .ok (.aload_n 0, 1) := by decide +kernel
theorem dX12_feed_21 : decode cX12_feed 21 = .ok (.iload_n 1, 1) := by decide +kernel
theorem dX12_feed_22 : decode cX12_feed 22 = .ok (.invokevirtual 381, 3) := by decide +kernel
theorem dX12_feed_25 : decode cX12_feed 25 = .ok (.aload_n 0, 1) := by decide +kernel
theorem dX12_feed_26 : decode cX12_feed 26 = .ok (.iload_n 2, 1) := by decide +kernel
theorem dX12_feed_27 : decode cX12_feed 27 = .ok (.invokevirtual 381, 3) := by decide +kernel
theorem dX12_feed_30 : decode cX12_feed 30 = .ok (.aload_n 0, 1) := by decide +kernel
theorem dX12_feed_31 : decode cX12_feed 31 = .ok (.iload_n 3, 1) := by decide +kernel
theorem dX12_feed_32 : decode cX12_feed 32 = .ok (.invokevirtual 381, 3) := by decide +kernel
theorem dX12_feed_35 : decode cX12_feed 35 = .ok (.aload_n 0, 1) := by decide +kernel
theorem dX12_feed_36 : decode cX12_feed 36 = .ok (.iload 4, 2) := by decide +kernel
theorem dX12_feed_38 : decode cX12_feed 38 = .ok (.invokevirtual 381, 3) := by decide +kernel
theorem dX12_feed_41 : decode cX12_feed 41 = .ok (.aload_n 0, 1) := by decide +kernel
theorem dX12_feed_42 : decode cX12_feed 42 = .ok (.iload 5, 2) := by decide +kernel
theorem dX12_feed_44 : decode cX12_feed 44 = .ok (.invokevirtual 381, 3) := by decide +kernel
theorem dX12_feed_47 : decode cX12_feed 47 = .ok (.aload_n 0, 1) := by decide +kernel
theorem dX12_feed_48 : decode cX12_feed 48 = .ok (.getfield 378, 3) := by decide +kernel
theorem dX12_feed_51 : decode cX12_feed 51 = .ok (.ireturn, 1) := by decide +kernel
theorem dX12_lay_0 : decode cX12_lay 0 = .ok (.iconst 3, 1) := by decide +kernel
theorem dX12_lay_1 : decode cX12_lay 1 = .ok (.istore_n 2, 1) := by decide +kernel
theorem dX12_lay_2 : decode cX12_lay 2 = .ok (.iload_n 2, 1) := by decide +kernel
theorem dX12_lay_3 : decode cX12_lay 3 = .ok (.ifCond .lt 35, 3) := by decide +kernel
theorem dX12_lay_6 : decode cX12_lay 6 = .ok (.aload_n 0, 1) := by decide +kernel
theorem dX12_lay_7 : decode cX12_lay 7 = .ok (.getfield 113, 3) := by decide +kernel
theorem dX12_lay_10 : decode cX12_lay 10 = .ok (.aload_n 0, 1) := by decide +kernel
theorem dX12_lay_11 : decode cX12_lay 11 = .ok (.getfield 378, 3) := by decide +kernel
theorem dX12_lay_14 : decode cX12_lay 14 = .ok (.iload_n 1, 1) := by decide +kernel
theorem dX12_lay_15 : decode cX12_lay 15 = .ok (.bipush 8, 2) := by decide +kernel
theorem dX12_lay_17 : decode cX12_lay 17 = .ok (.iload_n 2, 1) := by decide +kernel
theorem dX12_lay_18 : decode cX12_lay 18 = .ok (.imul, 1) := by decide +kernel
theorem dX12_lay_19 : decode cX12_lay 19 = .ok (.ishr, 1) := by decide +kernel
theorem dX12_lay_20 : decode cX12_lay 20 = .ok (.i2b, 1) := by decide +kernel
theorem dX12_lay_21 : decode cX12_lay 21 = .ok (.bastore, 1) := by decide +kernel
theorem dX12_lay_22 : decode cX12_lay 22 = .ok (.aload_n 0, 1) := by decide +kernel
theorem dX12_lay_23 : decode cX12_lay 23 = .ok (.dup, 1) := by decide +kernel
theorem dX12_lay_24 : decode cX12_lay 24 = .ok (.getfield 378, 3) := by decide +kernel
theorem dX12_lay_27 : decode cX12_lay 27 = .ok (.iconst 1, 1) := by decide +kernel
theorem dX12_lay_28 : decode cX12_lay 28 = .ok (.iadd, 1) := by decide +kernel
theorem dX12_lay_29 : decode cX12_lay 29 = .ok (.putfield 378, 3) := by decide +kernel
theorem dX12_lay_32 : decode cX12_lay 32 = .ok (.iinc 2 (-1), 3) := by decide +kernel
theorem dX12_lay_35 : decode cX12_lay 35 = .ok (.goto (-33), 3) := by decide +kernel
theorem dX12_lay_38 : decode cX12_lay 38 = .ok (.return_, 1) := by decide +kernel
theorem dX12_prizes_0 : decode cX12_prizes 0 = .ok (.aload_n 0, 1) := by decide +kernel
theorem dX12_prizes_1 : decode cX12_prizes 1 = .ok (.iconst 0, 1) := by decide +kernel
theorem dX12_prizes_2 : decode cX12_prizes 2 = .ok (.putfield 195, 3) := by decide +kernel
theorem dX12_prizes_5 : decode cX12_prizes 5 = .ok (.aload_n 0, 1) := by decide +kernel
theorem dX12_prizes_6 : decode cX12_prizes 6 = .ok (.iconst 0, 1) := by decide +kernel
theorem dX12_prizes_7 : decode cX12_prizes 7 = .ok (.putfield 198, 3) := by decide +kernel
theorem dX12_prizes_10 : decode cX12_prizes 10 = .ok (.iload_n 1, 1) := by decide +kernel
theorem dX12_prizes_11 : decode cX12_prizes 11 = .ok (.ifCond .lt 11, 3) := by decide +kernel
theorem dX12_prizes_14 : decode cX12_prizes 14 = .ok (.iload_n 1, 1) := by decide +kernel
theorem dX12_prizes_15 : decode cX12_prizes 15 = .ok (.aload_n 0, 1) := by decide +kernel
theorem dX12_prizes_16 : decode cX12_prizes 16 = .ok (.getfield 378, 3) := by decide +kernel
theorem dX12_prizes_19 : decode cX12_prizes 19 = .ok (.if_icmp .le 9, 3) := by decide +kernel
theorem dX12_prizes_22 : decode cX12_prizes 22 = .ok (.aload_n 0, 1) := by decide +kernel
theorem dX12_prizes_23 : decode cX12_prizes 23 = .ok (.iconst 2, 1) := by decide +kernel
theorem dX12_prizes_24 : decode cX12_prizes 24 = .ok (.invokevirtual 201, 3) := by decide +kernel
theorem dX12_prizes_27 : decode cX12_prizes 27 = .ok (.ireturn, 1) := by decide +kernel
theorem dX12_prizes_28 : decode cX12_prizes 28 = .ok (.aload_n 0, 1) := by decide +kernel
theorem dX12_prizes_29 : decode cX12_prizes 29 = .ok (.iload_n 1, 1) := by decide +kernel
theorem dX12_prizes_30 : decode cX12_prizes 30 = .ok (.putfield 314, 3) := by decide +kernel
theorem dX12_prizes_33 : decode cX12_prizes 33 = .ok (.aload_n 0, 1) := by decide +kernel
theorem dX12_prizes_34 : decode cX12_prizes 34 = .ok (.iconst 0, 1) := by decide +kernel
theorem dX12_prizes_35 : decode cX12_prizes 35 = .ok (.putfield 378, 3) := by decide +kernel
theorem dX12_prizes_38 : decode cX12_prizes 38 = .ok (.aload_n 0, 1) := by decide +kernel
theorem dX12_prizes_39 : decode cX12_prizes 39 = .ok (.iconst 0, 1) := by decide +kernel
theorem dX12_prizes_40 : decode cX12_prizes 40 = .ok (.putfield 317, 3) := by decide +kernel
theorem dX12_prizes_43 : decode cX12_prizes 43 = .ok (.aload_n 0, 1) := by decide +kernel
theorem dX12_prizes_44 : decode cX12_prizes 44 = .ok (.iconst 0, 1) := by decide +kernel
theorem dX12_prizes_45 : decode cX12_prizes 45 = .ok (.putfield 345, 3) := by decide +kernel
theorem dX12_prizes_48 : decode cX12_prizes 48 = .ok (.aload_n 0, 1) := by decide +kernel
theorem dX12_prizes_49 : decode cX12_prizes 49 = .ok (.iconst 0, 1) := by decide +kernel
theorem dX12_prizes_50 : decode cX12_prizes 50 = .ok (.putfield 369, 3) := by decide +kernel
theorem dX12_prizes_53 : decode cX12_prizes 53 = .ok (.aload_n 0, 1) := by decide +kernel
theorem dX12_prizes_54 : decode cX12_prizes 54 = .ok (.invokevirtual 358, 3) := by decide +kernel
theorem dX12_prizes_57 : decode cX12_prizes 57 = .ok (.aload_n 0, 1) := by decide +kernel
theorem dX12_prizes_58 : decode cX12_prizes 58 = .ok (.getfield 345, 3) := by decide +kernel
theorem dX12_prizes_61 : decode cX12_prizes 61 = .ok (.ifCond .ne 31, 3) := by decide +kernel
theorem dX12_prizes_64 : decode cX12_prizes 64 = .ok (.aload_n 0, 1) := by decide +kernel
theorem dX12_prizes_65 : decode cX12_prizes 65 = .ok (.bipush 112, 2) := by decide +kernel
theorem dX12_prizes_67 : decode cX12_prizes 67 = .ok (.bipush 114, 2) := by decide +kernel
theorem dX12_prizes_69 : decode cX12_prizes 69 = .ok (.bipush 105, 2) := by decide +kernel
theorem dX12_prizes_71 : decode cX12_prizes 71 = .ok (.bipush 122, 2) := by decide +kernel
theorem dX12_prizes_73 : decode cX12_prizes 73 = .ok (.bipush 101, 2) := by decide +kernel
theorem dX12_prizes_75 : decode cX12_prizes 75 = .ok (.iconst 0, 1) := by decide +kernel
theorem dX12_prizes_76 : decode cX12_prizes 76 = .ok (.invokestatic 361, 3) := by decide +kernel
theorem dX12_prizes_79 : decode cX12_prizes 79 = .ok (.invokevirtual 365, 3) := by decide +kernel
theorem dX12_prizes_82 : decode cX12_prizes 82 = .ok (.ifCond .eq 10, 3) := by decide +kernel
theorem dX12_prizes_85 : decode cX12_prizes 85 = .ok (.aload_n 0, 1) := by decide +kernel
theorem dX12_prizes_86 : decode cX12_prizes 86 = .ok (.invokevirtual 384, 3) := by decide +kernel
theorem dX12_prizes_89 : decode cX12_prizes 89 = .ok (.goto (-32), 3) := by decide +kernel
theorem dX12_prizes_92 : decode cX12_prizes 92 = .ok (.aload_n 0, 1) := by decide +kernel
theorem dX12_prizes_93 : decode cX12_prizes 93 = .ok (.getfield 345, 3) := by decide +kernel
theorem dX12_prizes_96 : decode cX12_prizes 96 = .ok (.ifCond .ne 14, 3) := by decide +kernel
theorem dX12_prizes_99 : decode cX12_prizes 99 = .ok (.aload_n 0, 1) := by decide +kernel
theorem dX12_prizes_100 : decode cX12_prizes 100 = .ok (.getfield 326, 3) := by decide +kernel
theorem dX12_prizes_103 : decode cX12_prizes 103 = .ok (.ifCond .eq 7, 3) := by decide +kernel
theorem dX12_prizes_106 : decode cX12_prizes 106 = .ok (.aload_n 0, 1) := by decide +kernel
theorem dX12_prizes_107 : decode cX12_prizes 107 = .ok (.invokevirtual 355, 3) := by decide +kernel
theorem dX12_prizes_110 : decode cX12_prizes 110 = .ok (.aload_n 0, 1) := by decide +kernel
theorem dX12_prizes_111 : decode cX12_prizes 111 = .ok (.aload_n 0, 1) := by decide +kernel
theorem dX12_prizes_112 : decode cX12_prizes 112 = .ok (.getfield 345, 3) := by decide +kernel
theorem dX12_prizes_115 : decode cX12_prizes 115 = .ok (.putfield 117, 3) := by decide +kernel
theorem dX12_prizes_118 : decode cX12_prizes 118 = .ok (.aload_n 0, 1) := by decide +kernel
theorem dX12_prizes_119 : decode cX12_prizes 119 = .ok (.aload_n 0, 1) := by decide +kernel
theorem dX12_prizes_120 : decode cX12_prizes 120 = .ok (.getfield 345, 3) := by decide +kernel
theorem dX12_prizes_123 : decode cX12_prizes 123 = .ok (.ifCond .ne 7, 3) := by decide +kernel
theorem dX12_prizes_126 : decode cX12_prizes 126 = .ok (.iconst (-1), 1) := by decide +kernel
theorem dX12_prizes_127 : decode cX12_prizes 127 = .ok (.goto 7, 3) := by decide +kernel
theorem dX12_prizes_130 : decode cX12_prizes 130 = .ok (.aload_n 0, 1) := by decide +kernel
theorem dX12_prizes_131 : decode cX12_prizes 131 = .ok (.getfield 348, 3) := by decide +kernel
theorem dX12_prizes_134 : decode cX12_prizes 134 = .ok (.putfield 120, 3) := by decide +kernel
theorem dX12_prizes_137 : decode cX12_prizes 137 = .ok (.aload_n 0, 1) := by decide +kernel
theorem dX12_prizes_138 : decode cX12_prizes 138 = .ok (.getfield 345, 3) := by decide +kernel
theorem dX12_prizes_141 : decode cX12_prizes 141 = .ok (.ifCond .le 10, 3) := by decide +kernel
theorem dX12_prizes_144 : decode cX12_prizes 144 = .ok (.aload_n 0, 1) := by decide +kernel
theorem dX12_prizes_145 : decode cX12_prizes 145 = .ok (.bipush 7, 2) := by decide +kernel
theorem dX12_prizes_147 : decode cX12_prizes 147 = .ok (.invokevirtual 201, 3) := by decide +kernel
theorem dX12_prizes_150 : decode cX12_prizes 150 = .ok (.ireturn, 1) := by decide +kernel
theorem dX12_prizes_151 : decode cX12_prizes 151 = .ok (.aload_n 0, 1) := by decide +kernel
theorem dX12_prizes_152 : decode cX12_prizes 152 = .ok (.aload_n 0, 1) := by decide +kernel
theorem dX12_prizes_153 : decode cX12_prizes 153 = .ok (.getfield 369, 3) := by decide +kernel
theorem dX12_prizes_156 : decode cX12_prizes 156 = .ok (.putfield 387, 3) := by decide +kernel
theorem dX12_prizes_159 : decode cX12_prizes 159 = .ok (.iconst 0, 1) := by decide +kernel
theorem dX12_prizes_160 : decode cX12_prizes 160 = .ok (.istore_n 2, 1) := by decide +kernel
theorem dX12_prizes_161 : decode cX12_prizes 161 = .ok (.iload_n 2, 1) := by decide +kernel
theorem dX12_prizes_162 : decode cX12_prizes 162 = .ok (.aload_n 0, 1) := by decide +kernel
theorem dX12_prizes_163 : decode cX12_prizes 163 = .ok (.getfield 387, 3) := by decide +kernel
theorem dX12_prizes_166 : decode cX12_prizes 166 = .ok (.if_icmp .ge 81, 3) := by decide +kernel
theorem dX12_prizes_169 : decode cX12_prizes 169 = .ok (.aload_n 0, 1) := by decide +kernel
theorem dX12_prizes_170 : decode cX12_prizes 170 = .ok (.getfield 123, 3) := by decide +kernel
theorem dX12_prizes_173 : decode cX12_prizes 173 = .ok (.iload_n 2, 1) := by decide +kernel
theorem dX12_prizes_174 : decode cX12_prizes 174 = .ok (.aload_n 0, 1) := by decide +kernel
theorem dX12_prizes_175 : decode cX12_prizes 175 = .ok (.getfield 141, 3) := by decide +kernel
theorem dX12_prizes_178 : decode cX12_prizes 178 = .ok (.iload_n 2, 1) := by decide +kernel
theorem dX12_prizes_179 : decode cX12_prizes 179 = .ok (.iaload, 1) := by decide +kernel
theorem dX12_prizes_180 : decode cX12_prizes 180 = .ok (.iastore, 1) := by decide +kernel
theorem dX12_prizes_181 : decode cX12_prizes 181 = .ok (.aload_n 0, 1) := by decide +kernel
theorem dX12_prizes_182 : decode cX12_prizes 182 = .ok (.getfield 126, 3) := by decide +kernel
theorem dX12_prizes_185 : decode cX12_prizes 185 = .ok (.iload_n 2, 1) := by decide +kernel
theorem dX12_prizes_186 : decode cX12_prizes 186 = .ok (.aload_n 0, 1) := by decide +kernel
theorem dX12_prizes_187 : decode cX12_prizes 187 = .ok (.getfield 144, 3) := by decide +kernel
theorem dX12_prizes_190 : decode cX12_prizes 190 = .ok (.iload_n 2, 1) := by decide +kernel
theorem dX12_prizes_191 : decode cX12_prizes 191 = .ok (.iaload, 1) := by decide +kernel
theorem dX12_prizes_192 : decode cX12_prizes 192 = .ok (.iastore, 1) := by decide +kernel
theorem dX12_prizes_193 : decode cX12_prizes 193 = .ok (.aload_n 0, 1) := by decide +kernel
theorem dX12_prizes_194 : decode cX12_prizes 194 = .ok (.getfield 129, 3) := by decide +kernel
theorem dX12_prizes_197 : decode cX12_prizes 197 = .ok (.iload_n 2, 1) := by decide +kernel
theorem dX12_prizes_198 : decode cX12_prizes 198 = .ok (.aload_n 0, 1) := by decide +kernel
theorem dX12_prizes_199 : decode cX12_prizes 199 = .ok (.getfield 147, 3) := by decide +kernel
theorem dX12_prizes_202 : decode cX12_prizes 202 = .ok (.iload_n 2, 1) := by decide +kernel
theorem dX12_prizes_203 : decode cX12_prizes 203 = .ok (.iaload, 1) := by decide +kernel
theorem dX12_prizes_204 : decode cX12_prizes 204 = .ok (.iastore, 1) := by decide +kernel
theorem dX12_prizes_205 : decode cX12_prizes 205 = .ok (.aload_n 0, 1) := by decide +kernel
theorem dX12_prizes_206 : decode cX12_prizes 206 = .ok (.getfield 132, 3) := by decide +kernel
theorem dX12_prizes_209 : decode cX12_prizes 209 = .ok (.iload_n 2, 1) := by decide +kernel
theorem dX12_prizes_210 : decode cX12_prizes 210 = .ok (.aload_n 0, 1) := by decide +kernel
theorem dX12_prizes_211 : decode cX12_prizes 211 = .ok (.getfield 150, 3) := by decide +kernel
theorem dX12_prizes_214 : decode cX12_prizes 214 = .ok (.iload_n 2, 1) := by decide +kernel
theorem dX12_prizes_215 : decode cX12_prizes 215 = .ok (.iaload, 1) := by decide +kernel
theorem dX12_prizes_216 : decode cX12_prizes 216 = .ok (.iastore, 1) := by decide +kernel
theorem dX12_prizes_217 : decode cX12_prizes 217 = .ok (.aload_n 0, 1) := by decide +kernel
theorem dX12_prizes_218 : decode cX12_prizes 218 = .ok (.getfield 135, 3) := by decide +kernel
theorem dX12_prizes_221 : decode cX12_prizes 221 = .ok (.iload_n 2, 1) := by decide +kernel
theorem dX12_prizes_222 : decode cX12_prizes 222 = .ok (.aload_n 0, 1) := by decide +kernel
theorem dX12_prizes_223 : decode cX12_prizes 223 = .ok (.getfield 153, 3) := by decide +kernel
theorem dX12_prizes_226 : decode cX12_prizes 226 = .ok (.iload_n 2, 1) := by decide +kernel
theorem dX12_prizes_227 : decode cX12_prizes 227 = .ok (.iaload, 1) := by decide +kernel
theorem dX12_prizes_228 : decode cX12_prizes 228 = .ok (.iastore, 1) := by decide +kernel
theorem dX12_prizes_229 : decode cX12_prizes 229 = .ok (.aload_n 0, 1) := by decide +kernel
theorem dX12_prizes_230 : decode cX12_prizes 230 = .ok (.getfield 138, 3) := by decide +kernel
theorem dX12_prizes_233 : decode cX12_prizes 233 = .ok (.iload_n 2, 1) := by decide +kernel
theorem dX12_prizes_234 : decode cX12_prizes 234 = .ok (.aload_n 0, 1) := by decide +kernel
theorem dX12_prizes_235 : decode cX12_prizes 235 = .ok (.getfield 156, 3) := by decide +kernel
theorem dX12_prizes_238 : decode cX12_prizes 238 = .ok (.iload_n 2, 1) := by decide +kernel
theorem dX12_prizes_239 : decode cX12_prizes 239 = .ok (.baload, 1) := by decide +kernel
theorem dX12_prizes_240 : decode cX12_prizes 240 = .ok (.bastore, 1) := by decide +kernel
theorem dX12_prizes_241 : decode cX12_prizes 241 = .ok (.iinc 2 1, 3) := by decide +kernel
theorem dX12_prizes_244 : decode cX12_prizes 244 = .ok (.goto (-83), 3) := by decide +kernel
theorem dX12_prizes_247 : decode cX12_prizes 247 = .ok (.aload_n 0, 1) := by decide +kernel
theorem dX12_prizes_248 : decode cX12_prizes 248 = .ok (.getfield 387, 3) := by decide +kernel
theorem dX12_prizes_251 : decode cX12_prizes 251 = .ok (.ireturn, 1) := by decide +kernel
theorem dX12_fault_0 : decode cX12_fault 0 = .ok (.aload_n 0, 1) := by decide +kernel
theorem dX12_fault_1 : decode cX12_fault 1 = .ok (.iconst 0, 1) := by decide +kernel
theorem dX12_fault_2 : decode cX12_fault 2 = .ok (.putfield 195, 3) := by decide +kernel
theorem dX12_fault_5 : decode cX12_fault 5 = .ok (.iload_n 1, 1) := by decide +kernel
theorem dX12_fault_6 : decode cX12_fault 6 = .ok (.ifCond .ne 10, 3) := by decide +kernel
theorem dX12_fault_9 : decode cX12_fault 9 = .ok (.aload_n 0, 1) := by decide +kernel
theorem dX12_fault_10 : decode cX12_fault 10 = .ok (.getfield 117, 3) := by decide +kernel
theorem dX12_fault_13 : decode cX12_fault 13 = .ok (.goto 16, 3) := by decide +kernel
theorem dX12_fault_16 : decode cX12_fault 16 = .ok (.iload_n 1, 1) := by decide +kernel
theorem dX12_fault_17 : decode cX12_fault 17 = .ok (.iconst 1, 1) := by decide +kernel
theorem dX12_fault_18 : decode cX12_fault 18 = .ok (.if_icmp .ne 10, 3) := by decide +kernel
theorem dX12_fault_21 : decode cX12_fault 21 = .ok (.aload_n 0, 1) := by decide +kernel
theorem dX12_fault_22 : decode cX12_fault 22 = .ok (.getfield 120, 3) := by decide +kernel
theorem dX12_fault_25 : decode cX12_fault 25 = .ok (.goto 4, 3) := by decide +kernel
theorem dX12_fault_28 : decode cX12_fault 28 = .ok (.iconst (-1), 1) := by decide +kernel
theorem dX12_fault_29 : decode cX12_fault 29 = .ok (.ireturn, 1) := by decide +kernel
theorem dX12_isAbove_0 : decode cX12_isAbove 0 = .ok (.lload_n 0, 1) := by decide +kernel
theorem dX12_isAbove_1 : decode cX12_isAbove 1 = .ok (.lstore 8, 2) := by decide +kernel
theorem dX12_isAbove_3 : decode cX12_isAbove 3 = .ok (.lload_n 2, 1) := by decide +kernel
theorem dX12_isAbove_4 : decode cX12_isAbove 4 = .ok (.lstore 10, 2) := by decide +kernel
theorem dX12_isAbove_6 : decode cX12_isAbove 6 = .ok (.lload 4, 2) := by decide +kernel
theorem dX12_isAbove_8 : decode cX12_isAbove 8 = .ok (.lstore 12, 2) := by decide +kernel
theorem dX12_isAbove_10 : decode cX12_isAbove 10 = .ok (.lload 6, 2) := by decide +kernel
theorem dX12_isAbove_12 : decode cX12_isAbove 12 = .ok (.lstore 14, 2) := by decide +kernel
theorem dX12_isAbove_14 : decode cX12_isAbove 14 = .ok (.iconst 0, 1) := by decide +kernel
theorem dX12_isAbove_15 : decode cX12_isAbove 15 = .ok (.istore 16, 2) := by decide +kernel
theorem dX12_isAbove_17 : decode cX12_isAbove 17 = .ok (.lload 10, 2) := by decide +kernel
theorem dX12_isAbove_19 : decode cX12_isAbove 19 = .ok (.lconst 0, 1) := by decide +kernel
theorem dX12_isAbove_20 : decode cX12_isAbove 20 = .ok (.lcmp, 1) := by decide +kernel
theorem dX12_isAbove_21 : decode cX12_isAbove 21 = .ok (.ifCond .eq 77, 3) := by decide +kernel
theorem dX12_isAbove_24 : decode cX12_isAbove 24 = .ok (.lload 14, 2) := by decide +kernel
theorem dX12_isAbove_26 : decode cX12_isAbove 26 = .ok (.lconst 0, 1) := by decide +kernel
theorem dX12_isAbove_27 : decode cX12_isAbove 27 = .ok (.lcmp, 1) := by decide +kernel
theorem dX12_isAbove_28 : decode cX12_isAbove 28 = .ok (.ifCond .eq 70, 3) := by decide +kernel
theorem dX12_isAbove_31 : decode cX12_isAbove 31 = .ok (.lload 8, 2) := by decide +kernel
theorem dX12_isAbove_33 : decode cX12_isAbove 33 = .ok (.lload 10, 2) := by decide +kernel
theorem dX12_isAbove_35 : decode cX12_isAbove 35 = .ok (.invokestatic 390, 3) := by decide +kernel
theorem dX12_isAbove_38 : decode cX12_isAbove 38 = .ok (.lload 12, 2) := by decide +kernel
theorem dX12_isAbove_40 : decode cX12_isAbove 40 = .ok (.lload 14, 2) := by decide +kernel
theorem dX12_isAbove_42 : decode cX12_isAbove 42 = .ok (.invokestatic 390, 3) := by decide +kernel
theorem dX12_isAbove_45 : decode cX12_isAbove 45 = .ok (.lcmp, 1) := by decide +kernel
theorem dX12_isAbove_46 : decode cX12_isAbove 46 = .ok (.ifCond .ne 52, 3) := by decide +kernel
theorem dX12_isAbove_49 : decode cX12_isAbove 49 = .ok (.lload 8, 2) := by decide +kernel
theorem dX12_isAbove_51 : decode cX12_isAbove 51 = .ok (.lload 10, 2) := by decide +kernel
theorem dX12_isAbove_53 : decode cX12_isAbove 53 = .ok (.invokestatic 393, 3) := by decide +kernel
theorem dX12_isAbove_56 : decode cX12_isAbove 56 = .ok (.lstore 17, 2) := by decide +kernel
theorem dX12_isAbove_58 : decode cX12_isAbove 58 = .ok (.lload 12, 2) := by decide +kernel
theorem dX12_isAbove_60 : decode cX12_isAbove 60 = .ok (.lload 14, 2) := by decide +kernel
theorem dX12_isAbove_62 : decode cX12_isAbove 62 = .ok (.invokestatic 393, 3) := by decide +kernel
theorem dX12_isAbove_65 : decode cX12_isAbove 65 = .ok (.lstore 19, 2) := by decide +kernel
theorem dX12_isAbove_67 : decode cX12_isAbove 67 = .ok (.lload 10, 2) := by decide +kernel
theorem dX12_isAbove_69 : decode cX12_isAbove 69 = .ok (.lstore 8, 2) := by decide +kernel
theorem dX12_isAbove_71 : decode cX12_isAbove 71 = .ok (.lload 17, 2) := by decide +kernel
theorem dX12_isAbove_73 : decode cX12_isAbove 73 = .ok (.lstore 10, 2) := by decide +kernel
theorem dX12_isAbove_75 : decode cX12_isAbove 75 = .ok (.lload 14, 2) := by decide +kernel
theorem dX12_isAbove_77 : decode cX12_isAbove 77 = .ok (.lstore 12, 2) := by decide +kernel
theorem dX12_isAbove_79 : decode cX12_isAbove 79 = .ok (.lload 19, 2) := by decide +kernel
theorem dX12_isAbove_81 : decode cX12_isAbove 81 = .ok (.lstore 14, 2) := by decide +kernel
theorem dX12_isAbove_83 : decode cX12_isAbove 83 = .ok (.iload 16, 2) := by decide +kernel
theorem dX12_isAbove_85 : decode cX12_isAbove 85 = .ok (.ifCond .ne 7, 3) := by decide +kernel
theorem dX12_isAbove_88 : decode cX12_isAbove 88 = .ok (.iconst 1, 1) := by decide +kernel
theorem dX12_isAbove_89 : decode cX12_isAbove 89 = .ok (.goto 4, 3) := by decide +kernel
theorem dX12_isAbove_92 : decode cX12_isAbove 92 = .ok (.iconst 0, 1) := by decide +kernel
theorem dX12_isAbove_93 : decode cX12_isAbove 93 = .ok (.istore 16, 2) := by decide +kernel
theorem dX12_isAbove_95 : decode cX12_isAbove 95 = .ok (.goto (-78), 3) := by decide +kernel
theorem dX12_isAbove_98 : decode cX12_isAbove 98 = .ok (.lload 10, 2) := by decide +kernel
theorem dX12_isAbove_100 : decode cX12_isAbove 100 = .ok (.lconst 0, 1) := by decide +kernel
theorem dX12_isAbove_101 : decode cX12_isAbove 101 = .ok (.lcmp, 1) := by decide +kernel
theorem dX12_isAbove_102 : decode cX12_isAbove 102 = .ok (.ifCond .ne 12, 3) := by decide +kernel
theorem dX12_isAbove_105 : decode cX12_isAbove 105 = .ok (.lload 14, 2) := by decide +kernel
theorem dX12_isAbove_107 : decode cX12_isAbove 107 = .ok (.lconst 0, 1) := by decide +kernel
theorem dX12_isAbove_108 : decode cX12_isAbove 108 = .ok (.lcmp, 1) := by decide +kernel
theorem dX12_isAbove_109 : decode cX12_isAbove 109 = .ok (.ifCond .ne 5, 3) := by decide +kernel
theorem dX12_isAbove_112 : decode cX12_isAbove 112 = .ok (.iconst 0, 1) := by decide +kernel
theorem dX12_isAbove_113 : decode cX12_isAbove 113 = .ok (.ireturn, 1) := by decide +kernel
theorem dX12_isAbove_114 : decode cX12_isAbove 114 = .ok (.lload 14, 2) := by decide +kernel
theorem dX12_isAbove_116 : decode cX12_isAbove 116 = .ok (.lconst 0, 1) := by decide +kernel
theorem dX12_isAbove_117 : decode cX12_isAbove 117 = .ok (.lcmp, 1) := by decide +kernel
theorem dX12_isAbove_118 : decode cX12_isAbove 118 = .ok (.ifCond .eq 32, 3) := by decide +kernel
theorem dX12_isAbove_121 : decode cX12_isAbove 121 = .ok (.lload 10, 2) := by decide +kernel
theorem dX12_isAbove_123 : decode cX12_isAbove 123 = .ok (.lconst 0, 1) := by decide +kernel
theorem dX12_isAbove_124 : decode cX12_isAbove 124 = .ok (.lcmp, 1) := by decide +kernel
theorem dX12_isAbove_125 : decode cX12_isAbove 125 = .ok (.ifCond .eq 21, 3) := by decide +kernel
theorem dX12_isAbove_128 : decode cX12_isAbove 128 = .ok (.lload 8, 2) := by decide +kernel
theorem dX12_isAbove_130 : decode cX12_isAbove 130 = .ok (.lload 10, 2) := by decide +kernel
theorem dX12_isAbove_132 : decode cX12_isAbove 132 = .ok (.invokestatic 390, 3) := by decide +kernel
theorem dX12_isAbove_135 : decode cX12_isAbove 135 = .ok (.lload 12, 2) := by decide +kernel
theorem dX12_isAbove_137 : decode cX12_isAbove 137 = .ok (.lload 14, 2) := by decide +kernel
theorem dX12_isAbove_139 : decode cX12_isAbove 139 = .ok (.invokestatic 390, 3) := by decide +kernel
theorem dX12_isAbove_142 : decode cX12_isAbove 142 = .ok (.lcmp, 1) := by decide +kernel
theorem dX12_isAbove_143 : decode cX12_isAbove 143 = .ok (.ifCond .le 7, 3) := by decide +kernel
theorem dX12_isAbove_146 : decode cX12_isAbove 146 = .ok (.iconst 1, 1) := by decide +kernel
theorem dX12_isAbove_147 : decode cX12_isAbove 147 = .ok (.goto 4, 3) := by decide +kernel
theorem dX12_isAbove_150 : decode cX12_isAbove 150 = .ok (.iconst 0, 1) := by decide +kernel
theorem dX12_isAbove_151 : decode cX12_isAbove 151 = .ok (.istore 17, 2) := by decide +kernel
theorem dX12_isAbove_153 : decode cX12_isAbove 153 = .ok (.iload 16, 2) := by decide +kernel
theorem dX12_isAbove_155 : decode cX12_isAbove 155 = .ok (.iload 17, 2) := by decide +kernel
theorem dX12_isAbove_157 : decode cX12_isAbove 157 = .ok (.if_icmp .eq 7, 3) := by decide +kernel
theorem dX12_isAbove_160 : decode cX12_isAbove 160 = .ok (.iconst 1, 1) := by decide +kernel
theorem dX12_isAbove_161 : decode cX12_isAbove 161 = .ok (.goto 4, 3) := by decide +kernel
theorem dX12_isAbove_164 : decode cX12_isAbove 164 = .ok (.iconst 0, 1) := by decide +kernel
theorem dX12_isAbove_165 : decode cX12_isAbove 165 = .ok (.ireturn, 1) := by decide +kernel
theorem dX12_wants_0 : decode cX12_wants 0 = .ok (.aload_n 0, 1) := by decide +kernel
theorem dX12_wants_1 : decode cX12_wants 1 = .ok (.getfield 165, 3) := by decide +kernel
theorem dX12_wants_4 : decode cX12_wants 4 = .ok (.iload_n 2, 1) := by decide +kernel
theorem dX12_wants_5 : decode cX12_wants 5 = .ok (.baload, 1) := by decide +kernel
theorem dX12_wants_6 : decode cX12_wants 6 = .ok (.ifCond .eq 35, 3) := by decide +kernel
theorem dX12_wants_9 : decode cX12_wants 9 = .ok (.aload_n 0, 1) := by decide +kernel
theorem dX12_wants_10 : decode cX12_wants 10 = .ok (.iload_n 2, 1) := by decide +kernel
theorem dX12_wants_11 : decode cX12_wants 11 = .ok (.invokevirtual 267, 3) := by decide +kernel
theorem dX12_wants_14 : decode cX12_wants 14 = .ok (.aload_n 0, 1) := by decide +kernel
theorem dX12_wants_15 : decode cX12_wants 15 = .ok (.getfield 132, 3) := by decide +kernel
theorem dX12_wants_18 : decode cX12_wants 18 = .ok (.iload_n 1, 1) := by decide +kernel
theorem dX12_wants_19 : decode cX12_wants 19 = .ok (.iaload, 1) := by decide +kernel
theorem dX12_wants_20 : decode cX12_wants 20 = .ok (.if_icmp .lt 21, 3) := by decide +kernel
theorem dX12_wants_23 : decode cX12_wants 23 = .ok (.aload_n 0, 1) := by decide +kernel
theorem dX12_wants_24 : decode cX12_wants 24 = .ok (.getfield 138, 3) := by decide +kernel
theorem dX12_wants_27 : decode cX12_wants 27 = .ok (.iload_n 1, 1) := by decide +kernel
theorem dX12_wants_28 : decode cX12_wants 28 = .ok (.baload, 1) := by decide +kernel
theorem dX12_wants_29 : decode cX12_wants 29 = .ok (.ifCond .eq 14, 3) := by decide +kernel
theorem dX12_wants_32 : decode cX12_wants 32 = .ok (.aload_n 0, 1) := by decide +kernel
theorem dX12_wants_33 : decode cX12_wants 33 = .ok (.getfield 168, 3) := by decide +kernel
theorem dX12_wants_36 : decode cX12_wants 36 = .ok (.iload_n 2, 1) := by decide +kernel
theorem dX12_wants_37 : decode cX12_wants 37 = .ok (.baload, 1) := by decide +kernel
theorem dX12_wants_38 : decode cX12_wants 38 = .ok (.ifCond .eq 5, 3) := by decide +kernel
theorem dX12_wants_41 : decode cX12_wants 41 = .ok (.iconst 0, 1) := by decide +kernel
theorem dX12_wants_42 : decode cX12_wants 42 = .ok (.ireturn, 1) := by decide +kernel
theorem dX12_wants_43 : decode cX12_wants 43 = .ok (.aload_n 0, 1) := by decide +kernel
theorem dX12_wants_44 : decode cX12_wants 44 = .ok (.getfield 123, 3) := by decide +kernel
theorem dX12_wants_47 : decode cX12_wants 47 = .ok (.iload_n 1, 1) := by decide +kernel
theorem dX12_wants_48 : decode cX12_wants 48 = .ok (.iaload, 1) := by decide +kernel
theorem dX12_wants_49 : decode cX12_wants 49 = .ok (.ifCond .lt 18, 3) := by decide +kernel
theorem dX12_wants_52 : decode cX12_wants 52 = .ok (.aload_n 0, 1) := by decide +kernel
theorem dX12_wants_53 : decode cX12_wants 53 = .ok (.getfield 123, 3) := by decide +kernel
theorem dX12_wants_56 : decode cX12_wants 56 = .ok (.iload_n 1, 1) := by decide +kernel
theorem dX12_wants_57 : decode cX12_wants 57 = .ok (.iaload, 1) := by decide +kernel
theorem dX12_wants_58 : decode cX12_wants 58 = .ok (.aload_n 0, 1) := by decide +kernel
theorem dX12_wants_59 : decode cX12_wants 59 = .ok (.getfield 17, 3) := by decide +kernel
theorem dX12_wants_62 : decode cX12_wants 62 = .ok (.iload_n 2, 1) := by decide +kernel
theorem dX12_wants_63 : decode cX12_wants 63 = .ok (.iaload, 1) := by decide +kernel
theorem dX12_wants_64 : decode cX12_wants 64 = .ok (.if_icmp .ne 55, 3) := by decide +kernel
theorem dX12_wants_67 : decode cX12_wants 67 = .ok (.aload_n 0, 1) := by decide +kernel
theorem dX12_wants_68 : decode cX12_wants 68 = .ok (.getfield 126, 3) := by decide +kernel
theorem dX12_wants_71 : decode cX12_wants 71 = .ok (.iload_n 1, 1) := by decide +kernel
theorem dX12_wants_72 : decode cX12_wants 72 = .ok (.iaload, 1) := by decide +kernel
theorem dX12_wants_73 : decode cX12_wants 73 = .ok (.ifCond .lt 18, 3) := by decide +kernel
theorem dX12_wants_76 : decode cX12_wants 76 = .ok (.aload_n 0, 1) := by decide +kernel
theorem dX12_wants_77 : decode cX12_wants 77 = .ok (.getfield 126, 3) := by decide +kernel
theorem dX12_wants_80 : decode cX12_wants 80 = .ok (.iload_n 1, 1) := by decide +kernel
theorem dX12_wants_81 : decode cX12_wants 81 = .ok (.iaload, 1) := by decide +kernel
theorem dX12_wants_82 : decode cX12_wants 82 = .ok (.aload_n 0, 1) := by decide +kernel
theorem dX12_wants_83 : decode cX12_wants 83 = .ok (.getfield 21, 3) := by decide +kernel
theorem dX12_wants_86 : decode cX12_wants 86 = .ok (.iload_n 2, 1) := by decide +kernel
theorem dX12_wants_87 : decode cX12_wants 87 = .ok (.iaload, 1) := by decide +kernel
theorem dX12_wants_88 : decode cX12_wants 88 = .ok (.if_icmp .ne 31, 3) := by decide +kernel
theorem dX12_wants_91 : decode cX12_wants 91 = .ok (.aload_n 0, 1) := by decide +kernel
theorem dX12_wants_92 : decode cX12_wants 92 = .ok (.getfield 129, 3) := by decide +kernel
theorem dX12_wants_95 : decode cX12_wants 95 = .ok (.iload_n 1, 1) := by decide +kernel
theorem dX12_wants_96 : decode cX12_wants 96 = .ok (.iaload, 1) := by decide +kernel
theorem dX12_wants_97 : decode cX12_wants 97 = .ok (.ifCond .lt 18, 3) := by decide +kernel
theorem dX12_wants_100 : decode cX12_wants 100 = .ok (.aload_n 0, 1) := by decide +kernel
theorem dX12_wants_101 : decode cX12_wants 101 = .ok (.getfield 129, 3) := by decide +kernel
theorem dX12_wants_104 : decode cX12_wants 104 = .ok (.iload_n 1, 1) := by decide +kernel
theorem dX12_wants_105 : decode cX12_wants 105 = .ok (.iaload, 1) := by decide +kernel
theorem dX12_wants_106 : decode cX12_wants 106 = .ok (.aload_n 0, 1) := by decide +kernel
theorem dX12_wants_107 : decode cX12_wants 107 = .ok (.getfield 24, 3) := by decide +kernel
theorem dX12_wants_110 : decode cX12_wants 110 = .ok (.iload_n 2, 1) := by decide +kernel
theorem dX12_wants_111 : decode cX12_wants 111 = .ok (.iaload, 1) := by decide +kernel
theorem dX12_wants_112 : decode cX12_wants 112 = .ok (.if_icmp .ne 7, 3) := by decide +kernel
theorem dX12_wants_115 : decode cX12_wants 115 = .ok (.iconst 1, 1) := by decide +kernel
theorem dX12_wants_116 : decode cX12_wants 116 = .ok (.goto 4, 3) := by decide +kernel
theorem dX12_wants_119 : decode cX12_wants 119 = .ok (.iconst 0, 1) := by decide +kernel
theorem dX12_wants_120 : decode cX12_wants 120 = .ok (.ireturn, 1) := by decide +kernel
theorem dX12_given_0 : decode cX12_given 0 = .ok (.aload_n 0, 1) := by decide +kernel
theorem dX12_given_1 : decode cX12_given 1 = .ok (.iconst 0, 1) := by decide +kernel
theorem dX12_given_2 : decode cX12_given 2 = .ok (.putfield 195, 3) := by decide +kernel
theorem dX12_given_5 : decode cX12_given 5 = .ok (.aload_n 0, 1) := by decide +kernel
theorem dX12_given_6 : decode cX12_given 6 = .ok (.iconst 0, 1) := by decide +kernel
theorem dX12_given_7 : decode cX12_given 7 = .ok (.putfield 198, 3) := by decide +kernel
theorem dX12_given_10 : decode cX12_given 10 = .ok (.iload_n 1, 1) := by decide +kernel
theorem dX12_given_11 : decode cX12_given 11 = .ok (.ifCond .lt 15, 3) := by decide +kernel
theorem dX12_given_14 : decode cX12_given 14 = .ok (.iload_n 1, 1) := by decide +kernel
theorem dX12_given_15 : decode cX12_given 15 = .ok (.aload_n 0, 1) := by decide +kernel
theorem dX12_given_16 : decode cX12_given 16 = .ok (.getfield 387, 3) := by decide +kernel
theorem dX12_given_19 : decode cX12_given 19 = .ok (.if_icmp .ge 7, 3) := by decide +kernel
theorem dX12_given_22 : decode cX12_given 22 = .ok (.iload_n 2, 1) := by decide +kernel
theorem dX12_given_23 : decode cX12_given 23 = .ok (.ifCond .ge 9, 3) := by decide +kernel
theorem dX12_given_26 : decode cX12_given 26 = .ok (.aload_n 0, 1) := by decide +kernel
theorem dX12_given_27 : decode cX12_given 27 = .ok (.iconst 1, 1) := by decide +kernel
theorem dX12_given_28 : decode cX12_given 28 = .ok (.invokevirtual 201, 3) := by decide +kernel
theorem dX12_given_31 : decode cX12_given 31 = .ok (.ireturn, 1) := by decide +kernel
theorem dX12_given_32 : decode cX12_given 32 = .ok (.iload_n 3, 1) := by decide +kernel
theorem dX12_given_33 : decode cX12_given 33 = .ok (.invokestatic 253, 3) := by decide +kernel
theorem dX12_given_36 : decode cX12_given 36 = .ok (.ifCond .ne 9, 3) := by decide +kernel
theorem dX12_given_39 : decode cX12_given 39 = .ok (.aload_n 0, 1) := by decide +kernel
theorem dX12_given_40 : decode cX12_given 40 = .ok (.iconst 2, 1) := by decide +kernel
theorem dX12_given_41 : decode cX12_given 41 = .ok (.invokevirtual 201, 3) := by decide +kernel
theorem dX12_given_44 : decode cX12_given 44 = .ok (.ireturn, 1) := by decide +kernel
theorem dX12_given_45 : decode cX12_given 45 = .ok (.aload_n 0, 1) := by decide +kernel
theorem dX12_given_46 : decode cX12_given 46 = .ok (.iload_n 3, 1) := by decide +kernel
theorem dX12_given_47 : decode cX12_given 47 = .ok (.invokevirtual 264, 3) := by decide +kernel
theorem dX12_given_50 : decode cX12_given 50 = .ok (.iconst 0, 1) := by decide +kernel
theorem dX12_given_51 : decode cX12_given 51 = .ok (.istore 4, 2) := by decide +kernel
theorem dX12_given_53 : decode cX12_given 53 = .ok (.iload 4, 2) := by decide +kernel
theorem dX12_given_55 : decode cX12_given 55 = .ok (.aload_n 0, 1) := by decide +kernel
theorem dX12_given_56 : decode cX12_given 56 = .ok (.getfield 208, 3) := by decide +kernel
theorem dX12_given_59 : decode cX12_given 59 = .ok (.if_icmp .ge 41, 3) := by decide +kernel
theorem dX12_given_62 : decode cX12_given 62 = .ok (.aload_n 0, 1) := by decide +kernel
theorem dX12_given_63 : decode cX12_given 63 = .ok (.getfield 94, 3) := by decide +kernel
theorem dX12_given_66 : decode cX12_given 66 = .ok (.iload 4, 2) := by decide +kernel
theorem dX12_given_68 : decode cX12_given 68 = .ok (.iaload, 1) := by decide +kernel
theorem dX12_given_69 : decode cX12_given 69 = .ok (.ifCond .lt 25, 3) := by decide +kernel
theorem dX12_given_72 : decode cX12_given 72 = .ok (.aload_n 0, 1) := by decide +kernel
theorem dX12_given_73 : decode cX12_given 73 = .ok (.aload_n 0, 1) := by decide +kernel
theorem dX12_given_74 : decode cX12_given 74 = .ok (.getfield 94, 3) := by decide +kernel
theorem dX12_given_77 : decode cX12_given 77 = .ok (.iload 4, 2) := by decide +kernel
theorem dX12_given_79 : decode cX12_given 79 = .ok (.iaload, 1) := by decide +kernel
theorem dX12_given_80 : decode cX12_given 80 = .ok (.invokevirtual 295, 3) := by decide +kernel
theorem dX12_given_83 : decode cX12_given 83 = .ok (.iconst 5, 1) := by decide +kernel
theorem dX12_given_84 : decode cX12_given 84 = .ok (.if_icmp .le 10, 3) := by decide +kernel
theorem dX12_given_87 : decode cX12_given 87 = .ok (.aload_n 0, 1) := by decide +kernel
theorem dX12_given_88 : decode cX12_given 88 = .ok (.bipush 9, 2) := by decide +kernel
theorem dX12_given_90 : decode cX12_given 90 = .ok (.invokevirtual 201, 3) := by decide +kernel
theorem dX12_given_93 : decode cX12_given 93 = .ok (.ireturn, 1) := by decide +kernel
theorem dX12_given_94 : decode cX12_given 94 = .ok (.iinc 4 1, 3) := by decide +kernel
theorem dX12_given_97 : decode cX12_given 97 = .ok (.goto (-44), 3) := by decide +kernel
theorem dX12_given_100 : decode cX12_given 100 = .ok (.iconst 0, 1) := by decide +kernel
theorem dX12_given_101 : decode cX12_given 101 = .ok (.istore 4, 2) := by decide +kernel
theorem dX12_given_103 : decode cX12_given 103 = .ok (.iload 4, 2) := by decide +kernel
theorem dX12_given_105 : decode cX12_given 105 = .ok (.aload_n 0, 1) := by decide +kernel
theorem dX12_given_106 : decode cX12_given 106 = .ok (.getfield 205, 3) := by decide +kernel
theorem dX12_given_109 : decode cX12_given 109 = .ok (.if_icmp .ge 79, 3) := by decide +kernel
theorem dX12_given_112 : decode cX12_given 112 = .ok (.aload_n 0, 1) := by decide +kernel
theorem dX12_given_113 : decode cX12_given 113 = .ok (.getfield 168, 3) := by decide +kernel
theorem dX12_given_116 : decode cX12_given 116 = .ok (.iload 4, 2) := by decide +kernel
theorem dX12_given_118 : decode cX12_given 118 = .ok (.iconst 0, 1) := by decide +kernel
theorem dX12_given_119 : decode cX12_given 119 = .ok (.bastore, 1) := by decide +kernel
theorem dX12_given_120 : decode cX12_given 120 = .ok (.aload_n 0, 1) := by decide +kernel
theorem dX12_given_121 : decode cX12_given 121 = .ok (.getfield 165, 3) := by decide +kernel
theorem dX12_given_124 : decode cX12_given 124 = .ok (.iload 4, 2) := by decide +kernel
theorem dX12_given_126 : decode cX12_given 126 = .ok (.aload_n 0, 1) := by decide +kernel
theorem dX12_given_127 : decode cX12_given 127 = .ok (.iload 4, 2) := by decide +kernel
theorem dX12_given_129 : decode cX12_given 129 = .ok (.invokevirtual 267, 3) := by decide +kernel
theorem dX12_given_132 : decode cX12_given 132 = .ok (.ifCond .le 7, 3) := by decide +kernel
theorem dX12_given_135 : decode cX12_given 135 = .ok (.iconst 1, 1) := by decide +kernel
theorem dX12_given_136 : decode cX12_given 136 = .ok (.goto 4, 3) := by decide +kernel
theorem dX12_given_139 : decode cX12_given 139 = .ok (.iconst 0, 1) := by decide +kernel
theorem dX12_given_140 : decode cX12_given 140 = .ok (.bastore, 1) := by decide +kernel
theorem dX12_given_141 : decode cX12_given 141 = .ok (.aload_n 0, 1) := by decide +kernel
theorem dX12_given_142 : decode cX12_given 142 = .ok (.getfield 165, 3) := by decide +kernel
theorem dX12_given_145 : decode cX12_given 145 = .ok (.iload 4, 2) := by decide +kernel
theorem dX12_given_147 : decode cX12_given 147 = .ok (.baload, 1) := by decide +kernel
theorem dX12_given_148 : decode cX12_given 148 = .ok (.ifCond .ne 6, 3) := by decide +kernel
theorem dX12_given_151 : decode cX12_given 151 = .ok (.goto 31, 3) := by decide +kernel
theorem dX12_given_154 : decode cX12_given 154 = .ok (.aload_n 0, 1) := by decide +kernel
theorem dX12_given_155 : decode cX12_given 155 = .ok (.iload 4, 2) := by decide +kernel
theorem dX12_given_157 : decode cX12_given 157 = .ok (.invokevirtual 311, 3) := by decide +kernel
theorem dX12_given_160 : decode cX12_given 160 = .ok (.aload_n 0, 1) := by decide +kernel
theorem dX12_given_161 : decode cX12_given 161 = .ok (.getfield 159, 3) := by decide +kernel
theorem dX12_given_164 : decode cX12_given 164 = .ok (.iload 4, 2) := by decide +kernel
theorem dX12_given_166 : decode cX12_given 166 = .ok (.aload_n 0, 1) := by decide +kernel
theorem dX12_given_167 : decode cX12_given 167 = .ok (.getfield 305, 3) := by decide +kernel
theorem dX12_given_170 : decode cX12_given 170 = .ok (.lastore, 1) := by decide +kernel
theorem dX12_given_171 : decode cX12_given 171 = .ok (.aload_n 0, 1) := by decide +kernel
theorem dX12_given_172 : decode cX12_given 172 = .ok (.getfield 162, 3) := by decide +kernel
theorem dX12_given_175 : decode cX12_given 175 = .ok (.iload 4, 2) := by decide +kernel
theorem dX12_given_177 : decode cX12_given 177 = .ok (.aload_n 0, 1) := by decide +kernel
theorem dX12_given_178 : decode cX12_given 178 = .ok (.getfield 308, 3) := by decide +kernel
theorem dX12_given_181 : decode cX12_given 181 = .ok (.lastore, 1) := by decide +kernel
theorem dX12_given_182 : decode cX12_given 182 = .ok (.iinc 4 1, 3) := by decide +kernel
theorem dX12_given_185 : decode cX12_given 185 = .ok (.goto (-82), 3) := by decide +kernel
theorem dX12_given_188 : decode cX12_given 188 = .ok (.iconst 0, 1) := by decide +kernel
theorem dX12_given_189 : decode cX12_given 189 = .ok (.istore 4, 2) := by decide +kernel
theorem dX12_given_191 : decode cX12_given 191 = .ok (.iload 4, 2) := by decide +kernel
theorem dX12_given_193 : decode cX12_given 193 = .ok (.iload_n 1, 1) := by decide +kernel
theorem dX12_given_194 : decode cX12_given 194 = .ok (.if_icmp .gt 198, 3) := by decide +kernel
theorem dX12_given_197 : decode cX12_given 197 = .ok (.iconst 0, 1) := by decide +kernel
theorem dX12_given_198 : decode cX12_given 198 = .ok (.istore 5, 2) := by decide +kernel
theorem dX12_given_200 : decode cX12_given 200 = .ok (.iload 5, 2) := by decide +kernel
theorem dX12_given_202 : decode cX12_given 202 = .ok (.aload_n 0, 1) := by decide +kernel
theorem dX12_given_203 : decode cX12_given 203 = .ok (.getfield 205, 3) := by decide +kernel
theorem dX12_given_206 : decode cX12_given 206 = .ok (.if_icmp .ge 32, 3) := by decide +kernel
theorem dX12_given_209 : decode cX12_given 209 = .ok (.aload_n 0, 1) := by decide +kernel
theorem dX12_given_210 : decode cX12_given 210 = .ok (.getfield 171, 3) := by decide +kernel
theorem dX12_given_213 : decode cX12_given 213 = .ok (.iload 5, 2) := by decide +kernel
theorem dX12_given_215 : decode cX12_given 215 = .ok (.aload_n 0, 1) := by decide +kernel
theorem dX12_given_216 : decode cX12_given 216 = .ok (.iload 4, 2) := by decide +kernel
theorem dX12_given_218 : decode cX12_given 218 = .ok (.iload 5, 2) := by decide +kernel
theorem dX12_given_220 : decode cX12_given 220 = .ok (.invokevirtual 396, 3) := by decide +kernel
theorem dX12_given_223 : decode cX12_given 223 = .ok (.ifCond .ne 7, 3) := by decide +kernel
theorem dX12_given_226 : decode cX12_given 226 = .ok (.iconst 1, 1) := by decide +kernel
theorem dX12_given_227 : decode cX12_given 227 = .ok (.goto 4, 3) := by decide +kernel
theorem dX12_given_230 : decode cX12_given 230 = .ok (.iconst 0, 1) := by decide +kernel
theorem dX12_given_231 : decode cX12_given 231 = .ok (.bastore, 1) := by decide +kernel
theorem dX12_given_232 : decode cX12_given 232 = .ok (.iinc 5 1, 3) := by decide +kernel
theorem dX12_given_235 : decode cX12_given 235 = .ok (.goto (-35), 3) := by decide +kernel
theorem dX12_given_238 : decode cX12_given 238 = .ok (.iconst 0, 1) := by decide +kernel
theorem dX12_given_239 : decode cX12_given 239 = .ok (.istore 5, 2) := by decide +kernel
theorem dX12_given_241 : decode cX12_given 241 = .ok (.iload 5, 2) := by decide +kernel
theorem dX12_given_243 : decode cX12_given 243 = .ok (.aload_n 0, 1) := by decide +kernel
theorem dX12_given_244 : decode cX12_given 244 = .ok (.getfield 135, 3) := by decide +kernel
theorem dX12_given_247 : decode cX12_given 247 = .ok (.iload 4, 2) := by decide +kernel
theorem dX12_given_249 : decode cX12_given 249 = .ok (.iaload, 1) := by decide +kernel
theorem dX12_given_250 : decode cX12_given 250 = .ok (.if_icmp .ge 136, 3) := by decide +kernel
theorem dX12_given_253 : decode cX12_given 253 = .ok (.iconst (-1), 1) := by decide +kernel
theorem dX12_given_254 : decode cX12_given 254 = .ok (.istore 6, 2) := by decide +kernel
theorem dX12_given_256 : decode cX12_given 256 = .ok (.iconst 0, 1) := by decide +kernel
theorem dX12_given_257 : decode cX12_given 257 = .ok (.istore 7, 2) := by decide +kernel
theorem dX12_given_259 : decode cX12_given 259 = .ok (.iload 7, 2) := by decide +kernel
theorem dX12_given_261 : decode cX12_given 261 = .ok (.aload_n 0, 1) := by decide +kernel
theorem dX12_given_262 : decode cX12_given 262 = .ok (.getfield 205, 3) := by decide +kernel
theorem dX12_given_265 : decode cX12_given 265 = .ok (.if_icmp .ge 62, 3) := by decide +kernel
theorem dX12_given_268 : decode cX12_given 268 = .ok (.aload_n 0, 1) := by decide +kernel
theorem dX12_given_269 : decode cX12_given 269 = .ok (.getfield 171, 3) := by decide +kernel
theorem dX12_given_272 : decode cX12_given 272 = .ok (.iload 7, 2) := by decide +kernel
theorem dX12_given_274 : decode cX12_given 274 = .ok (.baload, 1) := by decide +kernel
theorem dX12_given_275 : decode cX12_given 275 = .ok (.ifCond .ne 46, 3) := by decide +kernel
theorem dX12_given_278 : decode cX12_given 278 = .ok (.iload 6, 2) := by decide +kernel
theorem dX12_given_280 : decode cX12_given 280 = .ok (.ifCond .lt 37, 3) := by decide +kernel
theorem dX12_given_283 : decode cX12_given 283 = .ok (.aload_n 0, 1) := by decide +kernel
theorem dX12_given_284 : decode cX12_given 284 = .ok (.getfield 159, 3) := by decide +kernel
theorem dX12_given_287 : decode cX12_given 287 = .ok (.iload 7, 2) := by decide +kernel
theorem dX12_given_289 : decode cX12_given 289 = .ok (.laload, 1) := by decide +kernel
theorem dX12_given_290 : decode cX12_given 290 = .ok (.aload_n 0, 1) := by decide +kernel
theorem dX12_given_291 : decode cX12_given 291 = .ok (.getfield 162, 3) := by decide +kernel
theorem dX12_given_294 : decode cX12_given 294 = .ok (.iload 7, 2) := by decide +kernel
theorem dX12_given_296 : decode cX12_given 296 = .ok (.laload, 1) := by decide +kernel
theorem dX12_given_297 : decode cX12_given 297 = .ok (.aload_n 0, 1) := by decide +kernel
theorem dX12_given_298 : decode cX12_given 298 = .ok (.getfield 159, 3) := by decide +kernel
theorem dX12_given_301 : decode cX12_given 301 = .ok (.iload 6, 2) := by decide +kernel
theorem dX12_given_303 : decode cX12_given 303 = .ok (.laload, 1) := by decide +kernel
theorem dX12_given_304 : decode cX12_given 304 = .ok (.aload_n 0, 1) := by decide +kernel
theorem dX12_given_305 : decode cX12_given 305 = .ok (.getfield 162, 3) := by decide +kernel
theorem dX12_given_308 : decode cX12_given 308 = .ok (.iload 6, 2) := by decide +kernel
theorem dX12_given_310 : decode cX12_given 310 = .ok (.laload, 1) := by decide +kernel
theorem dX12_given_311 : decode cX12_given 311 = .ok (.invokestatic 399, 3) := by decide +kernel
theorem dX12_given_314 : decode cX12_given 314 = .ok (.ifCond .eq 7, 3) := by decide +kernel
theorem dX12_given_317 : decode cX12_given 317 = .ok (.iload 7, 2) := by decide +kernel
theorem dX12_given_319 : decode cX12_given 319 = .ok (.istore 6, 2) := by decide +kernel
theorem dX12_given_321 : decode cX12_given 321 = .ok (.iinc 7 1, 3) := by decide +kernel
theorem dX12_given_324 : decode cX12_given 324 = .ok (.goto (-65), 3) := by decide +kernel
theorem dX12_given_327 : decode cX12_given 327 = .ok (.iload 6, 2) := by decide +kernel
theorem dX12_given_329 : decode cX12_given 329 = .ok (.ifCond .ge 15, 3) := by decide +kernel
theorem dX12_given_332 : decode cX12_given 332 = .ok (.aload_n 0, 1) := by decide +kernel
theorem dX12_given_333 : decode cX12_given 333 = .ok (.getfield 135, 3) := by decide +kernel
theorem dX12_given_336 : decode cX12_given 336 = .ok (.iload 4, 2) := by decide +kernel
theorem dX12_given_338 : decode cX12_given 338 = .ok (.iaload, 1) := by decide +kernel
theorem dX12_given_339 : decode cX12_given 339 = .ok (.istore 5, 2) := by decide +kernel
theorem dX12_given_341 : decode cX12_given 341 = .ok (.goto 18, 3) := by decide +kernel
theorem dX12_given_344 : decode cX12_given 344 = .ok (.iload 4, 2) := by decide +kernel
theorem dX12_given_346 : decode cX12_given 346 = .ok (.iload_n 1, 1) := by decide +kernel
theorem dX12_given_347 : decode cX12_given 347 = .ok (.if_icmp .ne 12, 3) := by decide +kernel
theorem dX12_given_350 : decode cX12_given 350 = .ok (.iload 5, 2) := by decide +kernel
theorem dX12_given_352 : decode cX12_given 352 = .ok (.iload_n 2, 1) := by decide +kernel
theorem dX12_given_353 : decode cX12_given 353 = .ok (.if_icmp .ne 6, 3) := by decide +kernel
theorem dX12_given_356 : decode cX12_given 356 = .ok (.iload 6, 2) := by decide +kernel
theorem dX12_given_358 : decode cX12_given 358 = .ok (.ireturn, 1) := by decide +kernel
theorem dX12_given_359 : decode cX12_given 359 = .ok (.iload 6, 2) := by decide +kernel
theorem dX12_given_361 : decode cX12_given 361 = .ok (.ifCond .lt 19, 3) := by decide +kernel
theorem dX12_given_364 : decode cX12_given 364 = .ok (.aload_n 0, 1) := by decide +kernel
theorem dX12_given_365 : decode cX12_given 365 = .ok (.getfield 171, 3) := by decide +kernel
theorem dX12_given_368 : decode cX12_given 368 = .ok (.iload 6, 2) := by decide +kernel
theorem dX12_given_370 : decode cX12_given 370 = .ok (.iconst 1, 1) := by decide +kernel
theorem dX12_given_371 : decode cX12_given 371 = .ok (.bastore, 1) := by decide +kernel
theorem dX12_given_372 : decode cX12_given 372 = .ok (.aload_n 0, 1) := by decide +kernel
theorem dX12_given_373 : decode cX12_given 373 = .ok (.getfield 168, 3) := by decide +kernel
theorem dX12_given_376 : decode cX12_given 376 = .ok (.iload 6, 2) := by decide +kernel
theorem dX12_given_378 : decode cX12_given 378 = .ok (.iconst 1, 1) := by decide +kernel
theorem dX12_given_379 : decode cX12_given 379 = .ok (.bastore, 1) := by decide +kernel
theorem dX12_given_380 : decode cX12_given 380 = .ok (.iinc 5 1, 3) := by decide +kernel
theorem dX12_given_383 : decode cX12_given 383 = .ok (.goto (-142), 3) := by decide +kernel
theorem dX12_given_386 : decode cX12_given 386 = .ok (.iinc 4 1, 3) := by decide +kernel
theorem dX12_given_389 : decode cX12_given 389 = .ok (.goto (-198), 3) := by decide +kernel
theorem dX12_given_392 : decode cX12_given 392 = .ok (.aload_n 0, 1) := by decide +kernel
theorem dX12_given_393 : decode cX12_given 393 = .ok (.iconst 1, 1) := by decide +kernel
theorem dX12_given_394 : decode cX12_given 394 = .ok (.invokevirtual 201, 3) := by decide +kernel
theorem dX12_given_397 : decode cX12_given 397 = .ok (.ireturn, 1) := by decide +kernel
theorem dX12_hall_0 : decode cX12_hall 0 = .ok (.aload_n 0, 1) := by decide +kernel
theorem dX12_hall_1 : decode cX12_hall 1 = .ok (.iconst 0, 1) := by decide +kernel
theorem dX12_hall_2 : decode cX12_hall 2 = .ok (.putfield 195, 3) := by decide +kernel
theorem dX12_hall_5 : decode cX12_hall 5 = .ok (.aload_n 0, 1) := by decide +kernel
theorem dX12_hall_6 : decode cX12_hall 6 = .ok (.iconst 0, 1) := by decide +kernel
theorem dX12_hall_7 : decode cX12_hall 7 = .ok (.putfield 198, 3) := by decide +kernel
theorem dX12_hall_10 : decode cX12_hall 10 = .ok (.iload_n 1, 1) := by decide +kernel
theorem dX12_hall_11 : decode cX12_hall 11 = .ok (.ifCond .lt 30, 3) := by decide +kernel
theorem dX12_hall_14 : decode cX12_hall 14 = .ok (.iload_n 1, 1) := by decide +kernel
theorem dX12_hall_15 : decode cX12_hall 15 = .ok (.bipush 24, 2) := by decide +kernel
theorem dX12_hall_17 : decode cX12_hall 17 = .ok (.if_icmp .gt 24, 3) := by decide +kernel
theorem dX12_hall_20 : decode cX12_hall 20 = .ok (.iload_n 2, 1) := by decide +kernel
theorem dX12_hall_21 : decode cX12_hall 21 = .ok (.ifCond .lt 20, 3) := by decide +kernel
theorem dX12_hall_24 : decode cX12_hall 24 = .ok (.iload_n 2, 1) := by decide +kernel
theorem dX12_hall_25 : decode cX12_hall 25 = .ok (.sipush 999, 3) := by decide +kernel
theorem dX12_hall_28 : decode cX12_hall 28 = .ok (.if_icmp .gt 13, 3) := by decide +kernel
theorem dX12_hall_31 : decode cX12_hall 31 = .ok (.iload_n 3, 1) := by decide +kernel
theorem dX12_hall_32 : decode cX12_hall 32 = .ok (.ifCond .lt 9, 3) := by decide +kernel
theorem dX12_hall_35 : decode cX12_hall 35 = .ok (.iload_n 3, 1) := by decide +kernel
theorem dX12_hall_36 : decode cX12_hall 36 = .ok (.bipush 24, 2) := by decide +kernel
theorem dX12_hall_38 : decode cX12_hall 38 = .ok (.if_icmp .le 9, 3) := by decide +kernel
theorem dX12_hall_41 : decode cX12_hall 41 = .ok (.aload_n 0, 1) := by decide +kernel
theorem dX12_hall_42 : decode cX12_hall 42 = .ok (.iconst 2, 1) := by decide +kernel
theorem dX12_hall_43 : decode cX12_hall 43 = .ok (.invokevirtual 201, 3) := by decide +kernel
theorem dX12_hall_46 : decode cX12_hall 46 = .ok (.ireturn, 1) := by decide +kernel
theorem dX12_hall_47 : decode cX12_hall 47 = .ok (.aload_n 0, 1) := by decide +kernel
theorem dX12_hall_48 : decode cX12_hall 48 = .ok (.getfield 403, 3) := by decide +kernel
theorem dX12_hall_51 : decode cX12_hall 51 = .ok (.iconst 4, 1) := by decide +kernel
theorem dX12_hall_52 : decode cX12_hall 52 = .ok (.if_icmp .ne 9, 3) := by decide +kernel
theorem dX12_hall_55 : decode cX12_hall 55 = .ok (.aload_n 0, 1) := by decide +kernel
theorem dX12_hall_56 : decode cX12_hall 56 = .ok (.iconst 3, 1) := by decide +kernel
theorem dX12_hall_57 : decode cX12_hall 57 = .ok (.invokevirtual 201, 3) := by decide +kernel
theorem dX12_hall_60 : decode cX12_hall 60 = .ok (.ireturn, 1) := by decide +kernel
theorem dX12_hall_61 : decode cX12_hall 61 = .ok (.aload_n 0, 1) := by decide +kernel
theorem dX12_hall_62 : decode cX12_hall 62 = .ok (.getfield 174, 3) := by decide +kernel
theorem dX12_hall_65 : decode cX12_hall 65 = .ok (.aload_n 0, 1) := by decide +kernel
theorem dX12_hall_66 : decode cX12_hall 66 = .ok (.getfield 403, 3) := by decide +kernel
theorem dX12_hall_69 : decode cX12_hall 69 = .ok (.iload_n 1, 1) := by decide +kernel
theorem dX12_hall_70 : decode cX12_hall 70 = .ok (.iastore, 1) := by decide +kernel
theorem dX12_hall_71 : decode cX12_hall 71 = .ok (.aload_n 0, 1) := by decide +kernel
theorem dX12_hall_72 : decode cX12_hall 72 = .ok (.getfield 177, 3) := by decide +kernel
theorem dX12_hall_75 : decode cX12_hall 75 = .ok (.aload_n 0, 1) := by decide +kernel
theorem dX12_hall_76 : decode cX12_hall 76 = .ok (.getfield 403, 3) := by decide +kernel
theorem dX12_hall_79 : decode cX12_hall 79 = .ok (.iload_n 2, 1) := by decide +kernel
theorem dX12_hall_80 : decode cX12_hall 80 = .ok (.iastore, 1) := by decide +kernel
theorem dX12_hall_81 : decode cX12_hall 81 = .ok (.aload_n 0, 1) := by decide +kernel
theorem dX12_hall_82 : decode cX12_hall 82 = .ok (.getfield 180, 3) := by decide +kernel
theorem dX12_hall_85 : decode cX12_hall 85 = .ok (.aload_n 0, 1) := by decide +kernel
theorem dX12_hall_86 : decode cX12_hall 86 = .ok (.getfield 403, 3) := by decide +kernel
theorem dX12_hall_89 : decode cX12_hall 89 = .ok (.iload_n 3, 1) := by decide +kernel
theorem dX12_hall_90 : decode cX12_hall 90 = .ok (.iastore, 1) := by decide +kernel
theorem dX12_hall_91 : decode cX12_hall 91 = .ok (.aload_n 0, 1) := by decide +kernel
theorem dX12_hall_92 : decode cX12_hall 92 = .ok (.dup, 1) := by decide +kernel
theorem dX12_hall_93 : decode cX12_hall 93 = .ok (.getfield 403, 3) := by decide +kernel
theorem dX12_hall_96 : decode cX12_hall 96 = .ok (.iconst 1, 1) := by decide +kernel
theorem dX12_hall_97 : decode cX12_hall 97 = .ok (.iadd, 1) := by decide +kernel
theorem dX12_hall_98 : decode cX12_hall 98 = .ok (.putfield 403, 3) := by decide +kernel
theorem dX12_hall_101 : decode cX12_hall 101 = .ok (.aload_n 0, 1) := by decide +kernel
theorem dX12_hall_102 : decode cX12_hall 102 = .ok (.getfield 403, 3) := by decide +kernel
theorem dX12_hall_105 : decode cX12_hall 105 = .ok (.iconst 1, 1) := by decide +kernel
theorem dX12_hall_106 : decode cX12_hall 106 = .ok (.isub, 1) := by decide +kernel
theorem dX12_hall_107 : decode cX12_hall 107 = .ok (.ireturn, 1) := by decide +kernel
theorem dX12_clear_0 : decode cX12_clear 0 = .ok (.aload_n 0, 1) := by decide +kernel
theorem dX12_clear_1 : decode cX12_clear 1 = .ok (.iconst 0, 1) := by decide +kernel
theorem dX12_clear_2 : decode cX12_clear 2 = .ok (.putfield 195, 3) := by decide +kernel
theorem dX12_clear_5 : decode cX12_clear 5 = .ok (.aload_n 0, 1) := by decide +kernel
theorem dX12_clear_6 : decode cX12_clear 6 = .ok (.iconst 0, 1) := by decide +kernel
theorem dX12_clear_7 : decode cX12_clear 7 = .ok (.putfield 198, 3) := by decide +kernel
theorem dX12_clear_10 : decode cX12_clear 10 = .ok (.aload_n 0, 1) := by decide +kernel
theorem dX12_clear_11 : decode cX12_clear 11 = .ok (.iconst 0, 1) := by decide +kernel
theorem dX12_clear_12 : decode cX12_clear 12 = .ok (.putfield 403, 3) := by decide +kernel
theorem dX12_clear_15 : decode cX12_clear 15 = .ok (.iconst 1, 1) := by decide +kernel
theorem dX12_clear_16 : decode cX12_clear 16 = .ok (.ireturn, 1) := by decide +kernel
theorem dX12_puts_0 : decode cX12_puts 0 = .ok (.aload_n 0, 1) := by decide +kernel
theorem dX12_puts_1 : decode cX12_puts 1 = .ok (.getfield 186, 3) := by decide +kernel
theorem dX12_puts_4 : decode cX12_puts 4 = .ok (.iload_n 2, 1) := by decide +kernel
theorem dX12_puts_5 : decode cX12_puts 5 = .ok (.dup2, 1) := by decide +kernel
theorem dX12_puts_6 : decode cX12_puts 6 = .ok (.iaload, 1) := by decide +kernel
theorem dX12_puts_7 : decode cX12_puts 7 = .ok (.iload_n 3, 1) := by decide +kernel
theorem dX12_puts_8 : decode cX12_puts 8 = .ok (.iadd, 1) := by decide +kernel
theorem dX12_puts_9 : decode cX12_puts 9 = .ok (.iastore, 1) := by decide +kernel
theorem dX12_puts_10 : decode cX12_puts 10 = .ok (.aload_n 0, 1) := by decide +kernel
theorem dX12_puts_11 : decode cX12_puts 11 = .ok (.getfield 189, 3) := by decide +kernel
theorem dX12_puts_14 : decode cX12_puts 14 = .ok (.iload_n 2, 1) := by decide +kernel
theorem dX12_puts_15 : decode cX12_puts 15 = .ok (.dup2, 1) := by decide +kernel
theorem dX12_puts_16 : decode cX12_puts 16 = .ok (.iaload, 1) := by decide +kernel
theorem dX12_puts_17 : decode cX12_puts 17 = .ok (.iload_n 3, 1) := by decide +kernel
theorem dX12_puts_18 : decode cX12_puts 18 = .ok (.aload_n 0, 1) := by decide +kernel
theorem dX12_puts_19 : decode cX12_puts 19 = .ok (.getfield 27, 3) := by decide +kernel
theorem dX12_puts_22 : decode cX12_puts 22 = .ok (.iload_n 1, 1) := by decide +kernel
theorem dX12_puts_23 : decode cX12_puts 23 = .ok (.iaload, 1) := by decide +kernel
theorem dX12_puts_24 : decode cX12_puts 24 = .ok (.imul, 1) := by decide +kernel
theorem dX12_puts_25 : decode cX12_puts 25 = .ok (.iadd, 1) := by decide +kernel
theorem dX12_puts_26 : decode cX12_puts 26 = .ok (.iastore, 1) := by decide +kernel
theorem dX12_puts_27 : decode cX12_puts 27 = .ok (.aload_n 0, 1) := by decide +kernel
theorem dX12_puts_28 : decode cX12_puts 28 = .ok (.getfield 192, 3) := by decide +kernel
theorem dX12_puts_31 : decode cX12_puts 31 = .ok (.iload_n 2, 1) := by decide +kernel
theorem dX12_puts_32 : decode cX12_puts 32 = .ok (.dup2, 1) := by decide +kernel
theorem dX12_puts_33 : decode cX12_puts 33 = .ok (.iaload, 1) := by decide +kernel
theorem dX12_puts_34 : decode cX12_puts 34 = .ok (.aload_n 0, 1) := by decide +kernel
theorem dX12_puts_35 : decode cX12_puts 35 = .ok (.getfield 39, 3) := by decide +kernel
theorem dX12_puts_38 : decode cX12_puts 38 = .ok (.iload_n 1, 1) := by decide +kernel
theorem dX12_puts_39 : decode cX12_puts 39 = .ok (.baload, 1) := by decide +kernel
theorem dX12_puts_40 : decode cX12_puts 40 = .ok (.ifCond .eq 7, 3) := by decide +kernel
theorem dX12_puts_43 : decode cX12_puts 43 = .ok (.iload_n 3, 1) := by decide +kernel
theorem dX12_puts_44 : decode cX12_puts 44 = .ok (.goto 4, 3) := by decide +kernel
theorem dX12_puts_47 : decode cX12_puts 47 = .ok (.iconst 0, 1) := by decide +kernel
theorem dX12_puts_48 : decode cX12_puts 48 = .ok (.iadd, 1) := by decide +kernel
theorem dX12_puts_49 : decode cX12_puts 49 = .ok (.iastore, 1) := by decide +kernel
theorem dX12_puts_50 : decode cX12_puts 50 = .ok (.return_, 1) := by decide +kernel
theorem dX12_canBear_0 : decode cX12_canBear 0 = .ok (.aload_n 0, 1) := by decide +kernel
theorem dX12_canBear_1 : decode cX12_canBear 1 = .ok (.getfield 186, 3) := by decide +kernel
theorem dX12_canBear_4 : decode cX12_canBear 4 = .ok (.iload_n 2, 1) := by decide +kernel
theorem dX12_canBear_5 : decode cX12_canBear 5 = .ok (.iaload, 1) := by decide +kernel
theorem dX12_canBear_6 : decode cX12_canBear 6 = .ok (.aload_n 0, 1) := by decide +kernel
theorem dX12_canBear_7 : decode cX12_canBear 7 = .ok (.getfield 174, 3) := by decide +kernel
theorem dX12_canBear_10 : decode cX12_canBear 10 = .ok (.iload_n 2, 1) := by decide +kernel
theorem dX12_canBear_11 : decode cX12_canBear 11 = .ok (.iaload, 1) := by decide +kernel
theorem dX12_canBear_12 : decode cX12_canBear 12 = .ok (.if_icmp .ge 59, 3) := by decide +kernel
theorem dX12_canBear_15 : decode cX12_canBear 15 = .ok (.aload_n 0, 1) := by decide +kernel
theorem dX12_canBear_16 : decode cX12_canBear 16 = .ok (.getfield 189, 3) := by decide +kernel
theorem dX12_canBear_19 : decode cX12_canBear 19 = .ok (.iload_n 2, 1) := by decide +kernel
theorem dX12_canBear_20 : decode cX12_canBear 20 = .ok (.iaload, 1) := by decide +kernel
theorem dX12_canBear_21 : decode cX12_canBear 21 = .ok (.aload_n 0, 1) := by decide +kernel
theorem dX12_canBear_22 : decode cX12_canBear 22 = .ok (.getfield 27, 3) := by decide +kernel
theorem dX12_canBear_25 : decode cX12_canBear 25 = .ok (.iload_n 1, 1) := by decide +kernel
theorem dX12_canBear_26 : decode cX12_canBear 26 = .ok (.iaload, 1) := by decide +kernel
theorem dX12_canBear_27 : decode cX12_canBear 27 = .ok (.iadd, 1) := by decide +kernel
theorem dX12_canBear_28 : decode cX12_canBear 28 = .ok (.aload_n 0, 1) := by decide +kernel
theorem dX12_canBear_29 : decode cX12_canBear 29 = .ok (.getfield 177, 3) := by decide +kernel
theorem dX12_canBear_32 : decode cX12_canBear 32 = .ok (.iload_n 2, 1) := by decide +kernel
theorem dX12_canBear_33 : decode cX12_canBear 33 = .ok (.iaload, 1) := by decide +kernel
theorem dX12_canBear_34 : decode cX12_canBear 34 = .ok (.if_icmp .gt 37, 3) := by decide +kernel
theorem dX12_canBear_37 : decode cX12_canBear 37 = .ok (.aload_n 0, 1) := by decide +kernel
theorem dX12_canBear_38 : decode cX12_canBear 38 = .ok (.getfield 192, 3) := by decide +kernel
theorem dX12_canBear_41 : decode cX12_canBear 41 = .ok (.iload_n 2, 1) := by decide +kernel
theorem dX12_canBear_42 : decode cX12_canBear 42 = .ok (.iaload, 1) := by decide +kernel
theorem dX12_canBear_43 : decode cX12_canBear 43 = .ok (.aload_n 0, 1) := by decide +kernel
theorem dX12_canBear_44 : decode cX12_canBear 44 = .ok (.getfield 39, 3) := by decide +kernel
theorem dX12_canBear_47 : decode cX12_canBear 47 = .ok (.iload_n 1, 1) := by decide +kernel
theorem dX12_canBear_48 : decode cX12_canBear 48 = .ok (.baload, 1) := by decide +kernel
theorem dX12_canBear_49 : decode cX12_canBear 49 = .ok (.ifCond .eq 7, 3) := by decide +kernel
theorem dX12_canBear_52 : decode cX12_canBear 52 = .ok (.iconst 1, 1) := by decide +kernel
theorem dX12_canBear_53 : decode cX12_canBear 53 = .ok (.goto 4, 3) := by decide +kernel
theorem dX12_canBear_56 : decode cX12_canBear 56 = .ok (.iconst 0, 1) := by decide +kernel
theorem dX12_canBear_57 : decode cX12_canBear 57 = .ok (.iadd, 1) := by decide +kernel
theorem dX12_canBear_58 : decode cX12_canBear 58 = .ok (.aload_n 0, 1) := by decide +kernel
theorem dX12_canBear_59 : decode cX12_canBear 59 = .ok (.getfield 180, 3) := by decide +kernel
theorem dX12_canBear_62 : decode cX12_canBear 62 = .ok (.iload_n 2, 1) := by decide +kernel
theorem dX12_canBear_63 : decode cX12_canBear 63 = .ok (.iaload, 1) := by decide +kernel
theorem dX12_canBear_64 : decode cX12_canBear 64 = .ok (.if_icmp .gt 7, 3) := by decide +kernel
theorem dX12_canBear_67 : decode cX12_canBear 67 = .ok (.iconst 1, 1) := by decide +kernel
theorem dX12_canBear_68 : decode cX12_canBear 68 = .ok (.goto 4, 3) := by decide +kernel
theorem dX12_canBear_71 : decode cX12_canBear 71 = .ok (.iconst 0, 1) := by decide +kernel
theorem dX12_canBear_72 : decode cX12_canBear 72 = .ok (.ireturn, 1) := by decide +kernel
theorem dX12_lays_0 : decode cX12_lays 0 = .ok (.aload_n 0, 1) := by decide +kernel
theorem dX12_lays_1 : decode cX12_lays 1 = .ok (.iconst 0, 1) := by decide +kernel
theorem dX12_lays_2 : decode cX12_lays 2 = .ok (.putfield 406, 3) := by decide +kernel
theorem dX12_lays_5 : decode cX12_lays 5 = .ok (.iconst 0, 1) := by decide +kernel
theorem dX12_lays_6 : decode cX12_lays 6 = .ok (.istore_n 1, 1) := by decide +kernel
theorem dX12_lays_7 : decode cX12_lays 7 = .ok (.iload_n 1, 1) := by decide +kernel
theorem dX12_lays_8 : decode cX12_lays 8 = .ok (.iconst 4, 1) := by decide +kernel
theorem dX12_lays_9 : decode cX12_lays 9 = .ok (.if_icmp .ge 30, 3) := by decide +kernel
theorem dX12_lays_12 : decode cX12_lays 12 = .ok (.aload_n 0, 1) := by decide +kernel
theorem dX12_lays_13 : decode cX12_lays 13 = .ok (.getfield 186, 3) := by decide +kernel
theorem dX12_lays_16 : decode cX12_lays 16 = .ok (.iload_n 1, 1) := by decide +kernel
theorem dX12_lays_17 : decode cX12_lays 17 = .ok (.iconst 0, 1) := by decide +kernel
theorem dX12_lays_18 : decode cX12_lays 18 = .ok (.iastore, 1) := by decide +kernel
theorem dX12_lays_19 : decode cX12_lays 19 = .ok (.aload_n 0, 1) := by decide +kernel
theorem dX12_lays_20 : decode cX12_lays 20 = .ok (.getfield 189, 3) := by decide +kernel
theorem dX12_lays_23 : decode cX12_lays 23 = .ok (.iload_n 1, 1) := by decide +kernel
theorem dX12_lays_24 : decode cX12_lays 24 = .ok (.iconst 0, 1) := by decide +kernel
theorem dX12_lays_25 : decode cX12_lays 25 = .ok (.iastore, 1) := by decide +kernel
theorem dX12_lays_26 : decode cX12_lays 26 = .ok (.aload_n 0, 1) := by decide +kernel
theorem dX12_lays_27 : decode cX12_lays 27 = .ok (.getfield 192, 3) := by decide +kernel
theorem dX12_lays_30 : decode cX12_lays 30 = .ok (.iload_n 1, 1) := by decide +kernel
theorem dX12_lays_31 : decode cX12_lays 31 = .ok (.iconst 0, 1) := by decide +kernel
theorem dX12_lays_32 : decode cX12_lays 32 = .ok (.iastore, 1) := by decide +kernel
theorem dX12_lays_33 : decode cX12_lays 33 = .ok (.iinc 1 1, 3) := by decide +kernel
theorem dX12_lays_36 : decode cX12_lays 36 = .ok (.goto (-29), 3) := by decide +kernel
theorem dX12_lays_39 : decode cX12_lays 39 = .ok (.iconst 0, 1) := by decide +kernel
theorem dX12_lays_40 : decode cX12_lays 40 = .ok (.istore_n 1, 1) := by decide +kernel
theorem dX12_lays_41 : decode cX12_lays 41 = .ok (.aload_n 0, 1) := by decide +kernel
theorem dX12_lays_42 : decode cX12_lays 42 = .ok (.getfield 205, 3) := by decide +kernel
theorem dX12_lays_45 : decode cX12_lays 45 = .ok (.ifCond .le 10, 3) := by decide +kernel
theorem dX12_lays_48 : decode cX12_lays 48 = .ok (.aload_n 0, 1) := by decide +kernel
theorem dX12_lays_49 : decode cX12_lays 49 = .ok (.getfield 183, 3) := by decide +kernel
theorem dX12_lays_52 : decode cX12_lays 52 = .ok (.iconst 0, 1) := by decide +kernel
theorem dX12_lays_53 : decode cX12_lays 53 = .ok (.iconst (-1), 1) := by decide +kernel
theorem dX12_lays_54 : decode cX12_lays 54 = .ok (.iastore, 1) := by decide +kernel
theorem dX12_lays_55 : decode cX12_lays 55 = .ok (.iload_n 1, 1) := by decide +kernel
theorem dX12_lays_56 : decode cX12_lays 56 = .ok (.aload_n 0, 1) := by decide +kernel
theorem dX12_lays_57 : decode cX12_lays 57 = .ok (.getfield 205, 3) := by decide +kernel
theorem dX12_lays_60 : decode cX12_lays 60 = .ok (.if_icmp .ge 144, 3) := by decide +kernel
theorem dX12_lays_63 : decode cX12_lays 63 = .ok (.aload_n 0, 1) := by decide +kernel
theorem dX12_lays_64 : decode cX12_lays 64 = .ok (.getfield 183, 3) := by decide +kernel
theorem dX12_lays_67 : decode cX12_lays 67 = .ok (.iload_n 1, 1) := by decide +kernel
theorem dX12_lays_68 : decode cX12_lays 68 = .ok (.iaload, 1) := by decide +kernel
theorem dX12_lays_69 : decode cX12_lays 69 = .ok (.ifCond .lt 15, 3) := by decide +kernel
theorem dX12_lays_72 : decode cX12_lays 72 = .ok (.aload_n 0, 1) := by decide +kernel
theorem dX12_lays_73 : decode cX12_lays 73 = .ok (.iload_n 1, 1) := by decide +kernel
theorem dX12_lays_74 : decode cX12_lays 74 = .ok (.aload_n 0, 1) := by decide +kernel
theorem dX12_lays_75 : decode cX12_lays 75 = .ok (.getfield 183, 3) := by decide +kernel
theorem dX12_lays_78 : decode cX12_lays 78 = .ok (.iload_n 1, 1) := by decide +kernel
theorem dX12_lays_79 : decode cX12_lays 79 = .ok (.iaload, 1) := by decide +kernel
theorem dX12_lays_80 : decode cX12_lays 80 = .ok (.iconst (-1), 1) := by decide +kernel
theorem dX12_lays_81 : decode cX12_lays 81 = .ok (.invokevirtual 409, 3) := by decide +kernel
theorem dX12_lays_84 : decode cX12_lays 84 = .ok (.aload_n 0, 1) := by decide +kernel
theorem dX12_lays_85 : decode cX12_lays 85 = .ok (.getfield 183, 3) := by decide +kernel
theorem dX12_lays_88 : decode cX12_lays 88 = .ok (.iload_n 1, 1) := by decide +kernel
theorem dX12_lays_89 : decode cX12_lays 89 = .ok (.iaload, 1) := by decide +kernel
theorem dX12_lays_90 : decode cX12_lays 90 = .ok (.iconst 1, 1) := by decide +kernel
theorem dX12_lays_91 : decode cX12_lays 91 = .ok (.iadd, 1) := by decide +kernel
theorem dX12_lays_92 : decode cX12_lays 92 = .ok (.istore_n 2, 1) := by decide +kernel
theorem dX12_lays_93 : decode cX12_lays 93 = .ok (.iconst 0, 1) := by decide +kernel
theorem dX12_lays_94 : decode cX12_lays 94 = .ok (.istore_n 3, 1) := by decide +kernel
theorem dX12_lays_95 : decode cX12_lays 95 = .ok (.iload_n 2, 1) := by decide +kernel
theorem dX12_lays_96 : decode cX12_lays 96 = .ok (.aload_n 0, 1) := by decide +kernel
theorem dX12_lays_97 : decode cX12_lays 97 = .ok (.getfield 403, 3) := by decide +kernel
theorem dX12_lays_100 : decode cX12_lays 100 = .ok (.if_icmp .ge 52, 3) := by decide +kernel
theorem dX12_lays_103 : decode cX12_lays 103 = .ok (.iload_n 3, 1) := by decide +kernel
theorem dX12_lays_104 : decode cX12_lays 104 = .ok (.ifCond .ne 48, 3) := by decide +kernel
theorem dX12_lays_107 : decode cX12_lays 107 = .ok (.aload_n 0, 1) := by decide +kernel
theorem dX12_lays_108 : decode cX12_lays 108 = .ok (.getfield 406, 3) := by decide +kernel
theorem dX12_lays_111 : decode cX12_lays 111 = .ok (.sipush 20000, 3) := by decide +kernel
theorem dX12_lays_114 : decode cX12_lays 114 = .ok (.if_icmp .ne 6, 3) := by decide +kernel
theorem dX12_lays_117 : decode cX12_lays 117 = .ok (.bipush 10, 2) := by decide +kernel
theorem dX12_lays_119 : decode cX12_lays 119 = .ok (.ireturn, 1) := by decide +kernel
theorem dX12_lays_120 : decode cX12_lays 120 = .ok (.aload_n 0, 1) := by decide +kernel
theorem dX12_lays_121 : decode cX12_lays 121 = .ok (.dup, 1) := by decide +kernel
theorem dX12_lays_122 : decode cX12_lays 122 = .ok (.getfield 406, 3) := by decide +kernel
theorem dX12_lays_125 : decode cX12_lays 125 = .ok (.iconst 1, 1) := by decide +kernel
theorem dX12_lays_126 : decode cX12_lays 126 = .ok (.iadd, 1) := by decide +kernel
theorem dX12_lays_127 : decode cX12_lays 127 = .ok (.putfield 406, 3) := by decide +kernel
theorem dX12_lays_130 : decode cX12_lays 130 = .ok (.aload_n 0, 1) := by decide +kernel
theorem dX12_lays_131 : decode cX12_lays 131 = .ok (.iload_n 1, 1) := by decide +kernel
theorem dX12_lays_132 : decode cX12_lays 132 = .ok (.iload_n 2, 1) := by decide +kernel
theorem dX12_lays_133 : decode cX12_lays 133 = .ok (.invokevirtual 413, 3) := by decide +kernel
theorem dX12_lays_136 : decode cX12_lays 136 = .ok (.istore_n 3, 1) := by decide +kernel
theorem dX12_lays_137 : decode cX12_lays 137 = .ok (.iload_n 2, 1) := by decide +kernel
theorem dX12_lays_138 : decode cX12_lays 138 = .ok (.iload_n 3, 1) := by decide +kernel
theorem dX12_lays_139 : decode cX12_lays 139 = .ok (.ifCond .eq 7, 3) := by decide +kernel
theorem dX12_lays_142 : decode cX12_lays 142 = .ok (.iconst 0, 1) := by decide +kernel
theorem dX12_lays_143 : decode cX12_lays 143 = .ok (.goto 4, 3) := by decide +kernel
theorem dX12_lays_146 : decode cX12_lays 146 = .ok (.iconst 1, 1) := by decide +kernel
theorem dX12_lays_147 : decode cX12_lays 147 = .ok (.iadd, 1) := by decide +kernel
theorem dX12_lays_148 : decode cX12_lays 148 = .ok (.istore_n 2, 1) := by decide +kernel
theorem dX12_lays_149 : decode cX12_lays 149 = .ok (.goto (-54), 3) := by decide +kernel
theorem dX12_lays_152 : decode cX12_lays 152 = .ok (.iload_n 3, 1) := by decide +kernel
theorem dX12_lays_153 : decode cX12_lays 153 = .ok (.ifCond .eq 38, 3) := by decide +kernel
theorem dX12_lays_156 : decode cX12_lays 156 = .ok (.aload_n 0, 1) := by decide +kernel
theorem dX12_lays_157 : decode cX12_lays 157 = .ok (.getfield 183, 3) := by decide +kernel
theorem dX12_lays_160 : decode cX12_lays 160 = .ok (.iload_n 1, 1) := by decide +kernel
theorem dX12_lays_161 : decode cX12_lays 161 = .ok (.iload_n 2, 1) := by decide +kernel
theorem dX12_lays_162 : decode cX12_lays 162 = .ok (.iastore, 1) := by decide +kernel
theorem dX12_lays_163 : decode cX12_lays 163 = .ok (.aload_n 0, 1) := by decide +kernel
theorem dX12_lays_164 : decode cX12_lays 164 = .ok (.iload_n 1, 1) := by decide +kernel
theorem dX12_lays_165 : decode cX12_lays 165 = .ok (.iload_n 2, 1) := by decide +kernel
theorem dX12_lays_166 : decode cX12_lays 166 = .ok (.iconst 1, 1) := by decide +kernel
theorem dX12_lays_167 : decode cX12_lays 167 = .ok (.invokevirtual 409, 3) := by decide +kernel
theorem dX12_lays_170 : decode cX12_lays 170 = .ok (.iinc 1 1, 3) := by decide +kernel
theorem dX12_lays_173 : decode cX12_lays 173 = .ok (.iload_n 1, 1) := by decide +kernel
theorem dX12_lays_174 : decode cX12_lays 174 = .ok (.aload_n 0, 1) := by decide +kernel
theorem dX12_lays_175 : decode cX12_lays 175 = .ok (.getfield 205, 3) := by decide +kernel
theorem dX12_lays_178 : decode cX12_lays 178 = .ok (.if_icmp .ge 23, 3) := by decide +kernel
theorem dX12_lays_181 : decode cX12_lays 181 = .ok (.aload_n 0, 1) := by decide +kernel
theorem dX12_lays_182 : decode cX12_lays 182 = .ok (.getfield 183, 3) := by decide +kernel
theorem dX12_lays_185 : decode cX12_lays 185 = .ok (.iload_n 1, 1) := by decide +kernel
theorem dX12_lays_186 : decode cX12_lays 186 = .ok (.iconst (-1), 1) := by decide +kernel
theorem dX12_lays_187 : decode cX12_lays 187 = .ok (.iastore, 1) := by decide +kernel
theorem dX12_lays_188 : decode cX12_lays 188 = .ok (.goto 13, 3) := by decide +kernel
theorem dX12_lays_191 : decode cX12_lays 191 = .ok (.iinc 1 (-1), 3) := by decide +kernel
theorem dX12_lays_194 : decode cX12_lays 194 = .ok (.iload_n 1, 1) := by decide +kernel
theorem dX12_lays_195 : decode cX12_lays 195 = .ok (.ifCond .ge 6, 3) := by decide +kernel
theorem dX12_lays_198 : decode cX12_lays 198 = .ok (.bipush 8, 2) := by decide +kernel
theorem dX12_lays_200 : decode cX12_lays 200 = .ok (.ireturn, 1) := by decide +kernel
theorem dX12_lays_201 : decode cX12_lays 201 = .ok (.goto (-146), 3) := by decide +kernel
theorem dX12_lays_204 : decode cX12_lays 204 = .ok (.iconst 0, 1) := by decide +kernel
theorem dX12_lays_205 : decode cX12_lays 205 = .ok (.ireturn, 1) := by decide +kernel
theorem dX12_laid_0 : decode cX12_laid 0 = .ok (.aload_n 0, 1) := by decide +kernel
theorem dX12_laid_1 : decode cX12_laid 1 = .ok (.iconst 0, 1) := by decide +kernel
theorem dX12_laid_2 : decode cX12_laid 2 = .ok (.putfield 195, 3) := by decide +kernel
theorem dX12_laid_5 : decode cX12_laid 5 = .ok (.aload_n 0, 1) := by decide +kernel
theorem dX12_laid_6 : decode cX12_laid 6 = .ok (.iconst 0, 1) := by decide +kernel
theorem dX12_laid_7 : decode cX12_laid 7 = .ok (.putfield 198, 3) := by decide +kernel
theorem dX12_laid_10 : decode cX12_laid 10 = .ok (.aload_n 0, 1) := by decide +kernel
theorem dX12_laid_11 : decode cX12_laid 11 = .ok (.iload_n 1, 1) := by decide +kernel
theorem dX12_laid_12 : decode cX12_laid 12 = .ok (.invokevirtual 211, 3) := by decide +kernel
theorem dX12_laid_15 : decode cX12_laid 15 = .ok (.ifCond .ne 9, 3) := by decide +kernel
theorem dX12_laid_18 : decode cX12_laid 18 = .ok (.aload_n 0, 1) := by decide +kernel
theorem dX12_laid_19 : decode cX12_laid 19 = .ok (.iconst 1, 1) := by decide +kernel
theorem dX12_laid_20 : decode cX12_laid 20 = .ok (.invokevirtual 201, 3) := by decide +kernel
theorem dX12_laid_23 : decode cX12_laid 23 = .ok (.ireturn, 1) := by decide +kernel
theorem dX12_laid_24 : decode cX12_laid 24 = .ok (.aload_n 0, 1) := by decide +kernel
theorem dX12_laid_25 : decode cX12_laid 25 = .ok (.invokevirtual 416, 3) := by decide +kernel
theorem dX12_laid_28 : decode cX12_laid 28 = .ok (.istore_n 2, 1) := by decide +kernel
theorem dX12_laid_29 : decode cX12_laid 29 = .ok (.iload_n 2, 1) := by decide +kernel
theorem dX12_laid_30 : decode cX12_laid 30 = .ok (.ifCond .le 11, 3) := by decide +kernel
theorem dX12_laid_33 : decode cX12_laid 33 = .ok (.aload_n 0, 1) := by decide +kernel
theorem dX12_laid_34 : decode cX12_laid 34 = .ok (.iload_n 2, 1) := by decide +kernel
theorem dX12_laid_35 : decode cX12_laid 35 = .ok (.invokevirtual 201, 3) := by decide +kernel
theorem dX12_laid_38 : decode cX12_laid 38 = .ok (.goto 9, 3) := by decide +kernel
theorem dX12_laid_41 : decode cX12_laid 41 = .ok (.aload_n 0, 1) := by decide +kernel
theorem dX12_laid_42 : decode cX12_laid 42 = .ok (.getfield 183, 3) := by decide +kernel
theorem dX12_laid_45 : decode cX12_laid 45 = .ok (.iload_n 1, 1) := by decide +kernel
theorem dX12_laid_46 : decode cX12_laid 46 = .ok (.iaload, 1) := by decide +kernel
theorem dX12_laid_47 : decode cX12_laid 47 = .ok (.ireturn, 1) := by decide +kernel
theorem dX12_tries_0 : decode cX12_tries 0 = .ok (.aload_n 0, 1) := by decide +kernel
theorem dX12_tries_1 : decode cX12_tries 1 = .ok (.iconst 0, 1) := by decide +kernel
theorem dX12_tries_2 : decode cX12_tries 2 = .ok (.putfield 195, 3) := by decide +kernel
theorem dX12_tries_5 : decode cX12_tries 5 = .ok (.aload_n 0, 1) := by decide +kernel
theorem dX12_tries_6 : decode cX12_tries 6 = .ok (.iconst 0, 1) := by decide +kernel
theorem dX12_tries_7 : decode cX12_tries 7 = .ok (.putfield 198, 3) := by decide +kernel
theorem dX12_tries_10 : decode cX12_tries 10 = .ok (.aload_n 0, 1) := by decide +kernel
theorem dX12_tries_11 : decode cX12_tries 11 = .ok (.invokevirtual 416, 3) := by decide +kernel
theorem dX12_tries_14 : decode cX12_tries 14 = .ok (.istore_n 1, 1) := by decide +kernel
theorem dX12_tries_15 : decode cX12_tries 15 = .ok (.iload_n 1, 1) := by decide +kernel
theorem dX12_tries_16 : decode cX12_tries 16 = .ok (.ifCond .le 11, 3) := by decide +kernel
theorem dX12_tries_19 : decode cX12_tries 19 = .ok (.aload_n 0, 1) := by decide +kernel
theorem dX12_tries_20 : decode cX12_tries 20 = .ok (.iload_n 1, 1) := by decide +kernel
theorem dX12_tries_21 : decode cX12_tries 21 = .ok (.invokevirtual 201, 3) := by decide +kernel
theorem dX12_tries_24 : decode cX12_tries 24 = .ok (.goto 7, 3) := by decide +kernel
theorem dX12_tries_27 : decode cX12_tries 27 = .ok (.aload_n 0, 1) := by decide +kernel
theorem dX12_tries_28 : decode cX12_tries 28 = .ok (.getfield 406, 3) := by decide +kernel
theorem dX12_tries_31 : decode cX12_tries 31 = .ok (.ireturn, 1) := by decide +kernel
