theorem dX13_init_0 : decode cX13_init 0 = .ok (.aload_n 0, 1) := by decide +kernel
theorem dX13_init_1 : decode cX13_init 1 = .ok (.invokespecial 1, 3) := by decide +kernel
theorem dX13_init_4 : decode cX13_init 4 = .ok (.aload_n 0, 1) := by decide +kernel
theorem dX13_init_5 : decode cX13_init 5 = .ok (.bipush 80, 2) := by decide +kernel
theorem dX13_init_7 : decode cX13_init 7 = .ok (.newarray .int, 2) := by decide +kernel
theorem dX13_init_9 : decode cX13_init 9 = .ok (.putfield 9, 3) := by decide +kernel
theorem dX13_init_12 : decode cX13_init 12 = .ok (.aload_n 0, 1) := by decide +kernel
theorem dX13_init_13 : decode cX13_init 13 = .ok (.bipush 80, 2) := by decide +kernel
theorem dX13_init_15 : decode cX13_init 15 = .ok (.newarray .int, 2) := by decide +kernel
theorem dX13_init_17 : decode cX13_init 17 = .ok (.putfield 13, 3) := by decide +kernel
theorem dX13_init_20 : decode cX13_init 20 = .ok (.aload_n 0, 1) := by decide +kernel
theorem dX13_init_21 : decode cX13_init 21 = .ok (.bipush 80, 2) := by decide +kernel
theorem dX13_init_23 : decode cX13_init 23 = .ok (.newarray .int, 2) := by decide +kernel
theorem dX13_init_25 : decode cX13_init 25 = .ok (.putfield 16, 3) := by decide +kernel
theorem dX13_init_28 : decode cX13_init 28 = .ok (.aload_n 0, 1) := by decide +kernel
theorem dX13_init_29 : decode cX13_init 29 = .ok (.bipush 80, 2) := by decide +kernel
theorem dX13_init_31 : decode cX13_init 31 = .ok (.newarray .int, 2) := by decide +kernel
theorem dX13_init_33 : decode cX13_init 33 = .ok (.putfield 19, 3) := by decide +kernel
theorem dX13_init_36 : decode cX13_init 36 = .ok (.aload_n 0, 1) := by decide +kernel
theorem dX13_init_37 : decode cX13_init 37 = .ok (.bipush 80, 2) := by decide +kernel
theorem dX13_init_39 : decode cX13_init 39 = .ok (.newarray .int, 2) := by decide +kernel
theorem dX13_init_41 : decode cX13_init 41 = .ok (.putfield 22, 3) := by decide +kernel
theorem dX13_init_44 : decode cX13_init 44 = .ok (.aload_n 0, 1) := by decide +kernel
theorem dX13_init_45 : decode cX13_init 45 = .ok (.bipush 80, 2) := by decide +kernel
theorem dX13_init_47 : decode cX13_init 47 = .ok (.newarray .int, 2) := by decide +kernel
theorem dX13_init_49 : decode cX13_init 49 = .ok (.putfield 25, 3) := by decide +kernel
theorem dX13_init_52 : decode cX13_init 52 = .ok (.aload_n 0, 1) := by decide +kernel
theorem dX13_init_53 : decode cX13_init 53 = .ok (.sipush 200, 3) := by decide +kernel
theorem dX13_init_56 : decode cX13_init 56 = .ok (.newarray .byte, 2) := by decide +kernel
theorem dX13_init_58 : decode cX13_init 58 = .ok (.putfield 28, 3) := by decide +kernel
theorem dX13_init_61 : decode cX13_init 61 = .ok (.aload_n 0, 1) := by decide +kernel
theorem dX13_init_62 : decode cX13_init 62 = .ok (.sipush 3200, 3) := by decide +kernel
theorem dX13_init_65 : decode cX13_init 65 = .ok (.newarray .byte, 2) := by decide +kernel
theorem dX13_init_67 : decode cX13_init 67 = .ok (.putfield 32, 3) := by decide +kernel
theorem dX13_init_70 : decode cX13_init 70 = .ok (.aload_n 0, 1) := by decide +kernel
theorem dX13_init_71 : decode cX13_init 71 = .ok (.bipush 16, 2) := by decide +kernel
theorem dX13_init_73 : decode cX13_init 73 = .ok (.newarray .int, 2) := by decide +kernel
theorem dX13_init_75 : decode cX13_init 75 = .ok (.putfield 35, 3) := by decide +kernel
theorem dX13_init_78 : decode cX13_init 78 = .ok (.aload_n 0, 1) := by decide +kernel
theorem dX13_init_79 : decode cX13_init 79 = .ok (.bipush 16, 2) := by decide +kernel
theorem dX13_init_81 : decode cX13_init 81 = .ok (.newarray .int, 2) := by decide +kernel
theorem dX13_init_83 : decode cX13_init 83 = .ok (.putfield 38, 3) := by decide +kernel
theorem dX13_init_86 : decode cX13_init 86 = .ok (.aload_n 0, 1) := by decide +kernel
theorem dX13_init_87 : decode cX13_init 87 = .ok (.bipush 16, 2) := by decide +kernel
theorem dX13_init_89 : decode cX13_init 89 = .ok (.newarray .int, 2) := by decide +kernel
theorem dX13_init_91 : decode cX13_init 91 = .ok (.putfield 41, 3) := by decide +kernel
theorem dX13_init_94 : decode cX13_init 94 = .ok (.aload_n 0, 1) := by decide +kernel
theorem dX13_init_95 : decode cX13_init 95 = .ok (.sipush 128, 3) := by decide +kernel
theorem dX13_init_98 : decode cX13_init 98 = .ok (.newarray .int, 2) := by decide +kernel
theorem dX13_init_100 : decode cX13_init 100 = .ok (.putfield 44, 3) := by decide +kernel
theorem dX13_init_103 : decode cX13_init 103 = .ok (.aload_n 0, 1) := by decide +kernel
theorem dX13_init_104 : decode cX13_init 104 = .ok (.aload_n 0, 1) := by decide +kernel
theorem dX13_init_105 : decode cX13_init 105 = .ok (.getfield 28, 3) := by decide +kernel
theorem dX13_init_108 : decode cX13_init 108 = .ok (.putfield 47, 3) := by decide +kernel
theorem dX13_init_111 : decode cX13_init 111 = .ok (.aload_n 0, 1) := by decide +kernel
theorem dX13_init_112 : decode cX13_init 112 = .ok (.bipush 20, 2) := by decide +kernel
theorem dX13_init_114 : decode cX13_init 114 = .ok (.newarray .int, 2) := by decide +kernel
theorem dX13_init_116 : decode cX13_init 116 = .ok (.putfield 50, 3) := by decide +kernel
theorem dX13_init_119 : decode cX13_init 119 = .ok (.aload_n 0, 1) := by decide +kernel
theorem dX13_init_120 : decode cX13_init 120 = .ok (.bipush 20, 2) := by decide +kernel
theorem dX13_init_122 : decode cX13_init 122 = .ok (.newarray .int, 2) := by decide +kernel
theorem dX13_init_124 : decode cX13_init 124 = .ok (.putfield 53, 3) := by decide +kernel
theorem dX13_init_127 : decode cX13_init 127 = .ok (.aload_n 0, 1) := by decide +kernel
theorem dX13_init_128 : decode cX13_init 128 = .ok (.bipush 20, 2) := by decide +kernel
theorem dX13_init_130 : decode cX13_init 130 = .ok (.newarray .int, 2) := by decide +kernel
theorem dX13_init_132 : decode cX13_init 132 = .ok (.putfield 56, 3) := by decide +kernel
theorem dX13_init_135 : decode cX13_init 135 = .ok (.aload_n 0, 1) := by decide +kernel
theorem dX13_init_136 : decode cX13_init 136 = .ok (.bipush 20, 2) := by decide +kernel
theorem dX13_init_138 : decode cX13_init 138 = .ok (.newarray .int, 2) := by decide +kernel
theorem dX13_init_140 : decode cX13_init 140 = .ok (.putfield 59, 3) := by decide +kernel
theorem dX13_init_143 : decode cX13_init 143 = .ok (.aload_n 0, 1) := by decide +kernel
theorem dX13_init_144 : decode cX13_init 144 = .ok (.bipush 20, 2) := by decide +kernel
theorem dX13_init_146 : decode cX13_init 146 = .ok (.newarray .int, 2) := by decide +kernel
theorem dX13_init_148 : decode cX13_init 148 = .ok (.putfield 62, 3) := by decide +kernel
theorem dX13_init_151 : decode cX13_init 151 = .ok (.aload_n 0, 1) := by decide +kernel
theorem dX13_init_152 : decode cX13_init 152 = .ok (.bipush 20, 2) := by decide +kernel
theorem dX13_init_154 : decode cX13_init 154 = .ok (.newarray .int, 2) := by decide +kernel
theorem dX13_init_156 : decode cX13_init 156 = .ok (.putfield 65, 3) := by decide +kernel
theorem dX13_init_159 : decode cX13_init 159 = .ok (.aload_n 0, 1) := by decide +kernel
theorem dX13_init_160 : decode cX13_init 160 = .ok (.bipush 20, 2) := by decide +kernel
theorem dX13_init_162 : decode cX13_init 162 = .ok (.newarray .int, 2) := by decide +kernel
theorem dX13_init_164 : decode cX13_init 164 = .ok (.putfield 68, 3) := by decide +kernel
theorem dX13_init_167 : decode cX13_init 167 = .ok (.aload_n 0, 1) := by decide +kernel
theorem dX13_init_168 : decode cX13_init 168 = .ok (.bipush 20, 2) := by decide +kernel
theorem dX13_init_170 : decode cX13_init 170 = .ok (.newarray .int, 2) := by decide +kernel
theorem dX13_init_172 : decode cX13_init 172 = .ok (.putfield 71, 3) := by decide +kernel
theorem dX13_init_175 : decode cX13_init 175 = .ok (.aload_n 0, 1) := by decide +kernel
theorem dX13_init_176 : decode cX13_init 176 = .ok (.sipush 320, 3) := by decide +kernel
theorem dX13_init_179 : decode cX13_init 179 = .ok (.newarray .int, 2) := by decide +kernel
theorem dX13_init_181 : decode cX13_init 181 = .ok (.putfield 74, 3) := by decide +kernel
theorem dX13_init_184 : decode cX13_init 184 = .ok (.aload_n 0, 1) := by decide +kernel
theorem dX13_init_185 : decode cX13_init 185 = .ok (.sipush 320, 3) := by decide +kernel
theorem dX13_init_188 : decode cX13_init 188 = .ok (.newarray .int, 2) := by decide +kernel
theorem dX13_init_190 : decode cX13_init 190 = .ok (.putfield 77, 3) := by decide +kernel
theorem dX13_init_193 : decode cX13_init 193 = .ok (.aload_n 0, 1) := by decide +kernel
theorem dX13_init_194 : decode cX13_init 194 = .ok (.sipush 320, 3) := by decide +kernel
theorem dX13_init_197 : decode cX13_init 197 = .ok (.newarray .int, 2) := by decide +kernel
theorem dX13_init_199 : decode cX13_init 199 = .ok (.putfield 80, 3) := by decide +kernel
theorem dX13_init_202 : decode cX13_init 202 = .ok (.aload_n 0, 1) := by decide +kernel
theorem dX13_init_203 : decode cX13_init 203 = .ok (.sipush 300, 3) := by decide +kernel
theorem dX13_init_206 : decode cX13_init 206 = .ok (.newarray .int, 2) := by decide +kernel
theorem dX13_init_208 : decode cX13_init 208 = .ok (.putfield 83, 3) := by decide +kernel
theorem dX13_init_211 : decode cX13_init 211 = .ok (.aload_n 0, 1) := by decide +kernel
theorem dX13_init_212 : decode cX13_init 212 = .ok (.sipush 300, 3) := by decide +kernel
theorem dX13_init_215 : decode cX13_init 215 = .ok (.newarray .int, 2) := by decide +kernel
theorem dX13_init_217 : decode cX13_init 217 = .ok (.putfield 86, 3) := by decide +kernel
theorem dX13_init_220 : decode cX13_init 220 = .ok (.aload_n 0, 1) := by decide +kernel
theorem dX13_init_221 : decode cX13_init 221 = .ok (.sipush 300, 3) := by decide +kernel
theorem dX13_init_224 : decode cX13_init 224 = .ok (.newarray .int, 2) := by decide +kernel
theorem dX13_init_226 : decode cX13_init 226 = .ok (.putfield 89, 3) := by decide +kernel
theorem dX13_init_229 : decode cX13_init 229 = .ok (.aload_n 0, 1) := by decide +kernel
theorem dX13_init_230 : decode cX13_init 230 = .ok (.sipush 300, 3) := by decide +kernel
theorem dX13_init_233 : decode cX13_init 233 = .ok (.newarray .int, 2) := by decide +kernel
theorem dX13_init_235 : decode cX13_init 235 = .ok (.putfield 92, 3) := by decide +kernel
theorem dX13_init_238 : decode cX13_init 238 = .ok (.aload_n 0, 1) := by decide +kernel
theorem dX13_init_239 : decode cX13_init 239 = .ok (.sipush 300, 3) := by decide +kernel
theorem dX13_init_242 : decode cX13_init 242 = .ok (.newarray .int, 2) := by decide +kernel
theorem dX13_init_244 : decode cX13_init 244 = .ok (.putfield 95, 3) := by decide +kernel
theorem dX13_init_247 : decode cX13_init 247 = .ok (.aload_n 0, 1) := by decide +kernel
theorem dX13_init_248 : decode cX13_init 248 = .ok (.bipush 20, 2) := by decide +kernel
theorem dX13_init_250 : decode cX13_init 250 = .ok (.newarray .int, 2) := by decide +kernel
theorem dX13_init_252 : decode cX13_init 252 = .ok (.putfield 98, 3) := by decide +kernel
theorem dX13_init_255 : decode cX13_init 255 = .ok (.aload_n 0, 1) := by decide +kernel
theorem dX13_init_256 : decode cX13_init 256 = .ok (.bipush 20, 2) := by decide +kernel
theorem dX13_init_258 : decode cX13_init 258 = .ok (.newarray .int, 2) := by decide +kernel
theorem dX13_init_260 : decode cX13_init 260 = .ok (.putfield 101, 3) := by decide +kernel
theorem dX13_init_263 : decode cX13_init 263 = .ok (.aload_n 0, 1) := by decide +kernel
theorem dX13_init_264 : decode cX13_init 264 = .ok (.bipush 20, 2) := by decide +kernel
theorem dX13_init_266 : decode cX13_init 266 = .ok (.newarray .int, 2) := by decide +kernel
theorem dX13_init_268 : decode cX13_init 268 = .ok (.putfield 104, 3) := by decide +kernel
theorem dX13_init_271 : decode cX13_init 271 = .ok (.aload_n 0, 1) := by decide +kernel
theorem dX13_init_272 : decode cX13_init 272 = .ok (.sipush 320, 3) := by decide +kernel
theorem dX13_init_275 : decode cX13_init 275 = .ok (.newarray .int, 2) := by decide +kernel
theorem dX13_init_277 : decode cX13_init 277 = .ok (.putfield 107, 3) := by decide +kernel
theorem dX13_init_280 : decode cX13_init 280 = .ok (.aload_n 0, 1) := by decide +kernel
theorem dX13_init_281 : decode cX13_init 281 = .ok (.bipush 16, 2) := by decide +kernel
theorem dX13_init_283 : decode cX13_init 283 = .ok (.newarray .int, 2) := by decide +kernel
theorem dX13_init_285 : decode cX13_init 285 = .ok (.putfield 110, 3) := by decide +kernel
theorem dX13_init_288 : decode cX13_init 288 = .ok (.aload_n 0, 1) := by decide +kernel
theorem dX13_init_289 : decode cX13_init 289 = .ok (.bipush 20, 2) := by decide +kernel
theorem dX13_init_291 : decode cX13_init 291 = .ok (.newarray .int, 2) := by decide +kernel
theorem dX13_init_293 : decode cX13_init 293 = .ok (.putfield 113, 3) := by decide +kernel
theorem dX13_init_296 : decode cX13_init 296 = .ok (.aload_n 0, 1) := by decide +kernel
theorem dX13_init_297 : decode cX13_init 297 = .ok (.bipush 20, 2) := by decide +kernel
theorem dX13_init_299 : decode cX13_init 299 = .ok (.newarray .int, 2) := by decide +kernel
theorem dX13_init_301 : decode cX13_init 301 = .ok (.putfield 116, 3) := by decide +kernel
theorem dX13_init_304 : decode cX13_init 304 = .ok (.aload_n 0, 1) := by decide +kernel
theorem dX13_init_305 : decode cX13_init 305 = .ok (.sipush 320, 3) := by decide +kernel
theorem dX13_init_308 : decode cX13_init 308 = .ok (.newarray .boolean, 2) := by decide +kernel
theorem dX13_init_310 : decode cX13_init 310 = .ok (.putfield 119, 3) := by decide +kernel
theorem dX13_init_313 : decode cX13_init 313 = .ok (.aload_n 0, 1) := by decide +kernel
theorem dX13_init_314 : decode cX13_init 314 = .ok (.bipush 16, 2) := by decide +kernel
theorem dX13_init_316 : decode cX13_init 316 = .ok (.newarray .boolean, 2) := by decide +kernel
theorem dX13_init_318 : decode cX13_init 318 = .ok (.putfield 123, 3) := by decide +kernel
theorem dX13_init_321 : decode cX13_init 321 = .ok (.aload_n 0, 1) := by decide +kernel
theorem dX13_init_322 : decode cX13_init 322 = .ok (.sipush 200, 3) := by decide +kernel
theorem dX13_init_325 : decode cX13_init 325 = .ok (.newarray .int, 2) := by decide +kernel
theorem dX13_init_327 : decode cX13_init 327 = .ok (.putfield 126, 3) := by decide +kernel
theorem dX13_init_330 : decode cX13_init 330 = .ok (.aload_n 0, 1) := by decide +kernel
theorem dX13_init_331 : decode cX13_init 331 = .ok (.sipush 200, 3) := by decide +kernel
theorem dX13_init_334 : decode cX13_init 334 = .ok (.newarray .int, 2) := by decide +kernel
theorem dX13_init_336 : decode cX13_init 336 = .ok (.putfield 129, 3) := by decide +kernel
theorem dX13_init_339 : decode cX13_init 339 = .ok (.aload_n 0, 1) := by decide +kernel
theorem dX13_init_340 : decode cX13_init 340 = .ok (.sipush 200, 3) := by decide +kernel
theorem dX13_init_343 : decode cX13_init 343 = .ok (.newarray .int, 2) := by decide +kernel
theorem dX13_init_345 : decode cX13_init 345 = .ok (.putfield 132, 3) := by decide +kernel
theorem dX13_init_348 : decode cX13_init 348 = .ok (.aload_n 0, 1) := by decide +kernel
theorem dX13_init_349 : decode cX13_init 349 = .ok (.sipush 200, 3) := by decide +kernel
theorem dX13_init_352 : decode cX13_init 352 = .ok (.newarray .int, 2) := by decide +kernel
theorem dX13_init_354 : decode cX13_init 354 = .ok (.putfield 135, 3) := by decide +kernel
theorem dX13_init_357 : decode cX13_init 357 = .ok (.aload_n 0, 1) := by decide +kernel
theorem dX13_init_358 : decode cX13_init 358 = .ok (.sipush 200, 3) := by decide +kernel
theorem dX13_init_361 : decode cX13_init 361 = .ok (.newarray .int, 2) := by decide +kernel
theorem dX13_init_363 : decode cX13_init 363 = .ok (.putfield 138, 3) := by decide +kernel
theorem dX13_init_366 : decode cX13_init 366 = .ok (.aload_n 0, 1) := by decide +kernel
theorem dX13_init_367 : decode cX13_init 367 = .ok (.sipush 200, 3) := by decide +kernel
theorem dX13_init_370 : decode cX13_init 370 = .ok (.newarray .int, 2) := by decide +kernel
theorem dX13_init_372 : decode cX13_init 372 = .ok (.putfield 141, 3) := by decide +kernel
theorem dX13_init_375 : decode cX13_init 375 = .ok (.aload_n 0, 1) := by decide +kernel
theorem dX13_init_376 : decode cX13_init 376 = .ok (.sipush 200, 3) := by decide +kernel
theorem dX13_init_379 : decode cX13_init 379 = .ok (.newarray .int, 2) := by decide +kernel
theorem dX13_init_381 : decode cX13_init 381 = .ok (.putfield 144, 3) := by decide +kernel
theorem dX13_init_384 : decode cX13_init 384 = .ok (.aload_n 0, 1) := by decide +kernel
theorem dX13_init_385 : decode cX13_init 385 = .ok (.sipush 200, 3) := by decide +kernel
theorem dX13_init_388 : decode cX13_init 388 = .ok (.newarray .int, 2) := by decide +kernel
theorem dX13_init_390 : decode cX13_init 390 = .ok (.putfield 147, 3) := by decide +kernel
theorem dX13_init_393 : decode cX13_init 393 = .ok (.aload_n 0, 1) := by decide +kernel
theorem dX13_init_394 : decode cX13_init 394 = .ok (.bipush 30, 2) := by decide +kernel
theorem dX13_init_396 : decode cX13_init 396 = .ok (.newarray .int, 2) := by decide +kernel
theorem dX13_init_398 : decode cX13_init 398 = .ok (.putfield 150, 3) := by decide +kernel
theorem dX13_init_401 : decode cX13_init 401 = .ok (.aload_n 0, 1) := by decide +kernel
theorem dX13_init_402 : decode cX13_init 402 = .ok (.bipush 30, 2) := by decide +kernel
theorem dX13_init_404 : decode cX13_init 404 = .ok (.newarray .int, 2) := by decide +kernel
theorem dX13_init_406 : decode cX13_init 406 = .ok (.putfield 153, 3) := by decide +kernel
theorem dX13_init_409 : decode cX13_init 409 = .ok (.aload_n 0, 1) := by decide +kernel
theorem dX13_init_410 : decode cX13_init 410 = .ok (.bipush 30, 2) := by decide +kernel
theorem dX13_init_412 : decode cX13_init 412 = .ok (.newarray .int, 2) := by decide +kernel
theorem dX13_init_414 : decode cX13_init 414 = .ok (.putfield 156, 3) := by decide +kernel
theorem dX13_init_417 : decode cX13_init 417 = .ok (.aload_n 0, 1) := by decide +kernel
theorem dX13_init_418 : decode cX13_init 418 = .ok (.bipush 30, 2) := by decide +kernel
theorem dX13_init_420 : decode cX13_init 420 = .ok (.newarray .int, 2) := by decide +kernel
theorem dX13_init_422 : decode cX13_init 422 = .ok (.putfield 159, 3) := by decide +kernel
theorem dX13_init_425 : decode cX13_init 425 = .ok (.aload_n 0, 1) := by decide +kernel
theorem dX13_init_426 : decode cX13_init 426 = .ok (.bipush 30, 2) := by decide +kernel
theorem dX13_init_428 : decode cX13_init 428 = .ok (.newarray .int, 2) := by decide +kernel
theorem dX13_init_430 : decode cX13_init 430 = .ok (.putfield 162, 3) := by decide +kernel
theorem dX13_init_433 : decode cX13_init 433 = .ok (.aload_n 0, 1) := by decide +kernel
theorem dX13_init_434 : decode cX13_init 434 = .ok (.bipush 60, 2) := by decide +kernel
theorem dX13_init_436 : decode cX13_init 436 = .ok (.newarray .int, 2) := by decide +kernel
theorem dX13_init_438 : decode cX13_init 438 = .ok (.putfield 165, 3) := by decide +kernel
theorem dX13_init_441 : decode cX13_init 441 = .ok (.aload_n 0, 1) := by decide +kernel
theorem dX13_init_442 : decode cX13_init 442 = .ok (.bipush 60, 2) := by decide +kernel
theorem dX13_init_444 : decode cX13_init 444 = .ok (.newarray .int, 2) := by decide +kernel
theorem dX13_init_446 : decode cX13_init 446 = .ok (.putfield 168, 3) := by decide +kernel
theorem dX13_init_449 : decode cX13_init 449 = .ok (.aload_n 0, 1) := by decide +kernel
theorem dX13_init_450 : decode cX13_init 450 = .ok (.bipush 60, 2) := by decide +kernel
theorem dX13_init_452 : decode cX13_init 452 = .ok (.newarray .int, 2) := by decide +kernel
theorem dX13_init_454 : decode cX13_init 454 = .ok (.putfield 171, 3) := by decide +kernel
theorem dX13_init_457 : decode cX13_init 457 = .ok (.aload_n 0, 1) := by decide +kernel
theorem dX13_init_458 : decode cX13_init 458 = .ok (.bipush 30, 2) := by decide +kernel
theorem dX13_init_460 : decode cX13_init 460 = .ok (.newarray .int, 2) := by decide +kernel
theorem dX13_init_462 : decode cX13_init 462 = .ok (.putfield 174, 3) := by decide +kernel
theorem dX13_init_465 : decode cX13_init 465 = .ok (.aload_n 0, 1) := by decide +kernel
theorem dX13_init_466 : decode cX13_init 466 = .ok (.bipush 30, 2) := by decide +kernel
theorem dX13_init_468 : decode cX13_init 468 = .ok (.newarray .boolean, 2) := by decide +kernel
theorem dX13_init_470 : decode cX13_init 470 = .ok (.putfield 177, 3) := by decide +kernel
theorem dX13_init_473 : decode cX13_init 473 = .ok (.aload_n 0, 1) := by decide +kernel
theorem dX13_init_474 : decode cX13_init 474 = .ok (.sipush 256, 3) := by decide +kernel
theorem dX13_init_477 : decode cX13_init 477 = .ok (.newarray .int, 2) := by decide +kernel
theorem dX13_init_479 : decode cX13_init 479 = .ok (.putfield 180, 3) := by decide +kernel
theorem dX13_init_482 : decode cX13_init 482 = .ok (.aload_n 0, 1) := by decide +kernel
theorem dX13_init_483 : decode cX13_init 483 = .ok (.sipush 256, 3) := by decide +kernel
theorem dX13_init_486 : decode cX13_init 486 = .ok (.newarray .int, 2) := by decide +kernel
theorem dX13_init_488 : decode cX13_init 488 = .ok (.putfield 183, 3) := by decide +kernel
theorem dX13_init_491 : decode cX13_init 491 = .ok (.aload_n 0, 1) := by decide +kernel
theorem dX13_init_492 : decode cX13_init 492 = .ok (.sipush 256, 3) := by decide +kernel
theorem dX13_init_495 : decode cX13_init 495 = .ok (.newarray .int, 2) := by decide +kernel
theorem dX13_init_497 : decode cX13_init 497 = .ok (.putfield 186, 3) := by decide +kernel
theorem dX13_init_500 : decode cX13_init 500 = .ok (.aload_n 0, 1) := by decide +kernel
theorem dX13_init_501 : decode cX13_init 501 = .ok (.iconst 2, 1) := by decide +kernel
theorem dX13_init_502 : decode cX13_init 502 = .ok (.newarray .int, 2) := by decide +kernel
theorem dX13_init_504 : decode cX13_init 504 = .ok (.putfield 189, 3) := by decide +kernel
theorem dX13_init_507 : decode cX13_init 507 = .ok (.aload_n 0, 1) := by decide +kernel
theorem dX13_init_508 : decode cX13_init 508 = .ok (.iconst 4, 1) := by decide +kernel
theorem dX13_init_509 : decode cX13_init 509 = .ok (.newarray .int, 2) := by decide +kernel
theorem dX13_init_511 : decode cX13_init 511 = .ok (.putfield 192, 3) := by decide +kernel
theorem dX13_init_514 : decode cX13_init 514 = .ok (.aload_n 0, 1) := by decide +kernel
theorem dX13_init_515 : decode cX13_init 515 = .ok (.bipush 20, 2) := by decide +kernel
theorem dX13_init_517 : decode cX13_init 517 = .ok (.newarray .int, 2) := by decide +kernel
theorem dX13_init_519 : decode cX13_init 519 = .ok (.putfield 195, 3) := by decide +kernel
theorem dX13_init_522 : decode cX13_init 522 = .ok (.aload_n 0, 1) := by decide +kernel
theorem dX13_init_523 : decode cX13_init 523 = .ok (.bipush 80, 2) := by decide +kernel
theorem dX13_init_525 : decode cX13_init 525 = .ok (.newarray .int, 2) := by decide +kernel
theorem dX13_init_527 : decode cX13_init 527 = .ok (.putfield 198, 3) := by decide +kernel
theorem dX13_init_530 : decode cX13_init 530 = .ok (.aload_n 0, 1) := by decide +kernel
theorem dX13_init_531 : decode cX13_init 531 = .ok (.bipush 80, 2) := by decide +kernel
theorem dX13_init_533 : decode cX13_init 533 = .ok (.newarray .int, 2) := by decide +kernel
theorem dX13_init_535 : decode cX13_init 535 = .ok (.putfield 201, 3) := by decide +kernel
theorem dX13_init_538 : decode cX13_init 538 = .ok (.aload_n 0, 1) := by decide +kernel
theorem dX13_init_539 : decode cX13_init 539 = .ok (.iconst 4, 1) := by decide +kernel
theorem dX13_init_540 : decode cX13_init 540 = .ok (.newarray .int, 2) := by decide +kernel
theorem dX13_init_542 : decode cX13_init 542 = .ok (.putfield 204, 3) := by decide +kernel
theorem dX13_init_545 : decode cX13_init 545 = .ok (.aload_n 0, 1) := by decide +kernel
theorem dX13_init_546 : decode cX13_init 546 = .ok (.iconst 4, 1) := by decide +kernel
theorem dX13_init_547 : decode cX13_init 547 = .ok (.newarray .int, 2) := by decide +kernel
theorem dX13_init_549 : decode cX13_init 549 = .ok (.putfield 207, 3) := by decide +kernel
theorem dX13_init_552 : decode cX13_init 552 = .ok (.aload_n 0, 1) := by decide +kernel
theorem dX13_init_553 : decode cX13_init 553 = .ok (.bipush 16, 2) := by decide +kernel
theorem dX13_init_555 : decode cX13_init 555 = .ok (.newarray .int, 2) := by decide +kernel
theorem dX13_init_557 : decode cX13_init 557 = .ok (.putfield 210, 3) := by decide +kernel
theorem dX13_init_560 : decode cX13_init 560 = .ok (.aload_n 0, 1) := by decide +kernel
theorem dX13_init_561 : decode cX13_init 561 = .ok (.bipush 20, 2) := by decide +kernel
theorem dX13_init_563 : decode cX13_init 563 = .ok (.newarray .int, 2) := by decide +kernel
theorem dX13_init_565 : decode cX13_init 565 = .ok (.putfield 213, 3) := by decide +kernel
theorem dX13_init_568 : decode cX13_init 568 = .ok (.aload_n 0, 1) := by decide +kernel
theorem dX13_init_569 : decode cX13_init 569 = .ok (.bipush 20, 2) := by decide +kernel
theorem dX13_init_571 : decode cX13_init 571 = .ok (.newarray .int, 2) := by decide +kernel
theorem dX13_init_573 : decode cX13_init 573 = .ok (.putfield 216, 3) := by decide +kernel
theorem dX13_init_576 : decode cX13_init 576 = .ok (.aload_n 0, 1) := by decide +kernel
theorem dX13_init_577 : decode cX13_init 577 = .ok (.bipush 20, 2) := by decide +kernel
theorem dX13_init_579 : decode cX13_init 579 = .ok (.newarray .int, 2) := by decide +kernel
theorem dX13_init_581 : decode cX13_init 581 = .ok (.putfield 219, 3) := by decide +kernel
theorem dX13_init_584 : decode cX13_init 584 = .ok (.aload_n 0, 1) := by decide +kernel
theorem dX13_init_585 : decode cX13_init 585 = .ok (.bipush 20, 2) := by decide +kernel
theorem dX13_init_587 : decode cX13_init 587 = .ok (.newarray .int, 2) := by decide +kernel
theorem dX13_init_589 : decode cX13_init 589 = .ok (.putfield 222, 3) := by decide +kernel
theorem dX13_init_592 : decode cX13_init 592 = .ok (.aload_n 0, 1) := by decide +kernel
theorem dX13_init_593 : decode cX13_init 593 = .ok (.bipush 16, 2) := by decide +kernel
theorem dX13_init_595 : decode cX13_init 595 = .ok (.newarray .int, 2) := by decide +kernel
theorem dX13_init_597 : decode cX13_init 597 = .ok (.putfield 225, 3) := by decide +kernel
theorem dX13_init_600 : decode cX13_init 600 = .ok (.return_, 1) := by decide +kernel

def upL (f : Nat → Value) : List (Nat × Value) → Nat → Value := fun l => l.foldl (fun g p => va_up g p.1 p.2) f
def lkL : List (Nat × Value) → Nat → Value → Value
  | [], _, d => d
  | (k, v) :: t, j, d => lkL t j (bif Nat.beq j k then v else d)
theorem upL_lk (l : List (Nat × Value)) : ∀ (f : Nat → Value) (j : Nat), upL f l j = lkL l j (f j) := by
  induction l with
  | nil => exact fun f j => rfl
  | cons p t ih =>
    intro f j
    show upL (va_up f p.1 p.2) t j = lkL t j (bif Nat.beq j p.1 then p.2 else f j)
    rw [ih]
    congr 1
    cases q : Nat.beq j p.1 with
    | true => rw [Nat.eq_of_beq_eq_true q]; exact va_up_self _ _ _
    | false => exact va_up_ne _ _ (fun e => by rw [e, Nat.beq_refl] at q; cases q)
def v_x_MI : List Cond := .code yX13_init cX13_init 1 none :: vA
set_option maxHeartbeats 4000000 in
set_option maxRecDepth 100000 in
theorem x_MI (l : Launch) (dC : Nat → ClassId) (dI : Nat → Nat → Nat) (h : Nat) (sz : Nat)  : Met l yX13_init v_x_MI ({ frames := 1, cells := 71, slots := 10512, locals := 40 }) (va_Pc [.ref h] (fun U => U.heap.size = sz ∧ va_P (dC, dI) vwCl [(h, .inr (14, mL (fun j => defaultValue (tyX13 j))))] U.heap ∧ va_K (dC, dI) vwCl [] U ∧ va_D (fun _ => True) [(h, .inr (14, mL (fun j => defaultValue (tyX13 j))))])) (va_Qv (S := (Nat → Value) × Nat × Nat × Nat × Nat × Nat × Nat × Nat × Nat × Nat × Nat × Nat × Nat × Nat × Nat × Nat × Nat × Nat × Nat × Nat × Nat × Nat × Nat × Nat × Nat × Nat × Nat × Nat × Nat × Nat × Nat × Nat × Nat × Nat × Nat × Nat × Nat × Nat × Nat × Nat × Nat × Nat × Nat × Nat × Nat × Nat × Nat × Nat × Nat × Nat × Nat × Nat × Nat × Nat × Nat × Nat × Nat × Nat × Nat × Nat × Nat × Nat × Nat × Nat × Nat × Nat × Nat × Nat × Nat × Nat × Nat × Nat × ClassId × ClassId × ClassId) (fun u => match u with | (f, p1, p2, p3, p4, p5, p6, p7, p8, p9, p10, p11, p12, p13, p14, p15, p16, p17, p18, p19, p20, p21, p22, p23, p24, p25, p26, p27, p28, p29, p30, p31, p32, p33, p34, p35, p36, p37, p38, p39, p40, p41, p42, p43, p44, p45, p46, p47, p48, p49, p50, p51, p52, p53, p54, p55, p56, p57, p58, p59, p60, p61, p62, p63, p64, p65, p66, p67, p68, p69, p70, p71, cI, cB, cZ) => f 0 = .int 0 ∧ f 1 = .int 0 ∧ f 8 = .int 0 ∧ f 9 = .int 0 ∧ f 16 = .int 0 ∧ f 17 = .int 0 ∧ f 19 = .int 0 ∧ f 20 = .int 0 ∧ f 21 = .int 0 ∧ f 22 = .int 0 ∧ f 23 = .int 0 ∧ f 24 = .int 0 ∧ f 25 = .int 0 ∧ f 26 = .int 0 ∧ f 46 = .int 0 ∧ f 47 = .int 0 ∧ f 48 = .int 0 ∧ f 55 = .int 0 ∧ f 74 = .int 0 ∧ f 75 = .int 0 ∧ f 86 = .int 0 ∧ f 87 = .int 0 ∧ f 88 = .int 0 ∧ f 89 = .int 0 ∧ f 95 = .int 0 ∧ f 2 = .ref p1 ∧ f 3 = .ref p2 ∧ f 4 = .ref p3 ∧ f 5 = .ref p4 ∧ f 6 = .ref p5 ∧ f 7 = .ref p6 ∧ f 10 = .ref p7 ∧ f 11 = .ref p8 ∧ f 12 = .ref p9 ∧ f 13 = .ref p10 ∧ f 14 = .ref p11 ∧ f 15 = .ref p12 ∧ f 18 = .ref p7 ∧ f 27 = .ref p13 ∧ f 28 = .ref p14 ∧ f 29 = .ref p15 ∧ f 30 = .ref p16 ∧ f 31 = .ref p17 ∧ f 32 = .ref p18 ∧ f 33 = .ref p19 ∧ f 34 = .ref p20 ∧ f 35 = .ref p21 ∧ f 36 = .ref p22 ∧ f 37 = .ref p23 ∧ f 38 = .ref p24 ∧ f 39 = .ref p25 ∧ f 40 = .ref p26 ∧ f 41 = .ref p27 ∧ f 42 = .ref p28 ∧ f 43 = .ref p29 ∧ f 44 = .ref p30 ∧ f 45 = .ref p31 ∧ f 49 = .ref p32 ∧ f 50 = .ref p33 ∧ f 51 = .ref p34 ∧ f 52 = .ref p35 ∧ f 53 = .ref p36 ∧ f 54 = .ref p37 ∧ f 56 = .ref p38 ∧ f 57 = .ref p39 ∧ f 58 = .ref p40 ∧ f 59 = .ref p41 ∧ f 60 = .ref p42 ∧ f 61 = .ref p43 ∧ f 62 = .ref p44 ∧ f 63 = .ref p45 ∧ f 64 = .ref p46 ∧ f 65 = .ref p47 ∧ f 66 = .ref p48 ∧ f 67 = .ref p49 ∧ f 68 = .ref p50 ∧ f 69 = .ref p51 ∧ f 70 = .ref p52 ∧ f 71 = .ref p53 ∧ f 72 = .ref p54 ∧ f 73 = .ref p55 ∧ f 76 = .ref p56 ∧ f 77 = .ref p57 ∧ f 78 = .ref p58 ∧ f 79 = .ref p59 ∧ f 80 = .ref p60 ∧ f 81 = .ref p61 ∧ f 82 = .ref p62 ∧ f 83 = .ref p63 ∧ f 84 = .ref p64 ∧ f 85 = .ref p65 ∧ f 90 = .ref p66 ∧ f 91 = .ref p67 ∧ f 92 = .ref p68 ∧ f 93 = .ref p69 ∧ f 94 = .ref p70 ∧ f 96 = .ref p71) (fun u t => match u with | (f, p1, p2, p3, p4, p5, p6, p7, p8, p9, p10, p11, p12, p13, p14, p15, p16, p17, p18, p19, p20, p21, p22, p23, p24, p25, p26, p27, p28, p29, p30, p31, p32, p33, p34, p35, p36, p37, p38, p39, p40, p41, p42, p43, p44, p45, p46, p47, p48, p49, p50, p51, p52, p53, p54, p55, p56, p57, p58, p59, p60, p61, p62, p63, p64, p65, p66, p67, p68, p69, p70, p71, cI, cB, cZ) => va_P (dC, dI) vwCl [(h, .inr (14, mL f)), (p1, .inl (cI, 80, .inl ((fun _ => (0 : Int32))))), (p2, .inl (cI, 80, .inl ((fun _ => (0 : Int32))))), (p3, .inl (cI, 80, .inl ((fun _ => (0 : Int32))))), (p4, .inl (cI, 80, .inl ((fun _ => (0 : Int32))))), (p5, .inl (cI, 80, .inl ((fun _ => (0 : Int32))))), (p6, .inl (cI, 80, .inl ((fun _ => (0 : Int32))))), (p7, .inl (cB, 200, .inl ((fun _ => (0 : Int32))))), (p8, .inl (cB, 3200, .inl ((fun _ => (0 : Int32))))), (p9, .inl (cI, 16, .inl ((fun _ => (0 : Int32))))), (p10, .inl (cI, 16, .inl ((fun _ => (0 : Int32))))), (p11, .inl (cI, 16, .inl ((fun _ => (0 : Int32))))), (p12, .inl (cI, 128, .inl ((fun _ => (0 : Int32))))), (p13, .inl (cI, 20, .inl ((fun _ => (0 : Int32))))), (p14, .inl (cI, 20, .inl ((fun _ => (0 : Int32))))), (p15, .inl (cI, 20, .inl ((fun _ => (0 : Int32))))), (p16, .inl (cI, 20, .inl ((fun _ => (0 : Int32))))), (p17, .inl (cI, 20, .inl ((fun _ => (0 : Int32))))), (p18, .inl (cI, 20, .inl ((fun _ => (0 : Int32))))), (p19, .inl (cI, 20, .inl ((fun _ => (0 : Int32))))), (p20, .inl (cI, 20, .inl ((fun _ => (0 : Int32))))), (p21, .inl (cI, 320, .inl ((fun _ => (0 : Int32))))), (p22, .inl (cI, 320, .inl ((fun _ => (0 : Int32))))), (p23, .inl (cI, 320, .inl ((fun _ => (0 : Int32))))), (p24, .inl (cI, 300, .inl ((fun _ => (0 : Int32))))), (p25, .inl (cI, 300, .inl ((fun _ => (0 : Int32))))), (p26, .inl (cI, 300, .inl ((fun _ => (0 : Int32))))), (p27, .inl (cI, 300, .inl ((fun _ => (0 : Int32))))), (p28, .inl (cI, 300, .inl ((fun _ => (0 : Int32))))), (p29, .inl (cI, 20, .inl ((fun _ => (0 : Int32))))), (p30, .inl (cI, 20, .inl ((fun _ => (0 : Int32))))), (p31, .inl (cI, 20, .inl ((fun _ => (0 : Int32))))), (p32, .inl (cI, 320, .inl ((fun _ => (0 : Int32))))), (p33, .inl (cI, 16, .inl ((fun _ => (0 : Int32))))), (p34, .inl (cI, 20, .inl ((fun _ => (0 : Int32))))), (p35, .inl (cI, 20, .inl ((fun _ => (0 : Int32))))), (p36, .inl (cZ, 320, .inl ((fun _ => (0 : Int32))))), (p37, .inl (cZ, 16, .inl ((fun _ => (0 : Int32))))), (p38, .inl (cI, 200, .inl ((fun _ => (0 : Int32))))), (p39, .inl (cI, 200, .inl ((fun _ => (0 : Int32))))), (p40, .inl (cI, 200, .inl ((fun _ => (0 : Int32))))), (p41, .inl (cI, 200, .inl ((fun _ => (0 : Int32))))), (p42, .inl (cI, 200, .inl ((fun _ => (0 : Int32))))), (p43, .inl (cI, 200, .inl ((fun _ => (0 : Int32))))), (p44, .inl (cI, 200, .inl ((fun _ => (0 : Int32))))), (p45, .inl (cI, 200, .inl ((fun _ => (0 : Int32))))), (p46, .inl (cI, 30, .inl ((fun _ => (0 : Int32))))), (p47, .inl (cI, 30, .inl ((fun _ => (0 : Int32))))), (p48, .inl (cI, 30, .inl ((fun _ => (0 : Int32))))), (p49, .inl (cI, 30, .inl ((fun _ => (0 : Int32))))), (p50, .inl (cI, 30, .inl ((fun _ => (0 : Int32))))), (p51, .inl (cI, 60, .inl ((fun _ => (0 : Int32))))), (p52, .inl (cI, 60, .inl ((fun _ => (0 : Int32))))), (p53, .inl (cI, 60, .inl ((fun _ => (0 : Int32))))), (p54, .inl (cI, 30, .inl ((fun _ => (0 : Int32))))), (p55, .inl (cZ, 30, .inl ((fun _ => (0 : Int32))))), (p56, .inl (cI, 256, .inl ((fun _ => (0 : Int32))))), (p57, .inl (cI, 256, .inl ((fun _ => (0 : Int32))))), (p58, .inl (cI, 256, .inl ((fun _ => (0 : Int32))))), (p59, .inl (cI, 2, .inl ((fun _ => (0 : Int32))))), (p60, .inl (cI, 4, .inl ((fun _ => (0 : Int32))))), (p61, .inl (cI, 20, .inl ((fun _ => (0 : Int32))))), (p62, .inl (cI, 80, .inl ((fun _ => (0 : Int32))))), (p63, .inl (cI, 80, .inl ((fun _ => (0 : Int32))))), (p64, .inl (cI, 4, .inl ((fun _ => (0 : Int32))))), (p65, .inl (cI, 4, .inl ((fun _ => (0 : Int32))))), (p66, .inl (cI, 16, .inl ((fun _ => (0 : Int32))))), (p67, .inl (cI, 20, .inl ((fun _ => (0 : Int32))))), (p68, .inl (cI, 20, .inl ((fun _ => (0 : Int32))))), (p69, .inl (cI, 20, .inl ((fun _ => (0 : Int32))))), (p70, .inl (cI, 20, .inl ((fun _ => (0 : Int32))))), (p71, .inl (cI, 16, .inl ((fun _ => (0 : Int32)))))] t.heap ∧ va_K (dC, dI) vwCl [(cI, .int), (cB, .byte), (cZ, .boolean)] t ∧ va_D (va_A [(h, .inr (14, mL (fun j => defaultValue (tyX13 j))))] sz) [(h, .inr (14, mL f)), (p1, .inl (cI, 80, .inl ((fun _ => (0 : Int32))))), (p2, .inl (cI, 80, .inl ((fun _ => (0 : Int32))))), (p3, .inl (cI, 80, .inl ((fun _ => (0 : Int32))))), (p4, .inl (cI, 80, .inl ((fun _ => (0 : Int32))))), (p5, .inl (cI, 80, .inl ((fun _ => (0 : Int32))))), (p6, .inl (cI, 80, .inl ((fun _ => (0 : Int32))))), (p7, .inl (cB, 200, .inl ((fun _ => (0 : Int32))))), (p8, .inl (cB, 3200, .inl ((fun _ => (0 : Int32))))), (p9, .inl (cI, 16, .inl ((fun _ => (0 : Int32))))), (p10, .inl (cI, 16, .inl ((fun _ => (0 : Int32))))), (p11, .inl (cI, 16, .inl ((fun _ => (0 : Int32))))), (p12, .inl (cI, 128, .inl ((fun _ => (0 : Int32))))), (p13, .inl (cI, 20, .inl ((fun _ => (0 : Int32))))), (p14, .inl (cI, 20, .inl ((fun _ => (0 : Int32))))), (p15, .inl (cI, 20, .inl ((fun _ => (0 : Int32))))), (p16, .inl (cI, 20, .inl ((fun _ => (0 : Int32))))), (p17, .inl (cI, 20, .inl ((fun _ => (0 : Int32))))), (p18, .inl (cI, 20, .inl ((fun _ => (0 : Int32))))), (p19, .inl (cI, 20, .inl ((fun _ => (0 : Int32))))), (p20, .inl (cI, 20, .inl ((fun _ => (0 : Int32))))), (p21, .inl (cI, 320, .inl ((fun _ => (0 : Int32))))), (p22, .inl (cI, 320, .inl ((fun _ => (0 : Int32))))), (p23, .inl (cI, 320, .inl ((fun _ => (0 : Int32))))), (p24, .inl (cI, 300, .inl ((fun _ => (0 : Int32))))), (p25, .inl (cI, 300, .inl ((fun _ => (0 : Int32))))), (p26, .inl (cI, 300, .inl ((fun _ => (0 : Int32))))), (p27, .inl (cI, 300, .inl ((fun _ => (0 : Int32))))), (p28, .inl (cI, 300, .inl ((fun _ => (0 : Int32))))), (p29, .inl (cI, 20, .inl ((fun _ => (0 : Int32))))), (p30, .inl (cI, 20, .inl ((fun _ => (0 : Int32))))), (p31, .inl (cI, 20, .inl ((fun _ => (0 : Int32))))), (p32, .inl (cI, 320, .inl ((fun _ => (0 : Int32))))), (p33, .inl (cI, 16, .inl ((fun _ => (0 : Int32))))), (p34, .inl (cI, 20, .inl ((fun _ => (0 : Int32))))), (p35, .inl (cI, 20, .inl ((fun _ => (0 : Int32))))), (p36, .inl (cZ, 320, .inl ((fun _ => (0 : Int32))))), (p37, .inl (cZ, 16, .inl ((fun _ => (0 : Int32))))), (p38, .inl (cI, 200, .inl ((fun _ => (0 : Int32))))), (p39, .inl (cI, 200, .inl ((fun _ => (0 : Int32))))), (p40, .inl (cI, 200, .inl ((fun _ => (0 : Int32))))), (p41, .inl (cI, 200, .inl ((fun _ => (0 : Int32))))), (p42, .inl (cI, 200, .inl ((fun _ => (0 : Int32))))), (p43, .inl (cI, 200, .inl ((fun _ => (0 : Int32))))), (p44, .inl (cI, 200, .inl ((fun _ => (0 : Int32))))), (p45, .inl (cI, 200, .inl ((fun _ => (0 : Int32))))), (p46, .inl (cI, 30, .inl ((fun _ => (0 : Int32))))), (p47, .inl (cI, 30, .inl ((fun _ => (0 : Int32))))), (p48, .inl (cI, 30, .inl ((fun _ => (0 : Int32))))), (p49, .inl (cI, 30, .inl ((fun _ => (0 : Int32))))), (p50, .inl (cI, 30, .inl ((fun _ => (0 : Int32))))), (p51, .inl (cI, 60, .inl ((fun _ => (0 : Int32))))), (p52, .inl (cI, 60, .inl ((fun _ => (0 : Int32))))), (p53, .inl (cI, 60, .inl ((fun _ => (0 : Int32))))), (p54, .inl (cI, 30, .inl ((fun _ => (0 : Int32))))), (p55, .inl (cZ, 30, .inl ((fun _ => (0 : Int32))))), (p56, .inl (cI, 256, .inl ((fun _ => (0 : Int32))))), (p57, .inl (cI, 256, .inl ((fun _ => (0 : Int32))))), (p58, .inl (cI, 256, .inl ((fun _ => (0 : Int32))))), (p59, .inl (cI, 2, .inl ((fun _ => (0 : Int32))))), (p60, .inl (cI, 4, .inl ((fun _ => (0 : Int32))))), (p61, .inl (cI, 20, .inl ((fun _ => (0 : Int32))))), (p62, .inl (cI, 80, .inl ((fun _ => (0 : Int32))))), (p63, .inl (cI, 80, .inl ((fun _ => (0 : Int32))))), (p64, .inl (cI, 4, .inl ((fun _ => (0 : Int32))))), (p65, .inl (cI, 4, .inl ((fun _ => (0 : Int32))))), (p66, .inl (cI, 16, .inl ((fun _ => (0 : Int32))))), (p67, .inl (cI, 20, .inl ((fun _ => (0 : Int32))))), (p68, .inl (cI, 20, .inl ((fun _ => (0 : Int32))))), (p69, .inl (cI, 20, .inl ((fun _ => (0 : Int32))))), (p70, .inl (cI, 20, .inl ((fun _ => (0 : Int32))))), (p71, .inl (cI, 16, .inl ((fun _ => (0 : Int32)))))]) (va_A [(h, .inr (14, mL (fun j => defaultValue (tyX13 j))))] sz)) 71 10512 (va_A [(h, .inr (14, mL (fun j => defaultValue (tyX13 j))))] sz) := by
  refine Met.ofW (cc := cX13_init) (maxL := 1) (ret := none) (by decide) rfl ?_
  intro p e s m args below meth c s₁ B hml hv
  obtain ⟨rfl, hsz, hP, hK, hD0⟩ := hv
  have hx := B.exec
  have hb := B.bytes
  have hr := B.returns
  have hts := atoms_spec (ws := v_x_MI) B.pre
  have hown : s.vm.findClass RX13 = some m.cls := findClass_of_methodNamed B.named
  have hlocks := B.notSynchronized
  have hin : meth.name = "<init>" := (name_of_methodNamed B.named B.method).1
  subst hsz
  have hD := hD0.self (sz := s.heap.size)
  generalize hAe : va_A [(h, .inr (14, mL (fun j => defaultValue (tyX13 j))))] s.heap.size = A at hD ⊢
  have hA : ∀ q : Nat, s.heap.size ≤ q → A q := fun q h => by rw [← hAe]; exact Or.inr h
  have hS : va_S A s.heap s.heap [] := va_S.rf
  have hP : va_P (dC, dI) vwCl [(h, .inr (14, mL (fun j => defaultValue (tyX13 j))))] s.heap := hP
  have hl := lv_entry ([.ref h]) (n := 1) (Nat.le_of_ble_eq_true rfl)
  rw [lg_entry_eq]
  generalize (lg_sl ([.ref h]) ++ List.replicate (1 - (lg_sl ([.ref h])).length) Slot.unset).toArray = ls at hl ⊢
  have hl : lv_has ls 1 [(0, .ref h)] := hl
  obtain ⟨w0, ew0⟩ : ∃ z : va_W, z = [] := ⟨_, rfl⟩
  replace hP : va_P (dC, dI) vwCl ((h, .inr (14, mL (fun j => defaultValue (tyX13 j)))) :: w0) s.heap := by rw [ew0]; exact hP
  replace hD : va_D A ((h, .inr (14, mL (fun j => defaultValue (tyX13 j)))) :: w0) := by rw [ew0]; exact hD
  refine lv_aload_n hx hb dX13_init_0 rfl (lv_at hl 0 rfl) ?_
  refine W.objInit hx hb hown (hts _ (vA_in _ _ (in_32 _ (List.mem_of_getElem? (i := 5) rfl)))) (hts _ (vA_in _ _ (in_4 _ (List.mem_of_getElem? (i := 17) rfl)))) (hts _ (vA_in _ _ (in_4 _ (List.mem_of_getElem? (i := 18) rfl)))) rfl (by rw [hml]; exact hl.1) rfl dX13_init_1 (Nat.le_of_ble_eq_true rfl) (Nat.le_of_ble_eq_true rfl) ?_
  refine W.eq (g2 := F0 m 4 ls []) rfl ?_
  refine lv_aload_n hx hb dX13_init_4 rfl (lv_at hl 0 rfl) ?_
  refine lv_bipush (v := 80) hx hb dX13_init_5 (by decide) ?_
  refine va_newa (atype := .int) (ty := .int) (N' := 80) (a0 := (80, .inl (fun _ => (0 : Int32)))) hx hb (hts _ (vA_in _ _ (in_2 _ (List.mem_of_getElem? (i := 38) rfl)))) rfl hK hP hD hS hA (fun _ => rfl) (by decide) (by decide) (Nat.le_of_ble_eq_true rfl) (Nat.le_of_ble_eq_true rfl) (Nat.le_of_ble_eq_true rfl) dX13_init_7 (fun q1 kq1 H hK hP hD hS => ?_)
  have hK : va_K (dC, dI) vwCl [(kq1, .int)] s := hK
  obtain ⟨wq1, ewq1⟩ : ∃ z : va_W, z = w0 ++ [(q1, .inl (kq1, 80, .inl (fun _ => (0 : Int32))))] := ⟨_, rfl⟩
  replace hP : va_P (dC, dI) vwCl ((h, .inr (14, mL (fun j => defaultValue (tyX13 j)))) :: wq1) H := by rw [ewq1]; exact hP
  replace hD : va_D A ((h, .inr (14, mL (fun j => defaultValue (tyX13 j)))) :: wq1) := by rw [ewq1]; exact hD
  refine W.widen (k := 1) (n := 80) (by omega) (by omega) ?_
  refine va_putF (D := (dC, dI)) (ci := 14) (v := .ref q1) (ty := .array .int) (C := RX13) (T := TX13) (N := 97) hx hb hts (fun w h => vA_in _ w (in_X13 w h)) tyX13 tyX13_ok nmX13 hown hK hP hD hS 0 rfl rfl 2 (by decide) (hts _ (vA_in _ _ (in_27 _ (List.mem_of_getElem? (i := 10) rfl)))) (fun _ h9 => h9) rfl hin rfl (by decide +kernel) rfl rfl (mL_lt (Nat.le_of_ble_eq_true rfl)) dX13_init_9 (fun H locs hP hD hS => ?_)
  replace hP : va_P (dC, dI) vwCl ((h, .inr (14, (mL (fun j => defaultValue (tyX13 j))).set 2 (.ref q1))) :: wq1) H := hP
  replace hD : va_D A ((h, .inr (14, (mL (fun j => defaultValue (tyX13 j))).set 2 (.ref q1))) :: wq1) := hD
  obtain ⟨g2, eg2⟩ : ∃ z9, z9 = va_up (fun j => defaultValue (tyX13 j)) 2 (.ref q1) := ⟨_, rfl⟩
  rw [mL_upd, ← eg2] at hP hD
  refine lv_aload_n hx hb dX13_init_12 rfl (lv_at hl 0 rfl) ?_
  refine lv_bipush (v := 80) hx hb dX13_init_13 (by decide) ?_
  refine va_newa (atype := .int) (ty := .int) (N' := 80) (a0 := (80, .inl (fun _ => (0 : Int32)))) hx hb (hts _ (vA_in _ _ (in_2 _ (List.mem_of_getElem? (i := 38) rfl)))) rfl hK hP hD hS hA (fun _ => rfl) (by decide) (by decide) (Nat.le_of_ble_eq_true rfl) (Nat.le_of_ble_eq_true rfl) (Nat.le_of_ble_eq_true rfl) dX13_init_15 (fun q3 kq3 H hK hP hD hS => ?_)
  have hK : va_K (dC, dI) vwCl [(kq1, .int), (kq3, .int)] s := hK
  obtain ⟨wq3, ewq3⟩ : ∃ z : va_W, z = wq1 ++ [(q3, .inl (kq3, 80, .inl (fun _ => (0 : Int32))))] := ⟨_, rfl⟩
  replace hP : va_P (dC, dI) vwCl ((h, .inr (14, mL g2)) :: wq3) H := by rw [ewq3]; exact hP
  replace hD : va_D A ((h, .inr (14, mL g2)) :: wq3) := by rw [ewq3]; exact hD
  refine W.widen (k := 2) (n := 160) (by omega) (by omega) ?_
  obtain rfl : kq1 = kq3 := ub_sa_int hK 0 1 rfl rfl
  have hK := hK.sub (tys' := [(kq1, .int)]) [0] rfl
  refine va_putF (D := (dC, dI)) (ci := 14) (v := .ref q3) (ty := .array .int) (C := RX13) (T := TX13) (N := 97) hx hb hts (fun w h => vA_in _ w (in_X13 w h)) tyX13 tyX13_ok nmX13 hown hK hP hD hS 0 rfl rfl 3 (by decide) (hts _ (vA_in _ _ (in_27 _ (List.mem_of_getElem? (i := 12) rfl)))) (fun _ h9 => h9) rfl hin rfl (by decide +kernel) rfl rfl (mL_lt (Nat.le_of_ble_eq_true rfl)) dX13_init_17 (fun H locs hP hD hS => ?_)
  replace hP : va_P (dC, dI) vwCl ((h, .inr (14, (mL g2).set 3 (.ref q3))) :: wq3) H := hP
  replace hD : va_D A ((h, .inr (14, (mL g2).set 3 (.ref q3))) :: wq3) := hD
  obtain ⟨g4, eg4⟩ : ∃ z9, z9 = va_up g2 3 (.ref q3) := ⟨_, rfl⟩
  rw [mL_upd, ← eg4] at hP hD
  refine lv_aload_n hx hb dX13_init_20 rfl (lv_at hl 0 rfl) ?_
  refine lv_bipush (v := 80) hx hb dX13_init_21 (by decide) ?_
  refine va_newa (atype := .int) (ty := .int) (N' := 80) (a0 := (80, .inl (fun _ => (0 : Int32)))) hx hb (hts _ (vA_in _ _ (in_2 _ (List.mem_of_getElem? (i := 38) rfl)))) rfl hK hP hD hS hA (fun _ => rfl) (by decide) (by decide) (Nat.le_of_ble_eq_true rfl) (Nat.le_of_ble_eq_true rfl) (Nat.le_of_ble_eq_true rfl) dX13_init_23 (fun q5 kq5 H hK hP hD hS => ?_)
  have hK : va_K (dC, dI) vwCl [(kq1, .int), (kq5, .int)] s := hK
  obtain ⟨wq5, ewq5⟩ : ∃ z : va_W, z = wq3 ++ [(q5, .inl (kq5, 80, .inl (fun _ => (0 : Int32))))] := ⟨_, rfl⟩
  replace hP : va_P (dC, dI) vwCl ((h, .inr (14, mL g4)) :: wq5) H := by rw [ewq5]; exact hP
  replace hD : va_D A ((h, .inr (14, mL g4)) :: wq5) := by rw [ewq5]; exact hD
  refine W.widen (k := 3) (n := 240) (by omega) (by omega) ?_
  obtain rfl : kq1 = kq5 := ub_sa_int hK 0 1 rfl rfl
  have hK := hK.sub (tys' := [(kq1, .int)]) [0] rfl
  refine va_putF (D := (dC, dI)) (ci := 14) (v := .ref q5) (ty := .array .int) (C := RX13) (T := TX13) (N := 97) hx hb hts (fun w h => vA_in _ w (in_X13 w h)) tyX13 tyX13_ok nmX13 hown hK hP hD hS 0 rfl rfl 4 (by decide) (hts _ (vA_in _ _ (in_27 _ (List.mem_of_getElem? (i := 14) rfl)))) (fun _ h9 => h9) rfl hin rfl (by decide +kernel) rfl rfl (mL_lt (Nat.le_of_ble_eq_true rfl)) dX13_init_25 (fun H locs hP hD hS => ?_)
  replace hP : va_P (dC, dI) vwCl ((h, .inr (14, (mL g4).set 4 (.ref q5))) :: wq5) H := hP
  replace hD : va_D A ((h, .inr (14, (mL g4).set 4 (.ref q5))) :: wq5) := hD
  obtain ⟨g6, eg6⟩ : ∃ z9, z9 = va_up g4 4 (.ref q5) := ⟨_, rfl⟩
  rw [mL_upd, ← eg6] at hP hD
  refine lv_aload_n hx hb dX13_init_28 rfl (lv_at hl 0 rfl) ?_
  refine lv_bipush (v := 80) hx hb dX13_init_29 (by decide) ?_
  refine va_newa (atype := .int) (ty := .int) (N' := 80) (a0 := (80, .inl (fun _ => (0 : Int32)))) hx hb (hts _ (vA_in _ _ (in_2 _ (List.mem_of_getElem? (i := 38) rfl)))) rfl hK hP hD hS hA (fun _ => rfl) (by decide) (by decide) (Nat.le_of_ble_eq_true rfl) (Nat.le_of_ble_eq_true rfl) (Nat.le_of_ble_eq_true rfl) dX13_init_31 (fun q7 kq7 H hK hP hD hS => ?_)
  have hK : va_K (dC, dI) vwCl [(kq1, .int), (kq7, .int)] s := hK
  obtain ⟨wq7, ewq7⟩ : ∃ z : va_W, z = wq5 ++ [(q7, .inl (kq7, 80, .inl (fun _ => (0 : Int32))))] := ⟨_, rfl⟩
  replace hP : va_P (dC, dI) vwCl ((h, .inr (14, mL g6)) :: wq7) H := by rw [ewq7]; exact hP
  replace hD : va_D A ((h, .inr (14, mL g6)) :: wq7) := by rw [ewq7]; exact hD
  refine W.widen (k := 4) (n := 320) (by omega) (by omega) ?_
  obtain rfl : kq1 = kq7 := ub_sa_int hK 0 1 rfl rfl
  have hK := hK.sub (tys' := [(kq1, .int)]) [0] rfl
  refine va_putF (D := (dC, dI)) (ci := 14) (v := .ref q7) (ty := .array .int) (C := RX13) (T := TX13) (N := 97) hx hb hts (fun w h => vA_in _ w (in_X13 w h)) tyX13 tyX13_ok nmX13 hown hK hP hD hS 0 rfl rfl 5 (by decide) (hts _ (vA_in _ _ (in_27 _ (List.mem_of_getElem? (i := 15) rfl)))) (fun _ h9 => h9) rfl hin rfl (by decide +kernel) rfl rfl (mL_lt (Nat.le_of_ble_eq_true rfl)) dX13_init_33 (fun H locs hP hD hS => ?_)
  replace hP : va_P (dC, dI) vwCl ((h, .inr (14, (mL g6).set 5 (.ref q7))) :: wq7) H := hP
  replace hD : va_D A ((h, .inr (14, (mL g6).set 5 (.ref q7))) :: wq7) := hD
  obtain ⟨g8, eg8⟩ : ∃ z9, z9 = va_up g6 5 (.ref q7) := ⟨_, rfl⟩
  rw [mL_upd, ← eg8] at hP hD
  refine lv_aload_n hx hb dX13_init_36 rfl (lv_at hl 0 rfl) ?_
  refine lv_bipush (v := 80) hx hb dX13_init_37 (by decide) ?_
  refine va_newa (atype := .int) (ty := .int) (N' := 80) (a0 := (80, .inl (fun _ => (0 : Int32)))) hx hb (hts _ (vA_in _ _ (in_2 _ (List.mem_of_getElem? (i := 38) rfl)))) rfl hK hP hD hS hA (fun _ => rfl) (by decide) (by decide) (Nat.le_of_ble_eq_true rfl) (Nat.le_of_ble_eq_true rfl) (Nat.le_of_ble_eq_true rfl) dX13_init_39 (fun q9 kq9 H hK hP hD hS => ?_)
  have hK : va_K (dC, dI) vwCl [(kq1, .int), (kq9, .int)] s := hK
  obtain ⟨wq9, ewq9⟩ : ∃ z : va_W, z = wq7 ++ [(q9, .inl (kq9, 80, .inl (fun _ => (0 : Int32))))] := ⟨_, rfl⟩
  replace hP : va_P (dC, dI) vwCl ((h, .inr (14, mL g8)) :: wq9) H := by rw [ewq9]; exact hP
  replace hD : va_D A ((h, .inr (14, mL g8)) :: wq9) := by rw [ewq9]; exact hD
  refine W.widen (k := 5) (n := 400) (by omega) (by omega) ?_
  obtain rfl : kq1 = kq9 := ub_sa_int hK 0 1 rfl rfl
  have hK := hK.sub (tys' := [(kq1, .int)]) [0] rfl
  refine va_putF (D := (dC, dI)) (ci := 14) (v := .ref q9) (ty := .array .int) (C := RX13) (T := TX13) (N := 97) hx hb hts (fun w h => vA_in _ w (in_X13 w h)) tyX13 tyX13_ok nmX13 hown hK hP hD hS 0 rfl rfl 6 (by decide) (hts _ (vA_in _ _ (in_27 _ (List.mem_of_getElem? (i := 16) rfl)))) (fun _ h9 => h9) rfl hin rfl (by decide +kernel) rfl rfl (mL_lt (Nat.le_of_ble_eq_true rfl)) dX13_init_41 (fun H locs hP hD hS => ?_)
  replace hP : va_P (dC, dI) vwCl ((h, .inr (14, (mL g8).set 6 (.ref q9))) :: wq9) H := hP
  replace hD : va_D A ((h, .inr (14, (mL g8).set 6 (.ref q9))) :: wq9) := hD
  obtain ⟨g10, eg10⟩ : ∃ z9, z9 = va_up g8 6 (.ref q9) := ⟨_, rfl⟩
  rw [mL_upd, ← eg10] at hP hD
  refine lv_aload_n hx hb dX13_init_44 rfl (lv_at hl 0 rfl) ?_
  refine lv_bipush (v := 80) hx hb dX13_init_45 (by decide) ?_
  refine va_newa (atype := .int) (ty := .int) (N' := 80) (a0 := (80, .inl (fun _ => (0 : Int32)))) hx hb (hts _ (vA_in _ _ (in_2 _ (List.mem_of_getElem? (i := 38) rfl)))) rfl hK hP hD hS hA (fun _ => rfl) (by decide) (by decide) (Nat.le_of_ble_eq_true rfl) (Nat.le_of_ble_eq_true rfl) (Nat.le_of_ble_eq_true rfl) dX13_init_47 (fun q11 kq11 H hK hP hD hS => ?_)
  have hK : va_K (dC, dI) vwCl [(kq1, .int), (kq11, .int)] s := hK
  obtain ⟨wq11, ewq11⟩ : ∃ z : va_W, z = wq9 ++ [(q11, .inl (kq11, 80, .inl (fun _ => (0 : Int32))))] := ⟨_, rfl⟩
  replace hP : va_P (dC, dI) vwCl ((h, .inr (14, mL g10)) :: wq11) H := by rw [ewq11]; exact hP
  replace hD : va_D A ((h, .inr (14, mL g10)) :: wq11) := by rw [ewq11]; exact hD
  refine W.widen (k := 6) (n := 480) (by omega) (by omega) ?_
  obtain rfl : kq1 = kq11 := ub_sa_int hK 0 1 rfl rfl
  have hK := hK.sub (tys' := [(kq1, .int)]) [0] rfl
  refine va_putF (D := (dC, dI)) (ci := 14) (v := .ref q11) (ty := .array .int) (C := RX13) (T := TX13) (N := 97) hx hb hts (fun w h => vA_in _ w (in_X13 w h)) tyX13 tyX13_ok nmX13 hown hK hP hD hS 0 rfl rfl 7 (by decide) (hts _ (vA_in _ _ (in_27 _ (List.mem_of_getElem? (i := 11) rfl)))) (fun _ h9 => h9) rfl hin rfl (by decide +kernel) rfl rfl (mL_lt (Nat.le_of_ble_eq_true rfl)) dX13_init_49 (fun H locs hP hD hS => ?_)
  replace hP : va_P (dC, dI) vwCl ((h, .inr (14, (mL g10).set 7 (.ref q11))) :: wq11) H := hP
  replace hD : va_D A ((h, .inr (14, (mL g10).set 7 (.ref q11))) :: wq11) := hD
  obtain ⟨g12, eg12⟩ : ∃ z9, z9 = va_up g10 7 (.ref q11) := ⟨_, rfl⟩
  rw [mL_upd, ← eg12] at hP hD
  refine lv_aload_n hx hb dX13_init_52 rfl (lv_at hl 0 rfl) ?_
  refine lv_sipush (v := 200) hx hb dX13_init_53 (by decide) ?_
  refine va_newa (atype := .byte) (ty := .byte) (N' := 200) (a0 := (200, .inl (fun _ => (0 : Int32)))) hx hb (hts _ (vA_in _ _ (in_32 _ (List.mem_of_getElem? (i := 6) rfl)))) rfl hK hP hD hS hA (fun _ => rfl) (by decide) (by decide) (Nat.le_of_ble_eq_true rfl) (Nat.le_of_ble_eq_true rfl) (Nat.le_of_ble_eq_true rfl) dX13_init_56 (fun q13 kq13 H hK hP hD hS => ?_)
  have hK : va_K (dC, dI) vwCl [(kq1, .int), (kq13, .byte)] s := hK
  obtain ⟨wq13, ewq13⟩ : ∃ z : va_W, z = wq11 ++ [(q13, .inl (kq13, 200, .inl (fun _ => (0 : Int32))))] := ⟨_, rfl⟩
  replace hP : va_P (dC, dI) vwCl ((h, .inr (14, mL g12)) :: wq13) H := by rw [ewq13]; exact hP
  replace hD : va_D A ((h, .inr (14, mL g12)) :: wq13) := by rw [ewq13]; exact hD
  refine W.widen (k := 7) (n := 680) (by omega) (by omega) ?_
  refine va_putF (D := (dC, dI)) (ci := 14) (v := .ref q13) (ty := .array .byte) (C := RX13) (T := TX13) (N := 97) hx hb hts (fun w h => vA_in _ w (in_X13 w h)) tyX13 tyX13_ok nmX13 hown hK hP hD hS 0 rfl rfl 10 (by decide) (hts _ (vA_in _ _ (in_31 _ (List.mem_of_getElem? (i := 29) rfl)))) (fun _ h9 => h9) rfl hin rfl (by decide +kernel) rfl rfl (mL_lt (Nat.le_of_ble_eq_true rfl)) dX13_init_58 (fun H locs hP hD hS => ?_)
  replace hP : va_P (dC, dI) vwCl ((h, .inr (14, (mL g12).set 10 (.ref q13))) :: wq13) H := hP
  replace hD : va_D A ((h, .inr (14, (mL g12).set 10 (.ref q13))) :: wq13) := hD
  obtain ⟨g14, eg14⟩ : ∃ z9, z9 = va_up g12 10 (.ref q13) := ⟨_, rfl⟩
  rw [mL_upd, ← eg14] at hP hD
  refine lv_aload_n hx hb dX13_init_61 rfl (lv_at hl 0 rfl) ?_
  refine lv_sipush (v := 3200) hx hb dX13_init_62 (by decide) ?_
  refine va_newa (atype := .byte) (ty := .byte) (N' := 3200) (a0 := (3200, .inl (fun _ => (0 : Int32)))) hx hb (hts _ (vA_in _ _ (in_32 _ (List.mem_of_getElem? (i := 6) rfl)))) rfl hK hP hD hS hA (fun _ => rfl) (by decide) (by decide) (Nat.le_of_ble_eq_true rfl) (Nat.le_of_ble_eq_true rfl) (Nat.le_of_ble_eq_true rfl) dX13_init_65 (fun q15 kq15 H hK hP hD hS => ?_)
  have hK : va_K (dC, dI) vwCl [(kq1, .int), (kq13, .byte), (kq15, .byte)] s := hK
  obtain ⟨wq15, ewq15⟩ : ∃ z : va_W, z = wq13 ++ [(q15, .inl (kq15, 3200, .inl (fun _ => (0 : Int32))))] := ⟨_, rfl⟩
  replace hP : va_P (dC, dI) vwCl ((h, .inr (14, mL g14)) :: wq15) H := by rw [ewq15]; exact hP
  replace hD : va_D A ((h, .inr (14, mL g14)) :: wq15) := by rw [ewq15]; exact hD
  refine W.widen (k := 8) (n := 3880) (by omega) (by omega) ?_
  obtain rfl : kq13 = kq15 := ub_sa_byte hK 1 2 rfl rfl
  have hK := hK.sub (tys' := [(kq1, .int), (kq13, .byte)]) [0, 1] rfl
  refine va_putF (D := (dC, dI)) (ci := 14) (v := .ref q15) (ty := .array .byte) (C := RX13) (T := TX13) (N := 97) hx hb hts (fun w h => vA_in _ w (in_X13 w h)) tyX13 tyX13_ok nmX13 hown hK hP hD hS 0 rfl rfl 11 (by decide) (hts _ (vA_in _ _ (in_28 _ (List.mem_of_getElem? (i := 38) rfl)))) (fun _ h9 => h9) rfl hin rfl (by decide +kernel) rfl rfl (mL_lt (Nat.le_of_ble_eq_true rfl)) dX13_init_67 (fun H locs hP hD hS => ?_)
  replace hP : va_P (dC, dI) vwCl ((h, .inr (14, (mL g14).set 11 (.ref q15))) :: wq15) H := hP
  replace hD : va_D A ((h, .inr (14, (mL g14).set 11 (.ref q15))) :: wq15) := hD
  obtain ⟨g16, eg16⟩ : ∃ z9, z9 = va_up g14 11 (.ref q15) := ⟨_, rfl⟩
  rw [mL_upd, ← eg16] at hP hD
  refine lv_aload_n hx hb dX13_init_70 rfl (lv_at hl 0 rfl) ?_
  refine lv_bipush (v := 16) hx hb dX13_init_71 (by decide) ?_
  refine va_newa (atype := .int) (ty := .int) (N' := 16) (a0 := (16, .inl (fun _ => (0 : Int32)))) hx hb (hts _ (vA_in _ _ (in_2 _ (List.mem_of_getElem? (i := 38) rfl)))) rfl hK hP hD hS hA (fun _ => rfl) (by decide) (by decide) (Nat.le_of_ble_eq_true rfl) (Nat.le_of_ble_eq_true rfl) (Nat.le_of_ble_eq_true rfl) dX13_init_73 (fun q17 kq17 H hK hP hD hS => ?_)
  have hK : va_K (dC, dI) vwCl [(kq1, .int), (kq13, .byte), (kq17, .int)] s := hK
  obtain ⟨wq17, ewq17⟩ : ∃ z : va_W, z = wq15 ++ [(q17, .inl (kq17, 16, .inl (fun _ => (0 : Int32))))] := ⟨_, rfl⟩
  replace hP : va_P (dC, dI) vwCl ((h, .inr (14, mL g16)) :: wq17) H := by rw [ewq17]; exact hP
  replace hD : va_D A ((h, .inr (14, mL g16)) :: wq17) := by rw [ewq17]; exact hD
  refine W.widen (k := 9) (n := 3896) (by omega) (by omega) ?_
  obtain rfl : kq1 = kq17 := ub_sa_int hK 0 2 rfl rfl
  have hK := hK.sub (tys' := [(kq1, .int), (kq13, .byte)]) [0, 1] rfl
  refine va_putF (D := (dC, dI)) (ci := 14) (v := .ref q17) (ty := .array .int) (C := RX13) (T := TX13) (N := 97) hx hb hts (fun w h => vA_in _ w (in_X13 w h)) tyX13 tyX13_ok nmX13 hown hK hP hD hS 0 rfl rfl 12 (by decide) (hts _ (vA_in _ _ (in_28 _ (List.mem_of_getElem? (i := 39) rfl)))) (fun _ h9 => h9) rfl hin rfl (by decide +kernel) rfl rfl (mL_lt (Nat.le_of_ble_eq_true rfl)) dX13_init_75 (fun H locs hP hD hS => ?_)
  replace hP : va_P (dC, dI) vwCl ((h, .inr (14, (mL g16).set 12 (.ref q17))) :: wq17) H := hP
  replace hD : va_D A ((h, .inr (14, (mL g16).set 12 (.ref q17))) :: wq17) := hD
  obtain ⟨g18, eg18⟩ : ∃ z9, z9 = va_up g16 12 (.ref q17) := ⟨_, rfl⟩
  rw [mL_upd, ← eg18] at hP hD
  refine lv_aload_n hx hb dX13_init_78 rfl (lv_at hl 0 rfl) ?_
  refine lv_bipush (v := 16) hx hb dX13_init_79 (by decide) ?_
  refine va_newa (atype := .int) (ty := .int) (N' := 16) (a0 := (16, .inl (fun _ => (0 : Int32)))) hx hb (hts _ (vA_in _ _ (in_2 _ (List.mem_of_getElem? (i := 38) rfl)))) rfl hK hP hD hS hA (fun _ => rfl) (by decide) (by decide) (Nat.le_of_ble_eq_true rfl) (Nat.le_of_ble_eq_true rfl) (Nat.le_of_ble_eq_true rfl) dX13_init_81 (fun q19 kq19 H hK hP hD hS => ?_)
  have hK : va_K (dC, dI) vwCl [(kq1, .int), (kq13, .byte), (kq19, .int)] s := hK
  obtain ⟨wq19, ewq19⟩ : ∃ z : va_W, z = wq17 ++ [(q19, .inl (kq19, 16, .inl (fun _ => (0 : Int32))))] := ⟨_, rfl⟩
  replace hP : va_P (dC, dI) vwCl ((h, .inr (14, mL g18)) :: wq19) H := by rw [ewq19]; exact hP
  replace hD : va_D A ((h, .inr (14, mL g18)) :: wq19) := by rw [ewq19]; exact hD
  refine W.widen (k := 10) (n := 3912) (by omega) (by omega) ?_
  obtain rfl : kq1 = kq19 := ub_sa_int hK 0 2 rfl rfl
  have hK := hK.sub (tys' := [(kq1, .int), (kq13, .byte)]) [0, 1] rfl
  refine va_putF (D := (dC, dI)) (ci := 14) (v := .ref q19) (ty := .array .int) (C := RX13) (T := TX13) (N := 97) hx hb hts (fun w h => vA_in _ w (in_X13 w h)) tyX13 tyX13_ok nmX13 hown hK hP hD hS 0 rfl rfl 13 (by decide) (hts _ (vA_in _ _ (in_29 _ (List.mem_of_getElem? (i := 7) rfl)))) (fun _ h9 => h9) rfl hin rfl (by decide +kernel) rfl rfl (mL_lt (Nat.le_of_ble_eq_true rfl)) dX13_init_83 (fun H locs hP hD hS => ?_)
  replace hP : va_P (dC, dI) vwCl ((h, .inr (14, (mL g18).set 13 (.ref q19))) :: wq19) H := hP
  replace hD : va_D A ((h, .inr (14, (mL g18).set 13 (.ref q19))) :: wq19) := hD
  obtain ⟨g20, eg20⟩ : ∃ z9, z9 = va_up g18 13 (.ref q19) := ⟨_, rfl⟩
  rw [mL_upd, ← eg20] at hP hD
  refine lv_aload_n hx hb dX13_init_86 rfl (lv_at hl 0 rfl) ?_
  refine lv_bipush (v := 16) hx hb dX13_init_87 (by decide) ?_
  refine va_newa (atype := .int) (ty := .int) (N' := 16) (a0 := (16, .inl (fun _ => (0 : Int32)))) hx hb (hts _ (vA_in _ _ (in_2 _ (List.mem_of_getElem? (i := 38) rfl)))) rfl hK hP hD hS hA (fun _ => rfl) (by decide) (by decide) (Nat.le_of_ble_eq_true rfl) (Nat.le_of_ble_eq_true rfl) (Nat.le_of_ble_eq_true rfl) dX13_init_89 (fun q21 kq21 H hK hP hD hS => ?_)
  have hK : va_K (dC, dI) vwCl [(kq1, .int), (kq13, .byte), (kq21, .int)] s := hK
  obtain ⟨wq21, ewq21⟩ : ∃ z : va_W, z = wq19 ++ [(q21, .inl (kq21, 16, .inl (fun _ => (0 : Int32))))] := ⟨_, rfl⟩
  replace hP : va_P (dC, dI) vwCl ((h, .inr (14, mL g20)) :: wq21) H := by rw [ewq21]; exact hP
  replace hD : va_D A ((h, .inr (14, mL g20)) :: wq21) := by rw [ewq21]; exact hD
  refine W.widen (k := 11) (n := 3928) (by omega) (by omega) ?_
  obtain rfl : kq1 = kq21 := ub_sa_int hK 0 2 rfl rfl
  have hK := hK.sub (tys' := [(kq1, .int), (kq13, .byte)]) [0, 1] rfl
  refine va_putF (D := (dC, dI)) (ci := 14) (v := .ref q21) (ty := .array .int) (C := RX13) (T := TX13) (N := 97) hx hb hts (fun w h => vA_in _ w (in_X13 w h)) tyX13 tyX13_ok nmX13 hown hK hP hD hS 0 rfl rfl 14 (by decide) (hts _ (vA_in _ _ (in_29 _ (List.mem_of_getElem? (i := 6) rfl)))) (fun _ h9 => h9) rfl hin rfl (by decide +kernel) rfl rfl (mL_lt (Nat.le_of_ble_eq_true rfl)) dX13_init_91 (fun H locs hP hD hS => ?_)
  replace hP : va_P (dC, dI) vwCl ((h, .inr (14, (mL g20).set 14 (.ref q21))) :: wq21) H := hP
  replace hD : va_D A ((h, .inr (14, (mL g20).set 14 (.ref q21))) :: wq21) := hD
  obtain ⟨g22, eg22⟩ : ∃ z9, z9 = va_up g20 14 (.ref q21) := ⟨_, rfl⟩
  rw [mL_upd, ← eg22] at hP hD
  refine lv_aload_n hx hb dX13_init_94 rfl (lv_at hl 0 rfl) ?_
  refine lv_sipush (v := 128) hx hb dX13_init_95 (by decide) ?_
  refine va_newa (atype := .int) (ty := .int) (N' := 128) (a0 := (128, .inl (fun _ => (0 : Int32)))) hx hb (hts _ (vA_in _ _ (in_2 _ (List.mem_of_getElem? (i := 38) rfl)))) rfl hK hP hD hS hA (fun _ => rfl) (by decide) (by decide) (Nat.le_of_ble_eq_true rfl) (Nat.le_of_ble_eq_true rfl) (Nat.le_of_ble_eq_true rfl) dX13_init_98 (fun q23 kq23 H hK hP hD hS => ?_)
  have hK : va_K (dC, dI) vwCl [(kq1, .int), (kq13, .byte), (kq23, .int)] s := hK
  obtain ⟨wq23, ewq23⟩ : ∃ z : va_W, z = wq21 ++ [(q23, .inl (kq23, 128, .inl (fun _ => (0 : Int32))))] := ⟨_, rfl⟩
  replace hP : va_P (dC, dI) vwCl ((h, .inr (14, mL g22)) :: wq23) H := by rw [ewq23]; exact hP
  replace hD : va_D A ((h, .inr (14, mL g22)) :: wq23) := by rw [ewq23]; exact hD
  refine W.widen (k := 12) (n := 4056) (by omega) (by omega) ?_
  obtain rfl : kq1 = kq23 := ub_sa_int hK 0 2 rfl rfl
  have hK := hK.sub (tys' := [(kq1, .int), (kq13, .byte)]) [0, 1] rfl
  refine va_putF (D := (dC, dI)) (ci := 14) (v := .ref q23) (ty := .array .int) (C := RX13) (T := TX13) (N := 97) hx hb hts (fun w h => vA_in _ w (in_X13 w h)) tyX13 tyX13_ok nmX13 hown hK hP hD hS 0 rfl rfl 15 (by decide) (hts _ (vA_in _ _ (in_25 _ (List.mem_of_getElem? (i := 37) rfl)))) (fun _ h9 => h9) rfl hin rfl (by decide +kernel) rfl rfl (mL_lt (Nat.le_of_ble_eq_true rfl)) dX13_init_100 (fun H locs hP hD hS => ?_)
  replace hP : va_P (dC, dI) vwCl ((h, .inr (14, (mL g22).set 15 (.ref q23))) :: wq23) H := hP
  replace hD : va_D A ((h, .inr (14, (mL g22).set 15 (.ref q23))) :: wq23) := hD
  obtain ⟨g24, eg24⟩ : ∃ z9, z9 = va_up g22 15 (.ref q23) := ⟨_, rfl⟩
  rw [mL_upd, ← eg24] at hP hD
  refine lv_aload_n hx hb dX13_init_103 rfl (lv_at hl 0 rfl) ?_
  refine lv_aload_n hx hb dX13_init_104 rfl (lv_at hl 0 rfl) ?_
  have hk9 : g24 = upL (fun j => defaultValue (tyX13 j)) [(2, .ref q1), (3, .ref q3), (4, .ref q5), (5, .ref q7), (6, .ref q9), (7, .ref q11), (10, .ref q13), (11, .ref q15), (12, .ref q17), (13, .ref q19), (14, .ref q21), (15, .ref q23)] := by rw [eg24, eg22, eg20, eg18, eg16, eg14, eg12, eg10, eg8, eg6, eg4, eg2]; rfl
  have hg24_10 : g24 10 = .ref q13 := by rw [hk9, upL_lk]; rfl
  refine va_get (D := (dC, dI)) (ci := 14) (v := .ref q13) (C := RX13) (T := TX13) (N := 97) hx hb hts (fun w h => vA_in _ w (in_X13 w h)) hown hK hP 0 rfl rfl 10 (by decide) (hts _ (vA_in _ _ (in_31 _ (List.mem_of_getElem? (i := 29) rfl)))) (fun _ h9 => h9) (mL_some (Nat.le_of_ble_eq_true rfl) hg24_10) dX13_init_105 ?_
  refine va_put (D := (dC, dI)) (ci := 14) (v := .ref q13) (ty := .array .byte) (C := RX13) (T := TX13) (N := 97) hx hb hts (fun w h => vA_in _ w (in_X13 w h)) tyX13 tyX13_ok nmX13 hown hK hP hD hS 0 rfl rfl 18 (by decide) (hts _ (vA_in _ _ (in_26 _ (List.mem_of_getElem? (i := 0) rfl)))) (fun _ h9 => h9) rfl (by decide +kernel) rfl rfl (mL_lt (Nat.le_of_ble_eq_true rfl)) dX13_init_108 (fun H locs hP hD hS => ?_)
  replace hP : va_P (dC, dI) vwCl ((h, .inr (14, (mL g24).set 18 (.ref q13))) :: wq23) H := hP
  replace hD : va_D A ((h, .inr (14, (mL g24).set 18 (.ref q13))) :: wq23) := hD
  obtain ⟨g25, eg25⟩ : ∃ z9, z9 = va_up g24 18 (.ref q13) := ⟨_, rfl⟩
  rw [mL_upd, ← eg25] at hP hD
  refine lv_aload_n hx hb dX13_init_111 rfl (lv_at hl 0 rfl) ?_
  refine lv_bipush (v := 20) hx hb dX13_init_112 (by decide) ?_
  refine va_newa (atype := .int) (ty := .int) (N' := 20) (a0 := (20, .inl (fun _ => (0 : Int32)))) hx hb (hts _ (vA_in _ _ (in_2 _ (List.mem_of_getElem? (i := 38) rfl)))) rfl hK hP hD hS hA (fun _ => rfl) (by decide) (by decide) (Nat.le_of_ble_eq_true rfl) (Nat.le_of_ble_eq_true rfl) (Nat.le_of_ble_eq_true rfl) dX13_init_114 (fun q26 kq26 H hK hP hD hS => ?_)
  have hK : va_K (dC, dI) vwCl [(kq1, .int), (kq13, .byte), (kq26, .int)] s := hK
  obtain ⟨wq26, ewq26⟩ : ∃ z : va_W, z = wq23 ++ [(q26, .inl (kq26, 20, .inl (fun _ => (0 : Int32))))] := ⟨_, rfl⟩
  replace hP : va_P (dC, dI) vwCl ((h, .inr (14, mL g25)) :: wq26) H := by rw [ewq26]; exact hP
  replace hD : va_D A ((h, .inr (14, mL g25)) :: wq26) := by rw [ewq26]; exact hD
  refine W.widen (k := 13) (n := 4076) (by omega) (by omega) ?_
  obtain rfl : kq1 = kq26 := ub_sa_int hK 0 2 rfl rfl
  have hK := hK.sub (tys' := [(kq1, .int), (kq13, .byte)]) [0, 1] rfl
  refine va_putF (D := (dC, dI)) (ci := 14) (v := .ref q26) (ty := .array .int) (C := RX13) (T := TX13) (N := 97) hx hb hts (fun w h => vA_in _ w (in_X13 w h)) tyX13 tyX13_ok nmX13 hown hK hP hD hS 0 rfl rfl 27 (by decide) (hts _ (vA_in _ _ (in_27 _ (List.mem_of_getElem? (i := 32) rfl)))) (fun _ h9 => h9) rfl hin rfl (by decide +kernel) rfl rfl (mL_lt (Nat.le_of_ble_eq_true rfl)) dX13_init_116 (fun H locs hP hD hS => ?_)
  replace hP : va_P (dC, dI) vwCl ((h, .inr (14, (mL g25).set 27 (.ref q26))) :: wq26) H := hP
  replace hD : va_D A ((h, .inr (14, (mL g25).set 27 (.ref q26))) :: wq26) := hD
  obtain ⟨g27, eg27⟩ : ∃ z9, z9 = va_up g25 27 (.ref q26) := ⟨_, rfl⟩
  rw [mL_upd, ← eg27] at hP hD
  refine lv_aload_n hx hb dX13_init_119 rfl (lv_at hl 0 rfl) ?_
  refine lv_bipush (v := 20) hx hb dX13_init_120 (by decide) ?_
  refine va_newa (atype := .int) (ty := .int) (N' := 20) (a0 := (20, .inl (fun _ => (0 : Int32)))) hx hb (hts _ (vA_in _ _ (in_2 _ (List.mem_of_getElem? (i := 38) rfl)))) rfl hK hP hD hS hA (fun _ => rfl) (by decide) (by decide) (Nat.le_of_ble_eq_true rfl) (Nat.le_of_ble_eq_true rfl) (Nat.le_of_ble_eq_true rfl) dX13_init_122 (fun q28 kq28 H hK hP hD hS => ?_)
  have hK : va_K (dC, dI) vwCl [(kq1, .int), (kq13, .byte), (kq28, .int)] s := hK
  obtain ⟨wq28, ewq28⟩ : ∃ z : va_W, z = wq26 ++ [(q28, .inl (kq28, 20, .inl (fun _ => (0 : Int32))))] := ⟨_, rfl⟩
  replace hP : va_P (dC, dI) vwCl ((h, .inr (14, mL g27)) :: wq28) H := by rw [ewq28]; exact hP
  replace hD : va_D A ((h, .inr (14, mL g27)) :: wq28) := by rw [ewq28]; exact hD
  refine W.widen (k := 14) (n := 4096) (by omega) (by omega) ?_
  obtain rfl : kq1 = kq28 := ub_sa_int hK 0 2 rfl rfl
  have hK := hK.sub (tys' := [(kq1, .int), (kq13, .byte)]) [0, 1] rfl
  refine va_putF (D := (dC, dI)) (ci := 14) (v := .ref q28) (ty := .array .int) (C := RX13) (T := TX13) (N := 97) hx hb hts (fun w h => vA_in _ w (in_X13 w h)) tyX13 tyX13_ok nmX13 hown hK hP hD hS 0 rfl rfl 28 (by decide) (hts _ (vA_in _ _ (in_30 _ (List.mem_of_getElem? (i := 10) rfl)))) (fun _ h9 => h9) rfl hin rfl (by decide +kernel) rfl rfl (mL_lt (Nat.le_of_ble_eq_true rfl)) dX13_init_124 (fun H locs hP hD hS => ?_)
  replace hP : va_P (dC, dI) vwCl ((h, .inr (14, (mL g27).set 28 (.ref q28))) :: wq28) H := hP
  replace hD : va_D A ((h, .inr (14, (mL g27).set 28 (.ref q28))) :: wq28) := hD
  obtain ⟨g29, eg29⟩ : ∃ z9, z9 = va_up g27 28 (.ref q28) := ⟨_, rfl⟩
  rw [mL_upd, ← eg29] at hP hD
  refine lv_aload_n hx hb dX13_init_127 rfl (lv_at hl 0 rfl) ?_
  refine lv_bipush (v := 20) hx hb dX13_init_128 (by decide) ?_
  refine va_newa (atype := .int) (ty := .int) (N' := 20) (a0 := (20, .inl (fun _ => (0 : Int32)))) hx hb (hts _ (vA_in _ _ (in_2 _ (List.mem_of_getElem? (i := 38) rfl)))) rfl hK hP hD hS hA (fun _ => rfl) (by decide) (by decide) (Nat.le_of_ble_eq_true rfl) (Nat.le_of_ble_eq_true rfl) (Nat.le_of_ble_eq_true rfl) dX13_init_130 (fun q30 kq30 H hK hP hD hS => ?_)
  have hK : va_K (dC, dI) vwCl [(kq1, .int), (kq13, .byte), (kq30, .int)] s := hK
  obtain ⟨wq30, ewq30⟩ : ∃ z : va_W, z = wq28 ++ [(q30, .inl (kq30, 20, .inl (fun _ => (0 : Int32))))] := ⟨_, rfl⟩
  replace hP : va_P (dC, dI) vwCl ((h, .inr (14, mL g29)) :: wq30) H := by rw [ewq30]; exact hP
  replace hD : va_D A ((h, .inr (14, mL g29)) :: wq30) := by rw [ewq30]; exact hD
  refine W.widen (k := 15) (n := 4116) (by omega) (by omega) ?_
  obtain rfl : kq1 = kq30 := ub_sa_int hK 0 2 rfl rfl
  have hK := hK.sub (tys' := [(kq1, .int), (kq13, .byte)]) [0, 1] rfl
  refine va_putF (D := (dC, dI)) (ci := 14) (v := .ref q30) (ty := .array .int) (C := RX13) (T := TX13) (N := 97) hx hb hts (fun w h => vA_in _ w (in_X13 w h)) tyX13 tyX13_ok nmX13 hown hK hP hD hS 0 rfl rfl 29 (by decide) (hts _ (vA_in _ _ (in_27 _ (List.mem_of_getElem? (i := 33) rfl)))) (fun _ h9 => h9) rfl hin rfl (by decide +kernel) rfl rfl (mL_lt (Nat.le_of_ble_eq_true rfl)) dX13_init_132 (fun H locs hP hD hS => ?_)
  replace hP : va_P (dC, dI) vwCl ((h, .inr (14, (mL g29).set 29 (.ref q30))) :: wq30) H := hP
  replace hD : va_D A ((h, .inr (14, (mL g29).set 29 (.ref q30))) :: wq30) := hD
  obtain ⟨g31, eg31⟩ : ∃ z9, z9 = va_up g29 29 (.ref q30) := ⟨_, rfl⟩
  rw [mL_upd, ← eg31] at hP hD
  refine lv_aload_n hx hb dX13_init_135 rfl (lv_at hl 0 rfl) ?_
  refine lv_bipush (v := 20) hx hb dX13_init_136 (by decide) ?_
  refine va_newa (atype := .int) (ty := .int) (N' := 20) (a0 := (20, .inl (fun _ => (0 : Int32)))) hx hb (hts _ (vA_in _ _ (in_2 _ (List.mem_of_getElem? (i := 38) rfl)))) rfl hK hP hD hS hA (fun _ => rfl) (by decide) (by decide) (Nat.le_of_ble_eq_true rfl) (Nat.le_of_ble_eq_true rfl) (Nat.le_of_ble_eq_true rfl) dX13_init_138 (fun q32 kq32 H hK hP hD hS => ?_)
  have hK : va_K (dC, dI) vwCl [(kq1, .int), (kq13, .byte), (kq32, .int)] s := hK
  obtain ⟨wq32, ewq32⟩ : ∃ z : va_W, z = wq30 ++ [(q32, .inl (kq32, 20, .inl (fun _ => (0 : Int32))))] := ⟨_, rfl⟩
  replace hP : va_P (dC, dI) vwCl ((h, .inr (14, mL g31)) :: wq32) H := by rw [ewq32]; exact hP
  replace hD : va_D A ((h, .inr (14, mL g31)) :: wq32) := by rw [ewq32]; exact hD
  refine W.widen (k := 16) (n := 4136) (by omega) (by omega) ?_
  obtain rfl : kq1 = kq32 := ub_sa_int hK 0 2 rfl rfl
  have hK := hK.sub (tys' := [(kq1, .int), (kq13, .byte)]) [0, 1] rfl
  refine va_putF (D := (dC, dI)) (ci := 14) (v := .ref q32) (ty := .array .int) (C := RX13) (T := TX13) (N := 97) hx hb hts (fun w h => vA_in _ w (in_X13 w h)) tyX13 tyX13_ok nmX13 hown hK hP hD hS 0 rfl rfl 30 (by decide) (hts _ (vA_in _ _ (in_30 _ (List.mem_of_getElem? (i := 32) rfl)))) (fun _ h9 => h9) rfl hin rfl (by decide +kernel) rfl rfl (mL_lt (Nat.le_of_ble_eq_true rfl)) dX13_init_140 (fun H locs hP hD hS => ?_)
  replace hP : va_P (dC, dI) vwCl ((h, .inr (14, (mL g31).set 30 (.ref q32))) :: wq32) H := hP
  replace hD : va_D A ((h, .inr (14, (mL g31).set 30 (.ref q32))) :: wq32) := hD
  obtain ⟨g33, eg33⟩ : ∃ z9, z9 = va_up g31 30 (.ref q32) := ⟨_, rfl⟩
  rw [mL_upd, ← eg33] at hP hD
  refine lv_aload_n hx hb dX13_init_143 rfl (lv_at hl 0 rfl) ?_
  refine lv_bipush (v := 20) hx hb dX13_init_144 (by decide) ?_
  refine va_newa (atype := .int) (ty := .int) (N' := 20) (a0 := (20, .inl (fun _ => (0 : Int32)))) hx hb (hts _ (vA_in _ _ (in_2 _ (List.mem_of_getElem? (i := 38) rfl)))) rfl hK hP hD hS hA (fun _ => rfl) (by decide) (by decide) (Nat.le_of_ble_eq_true rfl) (Nat.le_of_ble_eq_true rfl) (Nat.le_of_ble_eq_true rfl) dX13_init_146 (fun q34 kq34 H hK hP hD hS => ?_)
  have hK : va_K (dC, dI) vwCl [(kq1, .int), (kq13, .byte), (kq34, .int)] s := hK
  obtain ⟨wq34, ewq34⟩ : ∃ z : va_W, z = wq32 ++ [(q34, .inl (kq34, 20, .inl (fun _ => (0 : Int32))))] := ⟨_, rfl⟩
  replace hP : va_P (dC, dI) vwCl ((h, .inr (14, mL g33)) :: wq34) H := by rw [ewq34]; exact hP
  replace hD : va_D A ((h, .inr (14, mL g33)) :: wq34) := by rw [ewq34]; exact hD
  refine W.widen (k := 17) (n := 4156) (by omega) (by omega) ?_
  obtain rfl : kq1 = kq34 := ub_sa_int hK 0 2 rfl rfl
  have hK := hK.sub (tys' := [(kq1, .int), (kq13, .byte)]) [0, 1] rfl
  refine va_putF (D := (dC, dI)) (ci := 14) (v := .ref q34) (ty := .array .int) (C := RX13) (T := TX13) (N := 97) hx hb hts (fun w h => vA_in _ w (in_X13 w h)) tyX13 tyX13_ok nmX13 hown hK hP hD hS 0 rfl rfl 31 (by decide) (hts _ (vA_in _ _ (in_30 _ (List.mem_of_getElem? (i := 33) rfl)))) (fun _ h9 => h9) rfl hin rfl (by decide +kernel) rfl rfl (mL_lt (Nat.le_of_ble_eq_true rfl)) dX13_init_148 (fun H locs hP hD hS => ?_)
  replace hP : va_P (dC, dI) vwCl ((h, .inr (14, (mL g33).set 31 (.ref q34))) :: wq34) H := hP
  replace hD : va_D A ((h, .inr (14, (mL g33).set 31 (.ref q34))) :: wq34) := hD
  obtain ⟨g35, eg35⟩ : ∃ z9, z9 = va_up g33 31 (.ref q34) := ⟨_, rfl⟩
  rw [mL_upd, ← eg35] at hP hD
  refine lv_aload_n hx hb dX13_init_151 rfl (lv_at hl 0 rfl) ?_
  refine lv_bipush (v := 20) hx hb dX13_init_152 (by decide) ?_
  refine va_newa (atype := .int) (ty := .int) (N' := 20) (a0 := (20, .inl (fun _ => (0 : Int32)))) hx hb (hts _ (vA_in _ _ (in_2 _ (List.mem_of_getElem? (i := 38) rfl)))) rfl hK hP hD hS hA (fun _ => rfl) (by decide) (by decide) (Nat.le_of_ble_eq_true rfl) (Nat.le_of_ble_eq_true rfl) (Nat.le_of_ble_eq_true rfl) dX13_init_154 (fun q36 kq36 H hK hP hD hS => ?_)
  have hK : va_K (dC, dI) vwCl [(kq1, .int), (kq13, .byte), (kq36, .int)] s := hK
  obtain ⟨wq36, ewq36⟩ : ∃ z : va_W, z = wq34 ++ [(q36, .inl (kq36, 20, .inl (fun _ => (0 : Int32))))] := ⟨_, rfl⟩
  replace hP : va_P (dC, dI) vwCl ((h, .inr (14, mL g35)) :: wq36) H := by rw [ewq36]; exact hP
  replace hD : va_D A ((h, .inr (14, mL g35)) :: wq36) := by rw [ewq36]; exact hD
  refine W.widen (k := 18) (n := 4176) (by omega) (by omega) ?_
  obtain rfl : kq1 = kq36 := ub_sa_int hK 0 2 rfl rfl
  have hK := hK.sub (tys' := [(kq1, .int), (kq13, .byte)]) [0, 1] rfl
  refine va_putF (D := (dC, dI)) (ci := 14) (v := .ref q36) (ty := .array .int) (C := RX13) (T := TX13) (N := 97) hx hb hts (fun w h => vA_in _ w (in_X13 w h)) tyX13 tyX13_ok nmX13 hown hK hP hD hS 0 rfl rfl 32 (by decide) (hts _ (vA_in _ _ (in_30 _ (List.mem_of_getElem? (i := 34) rfl)))) (fun _ h9 => h9) rfl hin rfl (by decide +kernel) rfl rfl (mL_lt (Nat.le_of_ble_eq_true rfl)) dX13_init_156 (fun H locs hP hD hS => ?_)
  replace hP : va_P (dC, dI) vwCl ((h, .inr (14, (mL g35).set 32 (.ref q36))) :: wq36) H := hP
  replace hD : va_D A ((h, .inr (14, (mL g35).set 32 (.ref q36))) :: wq36) := hD
  obtain ⟨g37, eg37⟩ : ∃ z9, z9 = va_up g35 32 (.ref q36) := ⟨_, rfl⟩
  rw [mL_upd, ← eg37] at hP hD
  refine lv_aload_n hx hb dX13_init_159 rfl (lv_at hl 0 rfl) ?_
  refine lv_bipush (v := 20) hx hb dX13_init_160 (by decide) ?_
  refine va_newa (atype := .int) (ty := .int) (N' := 20) (a0 := (20, .inl (fun _ => (0 : Int32)))) hx hb (hts _ (vA_in _ _ (in_2 _ (List.mem_of_getElem? (i := 38) rfl)))) rfl hK hP hD hS hA (fun _ => rfl) (by decide) (by decide) (Nat.le_of_ble_eq_true rfl) (Nat.le_of_ble_eq_true rfl) (Nat.le_of_ble_eq_true rfl) dX13_init_162 (fun q38 kq38 H hK hP hD hS => ?_)
  have hK : va_K (dC, dI) vwCl [(kq1, .int), (kq13, .byte), (kq38, .int)] s := hK
  obtain ⟨wq38, ewq38⟩ : ∃ z : va_W, z = wq36 ++ [(q38, .inl (kq38, 20, .inl (fun _ => (0 : Int32))))] := ⟨_, rfl⟩
  replace hP : va_P (dC, dI) vwCl ((h, .inr (14, mL g37)) :: wq38) H := by rw [ewq38]; exact hP
  replace hD : va_D A ((h, .inr (14, mL g37)) :: wq38) := by rw [ewq38]; exact hD
  refine W.widen (k := 19) (n := 4196) (by omega) (by omega) ?_
  obtain rfl : kq1 = kq38 := ub_sa_int hK 0 2 rfl rfl
  have hK := hK.sub (tys' := [(kq1, .int), (kq13, .byte)]) [0, 1] rfl
  refine va_putF (D := (dC, dI)) (ci := 14) (v := .ref q38) (ty := .array .int) (C := RX13) (T := TX13) (N := 97) hx hb hts (fun w h => vA_in _ w (in_X13 w h)) tyX13 tyX13_ok nmX13 hown hK hP hD hS 0 rfl rfl 33 (by decide) (hts _ (vA_in _ _ (in_25 _ (List.mem_of_getElem? (i := 33) rfl)))) (fun _ h9 => h9) rfl hin rfl (by decide +kernel) rfl rfl (mL_lt (Nat.le_of_ble_eq_true rfl)) dX13_init_164 (fun H locs hP hD hS => ?_)
  replace hP : va_P (dC, dI) vwCl ((h, .inr (14, (mL g37).set 33 (.ref q38))) :: wq38) H := hP
  replace hD : va_D A ((h, .inr (14, (mL g37).set 33 (.ref q38))) :: wq38) := hD
  obtain ⟨g39, eg39⟩ : ∃ z9, z9 = va_up g37 33 (.ref q38) := ⟨_, rfl⟩
  rw [mL_upd, ← eg39] at hP hD
  refine lv_aload_n hx hb dX13_init_167 rfl (lv_at hl 0 rfl) ?_
  refine lv_bipush (v := 20) hx hb dX13_init_168 (by decide) ?_
  refine va_newa (atype := .int) (ty := .int) (N' := 20) (a0 := (20, .inl (fun _ => (0 : Int32)))) hx hb (hts _ (vA_in _ _ (in_2 _ (List.mem_of_getElem? (i := 38) rfl)))) rfl hK hP hD hS hA (fun _ => rfl) (by decide) (by decide) (Nat.le_of_ble_eq_true rfl) (Nat.le_of_ble_eq_true rfl) (Nat.le_of_ble_eq_true rfl) dX13_init_170 (fun q40 kq40 H hK hP hD hS => ?_)
  have hK : va_K (dC, dI) vwCl [(kq1, .int), (kq13, .byte), (kq40, .int)] s := hK
  obtain ⟨wq40, ewq40⟩ : ∃ z : va_W, z = wq38 ++ [(q40, .inl (kq40, 20, .inl (fun _ => (0 : Int32))))] := ⟨_, rfl⟩
  replace hP : va_P (dC, dI) vwCl ((h, .inr (14, mL g39)) :: wq40) H := by rw [ewq40]; exact hP
  replace hD : va_D A ((h, .inr (14, mL g39)) :: wq40) := by rw [ewq40]; exact hD
  refine W.widen (k := 20) (n := 4216) (by omega) (by omega) ?_
  obtain rfl : kq1 = kq40 := ub_sa_int hK 0 2 rfl rfl
  have hK := hK.sub (tys' := [(kq1, .int), (kq13, .byte)]) [0, 1] rfl
  refine va_putF (D := (dC, dI)) (ci := 14) (v := .ref q40) (ty := .array .int) (C := RX13) (T := TX13) (N := 97) hx hb hts (fun w h => vA_in _ w (in_X13 w h)) tyX13 tyX13_ok nmX13 hown hK hP hD hS 0 rfl rfl 34 (by decide) (hts _ (vA_in _ _ (in_24 _ (List.mem_of_getElem? (i := 11) rfl)))) (fun _ h9 => h9) rfl hin rfl (by decide +kernel) rfl rfl (mL_lt (Nat.le_of_ble_eq_true rfl)) dX13_init_172 (fun H locs hP hD hS => ?_)
  replace hP : va_P (dC, dI) vwCl ((h, .inr (14, (mL g39).set 34 (.ref q40))) :: wq40) H := hP
  replace hD : va_D A ((h, .inr (14, (mL g39).set 34 (.ref q40))) :: wq40) := hD
  obtain ⟨g41, eg41⟩ : ∃ z9, z9 = va_up g39 34 (.ref q40) := ⟨_, rfl⟩
  rw [mL_upd, ← eg41] at hP hD
  refine lv_aload_n hx hb dX13_init_175 rfl (lv_at hl 0 rfl) ?_
  refine lv_sipush (v := 320) hx hb dX13_init_176 (by decide) ?_
  refine va_newa (atype := .int) (ty := .int) (N' := 320) (a0 := (320, .inl (fun _ => (0 : Int32)))) hx hb (hts _ (vA_in _ _ (in_2 _ (List.mem_of_getElem? (i := 38) rfl)))) rfl hK hP hD hS hA (fun _ => rfl) (by decide) (by decide) (Nat.le_of_ble_eq_true rfl) (Nat.le_of_ble_eq_true rfl) (Nat.le_of_ble_eq_true rfl) dX13_init_179 (fun q42 kq42 H hK hP hD hS => ?_)
  have hK : va_K (dC, dI) vwCl [(kq1, .int), (kq13, .byte), (kq42, .int)] s := hK
  obtain ⟨wq42, ewq42⟩ : ∃ z : va_W, z = wq40 ++ [(q42, .inl (kq42, 320, .inl (fun _ => (0 : Int32))))] := ⟨_, rfl⟩
  replace hP : va_P (dC, dI) vwCl ((h, .inr (14, mL g41)) :: wq42) H := by rw [ewq42]; exact hP
  replace hD : va_D A ((h, .inr (14, mL g41)) :: wq42) := by rw [ewq42]; exact hD
  refine W.widen (k := 21) (n := 4536) (by omega) (by omega) ?_
  obtain rfl : kq1 = kq42 := ub_sa_int hK 0 2 rfl rfl
  have hK := hK.sub (tys' := [(kq1, .int), (kq13, .byte)]) [0, 1] rfl
  refine va_putF (D := (dC, dI)) (ci := 14) (v := .ref q42) (ty := .array .int) (C := RX13) (T := TX13) (N := 97) hx hb hts (fun w h => vA_in _ w (in_X13 w h)) tyX13 tyX13_ok nmX13 hown hK hP hD hS 0 rfl rfl 35 (by decide) (hts _ (vA_in _ _ (in_24 _ (List.mem_of_getElem? (i := 39) rfl)))) (fun _ h9 => h9) rfl hin rfl (by decide +kernel) rfl rfl (mL_lt (Nat.le_of_ble_eq_true rfl)) dX13_init_181 (fun H locs hP hD hS => ?_)
  replace hP : va_P (dC, dI) vwCl ((h, .inr (14, (mL g41).set 35 (.ref q42))) :: wq42) H := hP
  replace hD : va_D A ((h, .inr (14, (mL g41).set 35 (.ref q42))) :: wq42) := hD
  obtain ⟨g43, eg43⟩ : ∃ z9, z9 = va_up g41 35 (.ref q42) := ⟨_, rfl⟩
  rw [mL_upd, ← eg43] at hP hD
  refine lv_aload_n hx hb dX13_init_184 rfl (lv_at hl 0 rfl) ?_
  refine lv_sipush (v := 320) hx hb dX13_init_185 (by decide) ?_
  refine va_newa (atype := .int) (ty := .int) (N' := 320) (a0 := (320, .inl (fun _ => (0 : Int32)))) hx hb (hts _ (vA_in _ _ (in_2 _ (List.mem_of_getElem? (i := 38) rfl)))) rfl hK hP hD hS hA (fun _ => rfl) (by decide) (by decide) (Nat.le_of_ble_eq_true rfl) (Nat.le_of_ble_eq_true rfl) (Nat.le_of_ble_eq_true rfl) dX13_init_188 (fun q44 kq44 H hK hP hD hS => ?_)
  have hK : va_K (dC, dI) vwCl [(kq1, .int), (kq13, .byte), (kq44, .int)] s := hK
  obtain ⟨wq44, ewq44⟩ : ∃ z : va_W, z = wq42 ++ [(q44, .inl (kq44, 320, .inl (fun _ => (0 : Int32))))] := ⟨_, rfl⟩
  replace hP : va_P (dC, dI) vwCl ((h, .inr (14, mL g43)) :: wq44) H := by rw [ewq44]; exact hP
  replace hD : va_D A ((h, .inr (14, mL g43)) :: wq44) := by rw [ewq44]; exact hD
  refine W.widen (k := 22) (n := 4856) (by omega) (by omega) ?_
  obtain rfl : kq1 = kq44 := ub_sa_int hK 0 2 rfl rfl
  have hK := hK.sub (tys' := [(kq1, .int), (kq13, .byte)]) [0, 1] rfl
  refine va_putF (D := (dC, dI)) (ci := 14) (v := .ref q44) (ty := .array .int) (C := RX13) (T := TX13) (N := 97) hx hb hts (fun w h => vA_in _ w (in_X13 w h)) tyX13 tyX13_ok nmX13 hown hK hP hD hS 0 rfl rfl 36 (by decide) (hts _ (vA_in _ _ (in_32 _ (List.mem_of_getElem? (i := 7) rfl)))) (fun _ h9 => h9) rfl hin rfl (by decide +kernel) rfl rfl (mL_lt (Nat.le_of_ble_eq_true rfl)) dX13_init_190 (fun H locs hP hD hS => ?_)
  replace hP : va_P (dC, dI) vwCl ((h, .inr (14, (mL g43).set 36 (.ref q44))) :: wq44) H := hP
  replace hD : va_D A ((h, .inr (14, (mL g43).set 36 (.ref q44))) :: wq44) := hD
  obtain ⟨g45, eg45⟩ : ∃ z9, z9 = va_up g43 36 (.ref q44) := ⟨_, rfl⟩
  rw [mL_upd, ← eg45] at hP hD
  refine lv_aload_n hx hb dX13_init_193 rfl (lv_at hl 0 rfl) ?_
  refine lv_sipush (v := 320) hx hb dX13_init_194 (by decide) ?_
  refine va_newa (atype := .int) (ty := .int) (N' := 320) (a0 := (320, .inl (fun _ => (0 : Int32)))) hx hb (hts _ (vA_in _ _ (in_2 _ (List.mem_of_getElem? (i := 38) rfl)))) rfl hK hP hD hS hA (fun _ => rfl) (by decide) (by decide) (Nat.le_of_ble_eq_true rfl) (Nat.le_of_ble_eq_true rfl) (Nat.le_of_ble_eq_true rfl) dX13_init_197 (fun q46 kq46 H hK hP hD hS => ?_)
  have hK : va_K (dC, dI) vwCl [(kq1, .int), (kq13, .byte), (kq46, .int)] s := hK
  obtain ⟨wq46, ewq46⟩ : ∃ z : va_W, z = wq44 ++ [(q46, .inl (kq46, 320, .inl (fun _ => (0 : Int32))))] := ⟨_, rfl⟩
  replace hP : va_P (dC, dI) vwCl ((h, .inr (14, mL g45)) :: wq46) H := by rw [ewq46]; exact hP
  replace hD : va_D A ((h, .inr (14, mL g45)) :: wq46) := by rw [ewq46]; exact hD
  refine W.widen (k := 23) (n := 5176) (by omega) (by omega) ?_
  obtain rfl : kq1 = kq46 := ub_sa_int hK 0 2 rfl rfl
  have hK := hK.sub (tys' := [(kq1, .int), (kq13, .byte)]) [0, 1] rfl
  refine va_putF (D := (dC, dI)) (ci := 14) (v := .ref q46) (ty := .array .int) (C := RX13) (T := TX13) (N := 97) hx hb hts (fun w h => vA_in _ w (in_X13 w h)) tyX13 tyX13_ok nmX13 hown hK hP hD hS 0 rfl rfl 37 (by decide) (hts _ (vA_in _ _ (in_32 _ (List.mem_of_getElem? (i := 8) rfl)))) (fun _ h9 => h9) rfl hin rfl (by decide +kernel) rfl rfl (mL_lt (Nat.le_of_ble_eq_true rfl)) dX13_init_199 (fun H locs hP hD hS => ?_)
  replace hP : va_P (dC, dI) vwCl ((h, .inr (14, (mL g45).set 37 (.ref q46))) :: wq46) H := hP
  replace hD : va_D A ((h, .inr (14, (mL g45).set 37 (.ref q46))) :: wq46) := hD
  obtain ⟨g47, eg47⟩ : ∃ z9, z9 = va_up g45 37 (.ref q46) := ⟨_, rfl⟩
  rw [mL_upd, ← eg47] at hP hD
  refine lv_aload_n hx hb dX13_init_202 rfl (lv_at hl 0 rfl) ?_
  refine lv_sipush (v := 300) hx hb dX13_init_203 (by decide) ?_
  refine va_newa (atype := .int) (ty := .int) (N' := 300) (a0 := (300, .inl (fun _ => (0 : Int32)))) hx hb (hts _ (vA_in _ _ (in_2 _ (List.mem_of_getElem? (i := 38) rfl)))) rfl hK hP hD hS hA (fun _ => rfl) (by decide) (by decide) (Nat.le_of_ble_eq_true rfl) (Nat.le_of_ble_eq_true rfl) (Nat.le_of_ble_eq_true rfl) dX13_init_206 (fun q48 kq48 H hK hP hD hS => ?_)
  have hK : va_K (dC, dI) vwCl [(kq1, .int), (kq13, .byte), (kq48, .int)] s := hK
  obtain ⟨wq48, ewq48⟩ : ∃ z : va_W, z = wq46 ++ [(q48, .inl (kq48, 300, .inl (fun _ => (0 : Int32))))] := ⟨_, rfl⟩
  replace hP : va_P (dC, dI) vwCl ((h, .inr (14, mL g47)) :: wq48) H := by rw [ewq48]; exact hP
  replace hD : va_D A ((h, .inr (14, mL g47)) :: wq48) := by rw [ewq48]; exact hD
  refine W.widen (k := 24) (n := 5476) (by omega) (by omega) ?_
  obtain rfl : kq1 = kq48 := ub_sa_int hK 0 2 rfl rfl
  have hK := hK.sub (tys' := [(kq1, .int), (kq13, .byte)]) [0, 1] rfl
  refine va_putF (D := (dC, dI)) (ci := 14) (v := .ref q48) (ty := .array .int) (C := RX13) (T := TX13) (N := 97) hx hb hts (fun w h => vA_in _ w (in_X13 w h)) tyX13 tyX13_ok nmX13 hown hK hP hD hS 0 rfl rfl 38 (by decide) (hts _ (vA_in _ _ (in_28 _ (List.mem_of_getElem? (i := 14) rfl)))) (fun _ h9 => h9) rfl hin rfl (by decide +kernel) rfl rfl (mL_lt (Nat.le_of_ble_eq_true rfl)) dX13_init_208 (fun H locs hP hD hS => ?_)
  replace hP : va_P (dC, dI) vwCl ((h, .inr (14, (mL g47).set 38 (.ref q48))) :: wq48) H := hP
  replace hD : va_D A ((h, .inr (14, (mL g47).set 38 (.ref q48))) :: wq48) := hD
  obtain ⟨g49, eg49⟩ : ∃ z9, z9 = va_up g47 38 (.ref q48) := ⟨_, rfl⟩
  rw [mL_upd, ← eg49] at hP hD
  refine lv_aload_n hx hb dX13_init_211 rfl (lv_at hl 0 rfl) ?_
  refine lv_sipush (v := 300) hx hb dX13_init_212 (by decide) ?_
  refine va_newa (atype := .int) (ty := .int) (N' := 300) (a0 := (300, .inl (fun _ => (0 : Int32)))) hx hb (hts _ (vA_in _ _ (in_2 _ (List.mem_of_getElem? (i := 38) rfl)))) rfl hK hP hD hS hA (fun _ => rfl) (by decide) (by decide) (Nat.le_of_ble_eq_true rfl) (Nat.le_of_ble_eq_true rfl) (Nat.le_of_ble_eq_true rfl) dX13_init_215 (fun q50 kq50 H hK hP hD hS => ?_)
  have hK : va_K (dC, dI) vwCl [(kq1, .int), (kq13, .byte), (kq50, .int)] s := hK
  obtain ⟨wq50, ewq50⟩ : ∃ z : va_W, z = wq48 ++ [(q50, .inl (kq50, 300, .inl (fun _ => (0 : Int32))))] := ⟨_, rfl⟩
  replace hP : va_P (dC, dI) vwCl ((h, .inr (14, mL g49)) :: wq50) H := by rw [ewq50]; exact hP
  replace hD : va_D A ((h, .inr (14, mL g49)) :: wq50) := by rw [ewq50]; exact hD
  refine W.widen (k := 25) (n := 5776) (by omega) (by omega) ?_
  obtain rfl : kq1 = kq50 := ub_sa_int hK 0 2 rfl rfl
  have hK := hK.sub (tys' := [(kq1, .int), (kq13, .byte)]) [0, 1] rfl
  refine va_putF (D := (dC, dI)) (ci := 14) (v := .ref q50) (ty := .array .int) (C := RX13) (T := TX13) (N := 97) hx hb hts (fun w h => vA_in _ w (in_X13 w h)) tyX13 tyX13_ok nmX13 hown hK hP hD hS 0 rfl rfl 39 (by decide) (hts _ (vA_in _ _ (in_28 _ (List.mem_of_getElem? (i := 15) rfl)))) (fun _ h9 => h9) rfl hin rfl (by decide +kernel) rfl rfl (mL_lt (Nat.le_of_ble_eq_true rfl)) dX13_init_217 (fun H locs hP hD hS => ?_)
  replace hP : va_P (dC, dI) vwCl ((h, .inr (14, (mL g49).set 39 (.ref q50))) :: wq50) H := hP
  replace hD : va_D A ((h, .inr (14, (mL g49).set 39 (.ref q50))) :: wq50) := hD
  obtain ⟨g51, eg51⟩ : ∃ z9, z9 = va_up g49 39 (.ref q50) := ⟨_, rfl⟩
  rw [mL_upd, ← eg51] at hP hD
  refine lv_aload_n hx hb dX13_init_220 rfl (lv_at hl 0 rfl) ?_
  refine lv_sipush (v := 300) hx hb dX13_init_221 (by decide) ?_
  refine va_newa (atype := .int) (ty := .int) (N' := 300) (a0 := (300, .inl (fun _ => (0 : Int32)))) hx hb (hts _ (vA_in _ _ (in_2 _ (List.mem_of_getElem? (i := 38) rfl)))) rfl hK hP hD hS hA (fun _ => rfl) (by decide) (by decide) (Nat.le_of_ble_eq_true rfl) (Nat.le_of_ble_eq_true rfl) (Nat.le_of_ble_eq_true rfl) dX13_init_224 (fun q52 kq52 H hK hP hD hS => ?_)
  have hK : va_K (dC, dI) vwCl [(kq1, .int), (kq13, .byte), (kq52, .int)] s := hK
  obtain ⟨wq52, ewq52⟩ : ∃ z : va_W, z = wq50 ++ [(q52, .inl (kq52, 300, .inl (fun _ => (0 : Int32))))] := ⟨_, rfl⟩
  replace hP : va_P (dC, dI) vwCl ((h, .inr (14, mL g51)) :: wq52) H := by rw [ewq52]; exact hP
  replace hD : va_D A ((h, .inr (14, mL g51)) :: wq52) := by rw [ewq52]; exact hD
  refine W.widen (k := 26) (n := 6076) (by omega) (by omega) ?_
  obtain rfl : kq1 = kq52 := ub_sa_int hK 0 2 rfl rfl
  have hK := hK.sub (tys' := [(kq1, .int), (kq13, .byte)]) [0, 1] rfl
  refine va_putF (D := (dC, dI)) (ci := 14) (v := .ref q52) (ty := .array .int) (C := RX13) (T := TX13) (N := 97) hx hb hts (fun w h => vA_in _ w (in_X13 w h)) tyX13 tyX13_ok nmX13 hown hK hP hD hS 0 rfl rfl 40 (by decide) (hts _ (vA_in _ _ (in_28 _ (List.mem_of_getElem? (i := 0) rfl)))) (fun _ h9 => h9) rfl hin rfl (by decide +kernel) rfl rfl (mL_lt (Nat.le_of_ble_eq_true rfl)) dX13_init_226 (fun H locs hP hD hS => ?_)
  replace hP : va_P (dC, dI) vwCl ((h, .inr (14, (mL g51).set 40 (.ref q52))) :: wq52) H := hP
  replace hD : va_D A ((h, .inr (14, (mL g51).set 40 (.ref q52))) :: wq52) := hD
  obtain ⟨g53, eg53⟩ : ∃ z9, z9 = va_up g51 40 (.ref q52) := ⟨_, rfl⟩
  rw [mL_upd, ← eg53] at hP hD
  refine lv_aload_n hx hb dX13_init_229 rfl (lv_at hl 0 rfl) ?_
  refine lv_sipush (v := 300) hx hb dX13_init_230 (by decide) ?_
  refine va_newa (atype := .int) (ty := .int) (N' := 300) (a0 := (300, .inl (fun _ => (0 : Int32)))) hx hb (hts _ (vA_in _ _ (in_2 _ (List.mem_of_getElem? (i := 38) rfl)))) rfl hK hP hD hS hA (fun _ => rfl) (by decide) (by decide) (Nat.le_of_ble_eq_true rfl) (Nat.le_of_ble_eq_true rfl) (Nat.le_of_ble_eq_true rfl) dX13_init_233 (fun q54 kq54 H hK hP hD hS => ?_)
  have hK : va_K (dC, dI) vwCl [(kq1, .int), (kq13, .byte), (kq54, .int)] s := hK
  obtain ⟨wq54, ewq54⟩ : ∃ z : va_W, z = wq52 ++ [(q54, .inl (kq54, 300, .inl (fun _ => (0 : Int32))))] := ⟨_, rfl⟩
  replace hP : va_P (dC, dI) vwCl ((h, .inr (14, mL g53)) :: wq54) H := by rw [ewq54]; exact hP
  replace hD : va_D A ((h, .inr (14, mL g53)) :: wq54) := by rw [ewq54]; exact hD
  refine W.widen (k := 27) (n := 6376) (by omega) (by omega) ?_
  obtain rfl : kq1 = kq54 := ub_sa_int hK 0 2 rfl rfl
  have hK := hK.sub (tys' := [(kq1, .int), (kq13, .byte)]) [0, 1] rfl
  refine va_putF (D := (dC, dI)) (ci := 14) (v := .ref q54) (ty := .array .int) (C := RX13) (T := TX13) (N := 97) hx hb hts (fun w h => vA_in _ w (in_X13 w h)) tyX13 tyX13_ok nmX13 hown hK hP hD hS 0 rfl rfl 41 (by decide) (hts _ (vA_in _ _ (in_28 _ (List.mem_of_getElem? (i := 21) rfl)))) (fun _ h9 => h9) rfl hin rfl (by decide +kernel) rfl rfl (mL_lt (Nat.le_of_ble_eq_true rfl)) dX13_init_235 (fun H locs hP hD hS => ?_)
  replace hP : va_P (dC, dI) vwCl ((h, .inr (14, (mL g53).set 41 (.ref q54))) :: wq54) H := hP
  replace hD : va_D A ((h, .inr (14, (mL g53).set 41 (.ref q54))) :: wq54) := hD
  obtain ⟨g55, eg55⟩ : ∃ z9, z9 = va_up g53 41 (.ref q54) := ⟨_, rfl⟩
  rw [mL_upd, ← eg55] at hP hD
  refine lv_aload_n hx hb dX13_init_238 rfl (lv_at hl 0 rfl) ?_
  refine lv_sipush (v := 300) hx hb dX13_init_239 (by decide) ?_
  refine va_newa (atype := .int) (ty := .int) (N' := 300) (a0 := (300, .inl (fun _ => (0 : Int32)))) hx hb (hts _ (vA_in _ _ (in_2 _ (List.mem_of_getElem? (i := 38) rfl)))) rfl hK hP hD hS hA (fun _ => rfl) (by decide) (by decide) (Nat.le_of_ble_eq_true rfl) (Nat.le_of_ble_eq_true rfl) (Nat.le_of_ble_eq_true rfl) dX13_init_242 (fun q56 kq56 H hK hP hD hS => ?_)
  have hK : va_K (dC, dI) vwCl [(kq1, .int), (kq13, .byte), (kq56, .int)] s := hK
  obtain ⟨wq56, ewq56⟩ : ∃ z : va_W, z = wq54 ++ [(q56, .inl (kq56, 300, .inl (fun _ => (0 : Int32))))] := ⟨_, rfl⟩
  replace hP : va_P (dC, dI) vwCl ((h, .inr (14, mL g55)) :: wq56) H := by rw [ewq56]; exact hP
  replace hD : va_D A ((h, .inr (14, mL g55)) :: wq56) := by rw [ewq56]; exact hD
  refine W.widen (k := 28) (n := 6676) (by omega) (by omega) ?_
  obtain rfl : kq1 = kq56 := ub_sa_int hK 0 2 rfl rfl
  have hK := hK.sub (tys' := [(kq1, .int), (kq13, .byte)]) [0, 1] rfl
  refine va_putF (D := (dC, dI)) (ci := 14) (v := .ref q56) (ty := .array .int) (C := RX13) (T := TX13) (N := 97) hx hb hts (fun w h => vA_in _ w (in_X13 w h)) tyX13 tyX13_ok nmX13 hown hK hP hD hS 0 rfl rfl 42 (by decide) (hts _ (vA_in _ _ (in_28 _ (List.mem_of_getElem? (i := 16) rfl)))) (fun _ h9 => h9) rfl hin rfl (by decide +kernel) rfl rfl (mL_lt (Nat.le_of_ble_eq_true rfl)) dX13_init_244 (fun H locs hP hD hS => ?_)
  replace hP : va_P (dC, dI) vwCl ((h, .inr (14, (mL g55).set 42 (.ref q56))) :: wq56) H := hP
  replace hD : va_D A ((h, .inr (14, (mL g55).set 42 (.ref q56))) :: wq56) := hD
  obtain ⟨g57, eg57⟩ : ∃ z9, z9 = va_up g55 42 (.ref q56) := ⟨_, rfl⟩
  rw [mL_upd, ← eg57] at hP hD
  refine lv_aload_n hx hb dX13_init_247 rfl (lv_at hl 0 rfl) ?_
  refine lv_bipush (v := 20) hx hb dX13_init_248 (by decide) ?_
  refine va_newa (atype := .int) (ty := .int) (N' := 20) (a0 := (20, .inl (fun _ => (0 : Int32)))) hx hb (hts _ (vA_in _ _ (in_2 _ (List.mem_of_getElem? (i := 38) rfl)))) rfl hK hP hD hS hA (fun _ => rfl) (by decide) (by decide) (Nat.le_of_ble_eq_true rfl) (Nat.le_of_ble_eq_true rfl) (Nat.le_of_ble_eq_true rfl) dX13_init_250 (fun q58 kq58 H hK hP hD hS => ?_)
  have hK : va_K (dC, dI) vwCl [(kq1, .int), (kq13, .byte), (kq58, .int)] s := hK
  obtain ⟨wq58, ewq58⟩ : ∃ z : va_W, z = wq56 ++ [(q58, .inl (kq58, 20, .inl (fun _ => (0 : Int32))))] := ⟨_, rfl⟩
  replace hP : va_P (dC, dI) vwCl ((h, .inr (14, mL g57)) :: wq58) H := by rw [ewq58]; exact hP
  replace hD : va_D A ((h, .inr (14, mL g57)) :: wq58) := by rw [ewq58]; exact hD
  refine W.widen (k := 29) (n := 6696) (by omega) (by omega) ?_
  obtain rfl : kq1 = kq58 := ub_sa_int hK 0 2 rfl rfl
  have hK := hK.sub (tys' := [(kq1, .int), (kq13, .byte)]) [0, 1] rfl
  refine va_putF (D := (dC, dI)) (ci := 14) (v := .ref q58) (ty := .array .int) (C := RX13) (T := TX13) (N := 97) hx hb hts (fun w h => vA_in _ w (in_X13 w h)) tyX13 tyX13_ok nmX13 hown hK hP hD hS 0 rfl rfl 43 (by decide) (hts _ (vA_in _ _ (in_32 _ (List.mem_of_getElem? (i := 1) rfl)))) (fun _ h9 => h9) rfl hin rfl (by decide +kernel) rfl rfl (mL_lt (Nat.le_of_ble_eq_true rfl)) dX13_init_252 (fun H locs hP hD hS => ?_)
  replace hP : va_P (dC, dI) vwCl ((h, .inr (14, (mL g57).set 43 (.ref q58))) :: wq58) H := hP
  replace hD : va_D A ((h, .inr (14, (mL g57).set 43 (.ref q58))) :: wq58) := hD
  obtain ⟨g59, eg59⟩ : ∃ z9, z9 = va_up g57 43 (.ref q58) := ⟨_, rfl⟩
  rw [mL_upd, ← eg59] at hP hD
  refine lv_aload_n hx hb dX13_init_255 rfl (lv_at hl 0 rfl) ?_
  refine lv_bipush (v := 20) hx hb dX13_init_256 (by decide) ?_
  refine va_newa (atype := .int) (ty := .int) (N' := 20) (a0 := (20, .inl (fun _ => (0 : Int32)))) hx hb (hts _ (vA_in _ _ (in_2 _ (List.mem_of_getElem? (i := 38) rfl)))) rfl hK hP hD hS hA (fun _ => rfl) (by decide) (by decide) (Nat.le_of_ble_eq_true rfl) (Nat.le_of_ble_eq_true rfl) (Nat.le_of_ble_eq_true rfl) dX13_init_258 (fun q60 kq60 H hK hP hD hS => ?_)
  have hK : va_K (dC, dI) vwCl [(kq1, .int), (kq13, .byte), (kq60, .int)] s := hK
  obtain ⟨wq60, ewq60⟩ : ∃ z : va_W, z = wq58 ++ [(q60, .inl (kq60, 20, .inl (fun _ => (0 : Int32))))] := ⟨_, rfl⟩
  replace hP : va_P (dC, dI) vwCl ((h, .inr (14, mL g59)) :: wq60) H := by rw [ewq60]; exact hP
  replace hD : va_D A ((h, .inr (14, mL g59)) :: wq60) := by rw [ewq60]; exact hD
  refine W.widen (k := 30) (n := 6716) (by omega) (by omega) ?_
  obtain rfl : kq1 = kq60 := ub_sa_int hK 0 2 rfl rfl
  have hK := hK.sub (tys' := [(kq1, .int), (kq13, .byte)]) [0, 1] rfl
  refine va_putF (D := (dC, dI)) (ci := 14) (v := .ref q60) (ty := .array .int) (C := RX13) (T := TX13) (N := 97) hx hb hts (fun w h => vA_in _ w (in_X13 w h)) tyX13 tyX13_ok nmX13 hown hK hP hD hS 0 rfl rfl 44 (by decide) (hts _ (vA_in _ _ (in_32 _ (List.mem_of_getElem? (i := 2) rfl)))) (fun _ h9 => h9) rfl hin rfl (by decide +kernel) rfl rfl (mL_lt (Nat.le_of_ble_eq_true rfl)) dX13_init_260 (fun H locs hP hD hS => ?_)
  replace hP : va_P (dC, dI) vwCl ((h, .inr (14, (mL g59).set 44 (.ref q60))) :: wq60) H := hP
  replace hD : va_D A ((h, .inr (14, (mL g59).set 44 (.ref q60))) :: wq60) := hD
  obtain ⟨g61, eg61⟩ : ∃ z9, z9 = va_up g59 44 (.ref q60) := ⟨_, rfl⟩
  rw [mL_upd, ← eg61] at hP hD
  refine lv_aload_n hx hb dX13_init_263 rfl (lv_at hl 0 rfl) ?_
  refine lv_bipush (v := 20) hx hb dX13_init_264 (by decide) ?_
  refine va_newa (atype := .int) (ty := .int) (N' := 20) (a0 := (20, .inl (fun _ => (0 : Int32)))) hx hb (hts _ (vA_in _ _ (in_2 _ (List.mem_of_getElem? (i := 38) rfl)))) rfl hK hP hD hS hA (fun _ => rfl) (by decide) (by decide) (Nat.le_of_ble_eq_true rfl) (Nat.le_of_ble_eq_true rfl) (Nat.le_of_ble_eq_true rfl) dX13_init_266 (fun q62 kq62 H hK hP hD hS => ?_)
  have hK : va_K (dC, dI) vwCl [(kq1, .int), (kq13, .byte), (kq62, .int)] s := hK
  obtain ⟨wq62, ewq62⟩ : ∃ z : va_W, z = wq60 ++ [(q62, .inl (kq62, 20, .inl (fun _ => (0 : Int32))))] := ⟨_, rfl⟩
  replace hP : va_P (dC, dI) vwCl ((h, .inr (14, mL g61)) :: wq62) H := by rw [ewq62]; exact hP
  replace hD : va_D A ((h, .inr (14, mL g61)) :: wq62) := by rw [ewq62]; exact hD
  refine W.widen (k := 31) (n := 6736) (by omega) (by omega) ?_
  obtain rfl : kq1 = kq62 := ub_sa_int hK 0 2 rfl rfl
  have hK := hK.sub (tys' := [(kq1, .int), (kq13, .byte)]) [0, 1] rfl
  refine va_putF (D := (dC, dI)) (ci := 14) (v := .ref q62) (ty := .array .int) (C := RX13) (T := TX13) (N := 97) hx hb hts (fun w h => vA_in _ w (in_X13 w h)) tyX13 tyX13_ok nmX13 hown hK hP hD hS 0 rfl rfl 45 (by decide) (hts _ (vA_in _ _ (in_32 _ (List.mem_of_getElem? (i := 3) rfl)))) (fun _ h9 => h9) rfl hin rfl (by decide +kernel) rfl rfl (mL_lt (Nat.le_of_ble_eq_true rfl)) dX13_init_268 (fun H locs hP hD hS => ?_)
  replace hP : va_P (dC, dI) vwCl ((h, .inr (14, (mL g61).set 45 (.ref q62))) :: wq62) H := hP
  replace hD : va_D A ((h, .inr (14, (mL g61).set 45 (.ref q62))) :: wq62) := hD
  obtain ⟨g63, eg63⟩ : ∃ z9, z9 = va_up g61 45 (.ref q62) := ⟨_, rfl⟩
  rw [mL_upd, ← eg63] at hP hD
  refine lv_aload_n hx hb dX13_init_271 rfl (lv_at hl 0 rfl) ?_
  refine lv_sipush (v := 320) hx hb dX13_init_272 (by decide) ?_
  refine va_newa (atype := .int) (ty := .int) (N' := 320) (a0 := (320, .inl (fun _ => (0 : Int32)))) hx hb (hts _ (vA_in _ _ (in_2 _ (List.mem_of_getElem? (i := 38) rfl)))) rfl hK hP hD hS hA (fun _ => rfl) (by decide) (by decide) (Nat.le_of_ble_eq_true rfl) (Nat.le_of_ble_eq_true rfl) (Nat.le_of_ble_eq_true rfl) dX13_init_275 (fun q64 kq64 H hK hP hD hS => ?_)
  have hK : va_K (dC, dI) vwCl [(kq1, .int), (kq13, .byte), (kq64, .int)] s := hK
  obtain ⟨wq64, ewq64⟩ : ∃ z : va_W, z = wq62 ++ [(q64, .inl (kq64, 320, .inl (fun _ => (0 : Int32))))] := ⟨_, rfl⟩
  replace hP : va_P (dC, dI) vwCl ((h, .inr (14, mL g63)) :: wq64) H := by rw [ewq64]; exact hP
  replace hD : va_D A ((h, .inr (14, mL g63)) :: wq64) := by rw [ewq64]; exact hD
  refine W.widen (k := 32) (n := 7056) (by omega) (by omega) ?_
  obtain rfl : kq1 = kq64 := ub_sa_int hK 0 2 rfl rfl
  have hK := hK.sub (tys' := [(kq1, .int), (kq13, .byte)]) [0, 1] rfl
  refine va_putF (D := (dC, dI)) (ci := 14) (v := .ref q64) (ty := .array .int) (C := RX13) (T := TX13) (N := 97) hx hb hts (fun w h => vA_in _ w (in_X13 w h)) tyX13 tyX13_ok nmX13 hown hK hP hD hS 0 rfl rfl 49 (by decide) (hts _ (vA_in _ _ (in_32 _ (List.mem_of_getElem? (i := 9) rfl)))) (fun _ h9 => h9) rfl hin rfl (by decide +kernel) rfl rfl (mL_lt (Nat.le_of_ble_eq_true rfl)) dX13_init_277 (fun H locs hP hD hS => ?_)
  replace hP : va_P (dC, dI) vwCl ((h, .inr (14, (mL g63).set 49 (.ref q64))) :: wq64) H := hP
  replace hD : va_D A ((h, .inr (14, (mL g63).set 49 (.ref q64))) :: wq64) := hD
  obtain ⟨g65, eg65⟩ : ∃ z9, z9 = va_up g63 49 (.ref q64) := ⟨_, rfl⟩
  rw [mL_upd, ← eg65] at hP hD
  refine lv_aload_n hx hb dX13_init_280 rfl (lv_at hl 0 rfl) ?_
  refine lv_bipush (v := 16) hx hb dX13_init_281 (by decide) ?_
  refine va_newa (atype := .int) (ty := .int) (N' := 16) (a0 := (16, .inl (fun _ => (0 : Int32)))) hx hb (hts _ (vA_in _ _ (in_2 _ (List.mem_of_getElem? (i := 38) rfl)))) rfl hK hP hD hS hA (fun _ => rfl) (by decide) (by decide) (Nat.le_of_ble_eq_true rfl) (Nat.le_of_ble_eq_true rfl) (Nat.le_of_ble_eq_true rfl) dX13_init_283 (fun q66 kq66 H hK hP hD hS => ?_)
  have hK : va_K (dC, dI) vwCl [(kq1, .int), (kq13, .byte), (kq66, .int)] s := hK
  obtain ⟨wq66, ewq66⟩ : ∃ z : va_W, z = wq64 ++ [(q66, .inl (kq66, 16, .inl (fun _ => (0 : Int32))))] := ⟨_, rfl⟩
  replace hP : va_P (dC, dI) vwCl ((h, .inr (14, mL g65)) :: wq66) H := by rw [ewq66]; exact hP
  replace hD : va_D A ((h, .inr (14, mL g65)) :: wq66) := by rw [ewq66]; exact hD
  refine W.widen (k := 33) (n := 7072) (by omega) (by omega) ?_
  obtain rfl : kq1 = kq66 := ub_sa_int hK 0 2 rfl rfl
  have hK := hK.sub (tys' := [(kq1, .int), (kq13, .byte)]) [0, 1] rfl
  refine va_putF (D := (dC, dI)) (ci := 14) (v := .ref q66) (ty := .array .int) (C := RX13) (T := TX13) (N := 97) hx hb hts (fun w h => vA_in _ w (in_X13 w h)) tyX13 tyX13_ok nmX13 hown hK hP hD hS 0 rfl rfl 50 (by decide) (hts _ (vA_in _ _ (in_32 _ (List.mem_of_getElem? (i := 10) rfl)))) (fun _ h9 => h9) rfl hin rfl (by decide +kernel) rfl rfl (mL_lt (Nat.le_of_ble_eq_true rfl)) dX13_init_285 (fun H locs hP hD hS => ?_)
  replace hP : va_P (dC, dI) vwCl ((h, .inr (14, (mL g65).set 50 (.ref q66))) :: wq66) H := hP
  replace hD : va_D A ((h, .inr (14, (mL g65).set 50 (.ref q66))) :: wq66) := hD
  obtain ⟨g67, eg67⟩ : ∃ z9, z9 = va_up g65 50 (.ref q66) := ⟨_, rfl⟩
  rw [mL_upd, ← eg67] at hP hD
  refine lv_aload_n hx hb dX13_init_288 rfl (lv_at hl 0 rfl) ?_
  refine lv_bipush (v := 20) hx hb dX13_init_289 (by decide) ?_
  refine va_newa (atype := .int) (ty := .int) (N' := 20) (a0 := (20, .inl (fun _ => (0 : Int32)))) hx hb (hts _ (vA_in _ _ (in_2 _ (List.mem_of_getElem? (i := 38) rfl)))) rfl hK hP hD hS hA (fun _ => rfl) (by decide) (by decide) (Nat.le_of_ble_eq_true rfl) (Nat.le_of_ble_eq_true rfl) (Nat.le_of_ble_eq_true rfl) dX13_init_291 (fun q68 kq68 H hK hP hD hS => ?_)
  have hK : va_K (dC, dI) vwCl [(kq1, .int), (kq13, .byte), (kq68, .int)] s := hK
  obtain ⟨wq68, ewq68⟩ : ∃ z : va_W, z = wq66 ++ [(q68, .inl (kq68, 20, .inl (fun _ => (0 : Int32))))] := ⟨_, rfl⟩
  replace hP : va_P (dC, dI) vwCl ((h, .inr (14, mL g67)) :: wq68) H := by rw [ewq68]; exact hP
  replace hD : va_D A ((h, .inr (14, mL g67)) :: wq68) := by rw [ewq68]; exact hD
  refine W.widen (k := 34) (n := 7092) (by omega) (by omega) ?_
  obtain rfl : kq1 = kq68 := ub_sa_int hK 0 2 rfl rfl
  have hK := hK.sub (tys' := [(kq1, .int), (kq13, .byte)]) [0, 1] rfl
  refine va_putF (D := (dC, dI)) (ci := 14) (v := .ref q68) (ty := .array .int) (C := RX13) (T := TX13) (N := 97) hx hb hts (fun w h => vA_in _ w (in_X13 w h)) tyX13 tyX13_ok nmX13 hown hK hP hD hS 0 rfl rfl 51 (by decide) (hts _ (vA_in _ _ (in_32 _ (List.mem_of_getElem? (i := 11) rfl)))) (fun _ h9 => h9) rfl hin rfl (by decide +kernel) rfl rfl (mL_lt (Nat.le_of_ble_eq_true rfl)) dX13_init_293 (fun H locs hP hD hS => ?_)
  replace hP : va_P (dC, dI) vwCl ((h, .inr (14, (mL g67).set 51 (.ref q68))) :: wq68) H := hP
  replace hD : va_D A ((h, .inr (14, (mL g67).set 51 (.ref q68))) :: wq68) := hD
  obtain ⟨g69, eg69⟩ : ∃ z9, z9 = va_up g67 51 (.ref q68) := ⟨_, rfl⟩
  rw [mL_upd, ← eg69] at hP hD
  refine lv_aload_n hx hb dX13_init_296 rfl (lv_at hl 0 rfl) ?_
  refine lv_bipush (v := 20) hx hb dX13_init_297 (by decide) ?_
  refine va_newa (atype := .int) (ty := .int) (N' := 20) (a0 := (20, .inl (fun _ => (0 : Int32)))) hx hb (hts _ (vA_in _ _ (in_2 _ (List.mem_of_getElem? (i := 38) rfl)))) rfl hK hP hD hS hA (fun _ => rfl) (by decide) (by decide) (Nat.le_of_ble_eq_true rfl) (Nat.le_of_ble_eq_true rfl) (Nat.le_of_ble_eq_true rfl) dX13_init_299 (fun q70 kq70 H hK hP hD hS => ?_)
  have hK : va_K (dC, dI) vwCl [(kq1, .int), (kq13, .byte), (kq70, .int)] s := hK
  obtain ⟨wq70, ewq70⟩ : ∃ z : va_W, z = wq68 ++ [(q70, .inl (kq70, 20, .inl (fun _ => (0 : Int32))))] := ⟨_, rfl⟩
  replace hP : va_P (dC, dI) vwCl ((h, .inr (14, mL g69)) :: wq70) H := by rw [ewq70]; exact hP
  replace hD : va_D A ((h, .inr (14, mL g69)) :: wq70) := by rw [ewq70]; exact hD
  refine W.widen (k := 35) (n := 7112) (by omega) (by omega) ?_
  obtain rfl : kq1 = kq70 := ub_sa_int hK 0 2 rfl rfl
  have hK := hK.sub (tys' := [(kq1, .int), (kq13, .byte)]) [0, 1] rfl
  refine va_putF (D := (dC, dI)) (ci := 14) (v := .ref q70) (ty := .array .int) (C := RX13) (T := TX13) (N := 97) hx hb hts (fun w h => vA_in _ w (in_X13 w h)) tyX13 tyX13_ok nmX13 hown hK hP hD hS 0 rfl rfl 52 (by decide) (hts _ (vA_in _ _ (in_32 _ (List.mem_of_getElem? (i := 12) rfl)))) (fun _ h9 => h9) rfl hin rfl (by decide +kernel) rfl rfl (mL_lt (Nat.le_of_ble_eq_true rfl)) dX13_init_301 (fun H locs hP hD hS => ?_)
  replace hP : va_P (dC, dI) vwCl ((h, .inr (14, (mL g69).set 52 (.ref q70))) :: wq70) H := hP
  replace hD : va_D A ((h, .inr (14, (mL g69).set 52 (.ref q70))) :: wq70) := hD
  obtain ⟨g71, eg71⟩ : ∃ z9, z9 = va_up g69 52 (.ref q70) := ⟨_, rfl⟩
  rw [mL_upd, ← eg71] at hP hD
  refine lv_aload_n hx hb dX13_init_304 rfl (lv_at hl 0 rfl) ?_
  refine lv_sipush (v := 320) hx hb dX13_init_305 (by decide) ?_
  refine va_newa (atype := .boolean) (ty := .boolean) (N' := 320) (a0 := (320, .inl (fun _ => (0 : Int32)))) hx hb (hts _ (vA_in _ _ (in_19 _ (List.mem_of_getElem? (i := 10) rfl)))) rfl hK hP hD hS hA (fun _ => rfl) (by decide) (by decide) (Nat.le_of_ble_eq_true rfl) (Nat.le_of_ble_eq_true rfl) (Nat.le_of_ble_eq_true rfl) dX13_init_308 (fun q72 kq72 H hK hP hD hS => ?_)
  have hK : va_K (dC, dI) vwCl [(kq1, .int), (kq13, .byte), (kq72, .boolean)] s := hK
  obtain ⟨wq72, ewq72⟩ : ∃ z : va_W, z = wq70 ++ [(q72, .inl (kq72, 320, .inl (fun _ => (0 : Int32))))] := ⟨_, rfl⟩
  replace hP : va_P (dC, dI) vwCl ((h, .inr (14, mL g71)) :: wq72) H := by rw [ewq72]; exact hP
  replace hD : va_D A ((h, .inr (14, mL g71)) :: wq72) := by rw [ewq72]; exact hD
  refine W.widen (k := 36) (n := 7432) (by omega) (by omega) ?_
  refine va_putF (D := (dC, dI)) (ci := 14) (v := .ref q72) (ty := .array .boolean) (C := RX13) (T := TX13) (N := 97) hx hb hts (fun w h => vA_in _ w (in_X13 w h)) tyX13 tyX13_ok nmX13 hown hK hP hD hS 0 rfl rfl 53 (by decide) (hts _ (vA_in _ _ (in_32 _ (List.mem_of_getElem? (i := 13) rfl)))) (fun _ h9 => h9) rfl hin rfl (by decide +kernel) rfl rfl (mL_lt (Nat.le_of_ble_eq_true rfl)) dX13_init_310 (fun H locs hP hD hS => ?_)
  replace hP : va_P (dC, dI) vwCl ((h, .inr (14, (mL g71).set 53 (.ref q72))) :: wq72) H := hP
  replace hD : va_D A ((h, .inr (14, (mL g71).set 53 (.ref q72))) :: wq72) := hD
  obtain ⟨g73, eg73⟩ : ∃ z9, z9 = va_up g71 53 (.ref q72) := ⟨_, rfl⟩
  rw [mL_upd, ← eg73] at hP hD
  refine lv_aload_n hx hb dX13_init_313 rfl (lv_at hl 0 rfl) ?_
  refine lv_bipush (v := 16) hx hb dX13_init_314 (by decide) ?_
  refine va_newa (atype := .boolean) (ty := .boolean) (N' := 16) (a0 := (16, .inl (fun _ => (0 : Int32)))) hx hb (hts _ (vA_in _ _ (in_19 _ (List.mem_of_getElem? (i := 10) rfl)))) rfl hK hP hD hS hA (fun _ => rfl) (by decide) (by decide) (Nat.le_of_ble_eq_true rfl) (Nat.le_of_ble_eq_true rfl) (Nat.le_of_ble_eq_true rfl) dX13_init_316 (fun q74 kq74 H hK hP hD hS => ?_)
  have hK : va_K (dC, dI) vwCl [(kq1, .int), (kq13, .byte), (kq72, .boolean), (kq74, .boolean)] s := hK
  obtain ⟨wq74, ewq74⟩ : ∃ z : va_W, z = wq72 ++ [(q74, .inl (kq74, 16, .inl (fun _ => (0 : Int32))))] := ⟨_, rfl⟩
  replace hP : va_P (dC, dI) vwCl ((h, .inr (14, mL g73)) :: wq74) H := by rw [ewq74]; exact hP
  replace hD : va_D A ((h, .inr (14, mL g73)) :: wq74) := by rw [ewq74]; exact hD
  refine W.widen (k := 37) (n := 7448) (by omega) (by omega) ?_
  obtain rfl : kq72 = kq74 := ub_sa_boolean hK 2 3 rfl rfl
  have hK := hK.sub (tys' := [(kq1, .int), (kq13, .byte), (kq72, .boolean)]) [0, 1, 2] rfl
  refine va_putF (D := (dC, dI)) (ci := 14) (v := .ref q74) (ty := .array .boolean) (C := RX13) (T := TX13) (N := 97) hx hb hts (fun w h => vA_in _ w (in_X13 w h)) tyX13 tyX13_ok nmX13 hown hK hP hD hS 0 rfl rfl 54 (by decide) (hts _ (vA_in _ _ (in_32 _ (List.mem_of_getElem? (i := 14) rfl)))) (fun _ h9 => h9) rfl hin rfl (by decide +kernel) rfl rfl (mL_lt (Nat.le_of_ble_eq_true rfl)) dX13_init_318 (fun H locs hP hD hS => ?_)
  replace hP : va_P (dC, dI) vwCl ((h, .inr (14, (mL g73).set 54 (.ref q74))) :: wq74) H := hP
  replace hD : va_D A ((h, .inr (14, (mL g73).set 54 (.ref q74))) :: wq74) := hD
  obtain ⟨g75, eg75⟩ : ∃ z9, z9 = va_up g73 54 (.ref q74) := ⟨_, rfl⟩
  rw [mL_upd, ← eg75] at hP hD
  refine lv_aload_n hx hb dX13_init_321 rfl (lv_at hl 0 rfl) ?_
  refine lv_sipush (v := 200) hx hb dX13_init_322 (by decide) ?_
  refine va_newa (atype := .int) (ty := .int) (N' := 200) (a0 := (200, .inl (fun _ => (0 : Int32)))) hx hb (hts _ (vA_in _ _ (in_2 _ (List.mem_of_getElem? (i := 38) rfl)))) rfl hK hP hD hS hA (fun _ => rfl) (by decide) (by decide) (Nat.le_of_ble_eq_true rfl) (Nat.le_of_ble_eq_true rfl) (Nat.le_of_ble_eq_true rfl) dX13_init_325 (fun q76 kq76 H hK hP hD hS => ?_)
  have hK : va_K (dC, dI) vwCl [(kq1, .int), (kq13, .byte), (kq72, .boolean), (kq76, .int)] s := hK
  obtain ⟨wq76, ewq76⟩ : ∃ z : va_W, z = wq74 ++ [(q76, .inl (kq76, 200, .inl (fun _ => (0 : Int32))))] := ⟨_, rfl⟩
  replace hP : va_P (dC, dI) vwCl ((h, .inr (14, mL g75)) :: wq76) H := by rw [ewq76]; exact hP
  replace hD : va_D A ((h, .inr (14, mL g75)) :: wq76) := by rw [ewq76]; exact hD
  refine W.widen (k := 38) (n := 7648) (by omega) (by omega) ?_
  obtain rfl : kq1 = kq76 := ub_sa_int hK 0 3 rfl rfl
  have hK := hK.sub (tys' := [(kq1, .int), (kq13, .byte), (kq72, .boolean)]) [0, 1, 2] rfl
  refine va_putF (D := (dC, dI)) (ci := 14) (v := .ref q76) (ty := .array .int) (C := RX13) (T := TX13) (N := 97) hx hb hts (fun w h => vA_in _ w (in_X13 w h)) tyX13 tyX13_ok nmX13 hown hK hP hD hS 0 rfl rfl 56 (by decide) (hts _ (vA_in _ _ (in_25 _ (List.mem_of_getElem? (i := 12) rfl)))) (fun _ h9 => h9) rfl hin rfl (by decide +kernel) rfl rfl (mL_lt (Nat.le_of_ble_eq_true rfl)) dX13_init_327 (fun H locs hP hD hS => ?_)
  replace hP : va_P (dC, dI) vwCl ((h, .inr (14, (mL g75).set 56 (.ref q76))) :: wq76) H := hP
  replace hD : va_D A ((h, .inr (14, (mL g75).set 56 (.ref q76))) :: wq76) := hD
  obtain ⟨g77, eg77⟩ : ∃ z9, z9 = va_up g75 56 (.ref q76) := ⟨_, rfl⟩
  rw [mL_upd, ← eg77] at hP hD
  refine lv_aload_n hx hb dX13_init_330 rfl (lv_at hl 0 rfl) ?_
  refine lv_sipush (v := 200) hx hb dX13_init_331 (by decide) ?_
  refine va_newa (atype := .int) (ty := .int) (N' := 200) (a0 := (200, .inl (fun _ => (0 : Int32)))) hx hb (hts _ (vA_in _ _ (in_2 _ (List.mem_of_getElem? (i := 38) rfl)))) rfl hK hP hD hS hA (fun _ => rfl) (by decide) (by decide) (Nat.le_of_ble_eq_true rfl) (Nat.le_of_ble_eq_true rfl) (Nat.le_of_ble_eq_true rfl) dX13_init_334 (fun q78 kq78 H hK hP hD hS => ?_)
  have hK : va_K (dC, dI) vwCl [(kq1, .int), (kq13, .byte), (kq72, .boolean), (kq78, .int)] s := hK
  obtain ⟨wq78, ewq78⟩ : ∃ z : va_W, z = wq76 ++ [(q78, .inl (kq78, 200, .inl (fun _ => (0 : Int32))))] := ⟨_, rfl⟩
  replace hP : va_P (dC, dI) vwCl ((h, .inr (14, mL g77)) :: wq78) H := by rw [ewq78]; exact hP
  replace hD : va_D A ((h, .inr (14, mL g77)) :: wq78) := by rw [ewq78]; exact hD
  refine W.widen (k := 39) (n := 7848) (by omega) (by omega) ?_
  obtain rfl : kq1 = kq78 := ub_sa_int hK 0 3 rfl rfl
  have hK := hK.sub (tys' := [(kq1, .int), (kq13, .byte), (kq72, .boolean)]) [0, 1, 2] rfl
  refine va_putF (D := (dC, dI)) (ci := 14) (v := .ref q78) (ty := .array .int) (C := RX13) (T := TX13) (N := 97) hx hb hts (fun w h => vA_in _ w (in_X13 w h)) tyX13 tyX13_ok nmX13 hown hK hP hD hS 0 rfl rfl 57 (by decide) (hts _ (vA_in _ _ (in_25 _ (List.mem_of_getElem? (i := 13) rfl)))) (fun _ h9 => h9) rfl hin rfl (by decide +kernel) rfl rfl (mL_lt (Nat.le_of_ble_eq_true rfl)) dX13_init_336 (fun H locs hP hD hS => ?_)
  replace hP : va_P (dC, dI) vwCl ((h, .inr (14, (mL g77).set 57 (.ref q78))) :: wq78) H := hP
  replace hD : va_D A ((h, .inr (14, (mL g77).set 57 (.ref q78))) :: wq78) := hD
  obtain ⟨g79, eg79⟩ : ∃ z9, z9 = va_up g77 57 (.ref q78) := ⟨_, rfl⟩
  rw [mL_upd, ← eg79] at hP hD
  refine lv_aload_n hx hb dX13_init_339 rfl (lv_at hl 0 rfl) ?_
  refine lv_sipush (v := 200) hx hb dX13_init_340 (by decide) ?_
  refine va_newa (atype := .int) (ty := .int) (N' := 200) (a0 := (200, .inl (fun _ => (0 : Int32)))) hx hb (hts _ (vA_in _ _ (in_2 _ (List.mem_of_getElem? (i := 38) rfl)))) rfl hK hP hD hS hA (fun _ => rfl) (by decide) (by decide) (Nat.le_of_ble_eq_true rfl) (Nat.le_of_ble_eq_true rfl) (Nat.le_of_ble_eq_true rfl) dX13_init_343 (fun q80 kq80 H hK hP hD hS => ?_)
  have hK : va_K (dC, dI) vwCl [(kq1, .int), (kq13, .byte), (kq72, .boolean), (kq80, .int)] s := hK
  obtain ⟨wq80, ewq80⟩ : ∃ z : va_W, z = wq78 ++ [(q80, .inl (kq80, 200, .inl (fun _ => (0 : Int32))))] := ⟨_, rfl⟩
  replace hP : va_P (dC, dI) vwCl ((h, .inr (14, mL g79)) :: wq80) H := by rw [ewq80]; exact hP
  replace hD : va_D A ((h, .inr (14, mL g79)) :: wq80) := by rw [ewq80]; exact hD
  refine W.widen (k := 40) (n := 8048) (by omega) (by omega) ?_
  obtain rfl : kq1 = kq80 := ub_sa_int hK 0 3 rfl rfl
  have hK := hK.sub (tys' := [(kq1, .int), (kq13, .byte), (kq72, .boolean)]) [0, 1, 2] rfl
  refine va_putF (D := (dC, dI)) (ci := 14) (v := .ref q80) (ty := .array .int) (C := RX13) (T := TX13) (N := 97) hx hb hts (fun w h => vA_in _ w (in_X13 w h)) tyX13 tyX13_ok nmX13 hown hK hP hD hS 0 rfl rfl 58 (by decide) (hts _ (vA_in _ _ (in_25 _ (List.mem_of_getElem? (i := 15) rfl)))) (fun _ h9 => h9) rfl hin rfl (by decide +kernel) rfl rfl (mL_lt (Nat.le_of_ble_eq_true rfl)) dX13_init_345 (fun H locs hP hD hS => ?_)
  replace hP : va_P (dC, dI) vwCl ((h, .inr (14, (mL g79).set 58 (.ref q80))) :: wq80) H := hP
  replace hD : va_D A ((h, .inr (14, (mL g79).set 58 (.ref q80))) :: wq80) := hD
  obtain ⟨g81, eg81⟩ : ∃ z9, z9 = va_up g79 58 (.ref q80) := ⟨_, rfl⟩
  rw [mL_upd, ← eg81] at hP hD
  refine lv_aload_n hx hb dX13_init_348 rfl (lv_at hl 0 rfl) ?_
  refine lv_sipush (v := 200) hx hb dX13_init_349 (by decide) ?_
  refine va_newa (atype := .int) (ty := .int) (N' := 200) (a0 := (200, .inl (fun _ => (0 : Int32)))) hx hb (hts _ (vA_in _ _ (in_2 _ (List.mem_of_getElem? (i := 38) rfl)))) rfl hK hP hD hS hA (fun _ => rfl) (by decide) (by decide) (Nat.le_of_ble_eq_true rfl) (Nat.le_of_ble_eq_true rfl) (Nat.le_of_ble_eq_true rfl) dX13_init_352 (fun q82 kq82 H hK hP hD hS => ?_)
  have hK : va_K (dC, dI) vwCl [(kq1, .int), (kq13, .byte), (kq72, .boolean), (kq82, .int)] s := hK
  obtain ⟨wq82, ewq82⟩ : ∃ z : va_W, z = wq80 ++ [(q82, .inl (kq82, 200, .inl (fun _ => (0 : Int32))))] := ⟨_, rfl⟩
  replace hP : va_P (dC, dI) vwCl ((h, .inr (14, mL g81)) :: wq82) H := by rw [ewq82]; exact hP
  replace hD : va_D A ((h, .inr (14, mL g81)) :: wq82) := by rw [ewq82]; exact hD
  refine W.widen (k := 41) (n := 8248) (by omega) (by omega) ?_
  obtain rfl : kq1 = kq82 := ub_sa_int hK 0 3 rfl rfl
  have hK := hK.sub (tys' := [(kq1, .int), (kq13, .byte), (kq72, .boolean)]) [0, 1, 2] rfl
  refine va_putF (D := (dC, dI)) (ci := 14) (v := .ref q82) (ty := .array .int) (C := RX13) (T := TX13) (N := 97) hx hb hts (fun w h => vA_in _ w (in_X13 w h)) tyX13 tyX13_ok nmX13 hown hK hP hD hS 0 rfl rfl 59 (by decide) (hts _ (vA_in _ _ (in_25 _ (List.mem_of_getElem? (i := 25) rfl)))) (fun _ h9 => h9) rfl hin rfl (by decide +kernel) rfl rfl (mL_lt (Nat.le_of_ble_eq_true rfl)) dX13_init_354 (fun H locs hP hD hS => ?_)
  replace hP : va_P (dC, dI) vwCl ((h, .inr (14, (mL g81).set 59 (.ref q82))) :: wq82) H := hP
  replace hD : va_D A ((h, .inr (14, (mL g81).set 59 (.ref q82))) :: wq82) := hD
  obtain ⟨g83, eg83⟩ : ∃ z9, z9 = va_up g81 59 (.ref q82) := ⟨_, rfl⟩
  rw [mL_upd, ← eg83] at hP hD
  refine lv_aload_n hx hb dX13_init_357 rfl (lv_at hl 0 rfl) ?_
  refine lv_sipush (v := 200) hx hb dX13_init_358 (by decide) ?_
  refine va_newa (atype := .int) (ty := .int) (N' := 200) (a0 := (200, .inl (fun _ => (0 : Int32)))) hx hb (hts _ (vA_in _ _ (in_2 _ (List.mem_of_getElem? (i := 38) rfl)))) rfl hK hP hD hS hA (fun _ => rfl) (by decide) (by decide) (Nat.le_of_ble_eq_true rfl) (Nat.le_of_ble_eq_true rfl) (Nat.le_of_ble_eq_true rfl) dX13_init_361 (fun q84 kq84 H hK hP hD hS => ?_)
  have hK : va_K (dC, dI) vwCl [(kq1, .int), (kq13, .byte), (kq72, .boolean), (kq84, .int)] s := hK
  obtain ⟨wq84, ewq84⟩ : ∃ z : va_W, z = wq82 ++ [(q84, .inl (kq84, 200, .inl (fun _ => (0 : Int32))))] := ⟨_, rfl⟩
  replace hP : va_P (dC, dI) vwCl ((h, .inr (14, mL g83)) :: wq84) H := by rw [ewq84]; exact hP
  replace hD : va_D A ((h, .inr (14, mL g83)) :: wq84) := by rw [ewq84]; exact hD
  refine W.widen (k := 42) (n := 8448) (by omega) (by omega) ?_
  obtain rfl : kq1 = kq84 := ub_sa_int hK 0 3 rfl rfl
  have hK := hK.sub (tys' := [(kq1, .int), (kq13, .byte), (kq72, .boolean)]) [0, 1, 2] rfl
  refine va_putF (D := (dC, dI)) (ci := 14) (v := .ref q84) (ty := .array .int) (C := RX13) (T := TX13) (N := 97) hx hb hts (fun w h => vA_in _ w (in_X13 w h)) tyX13 tyX13_ok nmX13 hown hK hP hD hS 0 rfl rfl 60 (by decide) (hts _ (vA_in _ _ (in_25 _ (List.mem_of_getElem? (i := 28) rfl)))) (fun _ h9 => h9) rfl hin rfl (by decide +kernel) rfl rfl (mL_lt (Nat.le_of_ble_eq_true rfl)) dX13_init_363 (fun H locs hP hD hS => ?_)
  replace hP : va_P (dC, dI) vwCl ((h, .inr (14, (mL g83).set 60 (.ref q84))) :: wq84) H := hP
  replace hD : va_D A ((h, .inr (14, (mL g83).set 60 (.ref q84))) :: wq84) := hD
  obtain ⟨g85, eg85⟩ : ∃ z9, z9 = va_up g83 60 (.ref q84) := ⟨_, rfl⟩
  rw [mL_upd, ← eg85] at hP hD
  refine lv_aload_n hx hb dX13_init_366 rfl (lv_at hl 0 rfl) ?_
  refine lv_sipush (v := 200) hx hb dX13_init_367 (by decide) ?_
  refine va_newa (atype := .int) (ty := .int) (N' := 200) (a0 := (200, .inl (fun _ => (0 : Int32)))) hx hb (hts _ (vA_in _ _ (in_2 _ (List.mem_of_getElem? (i := 38) rfl)))) rfl hK hP hD hS hA (fun _ => rfl) (by decide) (by decide) (Nat.le_of_ble_eq_true rfl) (Nat.le_of_ble_eq_true rfl) (Nat.le_of_ble_eq_true rfl) dX13_init_370 (fun q86 kq86 H hK hP hD hS => ?_)
  have hK : va_K (dC, dI) vwCl [(kq1, .int), (kq13, .byte), (kq72, .boolean), (kq86, .int)] s := hK
  obtain ⟨wq86, ewq86⟩ : ∃ z : va_W, z = wq84 ++ [(q86, .inl (kq86, 200, .inl (fun _ => (0 : Int32))))] := ⟨_, rfl⟩
  replace hP : va_P (dC, dI) vwCl ((h, .inr (14, mL g85)) :: wq86) H := by rw [ewq86]; exact hP
  replace hD : va_D A ((h, .inr (14, mL g85)) :: wq86) := by rw [ewq86]; exact hD
  refine W.widen (k := 43) (n := 8648) (by omega) (by omega) ?_
  obtain rfl : kq1 = kq86 := ub_sa_int hK 0 3 rfl rfl
  have hK := hK.sub (tys' := [(kq1, .int), (kq13, .byte), (kq72, .boolean)]) [0, 1, 2] rfl
  refine va_putF (D := (dC, dI)) (ci := 14) (v := .ref q86) (ty := .array .int) (C := RX13) (T := TX13) (N := 97) hx hb hts (fun w h => vA_in _ w (in_X13 w h)) tyX13 tyX13_ok nmX13 hown hK hP hD hS 0 rfl rfl 61 (by decide) (hts _ (vA_in _ _ (in_25 _ (List.mem_of_getElem? (i := 26) rfl)))) (fun _ h9 => h9) rfl hin rfl (by decide +kernel) rfl rfl (mL_lt (Nat.le_of_ble_eq_true rfl)) dX13_init_372 (fun H locs hP hD hS => ?_)
  replace hP : va_P (dC, dI) vwCl ((h, .inr (14, (mL g85).set 61 (.ref q86))) :: wq86) H := hP
  replace hD : va_D A ((h, .inr (14, (mL g85).set 61 (.ref q86))) :: wq86) := hD
  obtain ⟨g87, eg87⟩ : ∃ z9, z9 = va_up g85 61 (.ref q86) := ⟨_, rfl⟩
  rw [mL_upd, ← eg87] at hP hD
  refine lv_aload_n hx hb dX13_init_375 rfl (lv_at hl 0 rfl) ?_
  refine lv_sipush (v := 200) hx hb dX13_init_376 (by decide) ?_
  refine va_newa (atype := .int) (ty := .int) (N' := 200) (a0 := (200, .inl (fun _ => (0 : Int32)))) hx hb (hts _ (vA_in _ _ (in_2 _ (List.mem_of_getElem? (i := 38) rfl)))) rfl hK hP hD hS hA (fun _ => rfl) (by decide) (by decide) (Nat.le_of_ble_eq_true rfl) (Nat.le_of_ble_eq_true rfl) (Nat.le_of_ble_eq_true rfl) dX13_init_379 (fun q88 kq88 H hK hP hD hS => ?_)
  have hK : va_K (dC, dI) vwCl [(kq1, .int), (kq13, .byte), (kq72, .boolean), (kq88, .int)] s := hK
  obtain ⟨wq88, ewq88⟩ : ∃ z : va_W, z = wq86 ++ [(q88, .inl (kq88, 200, .inl (fun _ => (0 : Int32))))] := ⟨_, rfl⟩
  replace hP : va_P (dC, dI) vwCl ((h, .inr (14, mL g87)) :: wq88) H := by rw [ewq88]; exact hP
  replace hD : va_D A ((h, .inr (14, mL g87)) :: wq88) := by rw [ewq88]; exact hD
  refine W.widen (k := 44) (n := 8848) (by omega) (by omega) ?_
  obtain rfl : kq1 = kq88 := ub_sa_int hK 0 3 rfl rfl
  have hK := hK.sub (tys' := [(kq1, .int), (kq13, .byte), (kq72, .boolean)]) [0, 1, 2] rfl
  refine va_putF (D := (dC, dI)) (ci := 14) (v := .ref q88) (ty := .array .int) (C := RX13) (T := TX13) (N := 97) hx hb hts (fun w h => vA_in _ w (in_X13 w h)) tyX13 tyX13_ok nmX13 hown hK hP hD hS 0 rfl rfl 62 (by decide) (hts _ (vA_in _ _ (in_25 _ (List.mem_of_getElem? (i := 16) rfl)))) (fun _ h9 => h9) rfl hin rfl (by decide +kernel) rfl rfl (mL_lt (Nat.le_of_ble_eq_true rfl)) dX13_init_381 (fun H locs hP hD hS => ?_)
  replace hP : va_P (dC, dI) vwCl ((h, .inr (14, (mL g87).set 62 (.ref q88))) :: wq88) H := hP
  replace hD : va_D A ((h, .inr (14, (mL g87).set 62 (.ref q88))) :: wq88) := hD
  obtain ⟨g89, eg89⟩ : ∃ z9, z9 = va_up g87 62 (.ref q88) := ⟨_, rfl⟩
  rw [mL_upd, ← eg89] at hP hD
  refine lv_aload_n hx hb dX13_init_384 rfl (lv_at hl 0 rfl) ?_
  refine lv_sipush (v := 200) hx hb dX13_init_385 (by decide) ?_
  refine va_newa (atype := .int) (ty := .int) (N' := 200) (a0 := (200, .inl (fun _ => (0 : Int32)))) hx hb (hts _ (vA_in _ _ (in_2 _ (List.mem_of_getElem? (i := 38) rfl)))) rfl hK hP hD hS hA (fun _ => rfl) (by decide) (by decide) (Nat.le_of_ble_eq_true rfl) (Nat.le_of_ble_eq_true rfl) (Nat.le_of_ble_eq_true rfl) dX13_init_388 (fun q90 kq90 H hK hP hD hS => ?_)
  have hK : va_K (dC, dI) vwCl [(kq1, .int), (kq13, .byte), (kq72, .boolean), (kq90, .int)] s := hK
  obtain ⟨wq90, ewq90⟩ : ∃ z : va_W, z = wq88 ++ [(q90, .inl (kq90, 200, .inl (fun _ => (0 : Int32))))] := ⟨_, rfl⟩
  replace hP : va_P (dC, dI) vwCl ((h, .inr (14, mL g89)) :: wq90) H := by rw [ewq90]; exact hP
  replace hD : va_D A ((h, .inr (14, mL g89)) :: wq90) := by rw [ewq90]; exact hD
  refine W.widen (k := 45) (n := 9048) (by omega) (by omega) ?_
  obtain rfl : kq1 = kq90 := ub_sa_int hK 0 3 rfl rfl
  have hK := hK.sub (tys' := [(kq1, .int), (kq13, .byte), (kq72, .boolean)]) [0, 1, 2] rfl
  refine va_putF (D := (dC, dI)) (ci := 14) (v := .ref q90) (ty := .array .int) (C := RX13) (T := TX13) (N := 97) hx hb hts (fun w h => vA_in _ w (in_X13 w h)) tyX13 tyX13_ok nmX13 hown hK hP hD hS 0 rfl rfl 63 (by decide) (hts _ (vA_in _ _ (in_25 _ (List.mem_of_getElem? (i := 14) rfl)))) (fun _ h9 => h9) rfl hin rfl (by decide +kernel) rfl rfl (mL_lt (Nat.le_of_ble_eq_true rfl)) dX13_init_390 (fun H locs hP hD hS => ?_)
  replace hP : va_P (dC, dI) vwCl ((h, .inr (14, (mL g89).set 63 (.ref q90))) :: wq90) H := hP
  replace hD : va_D A ((h, .inr (14, (mL g89).set 63 (.ref q90))) :: wq90) := hD
  obtain ⟨g91, eg91⟩ : ∃ z9, z9 = va_up g89 63 (.ref q90) := ⟨_, rfl⟩
  rw [mL_upd, ← eg91] at hP hD
  refine lv_aload_n hx hb dX13_init_393 rfl (lv_at hl 0 rfl) ?_
  refine lv_bipush (v := 30) hx hb dX13_init_394 (by decide) ?_
  refine va_newa (atype := .int) (ty := .int) (N' := 30) (a0 := (30, .inl (fun _ => (0 : Int32)))) hx hb (hts _ (vA_in _ _ (in_2 _ (List.mem_of_getElem? (i := 38) rfl)))) rfl hK hP hD hS hA (fun _ => rfl) (by decide) (by decide) (Nat.le_of_ble_eq_true rfl) (Nat.le_of_ble_eq_true rfl) (Nat.le_of_ble_eq_true rfl) dX13_init_396 (fun q92 kq92 H hK hP hD hS => ?_)
  have hK : va_K (dC, dI) vwCl [(kq1, .int), (kq13, .byte), (kq72, .boolean), (kq92, .int)] s := hK
  obtain ⟨wq92, ewq92⟩ : ∃ z : va_W, z = wq90 ++ [(q92, .inl (kq92, 30, .inl (fun _ => (0 : Int32))))] := ⟨_, rfl⟩
  replace hP : va_P (dC, dI) vwCl ((h, .inr (14, mL g91)) :: wq92) H := by rw [ewq92]; exact hP
  replace hD : va_D A ((h, .inr (14, mL g91)) :: wq92) := by rw [ewq92]; exact hD
  refine W.widen (k := 46) (n := 9078) (by omega) (by omega) ?_
  obtain rfl : kq1 = kq92 := ub_sa_int hK 0 3 rfl rfl
  have hK := hK.sub (tys' := [(kq1, .int), (kq13, .byte), (kq72, .boolean)]) [0, 1, 2] rfl
  refine va_putF (D := (dC, dI)) (ci := 14) (v := .ref q92) (ty := .array .int) (C := RX13) (T := TX13) (N := 97) hx hb hts (fun w h => vA_in _ w (in_X13 w h)) tyX13 tyX13_ok nmX13 hown hK hP hD hS 0 rfl rfl 64 (by decide) (hts _ (vA_in _ _ (in_25 _ (List.mem_of_getElem? (i := 3) rfl)))) (fun _ h9 => h9) rfl hin rfl (by decide +kernel) rfl rfl (mL_lt (Nat.le_of_ble_eq_true rfl)) dX13_init_398 (fun H locs hP hD hS => ?_)
  replace hP : va_P (dC, dI) vwCl ((h, .inr (14, (mL g91).set 64 (.ref q92))) :: wq92) H := hP
  replace hD : va_D A ((h, .inr (14, (mL g91).set 64 (.ref q92))) :: wq92) := hD
  obtain ⟨g93, eg93⟩ : ∃ z9, z9 = va_up g91 64 (.ref q92) := ⟨_, rfl⟩
  rw [mL_upd, ← eg93] at hP hD
  refine lv_aload_n hx hb dX13_init_401 rfl (lv_at hl 0 rfl) ?_
  refine lv_bipush (v := 30) hx hb dX13_init_402 (by decide) ?_
  refine va_newa (atype := .int) (ty := .int) (N' := 30) (a0 := (30, .inl (fun _ => (0 : Int32)))) hx hb (hts _ (vA_in _ _ (in_2 _ (List.mem_of_getElem? (i := 38) rfl)))) rfl hK hP hD hS hA (fun _ => rfl) (by decide) (by decide) (Nat.le_of_ble_eq_true rfl) (Nat.le_of_ble_eq_true rfl) (Nat.le_of_ble_eq_true rfl) dX13_init_404 (fun q94 kq94 H hK hP hD hS => ?_)
  have hK : va_K (dC, dI) vwCl [(kq1, .int), (kq13, .byte), (kq72, .boolean), (kq94, .int)] s := hK
  obtain ⟨wq94, ewq94⟩ : ∃ z : va_W, z = wq92 ++ [(q94, .inl (kq94, 30, .inl (fun _ => (0 : Int32))))] := ⟨_, rfl⟩
  replace hP : va_P (dC, dI) vwCl ((h, .inr (14, mL g93)) :: wq94) H := by rw [ewq94]; exact hP
  replace hD : va_D A ((h, .inr (14, mL g93)) :: wq94) := by rw [ewq94]; exact hD
  refine W.widen (k := 47) (n := 9108) (by omega) (by omega) ?_
  obtain rfl : kq1 = kq94 := ub_sa_int hK 0 3 rfl rfl
  have hK := hK.sub (tys' := [(kq1, .int), (kq13, .byte), (kq72, .boolean)]) [0, 1, 2] rfl
  refine va_putF (D := (dC, dI)) (ci := 14) (v := .ref q94) (ty := .array .int) (C := RX13) (T := TX13) (N := 97) hx hb hts (fun w h => vA_in _ w (in_X13 w h)) tyX13 tyX13_ok nmX13 hown hK hP hD hS 0 rfl rfl 65 (by decide) (hts _ (vA_in _ _ (in_25 _ (List.mem_of_getElem? (i := 4) rfl)))) (fun _ h9 => h9) rfl hin rfl (by decide +kernel) rfl rfl (mL_lt (Nat.le_of_ble_eq_true rfl)) dX13_init_406 (fun H locs hP hD hS => ?_)
  replace hP : va_P (dC, dI) vwCl ((h, .inr (14, (mL g93).set 65 (.ref q94))) :: wq94) H := hP
  replace hD : va_D A ((h, .inr (14, (mL g93).set 65 (.ref q94))) :: wq94) := hD
  obtain ⟨g95, eg95⟩ : ∃ z9, z9 = va_up g93 65 (.ref q94) := ⟨_, rfl⟩
  rw [mL_upd, ← eg95] at hP hD
  refine lv_aload_n hx hb dX13_init_409 rfl (lv_at hl 0 rfl) ?_
  refine lv_bipush (v := 30) hx hb dX13_init_410 (by decide) ?_
  refine va_newa (atype := .int) (ty := .int) (N' := 30) (a0 := (30, .inl (fun _ => (0 : Int32)))) hx hb (hts _ (vA_in _ _ (in_2 _ (List.mem_of_getElem? (i := 38) rfl)))) rfl hK hP hD hS hA (fun _ => rfl) (by decide) (by decide) (Nat.le_of_ble_eq_true rfl) (Nat.le_of_ble_eq_true rfl) (Nat.le_of_ble_eq_true rfl) dX13_init_412 (fun q96 kq96 H hK hP hD hS => ?_)
  have hK : va_K (dC, dI) vwCl [(kq1, .int), (kq13, .byte), (kq72, .boolean), (kq96, .int)] s := hK
  obtain ⟨wq96, ewq96⟩ : ∃ z : va_W, z = wq94 ++ [(q96, .inl (kq96, 30, .inl (fun _ => (0 : Int32))))] := ⟨_, rfl⟩
  replace hP : va_P (dC, dI) vwCl ((h, .inr (14, mL g95)) :: wq96) H := by rw [ewq96]; exact hP
  replace hD : va_D A ((h, .inr (14, mL g95)) :: wq96) := by rw [ewq96]; exact hD
  refine W.widen (k := 48) (n := 9138) (by omega) (by omega) ?_
  obtain rfl : kq1 = kq96 := ub_sa_int hK 0 3 rfl rfl
  have hK := hK.sub (tys' := [(kq1, .int), (kq13, .byte), (kq72, .boolean)]) [0, 1, 2] rfl
  refine va_putF (D := (dC, dI)) (ci := 14) (v := .ref q96) (ty := .array .int) (C := RX13) (T := TX13) (N := 97) hx hb hts (fun w h => vA_in _ w (in_X13 w h)) tyX13 tyX13_ok nmX13 hown hK hP hD hS 0 rfl rfl 66 (by decide) (hts _ (vA_in _ _ (in_25 _ (List.mem_of_getElem? (i := 6) rfl)))) (fun _ h9 => h9) rfl hin rfl (by decide +kernel) rfl rfl (mL_lt (Nat.le_of_ble_eq_true rfl)) dX13_init_414 (fun H locs hP hD hS => ?_)
  replace hP : va_P (dC, dI) vwCl ((h, .inr (14, (mL g95).set 66 (.ref q96))) :: wq96) H := hP
  replace hD : va_D A ((h, .inr (14, (mL g95).set 66 (.ref q96))) :: wq96) := hD
  obtain ⟨g97, eg97⟩ : ∃ z9, z9 = va_up g95 66 (.ref q96) := ⟨_, rfl⟩
  rw [mL_upd, ← eg97] at hP hD
  refine lv_aload_n hx hb dX13_init_417 rfl (lv_at hl 0 rfl) ?_
  refine lv_bipush (v := 30) hx hb dX13_init_418 (by decide) ?_
  refine va_newa (atype := .int) (ty := .int) (N' := 30) (a0 := (30, .inl (fun _ => (0 : Int32)))) hx hb (hts _ (vA_in _ _ (in_2 _ (List.mem_of_getElem? (i := 38) rfl)))) rfl hK hP hD hS hA (fun _ => rfl) (by decide) (by decide) (Nat.le_of_ble_eq_true rfl) (Nat.le_of_ble_eq_true rfl) (Nat.le_of_ble_eq_true rfl) dX13_init_420 (fun q98 kq98 H hK hP hD hS => ?_)
  have hK : va_K (dC, dI) vwCl [(kq1, .int), (kq13, .byte), (kq72, .boolean), (kq98, .int)] s := hK
  obtain ⟨wq98, ewq98⟩ : ∃ z : va_W, z = wq96 ++ [(q98, .inl (kq98, 30, .inl (fun _ => (0 : Int32))))] := ⟨_, rfl⟩
  replace hP : va_P (dC, dI) vwCl ((h, .inr (14, mL g97)) :: wq98) H := by rw [ewq98]; exact hP
  replace hD : va_D A ((h, .inr (14, mL g97)) :: wq98) := by rw [ewq98]; exact hD
  refine W.widen (k := 49) (n := 9168) (by omega) (by omega) ?_
  obtain rfl : kq1 = kq98 := ub_sa_int hK 0 3 rfl rfl
  have hK := hK.sub (tys' := [(kq1, .int), (kq13, .byte), (kq72, .boolean)]) [0, 1, 2] rfl
  refine va_putF (D := (dC, dI)) (ci := 14) (v := .ref q98) (ty := .array .int) (C := RX13) (T := TX13) (N := 97) hx hb hts (fun w h => vA_in _ w (in_X13 w h)) tyX13 tyX13_ok nmX13 hown hK hP hD hS 0 rfl rfl 67 (by decide) (hts _ (vA_in _ _ (in_25 _ (List.mem_of_getElem? (i := 5) rfl)))) (fun _ h9 => h9) rfl hin rfl (by decide +kernel) rfl rfl (mL_lt (Nat.le_of_ble_eq_true rfl)) dX13_init_422 (fun H locs hP hD hS => ?_)
  replace hP : va_P (dC, dI) vwCl ((h, .inr (14, (mL g97).set 67 (.ref q98))) :: wq98) H := hP
  replace hD : va_D A ((h, .inr (14, (mL g97).set 67 (.ref q98))) :: wq98) := hD
  obtain ⟨g99, eg99⟩ : ∃ z9, z9 = va_up g97 67 (.ref q98) := ⟨_, rfl⟩
  rw [mL_upd, ← eg99] at hP hD
  refine lv_aload_n hx hb dX13_init_425 rfl (lv_at hl 0 rfl) ?_
  refine lv_bipush (v := 30) hx hb dX13_init_426 (by decide) ?_
  refine va_newa (atype := .int) (ty := .int) (N' := 30) (a0 := (30, .inl (fun _ => (0 : Int32)))) hx hb (hts _ (vA_in _ _ (in_2 _ (List.mem_of_getElem? (i := 38) rfl)))) rfl hK hP hD hS hA (fun _ => rfl) (by decide) (by decide) (Nat.le_of_ble_eq_true rfl) (Nat.le_of_ble_eq_true rfl) (Nat.le_of_ble_eq_true rfl) dX13_init_428 (fun q100 kq100 H hK hP hD hS => ?_)
  have hK : va_K (dC, dI) vwCl [(kq1, .int), (kq13, .byte), (kq72, .boolean), (kq100, .int)] s := hK
  obtain ⟨wq100, ewq100⟩ : ∃ z : va_W, z = wq98 ++ [(q100, .inl (kq100, 30, .inl (fun _ => (0 : Int32))))] := ⟨_, rfl⟩
  replace hP : va_P (dC, dI) vwCl ((h, .inr (14, mL g99)) :: wq100) H := by rw [ewq100]; exact hP
  replace hD : va_D A ((h, .inr (14, mL g99)) :: wq100) := by rw [ewq100]; exact hD
  refine W.widen (k := 50) (n := 9198) (by omega) (by omega) ?_
  obtain rfl : kq1 = kq100 := ub_sa_int hK 0 3 rfl rfl
  have hK := hK.sub (tys' := [(kq1, .int), (kq13, .byte), (kq72, .boolean)]) [0, 1, 2] rfl
  refine va_putF (D := (dC, dI)) (ci := 14) (v := .ref q100) (ty := .array .int) (C := RX13) (T := TX13) (N := 97) hx hb hts (fun w h => vA_in _ w (in_X13 w h)) tyX13 tyX13_ok nmX13 hown hK hP hD hS 0 rfl rfl 68 (by decide) (hts _ (vA_in _ _ (in_25 _ (List.mem_of_getElem? (i := 2) rfl)))) (fun _ h9 => h9) rfl hin rfl (by decide +kernel) rfl rfl (mL_lt (Nat.le_of_ble_eq_true rfl)) dX13_init_430 (fun H locs hP hD hS => ?_)
  replace hP : va_P (dC, dI) vwCl ((h, .inr (14, (mL g99).set 68 (.ref q100))) :: wq100) H := hP
  replace hD : va_D A ((h, .inr (14, (mL g99).set 68 (.ref q100))) :: wq100) := hD
  obtain ⟨g101, eg101⟩ : ∃ z9, z9 = va_up g99 68 (.ref q100) := ⟨_, rfl⟩
  rw [mL_upd, ← eg101] at hP hD
  refine lv_aload_n hx hb dX13_init_433 rfl (lv_at hl 0 rfl) ?_
  refine lv_bipush (v := 60) hx hb dX13_init_434 (by decide) ?_
  refine va_newa (atype := .int) (ty := .int) (N' := 60) (a0 := (60, .inl (fun _ => (0 : Int32)))) hx hb (hts _ (vA_in _ _ (in_2 _ (List.mem_of_getElem? (i := 38) rfl)))) rfl hK hP hD hS hA (fun _ => rfl) (by decide) (by decide) (Nat.le_of_ble_eq_true rfl) (Nat.le_of_ble_eq_true rfl) (Nat.le_of_ble_eq_true rfl) dX13_init_436 (fun q102 kq102 H hK hP hD hS => ?_)
  have hK : va_K (dC, dI) vwCl [(kq1, .int), (kq13, .byte), (kq72, .boolean), (kq102, .int)] s := hK
  obtain ⟨wq102, ewq102⟩ : ∃ z : va_W, z = wq100 ++ [(q102, .inl (kq102, 60, .inl (fun _ => (0 : Int32))))] := ⟨_, rfl⟩
  replace hP : va_P (dC, dI) vwCl ((h, .inr (14, mL g101)) :: wq102) H := by rw [ewq102]; exact hP
  replace hD : va_D A ((h, .inr (14, mL g101)) :: wq102) := by rw [ewq102]; exact hD
  refine W.widen (k := 51) (n := 9258) (by omega) (by omega) ?_
  obtain rfl : kq1 = kq102 := ub_sa_int hK 0 3 rfl rfl
  have hK := hK.sub (tys' := [(kq1, .int), (kq13, .byte), (kq72, .boolean)]) [0, 1, 2] rfl
  refine va_putF (D := (dC, dI)) (ci := 14) (v := .ref q102) (ty := .array .int) (C := RX13) (T := TX13) (N := 97) hx hb hts (fun w h => vA_in _ w (in_X13 w h)) tyX13 tyX13_ok nmX13 hown hK hP hD hS 0 rfl rfl 69 (by decide) (hts _ (vA_in _ _ (in_28 _ (List.mem_of_getElem? (i := 6) rfl)))) (fun _ h9 => h9) rfl hin rfl (by decide +kernel) rfl rfl (mL_lt (Nat.le_of_ble_eq_true rfl)) dX13_init_438 (fun H locs hP hD hS => ?_)
  replace hP : va_P (dC, dI) vwCl ((h, .inr (14, (mL g101).set 69 (.ref q102))) :: wq102) H := hP
  replace hD : va_D A ((h, .inr (14, (mL g101).set 69 (.ref q102))) :: wq102) := hD
  obtain ⟨g103, eg103⟩ : ∃ z9, z9 = va_up g101 69 (.ref q102) := ⟨_, rfl⟩
  rw [mL_upd, ← eg103] at hP hD
  refine lv_aload_n hx hb dX13_init_441 rfl (lv_at hl 0 rfl) ?_
  refine lv_bipush (v := 60) hx hb dX13_init_442 (by decide) ?_
  refine va_newa (atype := .int) (ty := .int) (N' := 60) (a0 := (60, .inl (fun _ => (0 : Int32)))) hx hb (hts _ (vA_in _ _ (in_2 _ (List.mem_of_getElem? (i := 38) rfl)))) rfl hK hP hD hS hA (fun _ => rfl) (by decide) (by decide) (Nat.le_of_ble_eq_true rfl) (Nat.le_of_ble_eq_true rfl) (Nat.le_of_ble_eq_true rfl) dX13_init_444 (fun q104 kq104 H hK hP hD hS => ?_)
  have hK : va_K (dC, dI) vwCl [(kq1, .int), (kq13, .byte), (kq72, .boolean), (kq104, .int)] s := hK
  obtain ⟨wq104, ewq104⟩ : ∃ z : va_W, z = wq102 ++ [(q104, .inl (kq104, 60, .inl (fun _ => (0 : Int32))))] := ⟨_, rfl⟩
  replace hP : va_P (dC, dI) vwCl ((h, .inr (14, mL g103)) :: wq104) H := by rw [ewq104]; exact hP
  replace hD : va_D A ((h, .inr (14, mL g103)) :: wq104) := by rw [ewq104]; exact hD
  refine W.widen (k := 52) (n := 9318) (by omega) (by omega) ?_
  obtain rfl : kq1 = kq104 := ub_sa_int hK 0 3 rfl rfl
  have hK := hK.sub (tys' := [(kq1, .int), (kq13, .byte), (kq72, .boolean)]) [0, 1, 2] rfl
  refine va_putF (D := (dC, dI)) (ci := 14) (v := .ref q104) (ty := .array .int) (C := RX13) (T := TX13) (N := 97) hx hb hts (fun w h => vA_in _ w (in_X13 w h)) tyX13 tyX13_ok nmX13 hown hK hP hD hS 0 rfl rfl 70 (by decide) (hts _ (vA_in _ _ (in_28 _ (List.mem_of_getElem? (i := 7) rfl)))) (fun _ h9 => h9) rfl hin rfl (by decide +kernel) rfl rfl (mL_lt (Nat.le_of_ble_eq_true rfl)) dX13_init_446 (fun H locs hP hD hS => ?_)
  replace hP : va_P (dC, dI) vwCl ((h, .inr (14, (mL g103).set 70 (.ref q104))) :: wq104) H := hP
  replace hD : va_D A ((h, .inr (14, (mL g103).set 70 (.ref q104))) :: wq104) := hD
  obtain ⟨g105, eg105⟩ : ∃ z9, z9 = va_up g103 70 (.ref q104) := ⟨_, rfl⟩
  rw [mL_upd, ← eg105] at hP hD
  refine lv_aload_n hx hb dX13_init_449 rfl (lv_at hl 0 rfl) ?_
  refine lv_bipush (v := 60) hx hb dX13_init_450 (by decide) ?_
  refine va_newa (atype := .int) (ty := .int) (N' := 60) (a0 := (60, .inl (fun _ => (0 : Int32)))) hx hb (hts _ (vA_in _ _ (in_2 _ (List.mem_of_getElem? (i := 38) rfl)))) rfl hK hP hD hS hA (fun _ => rfl) (by decide) (by decide) (Nat.le_of_ble_eq_true rfl) (Nat.le_of_ble_eq_true rfl) (Nat.le_of_ble_eq_true rfl) dX13_init_452 (fun q106 kq106 H hK hP hD hS => ?_)
  have hK : va_K (dC, dI) vwCl [(kq1, .int), (kq13, .byte), (kq72, .boolean), (kq106, .int)] s := hK
  obtain ⟨wq106, ewq106⟩ : ∃ z : va_W, z = wq104 ++ [(q106, .inl (kq106, 60, .inl (fun _ => (0 : Int32))))] := ⟨_, rfl⟩
  replace hP : va_P (dC, dI) vwCl ((h, .inr (14, mL g105)) :: wq106) H := by rw [ewq106]; exact hP
  replace hD : va_D A ((h, .inr (14, mL g105)) :: wq106) := by rw [ewq106]; exact hD
  refine W.widen (k := 53) (n := 9378) (by omega) (by omega) ?_
  obtain rfl : kq1 = kq106 := ub_sa_int hK 0 3 rfl rfl
  have hK := hK.sub (tys' := [(kq1, .int), (kq13, .byte), (kq72, .boolean)]) [0, 1, 2] rfl
  refine va_putF (D := (dC, dI)) (ci := 14) (v := .ref q106) (ty := .array .int) (C := RX13) (T := TX13) (N := 97) hx hb hts (fun w h => vA_in _ w (in_X13 w h)) tyX13 tyX13_ok nmX13 hown hK hP hD hS 0 rfl rfl 71 (by decide) (hts _ (vA_in _ _ (in_28 _ (List.mem_of_getElem? (i := 8) rfl)))) (fun _ h9 => h9) rfl hin rfl (by decide +kernel) rfl rfl (mL_lt (Nat.le_of_ble_eq_true rfl)) dX13_init_454 (fun H locs hP hD hS => ?_)
  replace hP : va_P (dC, dI) vwCl ((h, .inr (14, (mL g105).set 71 (.ref q106))) :: wq106) H := hP
  replace hD : va_D A ((h, .inr (14, (mL g105).set 71 (.ref q106))) :: wq106) := hD
  obtain ⟨g107, eg107⟩ : ∃ z9, z9 = va_up g105 71 (.ref q106) := ⟨_, rfl⟩
  rw [mL_upd, ← eg107] at hP hD
  refine lv_aload_n hx hb dX13_init_457 rfl (lv_at hl 0 rfl) ?_
  refine lv_bipush (v := 30) hx hb dX13_init_458 (by decide) ?_
  refine va_newa (atype := .int) (ty := .int) (N' := 30) (a0 := (30, .inl (fun _ => (0 : Int32)))) hx hb (hts _ (vA_in _ _ (in_2 _ (List.mem_of_getElem? (i := 38) rfl)))) rfl hK hP hD hS hA (fun _ => rfl) (by decide) (by decide) (Nat.le_of_ble_eq_true rfl) (Nat.le_of_ble_eq_true rfl) (Nat.le_of_ble_eq_true rfl) dX13_init_460 (fun q108 kq108 H hK hP hD hS => ?_)
  have hK : va_K (dC, dI) vwCl [(kq1, .int), (kq13, .byte), (kq72, .boolean), (kq108, .int)] s := hK
  obtain ⟨wq108, ewq108⟩ : ∃ z : va_W, z = wq106 ++ [(q108, .inl (kq108, 30, .inl (fun _ => (0 : Int32))))] := ⟨_, rfl⟩
  replace hP : va_P (dC, dI) vwCl ((h, .inr (14, mL g107)) :: wq108) H := by rw [ewq108]; exact hP
  replace hD : va_D A ((h, .inr (14, mL g107)) :: wq108) := by rw [ewq108]; exact hD
  refine W.widen (k := 54) (n := 9408) (by omega) (by omega) ?_
  obtain rfl : kq1 = kq108 := ub_sa_int hK 0 3 rfl rfl
  have hK := hK.sub (tys' := [(kq1, .int), (kq13, .byte), (kq72, .boolean)]) [0, 1, 2] rfl
  refine va_putF (D := (dC, dI)) (ci := 14) (v := .ref q108) (ty := .array .int) (C := RX13) (T := TX13) (N := 97) hx hb hts (fun w h => vA_in _ w (in_X13 w h)) tyX13 tyX13_ok nmX13 hown hK hP hD hS 0 rfl rfl 72 (by decide) (hts _ (vA_in _ _ (in_28 _ (List.mem_of_getElem? (i := 5) rfl)))) (fun _ h9 => h9) rfl hin rfl (by decide +kernel) rfl rfl (mL_lt (Nat.le_of_ble_eq_true rfl)) dX13_init_462 (fun H locs hP hD hS => ?_)
  replace hP : va_P (dC, dI) vwCl ((h, .inr (14, (mL g107).set 72 (.ref q108))) :: wq108) H := hP
  replace hD : va_D A ((h, .inr (14, (mL g107).set 72 (.ref q108))) :: wq108) := hD
  obtain ⟨g109, eg109⟩ : ∃ z9, z9 = va_up g107 72 (.ref q108) := ⟨_, rfl⟩
  rw [mL_upd, ← eg109] at hP hD
  refine lv_aload_n hx hb dX13_init_465 rfl (lv_at hl 0 rfl) ?_
  refine lv_bipush (v := 30) hx hb dX13_init_466 (by decide) ?_
  refine va_newa (atype := .boolean) (ty := .boolean) (N' := 30) (a0 := (30, .inl (fun _ => (0 : Int32)))) hx hb (hts _ (vA_in _ _ (in_19 _ (List.mem_of_getElem? (i := 10) rfl)))) rfl hK hP hD hS hA (fun _ => rfl) (by decide) (by decide) (Nat.le_of_ble_eq_true rfl) (Nat.le_of_ble_eq_true rfl) (Nat.le_of_ble_eq_true rfl) dX13_init_468 (fun q110 kq110 H hK hP hD hS => ?_)
  have hK : va_K (dC, dI) vwCl [(kq1, .int), (kq13, .byte), (kq72, .boolean), (kq110, .boolean)] s := hK
  obtain ⟨wq110, ewq110⟩ : ∃ z : va_W, z = wq108 ++ [(q110, .inl (kq110, 30, .inl (fun _ => (0 : Int32))))] := ⟨_, rfl⟩
  replace hP : va_P (dC, dI) vwCl ((h, .inr (14, mL g109)) :: wq110) H := by rw [ewq110]; exact hP
  replace hD : va_D A ((h, .inr (14, mL g109)) :: wq110) := by rw [ewq110]; exact hD
  refine W.widen (k := 55) (n := 9438) (by omega) (by omega) ?_
  obtain rfl : kq72 = kq110 := ub_sa_boolean hK 2 3 rfl rfl
  have hK := hK.sub (tys' := [(kq1, .int), (kq13, .byte), (kq72, .boolean)]) [0, 1, 2] rfl
  refine va_putF (D := (dC, dI)) (ci := 14) (v := .ref q110) (ty := .array .boolean) (C := RX13) (T := TX13) (N := 97) hx hb hts (fun w h => vA_in _ w (in_X13 w h)) tyX13 tyX13_ok nmX13 hown hK hP hD hS 0 rfl rfl 73 (by decide) (hts _ (vA_in _ _ (in_30 _ (List.mem_of_getElem? (i := 24) rfl)))) (fun _ h9 => h9) rfl hin rfl (by decide +kernel) rfl rfl (mL_lt (Nat.le_of_ble_eq_true rfl)) dX13_init_470 (fun H locs hP hD hS => ?_)
  replace hP : va_P (dC, dI) vwCl ((h, .inr (14, (mL g109).set 73 (.ref q110))) :: wq110) H := hP
  replace hD : va_D A ((h, .inr (14, (mL g109).set 73 (.ref q110))) :: wq110) := hD
  obtain ⟨g111, eg111⟩ : ∃ z9, z9 = va_up g109 73 (.ref q110) := ⟨_, rfl⟩
  rw [mL_upd, ← eg111] at hP hD
  refine lv_aload_n hx hb dX13_init_473 rfl (lv_at hl 0 rfl) ?_
  refine lv_sipush (v := 256) hx hb dX13_init_474 (by decide) ?_
  refine va_newa (atype := .int) (ty := .int) (N' := 256) (a0 := (256, .inl (fun _ => (0 : Int32)))) hx hb (hts _ (vA_in _ _ (in_2 _ (List.mem_of_getElem? (i := 38) rfl)))) rfl hK hP hD hS hA (fun _ => rfl) (by decide) (by decide) (Nat.le_of_ble_eq_true rfl) (Nat.le_of_ble_eq_true rfl) (Nat.le_of_ble_eq_true rfl) dX13_init_477 (fun q112 kq112 H hK hP hD hS => ?_)
  have hK : va_K (dC, dI) vwCl [(kq1, .int), (kq13, .byte), (kq72, .boolean), (kq112, .int)] s := hK
  obtain ⟨wq112, ewq112⟩ : ∃ z : va_W, z = wq110 ++ [(q112, .inl (kq112, 256, .inl (fun _ => (0 : Int32))))] := ⟨_, rfl⟩
  replace hP : va_P (dC, dI) vwCl ((h, .inr (14, mL g111)) :: wq112) H := by rw [ewq112]; exact hP
  replace hD : va_D A ((h, .inr (14, mL g111)) :: wq112) := by rw [ewq112]; exact hD
  refine W.widen (k := 56) (n := 9694) (by omega) (by omega) ?_
  obtain rfl : kq1 = kq112 := ub_sa_int hK 0 3 rfl rfl
  have hK := hK.sub (tys' := [(kq1, .int), (kq13, .byte), (kq72, .boolean)]) [0, 1, 2] rfl
  refine va_putF (D := (dC, dI)) (ci := 14) (v := .ref q112) (ty := .array .int) (C := RX13) (T := TX13) (N := 97) hx hb hts (fun w h => vA_in _ w (in_X13 w h)) tyX13 tyX13_ok nmX13 hown hK hP hD hS 0 rfl rfl 76 (by decide) (hts _ (vA_in _ _ (in_25 _ (List.mem_of_getElem? (i := 17) rfl)))) (fun _ h9 => h9) rfl hin rfl (by decide +kernel) rfl rfl (mL_lt (Nat.le_of_ble_eq_true rfl)) dX13_init_479 (fun H locs hP hD hS => ?_)
  replace hP : va_P (dC, dI) vwCl ((h, .inr (14, (mL g111).set 76 (.ref q112))) :: wq112) H := hP
  replace hD : va_D A ((h, .inr (14, (mL g111).set 76 (.ref q112))) :: wq112) := hD
  obtain ⟨g113, eg113⟩ : ∃ z9, z9 = va_up g111 76 (.ref q112) := ⟨_, rfl⟩
  rw [mL_upd, ← eg113] at hP hD
  refine lv_aload_n hx hb dX13_init_482 rfl (lv_at hl 0 rfl) ?_
  refine lv_sipush (v := 256) hx hb dX13_init_483 (by decide) ?_
  refine va_newa (atype := .int) (ty := .int) (N' := 256) (a0 := (256, .inl (fun _ => (0 : Int32)))) hx hb (hts _ (vA_in _ _ (in_2 _ (List.mem_of_getElem? (i := 38) rfl)))) rfl hK hP hD hS hA (fun _ => rfl) (by decide) (by decide) (Nat.le_of_ble_eq_true rfl) (Nat.le_of_ble_eq_true rfl) (Nat.le_of_ble_eq_true rfl) dX13_init_486 (fun q114 kq114 H hK hP hD hS => ?_)
  have hK : va_K (dC, dI) vwCl [(kq1, .int), (kq13, .byte), (kq72, .boolean), (kq114, .int)] s := hK
  obtain ⟨wq114, ewq114⟩ : ∃ z : va_W, z = wq112 ++ [(q114, .inl (kq114, 256, .inl (fun _ => (0 : Int32))))] := ⟨_, rfl⟩
  replace hP : va_P (dC, dI) vwCl ((h, .inr (14, mL g113)) :: wq114) H := by rw [ewq114]; exact hP
  replace hD : va_D A ((h, .inr (14, mL g113)) :: wq114) := by rw [ewq114]; exact hD
  refine W.widen (k := 57) (n := 9950) (by omega) (by omega) ?_
  obtain rfl : kq1 = kq114 := ub_sa_int hK 0 3 rfl rfl
  have hK := hK.sub (tys' := [(kq1, .int), (kq13, .byte), (kq72, .boolean)]) [0, 1, 2] rfl
  refine va_putF (D := (dC, dI)) (ci := 14) (v := .ref q114) (ty := .array .int) (C := RX13) (T := TX13) (N := 97) hx hb hts (fun w h => vA_in _ w (in_X13 w h)) tyX13 tyX13_ok nmX13 hown hK hP hD hS 0 rfl rfl 77 (by decide) (hts _ (vA_in _ _ (in_25 _ (List.mem_of_getElem? (i := 18) rfl)))) (fun _ h9 => h9) rfl hin rfl (by decide +kernel) rfl rfl (mL_lt (Nat.le_of_ble_eq_true rfl)) dX13_init_488 (fun H locs hP hD hS => ?_)
  replace hP : va_P (dC, dI) vwCl ((h, .inr (14, (mL g113).set 77 (.ref q114))) :: wq114) H := hP
  replace hD : va_D A ((h, .inr (14, (mL g113).set 77 (.ref q114))) :: wq114) := hD
  obtain ⟨g115, eg115⟩ : ∃ z9, z9 = va_up g113 77 (.ref q114) := ⟨_, rfl⟩
  rw [mL_upd, ← eg115] at hP hD
  refine lv_aload_n hx hb dX13_init_491 rfl (lv_at hl 0 rfl) ?_
  refine lv_sipush (v := 256) hx hb dX13_init_492 (by decide) ?_
  refine va_newa (atype := .int) (ty := .int) (N' := 256) (a0 := (256, .inl (fun _ => (0 : Int32)))) hx hb (hts _ (vA_in _ _ (in_2 _ (List.mem_of_getElem? (i := 38) rfl)))) rfl hK hP hD hS hA (fun _ => rfl) (by decide) (by decide) (Nat.le_of_ble_eq_true rfl) (Nat.le_of_ble_eq_true rfl) (Nat.le_of_ble_eq_true rfl) dX13_init_495 (fun q116 kq116 H hK hP hD hS => ?_)
  have hK : va_K (dC, dI) vwCl [(kq1, .int), (kq13, .byte), (kq72, .boolean), (kq116, .int)] s := hK
  obtain ⟨wq116, ewq116⟩ : ∃ z : va_W, z = wq114 ++ [(q116, .inl (kq116, 256, .inl (fun _ => (0 : Int32))))] := ⟨_, rfl⟩
  replace hP : va_P (dC, dI) vwCl ((h, .inr (14, mL g115)) :: wq116) H := by rw [ewq116]; exact hP
  replace hD : va_D A ((h, .inr (14, mL g115)) :: wq116) := by rw [ewq116]; exact hD
  refine W.widen (k := 58) (n := 10206) (by omega) (by omega) ?_
  obtain rfl : kq1 = kq116 := ub_sa_int hK 0 3 rfl rfl
  have hK := hK.sub (tys' := [(kq1, .int), (kq13, .byte), (kq72, .boolean)]) [0, 1, 2] rfl
  refine va_putF (D := (dC, dI)) (ci := 14) (v := .ref q116) (ty := .array .int) (C := RX13) (T := TX13) (N := 97) hx hb hts (fun w h => vA_in _ w (in_X13 w h)) tyX13 tyX13_ok nmX13 hown hK hP hD hS 0 rfl rfl 78 (by decide) (hts _ (vA_in _ _ (in_25 _ (List.mem_of_getElem? (i := 19) rfl)))) (fun _ h9 => h9) rfl hin rfl (by decide +kernel) rfl rfl (mL_lt (Nat.le_of_ble_eq_true rfl)) dX13_init_497 (fun H locs hP hD hS => ?_)
  replace hP : va_P (dC, dI) vwCl ((h, .inr (14, (mL g115).set 78 (.ref q116))) :: wq116) H := hP
  replace hD : va_D A ((h, .inr (14, (mL g115).set 78 (.ref q116))) :: wq116) := hD
  obtain ⟨g117, eg117⟩ : ∃ z9, z9 = va_up g115 78 (.ref q116) := ⟨_, rfl⟩
  rw [mL_upd, ← eg117] at hP hD
  refine lv_aload_n hx hb dX13_init_500 rfl (lv_at hl 0 rfl) ?_
  refine lv_iconst (v := 2) hx hb dX13_init_501 (by decide) ?_
  refine va_newa (atype := .int) (ty := .int) (N' := 2) (a0 := (2, .inl (fun _ => (0 : Int32)))) hx hb (hts _ (vA_in _ _ (in_2 _ (List.mem_of_getElem? (i := 38) rfl)))) rfl hK hP hD hS hA (fun _ => rfl) (by decide) (by decide) (Nat.le_of_ble_eq_true rfl) (Nat.le_of_ble_eq_true rfl) (Nat.le_of_ble_eq_true rfl) dX13_init_502 (fun q118 kq118 H hK hP hD hS => ?_)
  have hK : va_K (dC, dI) vwCl [(kq1, .int), (kq13, .byte), (kq72, .boolean), (kq118, .int)] s := hK
  obtain ⟨wq118, ewq118⟩ : ∃ z : va_W, z = wq116 ++ [(q118, .inl (kq118, 2, .inl (fun _ => (0 : Int32))))] := ⟨_, rfl⟩
  replace hP : va_P (dC, dI) vwCl ((h, .inr (14, mL g117)) :: wq118) H := by rw [ewq118]; exact hP
  replace hD : va_D A ((h, .inr (14, mL g117)) :: wq118) := by rw [ewq118]; exact hD
  refine W.widen (k := 59) (n := 10208) (by omega) (by omega) ?_
  obtain rfl : kq1 = kq118 := ub_sa_int hK 0 3 rfl rfl
  have hK := hK.sub (tys' := [(kq1, .int), (kq13, .byte), (kq72, .boolean)]) [0, 1, 2] rfl
  refine va_putF (D := (dC, dI)) (ci := 14) (v := .ref q118) (ty := .array .int) (C := RX13) (T := TX13) (N := 97) hx hb hts (fun w h => vA_in _ w (in_X13 w h)) tyX13 tyX13_ok nmX13 hown hK hP hD hS 0 rfl rfl 79 (by decide) (hts _ (vA_in _ _ (in_25 _ (List.mem_of_getElem? (i := 20) rfl)))) (fun _ h9 => h9) rfl hin rfl (by decide +kernel) rfl rfl (mL_lt (Nat.le_of_ble_eq_true rfl)) dX13_init_504 (fun H locs hP hD hS => ?_)
  replace hP : va_P (dC, dI) vwCl ((h, .inr (14, (mL g117).set 79 (.ref q118))) :: wq118) H := hP
  replace hD : va_D A ((h, .inr (14, (mL g117).set 79 (.ref q118))) :: wq118) := hD
  obtain ⟨g119, eg119⟩ : ∃ z9, z9 = va_up g117 79 (.ref q118) := ⟨_, rfl⟩
  rw [mL_upd, ← eg119] at hP hD
  refine lv_aload_n hx hb dX13_init_507 rfl (lv_at hl 0 rfl) ?_
  refine lv_iconst (v := 4) hx hb dX13_init_508 (by decide) ?_
  refine va_newa (atype := .int) (ty := .int) (N' := 4) (a0 := (4, .inl (fun _ => (0 : Int32)))) hx hb (hts _ (vA_in _ _ (in_2 _ (List.mem_of_getElem? (i := 38) rfl)))) rfl hK hP hD hS hA (fun _ => rfl) (by decide) (by decide) (Nat.le_of_ble_eq_true rfl) (Nat.le_of_ble_eq_true rfl) (Nat.le_of_ble_eq_true rfl) dX13_init_509 (fun q120 kq120 H hK hP hD hS => ?_)
  have hK : va_K (dC, dI) vwCl [(kq1, .int), (kq13, .byte), (kq72, .boolean), (kq120, .int)] s := hK
  obtain ⟨wq120, ewq120⟩ : ∃ z : va_W, z = wq118 ++ [(q120, .inl (kq120, 4, .inl (fun _ => (0 : Int32))))] := ⟨_, rfl⟩
  replace hP : va_P (dC, dI) vwCl ((h, .inr (14, mL g119)) :: wq120) H := by rw [ewq120]; exact hP
  replace hD : va_D A ((h, .inr (14, mL g119)) :: wq120) := by rw [ewq120]; exact hD
  refine W.widen (k := 60) (n := 10212) (by omega) (by omega) ?_
  obtain rfl : kq1 = kq120 := ub_sa_int hK 0 3 rfl rfl
  have hK := hK.sub (tys' := [(kq1, .int), (kq13, .byte), (kq72, .boolean)]) [0, 1, 2] rfl
  refine va_putF (D := (dC, dI)) (ci := 14) (v := .ref q120) (ty := .array .int) (C := RX13) (T := TX13) (N := 97) hx hb hts (fun w h => vA_in _ w (in_X13 w h)) tyX13 tyX13_ok nmX13 hown hK hP hD hS 0 rfl rfl 80 (by decide) (hts _ (vA_in _ _ (in_27 _ (List.mem_of_getElem? (i := 23) rfl)))) (fun _ h9 => h9) rfl hin rfl (by decide +kernel) rfl rfl (mL_lt (Nat.le_of_ble_eq_true rfl)) dX13_init_511 (fun H locs hP hD hS => ?_)
  replace hP : va_P (dC, dI) vwCl ((h, .inr (14, (mL g119).set 80 (.ref q120))) :: wq120) H := hP
  replace hD : va_D A ((h, .inr (14, (mL g119).set 80 (.ref q120))) :: wq120) := hD
  obtain ⟨g121, eg121⟩ : ∃ z9, z9 = va_up g119 80 (.ref q120) := ⟨_, rfl⟩
  rw [mL_upd, ← eg121] at hP hD
  refine lv_aload_n hx hb dX13_init_514 rfl (lv_at hl 0 rfl) ?_
  refine lv_bipush (v := 20) hx hb dX13_init_515 (by decide) ?_
  refine va_newa (atype := .int) (ty := .int) (N' := 20) (a0 := (20, .inl (fun _ => (0 : Int32)))) hx hb (hts _ (vA_in _ _ (in_2 _ (List.mem_of_getElem? (i := 38) rfl)))) rfl hK hP hD hS hA (fun _ => rfl) (by decide) (by decide) (Nat.le_of_ble_eq_true rfl) (Nat.le_of_ble_eq_true rfl) (Nat.le_of_ble_eq_true rfl) dX13_init_517 (fun q122 kq122 H hK hP hD hS => ?_)
  have hK : va_K (dC, dI) vwCl [(kq1, .int), (kq13, .byte), (kq72, .boolean), (kq122, .int)] s := hK
  obtain ⟨wq122, ewq122⟩ : ∃ z : va_W, z = wq120 ++ [(q122, .inl (kq122, 20, .inl (fun _ => (0 : Int32))))] := ⟨_, rfl⟩
  replace hP : va_P (dC, dI) vwCl ((h, .inr (14, mL g121)) :: wq122) H := by rw [ewq122]; exact hP
  replace hD : va_D A ((h, .inr (14, mL g121)) :: wq122) := by rw [ewq122]; exact hD
  refine W.widen (k := 61) (n := 10232) (by omega) (by omega) ?_
  obtain rfl : kq1 = kq122 := ub_sa_int hK 0 3 rfl rfl
  have hK := hK.sub (tys' := [(kq1, .int), (kq13, .byte), (kq72, .boolean)]) [0, 1, 2] rfl
  refine va_putF (D := (dC, dI)) (ci := 14) (v := .ref q122) (ty := .array .int) (C := RX13) (T := TX13) (N := 97) hx hb hts (fun w h => vA_in _ w (in_X13 w h)) tyX13 tyX13_ok nmX13 hown hK hP hD hS 0 rfl rfl 81 (by decide) (hts _ (vA_in _ _ (in_32 _ (List.mem_of_getElem? (i := 15) rfl)))) (fun _ h9 => h9) rfl hin rfl (by decide +kernel) rfl rfl (mL_lt (Nat.le_of_ble_eq_true rfl)) dX13_init_519 (fun H locs hP hD hS => ?_)
  replace hP : va_P (dC, dI) vwCl ((h, .inr (14, (mL g121).set 81 (.ref q122))) :: wq122) H := hP
  replace hD : va_D A ((h, .inr (14, (mL g121).set 81 (.ref q122))) :: wq122) := hD
  obtain ⟨g123, eg123⟩ : ∃ z9, z9 = va_up g121 81 (.ref q122) := ⟨_, rfl⟩
  rw [mL_upd, ← eg123] at hP hD
  refine lv_aload_n hx hb dX13_init_522 rfl (lv_at hl 0 rfl) ?_
  refine lv_bipush (v := 80) hx hb dX13_init_523 (by decide) ?_
  refine va_newa (atype := .int) (ty := .int) (N' := 80) (a0 := (80, .inl (fun _ => (0 : Int32)))) hx hb (hts _ (vA_in _ _ (in_2 _ (List.mem_of_getElem? (i := 38) rfl)))) rfl hK hP hD hS hA (fun _ => rfl) (by decide) (by decide) (Nat.le_of_ble_eq_true rfl) (Nat.le_of_ble_eq_true rfl) (Nat.le_of_ble_eq_true rfl) dX13_init_525 (fun q124 kq124 H hK hP hD hS => ?_)
  have hK : va_K (dC, dI) vwCl [(kq1, .int), (kq13, .byte), (kq72, .boolean), (kq124, .int)] s := hK
  obtain ⟨wq124, ewq124⟩ : ∃ z : va_W, z = wq122 ++ [(q124, .inl (kq124, 80, .inl (fun _ => (0 : Int32))))] := ⟨_, rfl⟩
  replace hP : va_P (dC, dI) vwCl ((h, .inr (14, mL g123)) :: wq124) H := by rw [ewq124]; exact hP
  replace hD : va_D A ((h, .inr (14, mL g123)) :: wq124) := by rw [ewq124]; exact hD
  refine W.widen (k := 62) (n := 10312) (by omega) (by omega) ?_
  obtain rfl : kq1 = kq124 := ub_sa_int hK 0 3 rfl rfl
  have hK := hK.sub (tys' := [(kq1, .int), (kq13, .byte), (kq72, .boolean)]) [0, 1, 2] rfl
  refine va_putF (D := (dC, dI)) (ci := 14) (v := .ref q124) (ty := .array .int) (C := RX13) (T := TX13) (N := 97) hx hb hts (fun w h => vA_in _ w (in_X13 w h)) tyX13 tyX13_ok nmX13 hown hK hP hD hS 0 rfl rfl 82 (by decide) (hts _ (vA_in _ _ (in_27 _ (List.mem_of_getElem? (i := 30) rfl)))) (fun _ h9 => h9) rfl hin rfl (by decide +kernel) rfl rfl (mL_lt (Nat.le_of_ble_eq_true rfl)) dX13_init_527 (fun H locs hP hD hS => ?_)
  replace hP : va_P (dC, dI) vwCl ((h, .inr (14, (mL g123).set 82 (.ref q124))) :: wq124) H := hP
  replace hD : va_D A ((h, .inr (14, (mL g123).set 82 (.ref q124))) :: wq124) := hD
  obtain ⟨g125, eg125⟩ : ∃ z9, z9 = va_up g123 82 (.ref q124) := ⟨_, rfl⟩
  rw [mL_upd, ← eg125] at hP hD
  refine lv_aload_n hx hb dX13_init_530 rfl (lv_at hl 0 rfl) ?_
  refine lv_bipush (v := 80) hx hb dX13_init_531 (by decide) ?_
  refine va_newa (atype := .int) (ty := .int) (N' := 80) (a0 := (80, .inl (fun _ => (0 : Int32)))) hx hb (hts _ (vA_in _ _ (in_2 _ (List.mem_of_getElem? (i := 38) rfl)))) rfl hK hP hD hS hA (fun _ => rfl) (by decide) (by decide) (Nat.le_of_ble_eq_true rfl) (Nat.le_of_ble_eq_true rfl) (Nat.le_of_ble_eq_true rfl) dX13_init_533 (fun q126 kq126 H hK hP hD hS => ?_)
  have hK : va_K (dC, dI) vwCl [(kq1, .int), (kq13, .byte), (kq72, .boolean), (kq126, .int)] s := hK
  obtain ⟨wq126, ewq126⟩ : ∃ z : va_W, z = wq124 ++ [(q126, .inl (kq126, 80, .inl (fun _ => (0 : Int32))))] := ⟨_, rfl⟩
  replace hP : va_P (dC, dI) vwCl ((h, .inr (14, mL g125)) :: wq126) H := by rw [ewq126]; exact hP
  replace hD : va_D A ((h, .inr (14, mL g125)) :: wq126) := by rw [ewq126]; exact hD
  refine W.widen (k := 63) (n := 10392) (by omega) (by omega) ?_
  obtain rfl : kq1 = kq126 := ub_sa_int hK 0 3 rfl rfl
  have hK := hK.sub (tys' := [(kq1, .int), (kq13, .byte), (kq72, .boolean)]) [0, 1, 2] rfl
  refine va_putF (D := (dC, dI)) (ci := 14) (v := .ref q126) (ty := .array .int) (C := RX13) (T := TX13) (N := 97) hx hb hts (fun w h => vA_in _ w (in_X13 w h)) tyX13 tyX13_ok nmX13 hown hK hP hD hS 0 rfl rfl 83 (by decide) (hts _ (vA_in _ _ (in_27 _ (List.mem_of_getElem? (i := 31) rfl)))) (fun _ h9 => h9) rfl hin rfl (by decide +kernel) rfl rfl (mL_lt (Nat.le_of_ble_eq_true rfl)) dX13_init_535 (fun H locs hP hD hS => ?_)
  replace hP : va_P (dC, dI) vwCl ((h, .inr (14, (mL g125).set 83 (.ref q126))) :: wq126) H := hP
  replace hD : va_D A ((h, .inr (14, (mL g125).set 83 (.ref q126))) :: wq126) := hD
  obtain ⟨g127, eg127⟩ : ∃ z9, z9 = va_up g125 83 (.ref q126) := ⟨_, rfl⟩
  rw [mL_upd, ← eg127] at hP hD
  refine lv_aload_n hx hb dX13_init_538 rfl (lv_at hl 0 rfl) ?_
  refine lv_iconst (v := 4) hx hb dX13_init_539 (by decide) ?_
  refine va_newa (atype := .int) (ty := .int) (N' := 4) (a0 := (4, .inl (fun _ => (0 : Int32)))) hx hb (hts _ (vA_in _ _ (in_2 _ (List.mem_of_getElem? (i := 38) rfl)))) rfl hK hP hD hS hA (fun _ => rfl) (by decide) (by decide) (Nat.le_of_ble_eq_true rfl) (Nat.le_of_ble_eq_true rfl) (Nat.le_of_ble_eq_true rfl) dX13_init_540 (fun q128 kq128 H hK hP hD hS => ?_)
  have hK : va_K (dC, dI) vwCl [(kq1, .int), (kq13, .byte), (kq72, .boolean), (kq128, .int)] s := hK
  obtain ⟨wq128, ewq128⟩ : ∃ z : va_W, z = wq126 ++ [(q128, .inl (kq128, 4, .inl (fun _ => (0 : Int32))))] := ⟨_, rfl⟩
  replace hP : va_P (dC, dI) vwCl ((h, .inr (14, mL g127)) :: wq128) H := by rw [ewq128]; exact hP
  replace hD : va_D A ((h, .inr (14, mL g127)) :: wq128) := by rw [ewq128]; exact hD
  refine W.widen (k := 64) (n := 10396) (by omega) (by omega) ?_
  obtain rfl : kq1 = kq128 := ub_sa_int hK 0 3 rfl rfl
  have hK := hK.sub (tys' := [(kq1, .int), (kq13, .byte), (kq72, .boolean)]) [0, 1, 2] rfl
  refine va_putF (D := (dC, dI)) (ci := 14) (v := .ref q128) (ty := .array .int) (C := RX13) (T := TX13) (N := 97) hx hb hts (fun w h => vA_in _ w (in_X13 w h)) tyX13 tyX13_ok nmX13 hown hK hP hD hS 0 rfl rfl 84 (by decide) (hts _ (vA_in _ _ (in_30 _ (List.mem_of_getElem? (i := 1) rfl)))) (fun _ h9 => h9) rfl hin rfl (by decide +kernel) rfl rfl (mL_lt (Nat.le_of_ble_eq_true rfl)) dX13_init_542 (fun H locs hP hD hS => ?_)
  replace hP : va_P (dC, dI) vwCl ((h, .inr (14, (mL g127).set 84 (.ref q128))) :: wq128) H := hP
  replace hD : va_D A ((h, .inr (14, (mL g127).set 84 (.ref q128))) :: wq128) := hD
  obtain ⟨g129, eg129⟩ : ∃ z9, z9 = va_up g127 84 (.ref q128) := ⟨_, rfl⟩
  rw [mL_upd, ← eg129] at hP hD
  refine lv_aload_n hx hb dX13_init_545 rfl (lv_at hl 0 rfl) ?_
  refine lv_iconst (v := 4) hx hb dX13_init_546 (by decide) ?_
  refine va_newa (atype := .int) (ty := .int) (N' := 4) (a0 := (4, .inl (fun _ => (0 : Int32)))) hx hb (hts _ (vA_in _ _ (in_2 _ (List.mem_of_getElem? (i := 38) rfl)))) rfl hK hP hD hS hA (fun _ => rfl) (by decide) (by decide) (Nat.le_of_ble_eq_true rfl) (Nat.le_of_ble_eq_true rfl) (Nat.le_of_ble_eq_true rfl) dX13_init_547 (fun q130 kq130 H hK hP hD hS => ?_)
  have hK : va_K (dC, dI) vwCl [(kq1, .int), (kq13, .byte), (kq72, .boolean), (kq130, .int)] s := hK
  obtain ⟨wq130, ewq130⟩ : ∃ z : va_W, z = wq128 ++ [(q130, .inl (kq130, 4, .inl (fun _ => (0 : Int32))))] := ⟨_, rfl⟩
  replace hP : va_P (dC, dI) vwCl ((h, .inr (14, mL g129)) :: wq130) H := by rw [ewq130]; exact hP
  replace hD : va_D A ((h, .inr (14, mL g129)) :: wq130) := by rw [ewq130]; exact hD
  refine W.widen (k := 65) (n := 10400) (by omega) (by omega) ?_
  obtain rfl : kq1 = kq130 := ub_sa_int hK 0 3 rfl rfl
  have hK := hK.sub (tys' := [(kq1, .int), (kq13, .byte), (kq72, .boolean)]) [0, 1, 2] rfl
  refine va_putF (D := (dC, dI)) (ci := 14) (v := .ref q130) (ty := .array .int) (C := RX13) (T := TX13) (N := 97) hx hb hts (fun w h => vA_in _ w (in_X13 w h)) tyX13 tyX13_ok nmX13 hown hK hP hD hS 0 rfl rfl 85 (by decide) (hts _ (vA_in _ _ (in_27 _ (List.mem_of_getElem? (i := 24) rfl)))) (fun _ h9 => h9) rfl hin rfl (by decide +kernel) rfl rfl (mL_lt (Nat.le_of_ble_eq_true rfl)) dX13_init_549 (fun H locs hP hD hS => ?_)
  replace hP : va_P (dC, dI) vwCl ((h, .inr (14, (mL g129).set 85 (.ref q130))) :: wq130) H := hP
  replace hD : va_D A ((h, .inr (14, (mL g129).set 85 (.ref q130))) :: wq130) := hD
  obtain ⟨g131, eg131⟩ : ∃ z9, z9 = va_up g129 85 (.ref q130) := ⟨_, rfl⟩
  rw [mL_upd, ← eg131] at hP hD
  refine lv_aload_n hx hb dX13_init_552 rfl (lv_at hl 0 rfl) ?_
  refine lv_bipush (v := 16) hx hb dX13_init_553 (by decide) ?_
  refine va_newa (atype := .int) (ty := .int) (N' := 16) (a0 := (16, .inl (fun _ => (0 : Int32)))) hx hb (hts _ (vA_in _ _ (in_2 _ (List.mem_of_getElem? (i := 38) rfl)))) rfl hK hP hD hS hA (fun _ => rfl) (by decide) (by decide) (Nat.le_of_ble_eq_true rfl) (Nat.le_of_ble_eq_true rfl) (Nat.le_of_ble_eq_true rfl) dX13_init_555 (fun q132 kq132 H hK hP hD hS => ?_)
  have hK : va_K (dC, dI) vwCl [(kq1, .int), (kq13, .byte), (kq72, .boolean), (kq132, .int)] s := hK
  obtain ⟨wq132, ewq132⟩ : ∃ z : va_W, z = wq130 ++ [(q132, .inl (kq132, 16, .inl (fun _ => (0 : Int32))))] := ⟨_, rfl⟩
  replace hP : va_P (dC, dI) vwCl ((h, .inr (14, mL g131)) :: wq132) H := by rw [ewq132]; exact hP
  replace hD : va_D A ((h, .inr (14, mL g131)) :: wq132) := by rw [ewq132]; exact hD
  refine W.widen (k := 66) (n := 10416) (by omega) (by omega) ?_
  obtain rfl : kq1 = kq132 := ub_sa_int hK 0 3 rfl rfl
  have hK := hK.sub (tys' := [(kq1, .int), (kq13, .byte), (kq72, .boolean)]) [0, 1, 2] rfl
  refine va_putF (D := (dC, dI)) (ci := 14) (v := .ref q132) (ty := .array .int) (C := RX13) (T := TX13) (N := 97) hx hb hts (fun w h => vA_in _ w (in_X13 w h)) tyX13 tyX13_ok nmX13 hown hK hP hD hS 0 rfl rfl 90 (by decide) (hts _ (vA_in _ _ (in_31 _ (List.mem_of_getElem? (i := 24) rfl)))) (fun _ h9 => h9) rfl hin rfl (by decide +kernel) rfl rfl (mL_lt (Nat.le_of_ble_eq_true rfl)) dX13_init_557 (fun H locs hP hD hS => ?_)
  replace hP : va_P (dC, dI) vwCl ((h, .inr (14, (mL g131).set 90 (.ref q132))) :: wq132) H := hP
  replace hD : va_D A ((h, .inr (14, (mL g131).set 90 (.ref q132))) :: wq132) := hD
  obtain ⟨g133, eg133⟩ : ∃ z9, z9 = va_up g131 90 (.ref q132) := ⟨_, rfl⟩
  rw [mL_upd, ← eg133] at hP hD
  refine lv_aload_n hx hb dX13_init_560 rfl (lv_at hl 0 rfl) ?_
  refine lv_bipush (v := 20) hx hb dX13_init_561 (by decide) ?_
  refine va_newa (atype := .int) (ty := .int) (N' := 20) (a0 := (20, .inl (fun _ => (0 : Int32)))) hx hb (hts _ (vA_in _ _ (in_2 _ (List.mem_of_getElem? (i := 38) rfl)))) rfl hK hP hD hS hA (fun _ => rfl) (by decide) (by decide) (Nat.le_of_ble_eq_true rfl) (Nat.le_of_ble_eq_true rfl) (Nat.le_of_ble_eq_true rfl) dX13_init_563 (fun q134 kq134 H hK hP hD hS => ?_)
  have hK : va_K (dC, dI) vwCl [(kq1, .int), (kq13, .byte), (kq72, .boolean), (kq134, .int)] s := hK
  obtain ⟨wq134, ewq134⟩ : ∃ z : va_W, z = wq132 ++ [(q134, .inl (kq134, 20, .inl (fun _ => (0 : Int32))))] := ⟨_, rfl⟩
  replace hP : va_P (dC, dI) vwCl ((h, .inr (14, mL g133)) :: wq134) H := by rw [ewq134]; exact hP
  replace hD : va_D A ((h, .inr (14, mL g133)) :: wq134) := by rw [ewq134]; exact hD
  refine W.widen (k := 67) (n := 10436) (by omega) (by omega) ?_
  obtain rfl : kq1 = kq134 := ub_sa_int hK 0 3 rfl rfl
  have hK := hK.sub (tys' := [(kq1, .int), (kq13, .byte), (kq72, .boolean)]) [0, 1, 2] rfl
  refine va_putF (D := (dC, dI)) (ci := 14) (v := .ref q134) (ty := .array .int) (C := RX13) (T := TX13) (N := 97) hx hb hts (fun w h => vA_in _ w (in_X13 w h)) tyX13 tyX13_ok nmX13 hown hK hP hD hS 0 rfl rfl 91 (by decide) (hts _ (vA_in _ _ (in_31 _ (List.mem_of_getElem? (i := 18) rfl)))) (fun _ h9 => h9) rfl hin rfl (by decide +kernel) rfl rfl (mL_lt (Nat.le_of_ble_eq_true rfl)) dX13_init_565 (fun H locs hP hD hS => ?_)
  replace hP : va_P (dC, dI) vwCl ((h, .inr (14, (mL g133).set 91 (.ref q134))) :: wq134) H := hP
  replace hD : va_D A ((h, .inr (14, (mL g133).set 91 (.ref q134))) :: wq134) := hD
  obtain ⟨g135, eg135⟩ : ∃ z9, z9 = va_up g133 91 (.ref q134) := ⟨_, rfl⟩
  rw [mL_upd, ← eg135] at hP hD
  refine lv_aload_n hx hb dX13_init_568 rfl (lv_at hl 0 rfl) ?_
  refine lv_bipush (v := 20) hx hb dX13_init_569 (by decide) ?_
  refine va_newa (atype := .int) (ty := .int) (N' := 20) (a0 := (20, .inl (fun _ => (0 : Int32)))) hx hb (hts _ (vA_in _ _ (in_2 _ (List.mem_of_getElem? (i := 38) rfl)))) rfl hK hP hD hS hA (fun _ => rfl) (by decide) (by decide) (Nat.le_of_ble_eq_true rfl) (Nat.le_of_ble_eq_true rfl) (Nat.le_of_ble_eq_true rfl) dX13_init_571 (fun q136 kq136 H hK hP hD hS => ?_)
  have hK : va_K (dC, dI) vwCl [(kq1, .int), (kq13, .byte), (kq72, .boolean), (kq136, .int)] s := hK
  obtain ⟨wq136, ewq136⟩ : ∃ z : va_W, z = wq134 ++ [(q136, .inl (kq136, 20, .inl (fun _ => (0 : Int32))))] := ⟨_, rfl⟩
  replace hP : va_P (dC, dI) vwCl ((h, .inr (14, mL g135)) :: wq136) H := by rw [ewq136]; exact hP
  replace hD : va_D A ((h, .inr (14, mL g135)) :: wq136) := by rw [ewq136]; exact hD
  refine W.widen (k := 68) (n := 10456) (by omega) (by omega) ?_
  obtain rfl : kq1 = kq136 := ub_sa_int hK 0 3 rfl rfl
  have hK := hK.sub (tys' := [(kq1, .int), (kq13, .byte), (kq72, .boolean)]) [0, 1, 2] rfl
  refine va_putF (D := (dC, dI)) (ci := 14) (v := .ref q136) (ty := .array .int) (C := RX13) (T := TX13) (N := 97) hx hb hts (fun w h => vA_in _ w (in_X13 w h)) tyX13 tyX13_ok nmX13 hown hK hP hD hS 0 rfl rfl 92 (by decide) (hts _ (vA_in _ _ (in_31 _ (List.mem_of_getElem? (i := 19) rfl)))) (fun _ h9 => h9) rfl hin rfl (by decide +kernel) rfl rfl (mL_lt (Nat.le_of_ble_eq_true rfl)) dX13_init_573 (fun H locs hP hD hS => ?_)
  replace hP : va_P (dC, dI) vwCl ((h, .inr (14, (mL g135).set 92 (.ref q136))) :: wq136) H := hP
  replace hD : va_D A ((h, .inr (14, (mL g135).set 92 (.ref q136))) :: wq136) := hD
  obtain ⟨g137, eg137⟩ : ∃ z9, z9 = va_up g135 92 (.ref q136) := ⟨_, rfl⟩
  rw [mL_upd, ← eg137] at hP hD
  refine lv_aload_n hx hb dX13_init_576 rfl (lv_at hl 0 rfl) ?_
  refine lv_bipush (v := 20) hx hb dX13_init_577 (by decide) ?_
  refine va_newa (atype := .int) (ty := .int) (N' := 20) (a0 := (20, .inl (fun _ => (0 : Int32)))) hx hb (hts _ (vA_in _ _ (in_2 _ (List.mem_of_getElem? (i := 38) rfl)))) rfl hK hP hD hS hA (fun _ => rfl) (by decide) (by decide) (Nat.le_of_ble_eq_true rfl) (Nat.le_of_ble_eq_true rfl) (Nat.le_of_ble_eq_true rfl) dX13_init_579 (fun q138 kq138 H hK hP hD hS => ?_)
  have hK : va_K (dC, dI) vwCl [(kq1, .int), (kq13, .byte), (kq72, .boolean), (kq138, .int)] s := hK
  obtain ⟨wq138, ewq138⟩ : ∃ z : va_W, z = wq136 ++ [(q138, .inl (kq138, 20, .inl (fun _ => (0 : Int32))))] := ⟨_, rfl⟩
  replace hP : va_P (dC, dI) vwCl ((h, .inr (14, mL g137)) :: wq138) H := by rw [ewq138]; exact hP
  replace hD : va_D A ((h, .inr (14, mL g137)) :: wq138) := by rw [ewq138]; exact hD
  refine W.widen (k := 69) (n := 10476) (by omega) (by omega) ?_
  obtain rfl : kq1 = kq138 := ub_sa_int hK 0 3 rfl rfl
  have hK := hK.sub (tys' := [(kq1, .int), (kq13, .byte), (kq72, .boolean)]) [0, 1, 2] rfl
  refine va_putF (D := (dC, dI)) (ci := 14) (v := .ref q138) (ty := .array .int) (C := RX13) (T := TX13) (N := 97) hx hb hts (fun w h => vA_in _ w (in_X13 w h)) tyX13 tyX13_ok nmX13 hown hK hP hD hS 0 rfl rfl 93 (by decide) (hts _ (vA_in _ _ (in_32 _ (List.mem_of_getElem? (i := 16) rfl)))) (fun _ h9 => h9) rfl hin rfl (by decide +kernel) rfl rfl (mL_lt (Nat.le_of_ble_eq_true rfl)) dX13_init_581 (fun H locs hP hD hS => ?_)
  replace hP : va_P (dC, dI) vwCl ((h, .inr (14, (mL g137).set 93 (.ref q138))) :: wq138) H := hP
  replace hD : va_D A ((h, .inr (14, (mL g137).set 93 (.ref q138))) :: wq138) := hD
  obtain ⟨g139, eg139⟩ : ∃ z9, z9 = va_up g137 93 (.ref q138) := ⟨_, rfl⟩
  rw [mL_upd, ← eg139] at hP hD
  refine lv_aload_n hx hb dX13_init_584 rfl (lv_at hl 0 rfl) ?_
  refine lv_bipush (v := 20) hx hb dX13_init_585 (by decide) ?_
  refine va_newa (atype := .int) (ty := .int) (N' := 20) (a0 := (20, .inl (fun _ => (0 : Int32)))) hx hb (hts _ (vA_in _ _ (in_2 _ (List.mem_of_getElem? (i := 38) rfl)))) rfl hK hP hD hS hA (fun _ => rfl) (by decide) (by decide) (Nat.le_of_ble_eq_true rfl) (Nat.le_of_ble_eq_true rfl) (Nat.le_of_ble_eq_true rfl) dX13_init_587 (fun q140 kq140 H hK hP hD hS => ?_)
  have hK : va_K (dC, dI) vwCl [(kq1, .int), (kq13, .byte), (kq72, .boolean), (kq140, .int)] s := hK
  obtain ⟨wq140, ewq140⟩ : ∃ z : va_W, z = wq138 ++ [(q140, .inl (kq140, 20, .inl (fun _ => (0 : Int32))))] := ⟨_, rfl⟩
  replace hP : va_P (dC, dI) vwCl ((h, .inr (14, mL g139)) :: wq140) H := by rw [ewq140]; exact hP
  replace hD : va_D A ((h, .inr (14, mL g139)) :: wq140) := by rw [ewq140]; exact hD
  refine W.widen (k := 70) (n := 10496) (by omega) (by omega) ?_
  obtain rfl : kq1 = kq140 := ub_sa_int hK 0 3 rfl rfl
  have hK := hK.sub (tys' := [(kq1, .int), (kq13, .byte), (kq72, .boolean)]) [0, 1, 2] rfl
  refine va_putF (D := (dC, dI)) (ci := 14) (v := .ref q140) (ty := .array .int) (C := RX13) (T := TX13) (N := 97) hx hb hts (fun w h => vA_in _ w (in_X13 w h)) tyX13 tyX13_ok nmX13 hown hK hP hD hS 0 rfl rfl 94 (by decide) (hts _ (vA_in _ _ (in_32 _ (List.mem_of_getElem? (i := 17) rfl)))) (fun _ h9 => h9) rfl hin rfl (by decide +kernel) rfl rfl (mL_lt (Nat.le_of_ble_eq_true rfl)) dX13_init_589 (fun H locs hP hD hS => ?_)
  replace hP : va_P (dC, dI) vwCl ((h, .inr (14, (mL g139).set 94 (.ref q140))) :: wq140) H := hP
  replace hD : va_D A ((h, .inr (14, (mL g139).set 94 (.ref q140))) :: wq140) := hD
  obtain ⟨g141, eg141⟩ : ∃ z9, z9 = va_up g139 94 (.ref q140) := ⟨_, rfl⟩
  rw [mL_upd, ← eg141] at hP hD
  refine lv_aload_n hx hb dX13_init_592 rfl (lv_at hl 0 rfl) ?_
  refine lv_bipush (v := 16) hx hb dX13_init_593 (by decide) ?_
  refine va_newa (atype := .int) (ty := .int) (N' := 16) (a0 := (16, .inl (fun _ => (0 : Int32)))) hx hb (hts _ (vA_in _ _ (in_2 _ (List.mem_of_getElem? (i := 38) rfl)))) rfl hK hP hD hS hA (fun _ => rfl) (by decide) (by decide) (Nat.le_of_ble_eq_true rfl) (Nat.le_of_ble_eq_true rfl) (Nat.le_of_ble_eq_true rfl) dX13_init_595 (fun q142 kq142 H hK hP hD hS => ?_)
  have hK : va_K (dC, dI) vwCl [(kq1, .int), (kq13, .byte), (kq72, .boolean), (kq142, .int)] s := hK
  obtain ⟨wq142, ewq142⟩ : ∃ z : va_W, z = wq140 ++ [(q142, .inl (kq142, 16, .inl (fun _ => (0 : Int32))))] := ⟨_, rfl⟩
  replace hP : va_P (dC, dI) vwCl ((h, .inr (14, mL g141)) :: wq142) H := by rw [ewq142]; exact hP
  replace hD : va_D A ((h, .inr (14, mL g141)) :: wq142) := by rw [ewq142]; exact hD
  refine W.widen (k := 71) (n := 10512) (by omega) (by omega) ?_
  obtain rfl : kq1 = kq142 := ub_sa_int hK 0 3 rfl rfl
  have hK := hK.sub (tys' := [(kq1, .int), (kq13, .byte), (kq72, .boolean)]) [0, 1, 2] rfl
  refine va_putF (D := (dC, dI)) (ci := 14) (v := .ref q142) (ty := .array .int) (C := RX13) (T := TX13) (N := 97) hx hb hts (fun w h => vA_in _ w (in_X13 w h)) tyX13 tyX13_ok nmX13 hown hK hP hD hS 0 rfl rfl 96 (by decide) (hts _ (vA_in _ _ (in_31 _ (List.mem_of_getElem? (i := 11) rfl)))) (fun _ h9 => h9) rfl hin rfl (by decide +kernel) rfl rfl (mL_lt (Nat.le_of_ble_eq_true rfl)) dX13_init_597 (fun H locs hP hD hS => ?_)
  replace hP : va_P (dC, dI) vwCl ((h, .inr (14, (mL g141).set 96 (.ref q142))) :: wq142) H := hP
  replace hD : va_D A ((h, .inr (14, (mL g141).set 96 (.ref q142))) :: wq142) := hD
  obtain ⟨g143, eg143⟩ : ∃ z9, z9 = va_up g141 96 (.ref q142) := ⟨_, rfl⟩
  rw [mL_upd, ← eg143] at hP hD
  subst ewq142 ewq140 ewq138 ewq136 ewq134 ewq132 ewq130 ewq128 ewq126 ewq124 ewq122 ewq120 ewq118 ewq116 ewq114 ewq112 ewq110 ewq108 ewq106 ewq104 ewq102 ewq100 ewq98 ewq96 ewq94 ewq92 ewq90 ewq88 ewq86 ewq84 ewq82 ewq80 ewq78 ewq76 ewq74 ewq72 ewq70 ewq68 ewq66 ewq64 ewq62 ewq60 ewq58 ewq56 ewq54 ewq52 ewq50 ewq48 ewq46 ewq44 ewq42 ewq40 ewq38 ewq36 ewq34 ewq32 ewq30 ewq28 ewq26 ewq23 ewq21 ewq19 ewq17 ewq15 ewq13 ewq11 ewq9 ewq7 ewq5 ewq3 ewq1 ew0
  have hP9 : va_P (dC, dI) vwCl [(h, .inr (14, mL g143)), (q1, .inl (kq1, 80, .inl (fun _ => (0 : Int32)))), (q3, .inl (kq1, 80, .inl (fun _ => (0 : Int32)))), (q5, .inl (kq1, 80, .inl (fun _ => (0 : Int32)))), (q7, .inl (kq1, 80, .inl (fun _ => (0 : Int32)))), (q9, .inl (kq1, 80, .inl (fun _ => (0 : Int32)))), (q11, .inl (kq1, 80, .inl (fun _ => (0 : Int32)))), (q13, .inl (kq13, 200, .inl (fun _ => (0 : Int32)))), (q15, .inl (kq13, 3200, .inl (fun _ => (0 : Int32)))), (q17, .inl (kq1, 16, .inl (fun _ => (0 : Int32)))), (q19, .inl (kq1, 16, .inl (fun _ => (0 : Int32)))), (q21, .inl (kq1, 16, .inl (fun _ => (0 : Int32)))), (q23, .inl (kq1, 128, .inl (fun _ => (0 : Int32)))), (q26, .inl (kq1, 20, .inl (fun _ => (0 : Int32)))), (q28, .inl (kq1, 20, .inl (fun _ => (0 : Int32)))), (q30, .inl (kq1, 20, .inl (fun _ => (0 : Int32)))), (q32, .inl (kq1, 20, .inl (fun _ => (0 : Int32)))), (q34, .inl (kq1, 20, .inl (fun _ => (0 : Int32)))), (q36, .inl (kq1, 20, .inl (fun _ => (0 : Int32)))), (q38, .inl (kq1, 20, .inl (fun _ => (0 : Int32)))), (q40, .inl (kq1, 20, .inl (fun _ => (0 : Int32)))), (q42, .inl (kq1, 320, .inl (fun _ => (0 : Int32)))), (q44, .inl (kq1, 320, .inl (fun _ => (0 : Int32)))), (q46, .inl (kq1, 320, .inl (fun _ => (0 : Int32)))), (q48, .inl (kq1, 300, .inl (fun _ => (0 : Int32)))), (q50, .inl (kq1, 300, .inl (fun _ => (0 : Int32)))), (q52, .inl (kq1, 300, .inl (fun _ => (0 : Int32)))), (q54, .inl (kq1, 300, .inl (fun _ => (0 : Int32)))), (q56, .inl (kq1, 300, .inl (fun _ => (0 : Int32)))), (q58, .inl (kq1, 20, .inl (fun _ => (0 : Int32)))), (q60, .inl (kq1, 20, .inl (fun _ => (0 : Int32)))), (q62, .inl (kq1, 20, .inl (fun _ => (0 : Int32)))), (q64, .inl (kq1, 320, .inl (fun _ => (0 : Int32)))), (q66, .inl (kq1, 16, .inl (fun _ => (0 : Int32)))), (q68, .inl (kq1, 20, .inl (fun _ => (0 : Int32)))), (q70, .inl (kq1, 20, .inl (fun _ => (0 : Int32)))), (q72, .inl (kq72, 320, .inl (fun _ => (0 : Int32)))), (q74, .inl (kq72, 16, .inl (fun _ => (0 : Int32)))), (q76, .inl (kq1, 200, .inl (fun _ => (0 : Int32)))), (q78, .inl (kq1, 200, .inl (fun _ => (0 : Int32)))), (q80, .inl (kq1, 200, .inl (fun _ => (0 : Int32)))), (q82, .inl (kq1, 200, .inl (fun _ => (0 : Int32)))), (q84, .inl (kq1, 200, .inl (fun _ => (0 : Int32)))), (q86, .inl (kq1, 200, .inl (fun _ => (0 : Int32)))), (q88, .inl (kq1, 200, .inl (fun _ => (0 : Int32)))), (q90, .inl (kq1, 200, .inl (fun _ => (0 : Int32)))), (q92, .inl (kq1, 30, .inl (fun _ => (0 : Int32)))), (q94, .inl (kq1, 30, .inl (fun _ => (0 : Int32)))), (q96, .inl (kq1, 30, .inl (fun _ => (0 : Int32)))), (q98, .inl (kq1, 30, .inl (fun _ => (0 : Int32)))), (q100, .inl (kq1, 30, .inl (fun _ => (0 : Int32)))), (q102, .inl (kq1, 60, .inl (fun _ => (0 : Int32)))), (q104, .inl (kq1, 60, .inl (fun _ => (0 : Int32)))), (q106, .inl (kq1, 60, .inl (fun _ => (0 : Int32)))), (q108, .inl (kq1, 30, .inl (fun _ => (0 : Int32)))), (q110, .inl (kq72, 30, .inl (fun _ => (0 : Int32)))), (q112, .inl (kq1, 256, .inl (fun _ => (0 : Int32)))), (q114, .inl (kq1, 256, .inl (fun _ => (0 : Int32)))), (q116, .inl (kq1, 256, .inl (fun _ => (0 : Int32)))), (q118, .inl (kq1, 2, .inl (fun _ => (0 : Int32)))), (q120, .inl (kq1, 4, .inl (fun _ => (0 : Int32)))), (q122, .inl (kq1, 20, .inl (fun _ => (0 : Int32)))), (q124, .inl (kq1, 80, .inl (fun _ => (0 : Int32)))), (q126, .inl (kq1, 80, .inl (fun _ => (0 : Int32)))), (q128, .inl (kq1, 4, .inl (fun _ => (0 : Int32)))), (q130, .inl (kq1, 4, .inl (fun _ => (0 : Int32)))), (q132, .inl (kq1, 16, .inl (fun _ => (0 : Int32)))), (q134, .inl (kq1, 20, .inl (fun _ => (0 : Int32)))), (q136, .inl (kq1, 20, .inl (fun _ => (0 : Int32)))), (q138, .inl (kq1, 20, .inl (fun _ => (0 : Int32)))), (q140, .inl (kq1, 20, .inl (fun _ => (0 : Int32)))), (q142, .inl (kq1, 16, .inl (fun _ => (0 : Int32))))] H := hP
  have hD9 : va_D A [(h, .inr (14, mL g143)), (q1, .inl (kq1, 80, .inl (fun _ => (0 : Int32)))), (q3, .inl (kq1, 80, .inl (fun _ => (0 : Int32)))), (q5, .inl (kq1, 80, .inl (fun _ => (0 : Int32)))), (q7, .inl (kq1, 80, .inl (fun _ => (0 : Int32)))), (q9, .inl (kq1, 80, .inl (fun _ => (0 : Int32)))), (q11, .inl (kq1, 80, .inl (fun _ => (0 : Int32)))), (q13, .inl (kq13, 200, .inl (fun _ => (0 : Int32)))), (q15, .inl (kq13, 3200, .inl (fun _ => (0 : Int32)))), (q17, .inl (kq1, 16, .inl (fun _ => (0 : Int32)))), (q19, .inl (kq1, 16, .inl (fun _ => (0 : Int32)))), (q21, .inl (kq1, 16, .inl (fun _ => (0 : Int32)))), (q23, .inl (kq1, 128, .inl (fun _ => (0 : Int32)))), (q26, .inl (kq1, 20, .inl (fun _ => (0 : Int32)))), (q28, .inl (kq1, 20, .inl (fun _ => (0 : Int32)))), (q30, .inl (kq1, 20, .inl (fun _ => (0 : Int32)))), (q32, .inl (kq1, 20, .inl (fun _ => (0 : Int32)))), (q34, .inl (kq1, 20, .inl (fun _ => (0 : Int32)))), (q36, .inl (kq1, 20, .inl (fun _ => (0 : Int32)))), (q38, .inl (kq1, 20, .inl (fun _ => (0 : Int32)))), (q40, .inl (kq1, 20, .inl (fun _ => (0 : Int32)))), (q42, .inl (kq1, 320, .inl (fun _ => (0 : Int32)))), (q44, .inl (kq1, 320, .inl (fun _ => (0 : Int32)))), (q46, .inl (kq1, 320, .inl (fun _ => (0 : Int32)))), (q48, .inl (kq1, 300, .inl (fun _ => (0 : Int32)))), (q50, .inl (kq1, 300, .inl (fun _ => (0 : Int32)))), (q52, .inl (kq1, 300, .inl (fun _ => (0 : Int32)))), (q54, .inl (kq1, 300, .inl (fun _ => (0 : Int32)))), (q56, .inl (kq1, 300, .inl (fun _ => (0 : Int32)))), (q58, .inl (kq1, 20, .inl (fun _ => (0 : Int32)))), (q60, .inl (kq1, 20, .inl (fun _ => (0 : Int32)))), (q62, .inl (kq1, 20, .inl (fun _ => (0 : Int32)))), (q64, .inl (kq1, 320, .inl (fun _ => (0 : Int32)))), (q66, .inl (kq1, 16, .inl (fun _ => (0 : Int32)))), (q68, .inl (kq1, 20, .inl (fun _ => (0 : Int32)))), (q70, .inl (kq1, 20, .inl (fun _ => (0 : Int32)))), (q72, .inl (kq72, 320, .inl (fun _ => (0 : Int32)))), (q74, .inl (kq72, 16, .inl (fun _ => (0 : Int32)))), (q76, .inl (kq1, 200, .inl (fun _ => (0 : Int32)))), (q78, .inl (kq1, 200, .inl (fun _ => (0 : Int32)))), (q80, .inl (kq1, 200, .inl (fun _ => (0 : Int32)))), (q82, .inl (kq1, 200, .inl (fun _ => (0 : Int32)))), (q84, .inl (kq1, 200, .inl (fun _ => (0 : Int32)))), (q86, .inl (kq1, 200, .inl (fun _ => (0 : Int32)))), (q88, .inl (kq1, 200, .inl (fun _ => (0 : Int32)))), (q90, .inl (kq1, 200, .inl (fun _ => (0 : Int32)))), (q92, .inl (kq1, 30, .inl (fun _ => (0 : Int32)))), (q94, .inl (kq1, 30, .inl (fun _ => (0 : Int32)))), (q96, .inl (kq1, 30, .inl (fun _ => (0 : Int32)))), (q98, .inl (kq1, 30, .inl (fun _ => (0 : Int32)))), (q100, .inl (kq1, 30, .inl (fun _ => (0 : Int32)))), (q102, .inl (kq1, 60, .inl (fun _ => (0 : Int32)))), (q104, .inl (kq1, 60, .inl (fun _ => (0 : Int32)))), (q106, .inl (kq1, 60, .inl (fun _ => (0 : Int32)))), (q108, .inl (kq1, 30, .inl (fun _ => (0 : Int32)))), (q110, .inl (kq72, 30, .inl (fun _ => (0 : Int32)))), (q112, .inl (kq1, 256, .inl (fun _ => (0 : Int32)))), (q114, .inl (kq1, 256, .inl (fun _ => (0 : Int32)))), (q116, .inl (kq1, 256, .inl (fun _ => (0 : Int32)))), (q118, .inl (kq1, 2, .inl (fun _ => (0 : Int32)))), (q120, .inl (kq1, 4, .inl (fun _ => (0 : Int32)))), (q122, .inl (kq1, 20, .inl (fun _ => (0 : Int32)))), (q124, .inl (kq1, 80, .inl (fun _ => (0 : Int32)))), (q126, .inl (kq1, 80, .inl (fun _ => (0 : Int32)))), (q128, .inl (kq1, 4, .inl (fun _ => (0 : Int32)))), (q130, .inl (kq1, 4, .inl (fun _ => (0 : Int32)))), (q132, .inl (kq1, 16, .inl (fun _ => (0 : Int32)))), (q134, .inl (kq1, 20, .inl (fun _ => (0 : Int32)))), (q136, .inl (kq1, 20, .inl (fun _ => (0 : Int32)))), (q138, .inl (kq1, 20, .inl (fun _ => (0 : Int32)))), (q140, .inl (kq1, 20, .inl (fun _ => (0 : Int32)))), (q142, .inl (kq1, 16, .inl (fun _ => (0 : Int32))))] := hD
  have hk9 : g143 = upL (fun j => defaultValue (tyX13 j)) [(2, .ref q1), (3, .ref q3), (4, .ref q5), (5, .ref q7), (6, .ref q9), (7, .ref q11), (10, .ref q13), (11, .ref q15), (12, .ref q17), (13, .ref q19), (14, .ref q21), (15, .ref q23), (18, .ref q13), (27, .ref q26), (28, .ref q28), (29, .ref q30), (30, .ref q32), (31, .ref q34), (32, .ref q36), (33, .ref q38), (34, .ref q40), (35, .ref q42), (36, .ref q44), (37, .ref q46), (38, .ref q48), (39, .ref q50), (40, .ref q52), (41, .ref q54), (42, .ref q56), (43, .ref q58), (44, .ref q60), (45, .ref q62), (49, .ref q64), (50, .ref q66), (51, .ref q68), (52, .ref q70), (53, .ref q72), (54, .ref q74), (56, .ref q76), (57, .ref q78), (58, .ref q80), (59, .ref q82), (60, .ref q84), (61, .ref q86), (62, .ref q88), (63, .ref q90), (64, .ref q92), (65, .ref q94), (66, .ref q96), (67, .ref q98), (68, .ref q100), (69, .ref q102), (70, .ref q104), (71, .ref q106), (72, .ref q108), (73, .ref q110), (76, .ref q112), (77, .ref q114), (78, .ref q116), (79, .ref q118), (80, .ref q120), (81, .ref q122), (82, .ref q124), (83, .ref q126), (84, .ref q128), (85, .ref q130), (90, .ref q132), (91, .ref q134), (92, .ref q136), (93, .ref q138), (94, .ref q140), (96, .ref q142)] := by rw [eg143, eg141, eg139, eg137, eg135, eg133, eg131, eg129, eg127, eg125, eg123, eg121, eg119, eg117, eg115, eg113, eg111, eg109, eg107, eg105, eg103, eg101, eg99, eg97, eg95, eg93, eg91, eg89, eg87, eg85, eg83, eg81, eg79, eg77, eg75, eg73, eg71, eg69, eg67, eg65, eg63, eg61, eg59, eg57, eg55, eg53, eg51, eg49, eg47, eg45, eg43, eg41, eg39, eg37, eg35, eg33, eg31, eg29, eg27, eg25, eg24, eg22, eg20, eg18, eg16, eg14, eg12, eg10, eg8, eg6, eg4, eg2]; rfl
  have hg143_0 : g143 0 = .int 0 := by rw [hk9, upL_lk]; rfl
  have hg143_1 : g143 1 = .int 0 := by rw [hk9, upL_lk]; rfl
  have hg143_8 : g143 8 = .int 0 := by rw [hk9, upL_lk]; rfl
  have hg143_9 : g143 9 = .int 0 := by rw [hk9, upL_lk]; rfl
  have hg143_16 : g143 16 = .int 0 := by rw [hk9, upL_lk]; rfl
  have hg143_17 : g143 17 = .int 0 := by rw [hk9, upL_lk]; rfl
  have hg143_19 : g143 19 = .int 0 := by rw [hk9, upL_lk]; rfl
  have hg143_20 : g143 20 = .int 0 := by rw [hk9, upL_lk]; rfl
  have hg143_21 : g143 21 = .int 0 := by rw [hk9, upL_lk]; rfl
  have hg143_22 : g143 22 = .int 0 := by rw [hk9, upL_lk]; rfl
  have hg143_23 : g143 23 = .int 0 := by rw [hk9, upL_lk]; rfl
  have hg143_24 : g143 24 = .int 0 := by rw [hk9, upL_lk]; rfl
  have hg143_25 : g143 25 = .int 0 := by rw [hk9, upL_lk]; rfl
  have hg143_26 : g143 26 = .int 0 := by rw [hk9, upL_lk]; rfl
  have hg143_46 : g143 46 = .int 0 := by rw [hk9, upL_lk]; rfl
  have hg143_47 : g143 47 = .int 0 := by rw [hk9, upL_lk]; rfl
  have hg143_48 : g143 48 = .int 0 := by rw [hk9, upL_lk]; rfl
  have hg143_55 : g143 55 = .int 0 := by rw [hk9, upL_lk]; rfl
  have hg143_74 : g143 74 = .int 0 := by rw [hk9, upL_lk]; rfl
  have hg143_75 : g143 75 = .int 0 := by rw [hk9, upL_lk]; rfl
  have hg143_86 : g143 86 = .int 0 := by rw [hk9, upL_lk]; rfl
  have hg143_87 : g143 87 = .int 0 := by rw [hk9, upL_lk]; rfl
  have hg143_88 : g143 88 = .int 0 := by rw [hk9, upL_lk]; rfl
  have hg143_89 : g143 89 = .int 0 := by rw [hk9, upL_lk]; rfl
  have hg143_95 : g143 95 = .int 0 := by rw [hk9, upL_lk]; rfl
  have hg143_2 : g143 2 = .ref q1 := by rw [hk9, upL_lk]; rfl
  have hg143_3 : g143 3 = .ref q3 := by rw [hk9, upL_lk]; rfl
  have hg143_4 : g143 4 = .ref q5 := by rw [hk9, upL_lk]; rfl
  have hg143_5 : g143 5 = .ref q7 := by rw [hk9, upL_lk]; rfl
  have hg143_6 : g143 6 = .ref q9 := by rw [hk9, upL_lk]; rfl
  have hg143_7 : g143 7 = .ref q11 := by rw [hk9, upL_lk]; rfl
  have hg143_10 : g143 10 = .ref q13 := by rw [hk9, upL_lk]; rfl
  have hg143_11 : g143 11 = .ref q15 := by rw [hk9, upL_lk]; rfl
  have hg143_12 : g143 12 = .ref q17 := by rw [hk9, upL_lk]; rfl
  have hg143_13 : g143 13 = .ref q19 := by rw [hk9, upL_lk]; rfl
  have hg143_14 : g143 14 = .ref q21 := by rw [hk9, upL_lk]; rfl
  have hg143_15 : g143 15 = .ref q23 := by rw [hk9, upL_lk]; rfl
  have hg143_18 : g143 18 = .ref q13 := by rw [hk9, upL_lk]; rfl
  have hg143_27 : g143 27 = .ref q26 := by rw [hk9, upL_lk]; rfl
  have hg143_28 : g143 28 = .ref q28 := by rw [hk9, upL_lk]; rfl
  have hg143_29 : g143 29 = .ref q30 := by rw [hk9, upL_lk]; rfl
  have hg143_30 : g143 30 = .ref q32 := by rw [hk9, upL_lk]; rfl
  have hg143_31 : g143 31 = .ref q34 := by rw [hk9, upL_lk]; rfl
  have hg143_32 : g143 32 = .ref q36 := by rw [hk9, upL_lk]; rfl
  have hg143_33 : g143 33 = .ref q38 := by rw [hk9, upL_lk]; rfl
  have hg143_34 : g143 34 = .ref q40 := by rw [hk9, upL_lk]; rfl
  have hg143_35 : g143 35 = .ref q42 := by rw [hk9, upL_lk]; rfl
  have hg143_36 : g143 36 = .ref q44 := by rw [hk9, upL_lk]; rfl
  have hg143_37 : g143 37 = .ref q46 := by rw [hk9, upL_lk]; rfl
  have hg143_38 : g143 38 = .ref q48 := by rw [hk9, upL_lk]; rfl
  have hg143_39 : g143 39 = .ref q50 := by rw [hk9, upL_lk]; rfl
  have hg143_40 : g143 40 = .ref q52 := by rw [hk9, upL_lk]; rfl
  have hg143_41 : g143 41 = .ref q54 := by rw [hk9, upL_lk]; rfl
  have hg143_42 : g143 42 = .ref q56 := by rw [hk9, upL_lk]; rfl
  have hg143_43 : g143 43 = .ref q58 := by rw [hk9, upL_lk]; rfl
  have hg143_44 : g143 44 = .ref q60 := by rw [hk9, upL_lk]; rfl
  have hg143_45 : g143 45 = .ref q62 := by rw [hk9, upL_lk]; rfl
  have hg143_49 : g143 49 = .ref q64 := by rw [hk9, upL_lk]; rfl
  have hg143_50 : g143 50 = .ref q66 := by rw [hk9, upL_lk]; rfl
  have hg143_51 : g143 51 = .ref q68 := by rw [hk9, upL_lk]; rfl
  have hg143_52 : g143 52 = .ref q70 := by rw [hk9, upL_lk]; rfl
  have hg143_53 : g143 53 = .ref q72 := by rw [hk9, upL_lk]; rfl
  have hg143_54 : g143 54 = .ref q74 := by rw [hk9, upL_lk]; rfl
  have hg143_56 : g143 56 = .ref q76 := by rw [hk9, upL_lk]; rfl
  have hg143_57 : g143 57 = .ref q78 := by rw [hk9, upL_lk]; rfl
  have hg143_58 : g143 58 = .ref q80 := by rw [hk9, upL_lk]; rfl
  have hg143_59 : g143 59 = .ref q82 := by rw [hk9, upL_lk]; rfl
  have hg143_60 : g143 60 = .ref q84 := by rw [hk9, upL_lk]; rfl
  have hg143_61 : g143 61 = .ref q86 := by rw [hk9, upL_lk]; rfl
  have hg143_62 : g143 62 = .ref q88 := by rw [hk9, upL_lk]; rfl
  have hg143_63 : g143 63 = .ref q90 := by rw [hk9, upL_lk]; rfl
  have hg143_64 : g143 64 = .ref q92 := by rw [hk9, upL_lk]; rfl
  have hg143_65 : g143 65 = .ref q94 := by rw [hk9, upL_lk]; rfl
  have hg143_66 : g143 66 = .ref q96 := by rw [hk9, upL_lk]; rfl
  have hg143_67 : g143 67 = .ref q98 := by rw [hk9, upL_lk]; rfl
  have hg143_68 : g143 68 = .ref q100 := by rw [hk9, upL_lk]; rfl
  have hg143_69 : g143 69 = .ref q102 := by rw [hk9, upL_lk]; rfl
  have hg143_70 : g143 70 = .ref q104 := by rw [hk9, upL_lk]; rfl
  have hg143_71 : g143 71 = .ref q106 := by rw [hk9, upL_lk]; rfl
  have hg143_72 : g143 72 = .ref q108 := by rw [hk9, upL_lk]; rfl
  have hg143_73 : g143 73 = .ref q110 := by rw [hk9, upL_lk]; rfl
  have hg143_76 : g143 76 = .ref q112 := by rw [hk9, upL_lk]; rfl
  have hg143_77 : g143 77 = .ref q114 := by rw [hk9, upL_lk]; rfl
  have hg143_78 : g143 78 = .ref q116 := by rw [hk9, upL_lk]; rfl
  have hg143_79 : g143 79 = .ref q118 := by rw [hk9, upL_lk]; rfl
  have hg143_80 : g143 80 = .ref q120 := by rw [hk9, upL_lk]; rfl
  have hg143_81 : g143 81 = .ref q122 := by rw [hk9, upL_lk]; rfl
  have hg143_82 : g143 82 = .ref q124 := by rw [hk9, upL_lk]; rfl
  have hg143_83 : g143 83 = .ref q126 := by rw [hk9, upL_lk]; rfl
  have hg143_84 : g143 84 = .ref q128 := by rw [hk9, upL_lk]; rfl
  have hg143_85 : g143 85 = .ref q130 := by rw [hk9, upL_lk]; rfl
  have hg143_90 : g143 90 = .ref q132 := by rw [hk9, upL_lk]; rfl
  have hg143_91 : g143 91 = .ref q134 := by rw [hk9, upL_lk]; rfl
  have hg143_92 : g143 92 = .ref q136 := by rw [hk9, upL_lk]; rfl
  have hg143_93 : g143 93 = .ref q138 := by rw [hk9, upL_lk]; rfl
  have hg143_94 : g143 94 = .ref q140 := by rw [hk9, upL_lk]; rfl
  have hg143_96 : g143 96 = .ref q142 := by rw [hk9, upL_lk]; rfl
  have hK9 := hK.sub (tys' := [(kq1, .int), (kq13, .byte), (kq72, .boolean)]) [0, 1, 2] rfl
  exact W.vret hx hb hr (fun t ht hW => ⟨⟨(g143, q1, q3, q5, q7, q9, q11, q13, q15, q17, q19, q21, q23, q26, q28, q30, q32, q34, q36, q38, q40, q42, q44, q46, q48, q50, q52, q54, q56, q58, q60, q62, q64, q66, q68, q70, q72, q74, q76, q78, q80, q82, q84, q86, q88, q90, q92, q94, q96, q98, q100, q102, q104, q106, q108, q110, q112, q114, q116, q118, q120, q122, q124, q126, q128, q130, q132, q134, q136, q138, q140, q142, kq1, kq13, kq72), rfl, ⟨hg143_0, hg143_1, hg143_8, hg143_9, hg143_16, hg143_17, hg143_19, hg143_20, hg143_21, hg143_22, hg143_23, hg143_24, hg143_25, hg143_26, hg143_46, hg143_47, hg143_48, hg143_55, hg143_74, hg143_75, hg143_86, hg143_87, hg143_88, hg143_89, hg143_95, hg143_2, hg143_3, hg143_4, hg143_5, hg143_6, hg143_7, hg143_10, hg143_11, hg143_12, hg143_13, hg143_14, hg143_15, hg143_18, hg143_27, hg143_28, hg143_29, hg143_30, hg143_31, hg143_32, hg143_33, hg143_34, hg143_35, hg143_36, hg143_37, hg143_38, hg143_39, hg143_40, hg143_41, hg143_42, hg143_43, hg143_44, hg143_45, hg143_49, hg143_50, hg143_51, hg143_52, hg143_53, hg143_54, hg143_56, hg143_57, hg143_58, hg143_59, hg143_60, hg143_61, hg143_62, hg143_63, hg143_64, hg143_65, hg143_66, hg143_67, hg143_68, hg143_69, hg143_70, hg143_71, hg143_72, hg143_73, hg143_76, hg143_77, hg143_78, hg143_79, hg143_80, hg143_81, hg143_82, hg143_83, hg143_84, hg143_85, hg143_90, hg143_91, hg143_92, hg143_93, hg143_94, hg143_96⟩, (by rw [ht]; exact hP9), va_K.moved hW.alike hK9, hD9⟩, hS.F ht⟩) hS.2.2 dX13_init_600
