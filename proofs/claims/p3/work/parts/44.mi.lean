theorem dX13_init_0 : decode cX13_init 0 = .ok (.aload_n 0, 1) := by decide +kernel
theorem dX13_init_1 : decode cX13_init 1 = .ok (.invokespecial 1, 3) := by decide +kernel
theorem dX13_init_4 : decode cX13_init 4 = .ok (.aload_n 0, 1) := by decide +kernel
theorem dX13_init_5 : decode cX13_init 5 = .ok (.bipush 80, 2) := by decide +kernel
theorem dX13_init_7 : decode cX13_init 7 = .ok (.newarray .int, 2) := by decide +kernel
theorem dX13_init_9 : decode cX13_init 9 = .ok (.putfield 9, 3) := by decide +kernel
theorem dX13_init_12 : decode cX13_init 12 = .ok (.aload_n 0, 1) := by decide +kernel
theorem dX13_init_13 : decode cX13_init 13 = .ok (.bipush 80, 2) := by decide +kernel
theorem dX13_init_15 : decode cX13_init 15 = .ok (.newarray .int, 2) := by decide +kernel
theorem dX13_init_17 : decode cX13_init 17 = .ok (.putfield 13, 3) := by decide +kernel
theorem dX13_init_20 : decode cX13_init 20 = .ok (.aload_n 0, 1) := by decide +kernel
theorem dX13_init_21 : decode cX13_init 21 = .ok (.bipush 80, 2) := by decide +kernel
theorem dX13_init_23 : decode cX13_init 23 = .ok (.newarray .int, 2) := by decide +kernel
theorem dX13_init_25 : decode cX13_init 25 = .ok (.putfield 16, 3) := by decide +kernel
theorem dX13_init_28 : decode cX13_init 28 = .ok (.aload_n 0, 1) := by decide +kernel
theorem dX13_init_29 : decode cX13_init 29 = .ok (.bipush 80, 2) := by decide +kernel
theorem dX13_init_31 : decode cX13_init 31 = .ok (.newarray .int, 2) := by decide +kernel
theorem dX13_init_33 : decode cX13_init 33 = .ok (.putfield 19, 3) := by decide +kernel
theorem dX13_init_36 : decode cX13_init 36 = .ok (.aload_n 0, 1) := by decide +kernel
theorem dX13_init_37 : decode cX13_init 37 = .ok (.bipush 80, 2) := by decide +kernel
theorem dX13_init_39 : decode cX13_init 39 = .ok (.newarray .int, 2) := by decide +kernel
theorem dX13_init_41 : decode cX13_init 41 = .ok (.putfield 22, 3) := by decide +kernel
theorem dX13_init_44 : decode cX13_init 44 = .ok (.aload_n 0, 1) := by decide +kernel
theorem dX13_init_45 : decode cX13_init 45 = .ok (.bipush 80, 2) := by decide +kernel
theorem dX13_init_47 : decode cX13_init 47 = .ok (.newarray .int, 2) := by decide +kernel
theorem dX13_init_49 : decode cX13_init 49 = .ok (.putfield 25, 3) := by decide +kernel
theorem dX13_init_52 : decode cX13_init 52 = .ok (.aload_n 0, 1) := by decide +kernel
theorem dX13_init_53 : decode cX13_init 53 = .ok (.sipush 200, 3) := by decide +kernel
theorem dX13_init_56 : decode cX13_init 56 = .ok (.newarray .byte, 2) := by decide +kernel
theorem dX13_init_58 : decode cX13_init 58 = .ok (.putfield 28, 3) := by decide +kernel
theorem dX13_init_61 : decode cX13_init 61 = .ok (.aload_n 0, 1) := by decide +kernel
theorem dX13_init_62 : decode cX13_init 62 = .ok (.sipush 3200, 3) := by decide +kernel
theorem dX13_init_65 : decode cX13_init 65 = .ok (.newarray .byte, 2) := by decide +kernel
theorem dX13_init_67 : decode cX13_init 67 = .ok (.putfield 32, 3) := by decide +kernel
theorem dX13_init_70 : decode cX13_init 70 = .ok (.aload_n 0, 1) := by decide +kernel
theorem dX13_init_71 : decode cX13_init 71 = .ok (.bipush 16, 2) := by decide +kernel
theorem dX13_init_73 : decode cX13_init 73 = .ok (.newarray .int, 2) := by decide +kernel
theorem dX13_init_75 : decode cX13_init 75 = .ok (.putfield 35, 3) := by decide +kernel
theorem dX13_init_78 : decode cX13_init 78 = .ok (.aload_n 0, 1) := by decide +kernel
theorem dX13_init_79 : decode cX13_init 79 = .ok (.bipush 16, 2) := by decide +kernel
theorem dX13_init_81 : decode cX13_init 81 = .ok (.newarray .int, 2) := by decide +kernel
theorem dX13_init_83 : decode cX13_init 83 = .ok (.putfield 38, 3) := by decide +kernel
theorem dX13_init_86 : decode cX13_init 86 = .ok (.aload_n 0, 1) := by decide +kernel
theorem dX13_init_87 : decode cX13_init 87 = .ok (.bipush 16, 2) := by decide +kernel
theorem dX13_init_89 : decode cX13_init 89 = .ok (.newarray .int, 2) := by decide +kernel
theorem dX13_init_91 : decode cX13_init 91 = .ok (.putfield 41, 3) := by decide +kernel
theorem dX13_init_94 : decode cX13_init 94 = .ok (.aload_n 0, 1) := by decide +kernel
theorem dX13_init_95 : decode cX13_init 95 = .ok (.sipush 128, 3) := by decide +kernel
theorem dX13_init_98 : decode cX13_init 98 = .ok (.newarray .int, 2) := by decide +kernel
theorem dX13_init_100 : decode cX13_init 100 = .ok (.putfield 44, 3) := by decide +kernel
theorem dX13_init_103 : decode cX13_init 103 = .ok (.aload_n 0, 1) := by decide +kernel
theorem dX13_init_104 : decode cX13_init 104 = .ok (.aload_n 0, 1) := by decide +kernel
theorem dX13_init_105 : decode cX13_init 105 = .ok (.getfield 28, 3) := by decide +kernel
theorem dX13_init_108 : decode cX13_init 108 = .ok (.putfield 47, 3) := by decide +kernel
theorem dX13_init_111 : decode cX13_init 111 = .ok (.aload_n 0, 1) := by decide +kernel
theorem dX13_init_112 : decode cX13_init 112 = .ok (.bipush 20, 2) := by decide +kernel
theorem dX13_init_114 : decode cX13_init 114 = .ok (.newarray .int, 2) := by decide +kernel
theorem dX13_init_116 : decode cX13_init 116 = .ok (.putfield 50, 3) := by decide +kernel
theorem dX13_init_119 : decode cX13_init 119 = .ok (.aload_n 0, 1) := by decide +kernel
theorem dX13_init_120 : decode cX13_init 120 = .ok (.bipush 20, 2) := by decide +kernel
theorem dX13_init_122 : decode cX13_init 122 = .ok (.newarray .int, 2) := by decide +kernel
theorem dX13_init_124 : decode cX13_init 124 = .ok (.putfield 53, 3) := by decide +kernel
theorem dX13_init_127 : decode cX13_init 127 = .ok (.aload_n 0, 1) := by decide +kernel
theorem dX13_init_128 : decode cX13_init 128 = .ok (.bipush 20, 2) := by decide +kernel
theorem dX13_init_130 : decode cX13_init 130 = .ok (.newarray .int, 2) := by decide +kernel
theorem dX13_init_132 : decode cX13_init 132 = .ok (.putfield 56, 3) := by decide +kernel
theorem dX13_init_135 : decode cX13_init 135 = .ok (.aload_n 0, 1) := by decide +kernel
theorem dX13_init_136 : decode cX13_init 136 = .ok (.bipush 20, 2) := by decide +kernel
theorem dX13_init_138 : decode cX13_init 138 = .ok (.newarray .int, 2) := by decide +kernel
theorem dX13_init_140 : decode cX13_init 140 = .ok (.putfield 59, 3) := by decide +kernel
theorem dX13_init_143 : decode cX13_init 143 = .ok (.aload_n 0, 1) := by decide +kernel
theorem dX13_init_144 : decode cX13_init 144 = .ok (.bipush 20, 2) := by decide +kernel
theorem dX13_init_146 : decode cX13_init 146 = .ok (.newarray .int, 2) := by decide +kernel
theorem dX13_init_148 : decode cX13_init 148 = .ok (.putfield 62, 3) := by decide +kernel
theorem dX13_init_151 : decode cX13_init 151 = .ok (.aload_n 0, 1) := by decide +kernel
theorem dX13_init_152 : decode cX13_init 152 = .ok (.bipush 20, 2) := by decide +kernel
theorem dX13_init_154 : decode cX13_init 154 = .ok (.newarray .int, 2) := by decide +kernel
theorem dX13_init_156 : decode cX13_init 156 = .ok (.putfield 65, 3) := by decide +kernel
theorem dX13_init_159 : decode cX13_init 159 = .ok (.aload_n 0, 1) := by decide +kernel
theorem dX13_init_160 : decode cX13_init 160 = .ok (.bipush 20, 2) := by decide +kernel
theorem dX13_init_162 : decode cX13_init 162 = .ok (.newarray .int, 2) := by decide +kernel
theorem dX13_init_164 : decode cX13_init 164 = .ok (.putfield 68, 3) := by decide +kernel
theorem dX13_init_167 : decode cX13_init 167 = .ok (.aload_n 0, 1) := by decide +kernel
theorem dX13_init_168 : decode cX13_init 168 = .ok (.bipush 20, 2) := by decide +kernel
theorem dX13_init_170 : decode cX13_init 170 = .ok (.newarray .int, 2) := by decide +kernel
theorem dX13_init_172 : decode cX13_init 172 = .ok (.putfield 71, 3) := by decide +kernel
theorem dX13_init_175 : decode cX13_init 175 = .ok (.aload_n 0, 1) := by decide +kernel
theorem dX13_init_176 : decode cX13_init 176 = .ok (.sipush 320, 3) := by decide +kernel
theorem dX13_init_179 : decode cX13_init 179 = .ok (.newarray .int, 2) := by decide +kernel
theorem dX13_init_181 : decode cX13_init 181 = .ok (.putfield 74, 3) := by decide +kernel
theorem dX13_init_184 : decode cX13_init 184 = .ok (.aload_n 0, 1) := by decide +kernel
theorem dX13_init_185 : decode cX13_init 185 = .ok (.sipush 320, 3) := by decide +kernel
theorem dX13_init_188 : decode cX13_init 188 = .ok (.newarray .int, 2) := by decide +kernel
theorem dX13_init_190 : decode cX13_init 190 = .ok (.putfield 77, 3) := by decide +kernel
theorem dX13_init_193 : decode cX13_init 193 = .ok (.aload_n 0, 1) := by decide +kernel
theorem dX13_init_194 : decode cX13_init 194 = .ok (.sipush 320, 3) := by decide +kernel
theorem dX13_init_197 : decode cX13_init 197 = .ok (.newarray .int, 2) := by decide +kernel
theorem dX13_init_199 : decode cX13_init 199 = .ok (.putfield 80, 3) := by decide +kernel
theorem dX13_init_202 : decode cX13_init 202 = .ok (.aload_n 0, 1) := by decide +kernel
theorem dX13_init_203 : decode cX13_init 203 = .ok (.sipush 300, 3) := by decide +kernel
theorem dX13_init_206 : decode cX13_init 206 = .ok (.newarray .int, 2) := by decide +kernel
theorem dX13_init_208 : decode cX13_init 208 = .ok (.putfield 83, 3) := by decide +kernel
theorem dX13_init_211 : decode cX13_init 211 = .ok (.aload_n 0, 1) := by decide +kernel
theorem dX13_init_212 : decode cX13_init 212 = .ok (.sipush 300, 3) := by decide +kernel
theorem dX13_init_215 : decode cX13_init 215 = .ok (.newarray .int, 2) := by decide +kernel
theorem dX13_init_217 : decode cX13_init 217 = .ok (.putfield 86, 3) := by decide +kernel
theorem dX13_init_220 : decode cX13_init 220 = .ok (.aload_n 0, 1) := by decide +kernel
theorem dX13_init_221 : decode cX13_init 221 = .ok (.sipush 300, 3) := by decide +kernel
theorem dX13_init_224 : decode cX13_init 224 = .ok (.newarray .int, 2) := by decide +kernel
theorem dX13_init_226 : decode cX13_init 226 = .ok (.putfield 89, 3) := by decide +kernel
theorem dX13_init_229 : decode cX13_init 229 = .ok (.aload_n 0, 1) := by decide +kernel
theorem dX13_init_230 : decode cX13_init 230 = .ok (.sipush 300, 3) := by decide +kernel
theorem dX13_init_233 : decode cX13_init 233 = .ok (.newarray .int, 2) := by decide +kernel
theorem dX13_init_235 : decode cX13_init 235 = .ok (.putfield 92, 3) := by decide +kernel
theorem dX13_init_238 : decode cX13_init 238 = .ok (.aload_n 0, 1) := by decide +kernel
theorem dX13_init_239 : decode cX13_init 239 = .ok (.sipush 300, 3) := by decide +kernel
theorem dX13_init_242 : decode cX13_init 242 = .ok (.newarray .int, 2) := by decide +kernel
theorem dX13_init_244 : decode cX13_init 244 = .ok (.putfield 95, 3) := by decide +kernel
theorem dX13_init_247 : decode cX13_init 247 = .ok (.aload_n 0, 1) := by decide +kernel
theorem dX13_init_248 : decode cX13_init 248 = .ok (.bipush 20, 2) := by decide +kernel
theorem dX13_init_250 : decode cX13_init 250 = .ok (.newarray .int, 2) := by decide +kernel
theorem dX13_init_252 : decode cX13_init 252 = .ok (.putfield 98, 3) := by decide +kernel
theorem dX13_init_255 : decode cX13_init 255 = .ok (.aload_n 0, 1) := by decide +kernel
theorem dX13_init_256 : decode cX13_init 256 = .ok (.bipush 20, 2) := by decide +kernel
theorem dX13_init_258 : decode cX13_init 258 = .ok (.newarray .int, 2) := by decide +kernel
theorem dX13_init_260 : decode cX13_init 260 = .ok (.putfield 101, 3) := by decide +kernel
theorem dX13_init_263 : decode cX13_init 263 = .ok (.aload_n 0, 1) := by decide +kernel
theorem dX13_init_264 : decode cX13_init 264 = .ok (.bipush 20, 2) := by decide +kernel
theorem dX13_init_266 : decode cX13_init 266 = .ok (.newarray .int, 2) := by decide +kernel
theorem dX13_init_268 : decode cX13_init 268 = .ok (.putfield 104, 3) := by decide +kernel
theorem dX13_init_271 : decode cX13_init 271 = .ok (.aload_n 0, 1) := by decide +kernel
theorem dX13_init_272 : decode cX13_init 272 = .ok (.sipush 320, 3) := by decide +kernel
theorem dX13_init_275 : decode cX13_init 275 = .ok (.newarray .int, 2) := by decide +kernel
theorem dX13_init_277 : decode cX13_init 277 = .ok (.putfield 107, 3) := by decide +kernel
theorem dX13_init_280 : decode cX13_init 280 = .ok (.aload_n 0, 1) := by decide +kernel
theorem dX13_init_281 : decode cX13_init 281 = .ok (.bipush 16, 2) := by decide +kernel
theorem dX13_init_283 : decode cX13_init 283 = .ok (.newarray .int, 2) := by decide +kernel
theorem dX13_init_285 : decode cX13_init 285 = .ok (.putfield 110, 3) := by decide +kernel
theorem dX13_init_288 : decode cX13_init 288 = .ok (.aload_n 0, 1) := by decide +kernel
theorem dX13_init_289 : decode cX13_init 289 = .ok (.bipush 20, 2) := by decide +kernel
theorem dX13_init_291 : decode cX13_init 291 = .ok (.newarray .int, 2) := by decide +kernel
theorem dX13_init_293 : decode cX13_init 293 = .ok (.putfield 113, 3) := by decide +kernel
theorem dX13_init_296 : decode cX13_init 296 = .ok (.aload_n 0, 1) := by decide +kernel
theorem dX13_init_297 : decode cX13_init 297 = .ok (.bipush 20, 2) := by decide +kernel
theorem dX13_init_299 : decode cX13_init 299 = .ok (.newarray .int, 2) := by decide +kernel
theorem dX13_init_301 : decode cX13_init 301 = .ok (.putfield 116, 3) := by decide +kernel
theorem dX13_init_304 : decode cX13_init 304 = .ok (.aload_n 0, 1) := by decide +kernel
theorem dX13_init_305 : decode cX13_init 305 = .ok (.sipush 320, 3) := by decide +kernel
theorem dX13_init_308 : decode cX13_init 308 = .ok (.newarray .boolean, 2) := by decide +kernel
theorem dX13_init_310 : decode cX13_init 310 = .ok (.putfield 119, 3) := by decide +kernel
theorem dX13_init_313 : decode cX13_init 313 = .ok (.aload_n 0, 1) := by decide +kernel
theorem dX13_init_314 : decode cX13_init 314 = .ok (.bipush 16, 2) := by decide +kernel
theorem dX13_init_316 : decode cX13_init 316 = .ok (.newarray .boolean, 2) := by decide +kernel
theorem dX13_init_318 : decode cX13_init 318 = .ok (.putfield 123, 3) := by decide +kernel
theorem dX13_init_321 : decode cX13_init 321 = .ok (.aload_n 0, 1) := by decide +kernel
theorem dX13_init_322 : decode cX13_init 322 = .ok (.sipush 200, 3) := by decide +kernel
theorem dX13_init_325 : decode cX13_init 325 = .ok (.newarray .int, 2) := by decide +kernel
theorem dX13_init_327 : decode cX13_init 327 = .ok (.putfield 126, 3) := by decide +kernel
theorem dX13_init_330 : decode cX13_init 330 = .ok (.aload_n 0, 1) := by decide +kernel
theorem dX13_init_331 : decode cX13_init 331 = .ok (.sipush 200, 3) := by decide +kernel
theorem dX13_init_334 : decode cX13_init 334 = .ok (.newarray .int, 2) := by decide +kernel
theorem dX13_init_336 : decode cX13_init 336 = .ok (.putfield 129, 3) := by decide +kernel
theorem dX13_init_339 : decode cX13_init 339 = .ok (.aload_n 0, 1) := by decide +kernel
theorem dX13_init_340 : decode cX13_init 340 = .ok (.sipush 200, 3) := by decide +kernel
theorem dX13_init_343 : decode cX13_init 343 = .ok (.newarray .int, 2) := by decide +kernel
theorem dX13_init_345 : decode cX13_init 345 = .ok (.putfield 132, 3) := by decide +kernel
theorem dX13_init_348 : decode cX13_init 348 = .ok (.aload_n 0, 1) := by decide +kernel
theorem dX13_init_349 : decode cX13_init 349 = .ok (.sipush 200, 3) := by decide +kernel
theorem dX13_init_352 : decode cX13_init 352 = .ok (.newarray .int, 2) := by decide +kernel
theorem dX13_init_354 : decode cX13_init 354 = .ok (.putfield 135, 3) := by decide +kernel
theorem dX13_init_357 : decode cX13_init 357 = .ok (.aload_n 0, 1) := by decide +kernel
theorem dX13_init_358 : decode cX13_init 358 = .ok (.sipush 200, 3) := by decide +kernel
theorem dX13_init_361 : decode cX13_init 361 = .ok (.newarray .int, 2) := by decide +kernel
theorem dX13_init_363 : decode cX13_init 363 = .ok (.putfield 138, 3) := by decide +kernel
theorem dX13_init_366 : decode cX13_init 366 = .ok (.aload_n 0, 1) := by decide +kernel
theorem dX13_init_367 : decode cX13_init 367 = .ok (.sipush 200, 3) := by decide +kernel
theorem dX13_init_370 : decode cX13_init 370 = .ok (.newarray .int, 2) := by decide +kernel
theorem dX13_init_372 : decode cX13_init 372 = .ok (.putfield 141, 3) := by decide +kernel
theorem dX13_init_375 : decode cX13_init 375 = .ok (.aload_n 0, 1) := by decide +kernel
theorem dX13_init_376 : decode cX13_init 376 = .ok (.sipush 200, 3) := by decide +kernel
theorem dX13_init_379 : decode cX13_init 379 = .ok (.newarray .int, 2) := by decide +kernel
theorem dX13_init_381 : decode cX13_init 381 = .ok (.putfield 144, 3) := by decide +kernel
theorem dX13_init_384 : decode cX13_init 384 = .ok (.aload_n 0, 1) := by decide +kernel
theorem dX13_init_385 : decode cX13_init 385 = .ok (.sipush 200, 3) := by decide +kernel
theorem dX13_init_388 : decode cX13_init 388 = .ok (.newarray .int, 2) := by decide +kernel
theorem dX13_init_390 : decode cX13_init 390 = .ok (.putfield 147, 3) := by decide +kernel
theorem dX13_init_393 : decode cX13_init 393 = .ok (.aload_n 0, 1) := by decide +kernel
theorem dX13_init_394 : decode cX13_init 394 = .ok (.bipush 30, 2) := by decide +kernel
theorem dX13_init_396 : decode cX13_init 396 = .ok (.newarray .int, 2) := by decide +kernel
theorem dX13_init_398 : decode cX13_init 398 = .ok (.putfield 150, 3) := by decide +kernel
theorem dX13_init_401 : decode cX13_init 401 = .ok (.aload_n 0, 1) := by decide +kernel
theorem dX13_init_402 : decode cX13_init 402 = .ok (.bipush 30, 2) := by decide +kernel
theorem dX13_init_404 : decode cX13_init 404 = .ok (.newarray .int, 2) := by decide +kernel
theorem dX13_init_406 : decode cX13_init 406 = .ok (.putfield 153, 3) := by decide +kernel
theorem dX13_init_409 : decode cX13_init 409 = .ok (.aload_n 0, 1) := by decide +kernel
theorem dX13_init_410 : decode cX13_init 410 = .ok (.bipush 30, 2) := by decide +kernel
theorem dX13_init_412 : decode cX13_init 412 = .ok (.newarray .int, 2) := by decide +kernel
theorem dX13_init_414 : decode cX13_init 414 = .ok (.putfield 156, 3) := by decide +kernel
theorem dX13_init_417 : decode cX13_init 417 = .ok (.aload_n 0, 1) := by decide +kernel
theorem dX13_init_418 : decode cX13_init 418 = .ok (.bipush 30, 2) := by decide +kernel
theorem dX13_init_420 : decode cX13_init 420 = .ok (.newarray .int, 2) := by decide +kernel
theorem dX13_init_422 : decode cX13_init 422 = .ok (.putfield 159, 3) := by decide +kernel
theorem dX13_init_425 : decode cX13_init 425 = .ok (.aload_n 0, 1) := by decide +kernel
theorem dX13_init_426 : decode cX13_init 426 = .ok (.bipush 30, 2) := by decide +kernel
theorem dX13_init_428 : decode cX13_init 428 = .ok (.newarray .int, 2) := by decide +kernel
theorem dX13_init_430 : decode cX13_init 430 = .ok (.putfield 162, 3) := by decide +kernel
theorem dX13_init_433 : decode cX13_init 433 = .ok (.aload_n 0, 1) := by decide +kernel
theorem dX13_init_434 : decode cX13_init 434 = .ok (.bipush 60, 2) := by decide +kernel
theorem dX13_init_436 : decode cX13_init 436 = .ok (.newarray .int, 2) := by decide +kernel
theorem dX13_init_438 : decode cX13_init 438 = .ok (.putfield 165, 3) := by decide +kernel
theorem dX13_init_441 : decode cX13_init 441 = .ok (.aload_n 0, 1) := by decide +kernel
theorem dX13_init_442 : decode cX13_init 442 = .ok (.bipush 60, 2) := by decide +kernel
theorem dX13_init_444 : decode cX13_init 444 = .ok (.newarray .int, 2) := by decide +kernel
theorem dX13_init_446 : decode cX13_init 446 = .ok (.putfield 168, 3) := by decide +kernel
theorem dX13_init_449 : decode cX13_init 449 = .ok (.aload_n 0, 1) := by decide +kernel
theorem dX13_init_450 : decode cX13_init 450 = .ok (.bipush 60, 2) := by decide +kernel
theorem dX13_init_452 : decode cX13_init 452 = .ok (.newarray .int, 2) := by decide +kernel
theorem dX13_init_454 : decode cX13_init 454 = .ok (.putfield 171, 3) := by decide +kernel
theorem dX13_init_457 : decode cX13_init 457 = .ok (.aload_n 0, 1) := by decide +kernel
theorem dX13_init_458 : decode cX13_init 458 = .ok (.bipush 30, 2) := by decide +kernel
theorem dX13_init_460 : decode cX13_init 460 = .ok (.newarray .int, 2) := by decide +kernel
theorem dX13_init_462 : decode cX13_init 462 = .ok (.putfield 174, 3) := by decide +kernel
theorem dX13_init_465 : decode cX13_init 465 = .ok (.aload_n 0, 1) := by decide +kernel
theorem dX13_init_466 : decode cX13_init 466 = .ok (.bipush 30, 2) := by decide +kernel
theorem dX13_init_468 : decode cX13_init 468 = .ok (.newarray .boolean, 2) := by decide +kernel
theorem dX13_init_470 : decode cX13_init 470 = .ok (.putfield 177, 3) := by decide +kernel
theorem dX13_init_473 : decode cX13_init 473 = .ok (.aload_n 0, 1) := by decide +kernel
theorem dX13_init_474 : decode cX13_init 474 = .ok (.sipush 256, 3) := by decide +kernel
theorem dX13_init_477 : decode cX13_init 477 = .ok (.newarray .int, 2) := by decide +kernel
theorem dX13_init_479 : decode cX13_init 479 = .ok (.putfield 180, 3) := by decide +kernel
theorem dX13_init_482 : decode cX13_init 482 = .ok (.aload_n 0, 1) := by decide +kernel
theorem dX13_init_483 : decode cX13_init 483 = .ok (.sipush 256, 3) := by decide +kernel
theorem dX13_init_486 : decode cX13_init 486 = .ok (.newarray .int, 2) := by decide +kernel
theorem dX13_init_488 : decode cX13_init 488 = .ok (.putfield 183, 3) := by decide +kernel
theorem dX13_init_491 : decode cX13_init 491 = .ok (.aload_n 0, 1) := by decide +kernel
theorem dX13_init_492 : decode cX13_init 492 = .ok (.sipush 256, 3) := by decide +kernel
theorem dX13_init_495 : decode cX13_init 495 = .ok (.newarray .int, 2) := by decide +kernel
theorem dX13_init_497 : decode cX13_init 497 = .ok (.putfield 186, 3) := by decide +kernel
theorem dX13_init_500 : decode cX13_init 500 = .ok (.aload_n 0, 1) := by decide +kernel
theorem dX13_init_501 : decode cX13_init 501 = .ok (.iconst 2, 1) := by decide +kernel
theorem dX13_init_502 : decode cX13_init 502 = .ok (.newarray .int, 2) := by decide +kernel
theorem dX13_init_504 : decode cX13_init 504 = .ok (.putfield 189, 3) := by decide +kernel
theorem dX13_init_507 : decode cX13_init 507 = .ok (.aload_n 0, 1) := by decide +kernel
theorem dX13_init_508 : decode cX13_init 508 = .ok (.iconst 4, 1) := by decide +kernel
theorem dX13_init_509 : decode cX13_init 509 = .ok (.newarray .int, 2) := by decide +kernel
theorem dX13_init_511 : decode cX13_init 511 = .ok (.putfield 192, 3) := by decide +kernel
theorem dX13_init_514 : decode cX13_init 514 = .ok (.aload_n 0, 1) := by decide +kernel
theorem dX13_init_515 : decode cX13_init 515 = .ok (.bipush 20, 2) := by decide +kernel
theorem dX13_init_517 : decode cX13_init 517 = .ok (.newarray .int, 2) := by decide +kernel
theorem dX13_init_519 : decode cX13_init 519 = .ok (.putfield 195, 3) := by decide +kernel
theorem dX13_init_522 : decode cX13_init 522 = .ok (.aload_n 0, 1) := by decide +kernel
theorem dX13_init_523 : decode cX13_init 523 = .ok (.bipush 80, 2) := by decide +kernel
theorem dX13_init_525 : decode cX13_init 525 = .ok (.newarray .int, 2) := by decide +kernel
theorem dX13_init_527 : decode cX13_init 527 = .ok (.putfield 198, 3) := by decide +kernel
theorem dX13_init_530 : decode cX13_init 530 = .ok (.aload_n 0, 1) := by decide +kernel
theorem dX13_init_531 : decode cX13_init 531 = .ok (.bipush 80, 2) := by decide +kernel
theorem dX13_init_533 : decode cX13_init 533 = .ok (.newarray .int, 2) := by decide +kernel
theorem dX13_init_535 : decode cX13_init 535 = .ok (.putfield 201, 3) := by decide +kernel
theorem dX13_init_538 : decode cX13_init 538 = .ok (.aload_n 0, 1) := by decide +kernel
theorem dX13_init_539 : decode cX13_init 539 = .ok (.iconst 4, 1) := by decide +kernel
theorem dX13_init_540 : decode cX13_init 540 = .ok (.newarray .int, 2) := by decide +kernel
theorem dX13_init_542 : decode cX13_init 542 = .ok (.putfield 204, 3) := by decide +kernel
theorem dX13_init_545 : decode cX13_init 545 = .ok (.aload_n 0, 1) := by decide +kernel
theorem dX13_init_546 : decode cX13_init 546 = .ok (.iconst 4, 1) := by decide +kernel
theorem dX13_init_547 : decode cX13_init 547 = .ok (.newarray .int, 2) := by decide +kernel
theorem dX13_init_549 : decode cX13_init 549 = .ok (.putfield 207, 3) := by decide +kernel
theorem dX13_init_552 : decode cX13_init 552 = .ok (.aload_n 0, 1) := by decide +kernel
theorem dX13_init_553 : decode cX13_init 553 = .ok (.bipush 16, 2) := by decide +kernel
theorem dX13_init_555 : decode cX13_init 555 = .ok (.newarray .int, 2) := by decide +kernel
theorem dX13_init_557 : decode cX13_init 557 = .ok (.putfield 210, 3) := by decide +kernel
theorem dX13_init_560 : decode cX13_init 560 = .ok (.aload_n 0, 1) := by decide +kernel
theorem dX13_init_561 : decode cX13_init 561 = .ok (.bipush 20, 2) := by decide +kernel
theorem dX13_init_563 : decode cX13_init 563 = .ok (.newarray .int, 2) := by decide +kernel
theorem dX13_init_565 : decode cX13_init 565 = .ok (.putfield 213, 3) := by decide +kernel
theorem dX13_init_568 : decode cX13_init 568 = .ok (.aload_n 0, 1) := by decide +kernel
theorem dX13_init_569 : decode cX13_init 569 = .ok (.bipush 20, 2) := by decide +kernel
theorem dX13_init_571 : decode cX13_init 571 = .ok (.newarray .int, 2) := by decide +kernel
theorem dX13_init_573 : decode cX13_init 573 = .ok (.putfield 216, 3) := by decide +kernel
theorem dX13_init_576 : decode cX13_init 576 = .ok (.aload_n 0, 1) := by decide +kernel
theorem dX13_init_577 : decode cX13_init 577 = .ok (.bipush 20, 2) := by decide +kernel
theorem dX13_init_579 : decode cX13_init 579 = .ok (.newarray .int, 2) := by decide +kernel
theorem dX13_init_581 : decode cX13_init 581 = .ok (.putfield 219, 3) := by decide +kernel
theorem dX13_init_584 : decode cX13_init 584 = .ok (.aload_n 0, 1) := by decide +kernel
theorem dX13_init_585 : decode cX13_init 585 = .ok (.bipush 20, 2) := by decide +kernel
theorem dX13_init_587 : decode cX13_init 587 = .ok (.newarray .int, 2) := by decide +kernel
theorem dX13_init_589 : decode cX13_init 589 = .ok (.putfield 222, 3) := by decide +kernel
theorem dX13_init_592 : decode cX13_init 592 = .ok (.aload_n 0, 1) := by decide +kernel
theorem dX13_init_593 : decode cX13_init 593 = .ok (.bipush 16, 2) := by decide +kernel
theorem dX13_init_595 : decode cX13_init 595 = .ok (.newarray .int, 2) := by decide +kernel
theorem dX13_init_597 : decode cX13_init 597 = .ok (.putfield 225, 3) := by decide +kernel
theorem dX13_init_600 : decode cX13_init 600 = .ok (.return_, 1) := by decide +kernel

def v_x_MI : List Cond := .code yX13_init cX13_init 1 none :: vA
set_option maxHeartbeats 4000000 in
set_option maxRecDepth 100000 in
theorem x_MI (l : Launch) (dC : Nat → ClassId) (dI : Nat → Nat → Nat) (h : Nat) (sz : Nat)  : Met l yX13_init v_x_MI ({ frames := 1, cells := 71, slots := 10512, locals := 40 }) (va_Pc [.ref h] (fun U => U.heap.size = sz ∧ va_P (dC, dI) vwCl [(h, .inr (14, mL (fun j => defaultValue (tyX13 j))))] U.heap ∧ va_K (dC, dI) vwCl [] U ∧ va_D (fun _ => True) [(h, .inr (14, mL (fun j => defaultValue (tyX13 j))))])) (va_Qv (S := (Nat → Value) × Nat × Nat × Nat × Nat × Nat × Nat × Nat × Nat × Nat × Nat × Nat × Nat × Nat × Nat × Nat × Nat × Nat × Nat × Nat × Nat × Nat × Nat × Nat × Nat × Nat × Nat × Nat × Nat × Nat × Nat × Nat × Nat × Nat × Nat × Nat × Nat × Nat × Nat × Nat × Nat × Nat × Nat × Nat × Nat × Nat × Nat × Nat × Nat × Nat × Nat × Nat × Nat × Nat × Nat × Nat × Nat × Nat × Nat × Nat × Nat × Nat × Nat × Nat × Nat × Nat × Nat × Nat × Nat × Nat × Nat × Nat × ClassId × ClassId × ClassId) (fun u => match u with | (f, p1, p2, p3, p4, p5, p6, p7, p8, p9, p10, p11, p12, p13, p14, p15, p16, p17, p18, p19, p20, p21, p22, p23, p24, p25, p26, p27, p28, p29, p30, p31, p32, p33, p34, p35, p36, p37, p38, p39, p40, p41, p42, p43, p44, p45, p46, p47, p48, p49, p50, p51, p52, p53, p54, p55, p56, p57, p58, p59, p60, p61, p62, p63, p64, p65, p66, p67, p68, p69, p70, p71, cI, cB, cZ) => f 0 = .int 0 ∧ f 1 = .int 0 ∧ f 8 = .int 0 ∧ f 9 = .int 0 ∧ f 16 = .int 0 ∧ f 17 = .int 0 ∧ f 19 = .int 0 ∧ f 20 = .int 0 ∧ f 21 = .int 0 ∧ f 22 = .int 0 ∧ f 23 = .int 0 ∧ f 24 = .int 0 ∧ f 25 = .int 0 ∧ f 26 = .int 0 ∧ f 46 = .int 0 ∧ f 47 = .int 0 ∧ f 48 = .int 0 ∧ f 55 = .int 0 ∧ f 74 = .int 0 ∧ f 75 = .int 0 ∧ f 86 = .int 0 ∧ f 87 = .int 0 ∧ f 88 = .int 0 ∧ f 89 = .int 0 ∧ f 95 = .int 0 ∧ f 2 = .ref p1 ∧ f 3 = .ref p2 ∧ f 4 = .ref p3 ∧ f 5 = .ref p4 ∧ f 6 = .ref p5 ∧ f 7 = .ref p6 ∧ f 10 = .ref p7 ∧ f 11 = .ref p8 ∧ f 12 = .ref p9 ∧ f 13 = .ref p10 ∧ f 14 = .ref p11 ∧ f 15 = .ref p12 ∧ f 18 = .ref p7 ∧ f 27 = .ref p13 ∧ f 28 = .ref p14 ∧ f 29 = .ref p15 ∧ f 30 = .ref p16 ∧ f 31 = .ref p17 ∧ f 32 = .ref p18 ∧ f 33 = .ref p19 ∧ f 34 = .ref p20 ∧ f 35 = .ref p21 ∧ f 36 = .ref p22 ∧ f 37 = .ref p23 ∧ f 38 = .ref p24 ∧ f 39 = .ref p25 ∧ f 40 = .ref p26 ∧ f 41 = .ref p27 ∧ f 42 = .ref p28 ∧ f 43 = .ref p29 ∧ f 44 = .ref p30 ∧ f 45 = .ref p31 ∧ f 49 = .ref p32 ∧ f 50 = .ref p33 ∧ f 51 = .ref p34 ∧ f 52 = .ref p35 ∧ f 53 = .ref p36 ∧ f 54 = .ref p37 ∧ f 56 = .ref p38 ∧ f 57 = .ref p39 ∧ f 58 = .ref p40 ∧ f 59 = .ref p41 ∧ f 60 = .ref p42 ∧ f 61 = .ref p43 ∧ f 62 = .ref p44 ∧ f 63 = .ref p45 ∧ f 64 = .ref p46 ∧ f 65 = .ref p47 ∧ f 66 = .ref p48 ∧ f 67 = .ref p49 ∧ f 68 = .ref p50 ∧ f 69 = .ref p51 ∧ f 70 = .ref p52 ∧ f 71 = .ref p53 ∧ f 72 = .ref p54 ∧ f 73 = .ref p55 ∧ f 76 = .ref p56 ∧ f 77 = .ref p57 ∧ f 78 = .ref p58 ∧ f 79 = .ref p59 ∧ f 80 = .ref p60 ∧ f 81 = .ref p61 ∧ f 82 = .ref p62 ∧ f 83 = .ref p63 ∧ f 84 = .ref p64 ∧ f 85 = .ref p65 ∧ f 90 = .ref p66 ∧ f 91 = .ref p67 ∧ f 92 = .ref p68 ∧ f 93 = .ref p69 ∧ f 94 = .ref p70 ∧ f 96 = .ref p71) (fun u t => match u with | (f, p1, p2, p3, p4, p5, p6, p7, p8, p9, p10, p11, p12, p13, p14, p15, p16, p17, p18, p19, p20, p21, p22, p23, p24, p25, p26, p27, p28, p29, p30, p31, p32, p33, p34, p35, p36, p37, p38, p39, p40, p41, p42, p43, p44, p45, p46, p47, p48, p49, p50, p51, p52, p53, p54, p55, p56, p57, p58, p59, p60, p61, p62, p63, p64, p65, p66, p67, p68, p69, p70, p71, cI, cB, cZ) => va_P (dC, dI) vwCl [(h, .inr (14, mL f)), (p1, .inl (cI, 80, .inl ((fun _ => (0 : Int32))))), (p2, .inl (cI, 80, .inl ((fun _ => (0 : Int32))))), (p3, .inl (cI, 80, .inl ((fun _ => (0 : Int32))))), (p4, .inl (cI, 80, .inl ((fun _ => (0 : Int32))))), (p5, .inl (cI, 80, .inl ((fun _ => (0 : Int32))))), (p6, .inl (cI, 80, .inl ((fun _ => (0 : Int32))))), (p7, .inl (cB, 200, .inl ((fun _ => (0 : Int32))))), (p8, .inl (cB, 3200, .inl ((fun _ => (0 : Int32))))), (p9, .inl (cI, 16, .inl ((fun _ => (0 : Int32))))), (p10, .inl (cI, 16, .inl ((fun _ => (0 : Int32))))), (p11, .inl (cI, 16, .inl ((fun _ => (0 : Int32))))), (p12, .inl (cI, 128, .inl ((fun _ => (0 : Int32))))), (p13, .inl (cI, 20, .inl ((fun _ => (0 : Int32))))), (p14, .inl (cI, 20, .inl ((fun _ => (0 : Int32))))), (p15, .inl (cI, 20, .inl ((fun _ => (0 : Int32))))), (p16, .inl (cI, 20, .inl ((fun _ => (0 : Int32))))), (p17, .inl (cI, 20, .inl ((fun _ => (0 : Int32))))), (p18, .inl (cI, 20, .inl ((fun _ => (0 : Int32))))), (p19, .inl (cI, 20, .inl ((fun _ => (0 : Int32))))), (p20, .inl (cI, 20, .inl ((fun _ => (0 : Int32))))), (p21, .inl (cI, 320, .inl ((fun _ => (0 : Int32))))), (p22, .inl (cI, 320, .inl ((fun _ => (0 : Int32))))), (p23, .inl (cI, 320, .inl ((fun _ => (0 : Int32))))), (p24, .inl (cI, 300, .inl ((fun _ => (0 : Int32))))), (p25, .inl (cI, 300, .inl ((fun _ => (0 : Int32))))), (p26, .inl (cI, 300, .inl ((fun _ => (0 : Int32))))), (p27, .inl (cI, 300, .inl ((fun _ => (0 : Int32))))), (p28, .inl (cI, 300, .inl ((fun _ => (0 : Int32))))), (p29, .inl (cI, 20, .inl ((fun _ => (0 : Int32))))), (p30, .inl (cI, 20, .inl ((fun _ => (0 : Int32))))), (p31, .inl (cI, 20, .inl ((fun _ => (0 : Int32))))), (p32, .inl (cI, 320, .inl ((fun _ => (0 : Int32))))), (p33, .inl (cI, 16, .inl ((fun _ => (0 : Int32))))), (p34, .inl (cI, 20, .inl ((fun _ => (0 : Int32))))), (p35, .inl (cI, 20, .inl ((fun _ => (0 : Int32))))), (p36, .inl (cZ, 320, .inl ((fun _ => (0 : Int32))))), (p37, .inl (cZ, 16, .inl ((fun _ => (0 : Int32))))), (p38, .inl (cI, 200, .inl ((fun _ => (0 : Int32))))), (p39, .inl (cI, 200, .inl ((fun _ => (0 : Int32))))), (p40, .inl (cI, 200, .inl ((fun _ => (0 : Int32))))), (p41, .inl (cI, 200, .inl ((fun _ => (0 : Int32))))), (p42, .inl (cI, 200, .inl ((fun _ => (0 : Int32))))), (p43, .inl (cI, 200, .inl ((fun _ => (0 : Int32))))), (p44, .inl (cI, 200, .inl ((fun _ => (0 : Int32))))), (p45, .inl (cI, 200, .inl ((fun _ => (0 : Int32))))), (p46, .inl (cI, 30, .inl ((fun _ => (0 : Int32))))), (p47, .inl (cI, 30, .inl ((fun _ => (0 : Int32))))), (p48, .inl (cI, 30, .inl ((fun _ => (0 : Int32))))), (p49, .inl (cI, 30, .inl ((fun _ => (0 : Int32))))), (p50, .inl (cI, 30, .inl ((fun _ => (0 : Int32))))), (p51, .inl (cI, 60, .inl ((fun _ => (0 : Int32))))), (p52, .inl (cI, 60, .inl ((fun _ => (0 : Int32))))), (p53, .inl (cI, 60, .inl ((fun _ => (0 : Int32))))), (p54, .inl (cI, 30, .inl ((fun _ => (0 : Int32))))), (p55, .inl (cZ, 30, .inl ((fun _ => (0 : Int32))))), (p56, .inl (cI, 256, .inl ((fun _ => (0 : Int32))))), (p57, .inl (cI, 256, .inl ((fun _ => (0 : Int32))))), (p58, .inl (cI, 256, .inl ((fun _ => (0 : Int32))))), (p59, .inl (cI, 2, .inl ((fun _ => (0 : Int32))))), (p60, .inl (cI, 4, .inl ((fun _ => (0 : Int32))))), (p61, .inl (cI, 20, .inl ((fun _ => (0 : Int32))))), (p62, .inl (cI, 80, .inl ((fun _ => (0 : Int32))))), (p63, .inl (cI, 80, .inl ((fun _ => (0 : Int32))))), (p64, .inl (cI, 4, .inl ((fun _ => (0 : Int32))))), (p65, .inl (cI, 4, .inl ((fun _ => (0 : Int32))))), (p66, .inl (cI, 16, .inl ((fun _ => (0 : Int32))))), (p67, .inl (cI, 20, .inl ((fun _ => (0 : Int32))))), (p68, .inl (cI, 20, .inl ((fun _ => (0 : Int32))))), (p69, .inl (cI, 20, .inl ((fun _ => (0 : Int32))))), (p70, .inl (cI, 20, .inl ((fun _ => (0 : Int32))))), (p71, .inl (cI, 16, .inl ((fun _ => (0 : Int32)))))] t.heap ∧ va_K (dC, dI) vwCl [(cI, .int), (cB, .byte), (cZ, .boolean)] t ∧ va_D (va_A [(h, .inr (14, mL (fun j => defaultValue (tyX13 j))))] sz) [(h, .inr (14, mL f)), (p1, .inl (cI, 80, .inl ((fun _ => (0 : Int32))))), (p2, .inl (cI, 80, .inl ((fun _ => (0 : Int32))))), (p3, .inl (cI, 80, .inl ((fun _ => (0 : Int32))))), (p4, .inl (cI, 80, .inl ((fun _ => (0 : Int32))))), (p5, .inl (cI, 80, .inl ((fun _ => (0 : Int32))))), (p6, .inl (cI, 80, .inl ((fun _ => (0 : Int32))))), (p7, .inl (cB, 200, .inl ((fun _ => (0 : Int32))))), (p8, .inl (cB, 3200, .inl ((fun _ => (0 : Int32))))), (p9, .inl (cI, 16, .inl ((fun _ => (0 : Int32))))), (p10, .inl (cI, 16, .inl ((fun _ => (0 : Int32))))), (p11, .inl (cI, 16, .inl ((fun _ => (0 : Int32))))), (p12, .inl (cI, 128, .inl ((fun _ => (0 : Int32))))), (p13, .inl (cI, 20, .inl ((fun _ => (0 : Int32))))), (p14, .inl (cI, 20, .inl ((fun _ => (0 : Int32))))), (p15, .inl (cI, 20, .inl ((fun _ => (0 : Int32))))), (p16, .inl (cI, 20, .inl ((fun _ => (0 : Int32))))), (p17, .inl (cI, 20, .inl ((fun _ => (0 : Int32))))), (p18, .inl (cI, 20, .inl ((fun _ => (0 : Int32))))), (p19, .inl (cI, 20, .inl ((fun _ => (0 : Int32))))), (p20, .inl (cI, 20, .inl ((fun _ => (0 : Int32))))), (p21, .inl (cI, 320, .inl ((fun _ => (0 : Int32))))), (p22, .inl (cI, 320, .inl ((fun _ => (0 : Int32))))), (p23, .inl (cI, 320, .inl ((fun _ => (0 : Int32))))), (p24, .inl (cI, 300, .inl ((fun _ => (0 : Int32))))), (p25, .inl (cI, 300, .inl ((fun _ => (0 : Int32))))), (p26, .inl (cI, 300, .inl ((fun _ => (0 : Int32))))), (p27, .inl (cI, 300, .inl ((fun _ => (0 : Int32))))), (p28, .inl (cI, 300, .inl ((fun _ => (0 : Int32))))), (p29, .inl (cI, 20, .inl ((fun _ => (0 : Int32))))), (p30, .inl (cI, 20, .inl ((fun _ => (0 : Int32))))), (p31, .inl (cI, 20, .inl ((fun _ => (0 : Int32))))), (p32, .inl (cI, 320, .inl ((fun _ => (0 : Int32))))), (p33, .inl (cI, 16, .inl ((fun _ => (0 : Int32))))), (p34, .inl (cI, 20, .inl ((fun _ => (0 : Int32))))), (p35, .inl (cI, 20, .inl ((fun _ => (0 : Int32))))), (p36, .inl (cZ, 320, .inl ((fun _ => (0 : Int32))))), (p37, .inl (cZ, 16, .inl ((fun _ => (0 : Int32))))), (p38, .inl (cI, 200, .inl ((fun _ => (0 : Int32))))), (p39, .inl (cI, 200, .inl ((fun _ => (0 : Int32))))), (p40, .inl (cI, 200, .inl ((fun _ => (0 : Int32))))), (p41, .inl (cI, 200, .inl ((fun _ => (0 : Int32))))), (p42, .inl (cI, 200, .inl ((fun _ => (0 : Int32))))), (p43, .inl (cI, 200, .inl ((fun _ => (0 : Int32))))), (p44, .inl (cI, 200, .inl ((fun _ => (0 : Int32))))), (p45, .inl (cI, 200, .inl ((fun _ => (0 : Int32))))), (p46, .inl (cI, 30, .inl ((fun _ => (0 : Int32))))), (p47, .inl (cI, 30, .inl ((fun _ => (0 : Int32))))), (p48, .inl (cI, 30, .inl ((fun _ => (0 : Int32))))), (p49, .inl (cI, 30, .inl ((fun _ => (0 : Int32))))), (p50, .inl (cI, 30, .inl ((fun _ => (0 : Int32))))), (p51, .inl (cI, 60, .inl ((fun _ => (0 : Int32))))), (p52, .inl (cI, 60, .inl ((fun _ => (0 : Int32))))), (p53, .inl (cI, 60, .inl ((fun _ => (0 : Int32))))), (p54, .inl (cI, 30, .inl ((fun _ => (0 : Int32))))), (p55, .inl (cZ, 30, .inl ((fun _ => (0 : Int32))))), (p56, .inl (cI, 256, .inl ((fun _ => (0 : Int32))))), (p57, .inl (cI, 256, .inl ((fun _ => (0 : Int32))))), (p58, .inl (cI, 256, .inl ((fun _ => (0 : Int32))))), (p59, .inl (cI, 2, .inl ((fun _ => (0 : Int32))))), (p60, .inl (cI, 4, .inl ((fun _ => (0 : Int32))))), (p61, .inl (cI, 20, .inl ((fun _ => (0 : Int32))))), (p62, .inl (cI, 80, .inl ((fun _ => (0 : Int32))))), (p63, .inl (cI, 80, .inl ((fun _ => (0 : Int32))))), (p64, .inl (cI, 4, .inl ((fun _ => (0 : Int32))))), (p65, .inl (cI, 4, .inl ((fun _ => (0 : Int32))))), (p66, .inl (cI, 16, .inl ((fun _ => (0 : Int32))))), (p67, .inl (cI, 20, .inl ((fun _ => (0 : Int32))))), (p68, .inl (cI, 20, .inl ((fun _ => (0 : Int32))))), (p69, .inl (cI, 20, .inl ((fun _ => (0 : Int32))))), (p70, .inl (cI, 20, .inl ((fun _ => (0 : Int32))))), (p71, .inl (cI, 16, .inl ((fun _ => (0 : Int32)))))]) (va_A [(h, .inr (14, mL (fun j => defaultValue (tyX13 j))))] sz)) 71 10512 (va_A [(h, .inr (14, mL (fun j => defaultValue (tyX13 j))))] sz) := by
  refine Met.ofW (cc := cX13_init) (maxL := 1) (ret := none) (by decide) rfl ?_
  intro p e s m args below meth c s₁ B hml hv
  obtain ⟨rfl, hsz, hP, hK, hD0⟩ := hv
  have hx := B.exec
  have hb := B.bytes
  have hr := B.returns
  have hts := atoms_spec (ws := v_x_MI) B.pre
  have hown : s.vm.findClass RX13 = some m.cls := findClass_of_methodNamed B.named
  have hlocks := B.notSynchronized
  have hin : meth.name = "<init>" := (name_of_methodNamed B.named B.method).1
  subst hsz
  have hD := hD0.self (sz := s.heap.size)
  generalize hAe : va_A [(h, .inr (14, mL (fun j => defaultValue (tyX13 j))))] s.heap.size = A at hD ⊢
  have hA : ∀ q : Nat, s.heap.size ≤ q → A q := fun q h => by rw [← hAe]; exact Or.inr h
  have hS : va_S A s.heap s.heap [] := va_S.rf
  have hP : va_P (dC, dI) vwCl [(h, .inr (14, mL (fun j => defaultValue (tyX13 j))))] s.heap := hP
  have hl := lv_entry ([.ref h]) (n := 1) (Nat.le_of_ble_eq_true rfl)
  rw [lg_entry_eq]
  generalize (lg_sl ([.ref h]) ++ List.replicate (1 - (lg_sl ([.ref h])).length) Slot.unset).toArray = ls at hl ⊢
  have hl : lv_has ls 1 [(0, .ref h)] := hl
  obtain ⟨w0, ew0⟩ : ∃ z : va_W, z = [] := ⟨_, rfl⟩
  replace hP : va_P (dC, dI) vwCl ((h, .inr (14, mL (fun j => defaultValue (tyX13 j)))) :: w0) s.heap := by rw [ew0]; exact hP
  replace hD : va_D A ((h, .inr (14, mL (fun j => defaultValue (tyX13 j)))) :: w0) := by rw [ew0]; exact hD
  refine lv_aload_n hx hb dX13_init_0 rfl (lv_at hl 0 rfl) ?_
  refine W.objInit hx hb hown (hts _ (vA_in _ _ (in_32 _ (List.mem_of_getElem? (i := 5) rfl)))) (hts _ (vA_in _ _ (in_4 _ (List.mem_of_getElem? (i := 17) rfl)))) (hts _ (vA_in _ _ (in_4 _ (List.mem_of_getElem? (i := 18) rfl)))) rfl (by rw [hml]; exact hl.1) rfl dX13_init_1 (Nat.le_of_ble_eq_true rfl) (Nat.le_of_ble_eq_true rfl) ?_
  refine W.eq (g2 := F0 m 4 ls []) rfl ?_
  refine lv_aload_n hx hb dX13_init_4 rfl (lv_at hl 0 rfl) ?_
  refine lv_bipush (v := 80) hx hb dX13_init_5 (by decide) ?_
  refine va_newa (atype := .int) (ty := .int) (N' := 80) (a0 := (80, .inl (fun _ => (0 : Int32)))) hx hb (hts _ (vA_in _ _ (in_2 _ (List.mem_of_getElem? (i := 38) rfl)))) rfl hK hP hD hS hA (fun _ => rfl) (by decide) (by decide) (Nat.le_of_ble_eq_true rfl) (Nat.le_of_ble_eq_true rfl) (Nat.le_of_ble_eq_true rfl) dX13_init_7 (fun q1 kq1 H hK hP hD hS => ?_)
  have hK : va_K (dC, dI) vwCl [(kq1, .int)] s := hK
  obtain ⟨wq1, ewq1⟩ : ∃ z : va_W, z = w0 ++ [(q1, .inl (kq1, 80, .inl (fun _ => (0 : Int32))))] := ⟨_, rfl⟩
  replace hP : va_P (dC, dI) vwCl ((h, .inr (14, mL (fun j => defaultValue (tyX13 j)))) :: wq1) H := by rw [ewq1]; exact hP
  replace hD : va_D A ((h, .inr (14, mL (fun j => defaultValue (tyX13 j)))) :: wq1) := by rw [ewq1]; exact hD
  refine W.widen (k := 1) (n := 80) (by omega) (by omega) ?_
  refine va_putF (D := (dC, dI)) (ci := 14) (v := .ref q1) (ty := .array .int) (C := RX13) (T := TX13) (N := 97) hx hb hts (fun w h => vA_in _ w (in_X13 w h)) tyX13 tyX13_ok nmX13 hown hK hP hD hS 0 rfl rfl 2 (by decide) (hts _ (vA_in _ _ (in_27 _ (List.mem_of_getElem? (i := 10) rfl)))) (fun _ h9 => h9) rfl hin rfl (by decide +kernel) rfl rfl (mL_lt (Nat.le_of_ble_eq_true rfl)) dX13_init_9 (fun H locs hP hD hS => ?_)
  replace hP : va_P (dC, dI) vwCl ((h, .inr (14, (mL (fun j => defaultValue (tyX13 j))).set 2 (.ref q1))) :: wq1) H := hP
  replace hD : va_D A ((h, .inr (14, (mL (fun j => defaultValue (tyX13 j))).set 2 (.ref q1))) :: wq1) := hD
  obtain ⟨g2, eg2⟩ : ∃ z9, z9 = va_up (fun j => defaultValue (tyX13 j)) 2 (.ref q1) := ⟨_, rfl⟩
  rw [mL_upd, ← eg2] at hP hD
  have hg2_0 : g2 0 = .int 0 := (congrFun eg2 0).trans ((va_up_ne _ _ (Nat.ne_of_beq_eq_false rfl)).trans rfl)
  have hg2_1 : g2 1 = .int 0 := (congrFun eg2 1).trans ((va_up_ne _ _ (Nat.ne_of_beq_eq_false rfl)).trans rfl)
  have hg2_8 : g2 8 = .int 0 := (congrFun eg2 8).trans ((va_up_ne _ _ (Nat.ne_of_beq_eq_false rfl)).trans rfl)
  have hg2_9 : g2 9 = .int 0 := (congrFun eg2 9).trans ((va_up_ne _ _ (Nat.ne_of_beq_eq_false rfl)).trans rfl)
  have hg2_16 : g2 16 = .int 0 := (congrFun eg2 16).trans ((va_up_ne _ _ (Nat.ne_of_beq_eq_false rfl)).trans rfl)
  have hg2_17 : g2 17 = .int 0 := (congrFun eg2 17).trans ((va_up_ne _ _ (Nat.ne_of_beq_eq_false rfl)).trans rfl)
  have hg2_19 : g2 19 = .int 0 := (congrFun eg2 19).trans ((va_up_ne _ _ (Nat.ne_of_beq_eq_false rfl)).trans rfl)
  have hg2_20 : g2 20 = .int 0 := (congrFun eg2 20).trans ((va_up_ne _ _ (Nat.ne_of_beq_eq_false rfl)).trans rfl)
  have hg2_21 : g2 21 = .int 0 := (congrFun eg2 21).trans ((va_up_ne _ _ (Nat.ne_of_beq_eq_false rfl)).trans rfl)
  have hg2_22 : g2 22 = .int 0 := (congrFun eg2 22).trans ((va_up_ne _ _ (Nat.ne_of_beq_eq_false rfl)).trans rfl)
  have hg2_23 : g2 23 = .int 0 := (congrFun eg2 23).trans ((va_up_ne _ _ (Nat.ne_of_beq_eq_false rfl)).trans rfl)
  have hg2_24 : g2 24 = .int 0 := (congrFun eg2 24).trans ((va_up_ne _ _ (Nat.ne_of_beq_eq_false rfl)).trans rfl)
  have hg2_25 : g2 25 = .int 0 := (congrFun eg2 25).trans ((va_up_ne _ _ (Nat.ne_of_beq_eq_false rfl)).trans rfl)
  have hg2_26 : g2 26 = .int 0 := (congrFun eg2 26).trans ((va_up_ne _ _ (Nat.ne_of_beq_eq_false rfl)).trans rfl)
  have hg2_46 : g2 46 = .int 0 := (congrFun eg2 46).trans ((va_up_ne _ _ (Nat.ne_of_beq_eq_false rfl)).trans rfl)
  have hg2_47 : g2 47 = .int 0 := (congrFun eg2 47).trans ((va_up_ne _ _ (Nat.ne_of_beq_eq_false rfl)).trans rfl)
  have hg2_48 : g2 48 = .int 0 := (congrFun eg2 48).trans ((va_up_ne _ _ (Nat.ne_of_beq_eq_false rfl)).trans rfl)
  have hg2_55 : g2 55 = .int 0 := (congrFun eg2 55).trans ((va_up_ne _ _ (Nat.ne_of_beq_eq_false rfl)).trans rfl)
  have hg2_74 : g2 74 = .int 0 := (congrFun eg2 74).trans ((va_up_ne _ _ (Nat.ne_of_beq_eq_false rfl)).trans rfl)
  have hg2_75 : g2 75 = .int 0 := (congrFun eg2 75).trans ((va_up_ne _ _ (Nat.ne_of_beq_eq_false rfl)).trans rfl)
  have hg2_86 : g2 86 = .int 0 := (congrFun eg2 86).trans ((va_up_ne _ _ (Nat.ne_of_beq_eq_false rfl)).trans rfl)
  have hg2_87 : g2 87 = .int 0 := (congrFun eg2 87).trans ((va_up_ne _ _ (Nat.ne_of_beq_eq_false rfl)).trans rfl)
  have hg2_88 : g2 88 = .int 0 := (congrFun eg2 88).trans ((va_up_ne _ _ (Nat.ne_of_beq_eq_false rfl)).trans rfl)
  have hg2_89 : g2 89 = .int 0 := (congrFun eg2 89).trans ((va_up_ne _ _ (Nat.ne_of_beq_eq_false rfl)).trans rfl)
  have hg2_95 : g2 95 = .int 0 := (congrFun eg2 95).trans ((va_up_ne _ _ (Nat.ne_of_beq_eq_false rfl)).trans rfl)
  have hg2_2 : g2 2 = .ref q1 := by rw [eg2]; exact va_up_self _ _ _
  refine lv_aload_n hx hb dX13_init_12 rfl (lv_at hl 0 rfl) ?_
  refine lv_bipush (v := 80) hx hb dX13_init_13 (by decide) ?_
  refine va_newa (atype := .int) (ty := .int) (N' := 80) (a0 := (80, .inl (fun _ => (0 : Int32)))) hx hb (hts _ (vA_in _ _ (in_2 _ (List.mem_of_getElem? (i := 38) rfl)))) rfl hK hP hD hS hA (fun _ => rfl) (by decide) (by decide) (Nat.le_of_ble_eq_true rfl) (Nat.le_of_ble_eq_true rfl) (Nat.le_of_ble_eq_true rfl) dX13_init_15 (fun q3 kq3 H hK hP hD hS => ?_)
  have hK : va_K (dC, dI) vwCl [(kq1, .int), (kq3, .int)] s := hK
  obtain ⟨wq3, ewq3⟩ : ∃ z : va_W, z = wq1 ++ [(q3, .inl (kq3, 80, .inl (fun _ => (0 : Int32))))] := ⟨_, rfl⟩
  replace hP : va_P (dC, dI) vwCl ((h, .inr (14, mL g2)) :: wq3) H := by rw [ewq3]; exact hP
  replace hD : va_D A ((h, .inr (14, mL g2)) :: wq3) := by rw [ewq3]; exact hD
  refine W.widen (k := 2) (n := 160) (by omega) (by omega) ?_
  obtain rfl : kq1 = kq3 := ub_sa_int hK 0 1 rfl rfl
  have hK := hK.sub (tys' := [(kq1, .int)]) [0] rfl
  refine va_putF (D := (dC, dI)) (ci := 14) (v := .ref q3) (ty := .array .int) (C := RX13) (T := TX13) (N := 97) hx hb hts (fun w h => vA_in _ w (in_X13 w h)) tyX13 tyX13_ok nmX13 hown hK hP hD hS 0 rfl rfl 3 (by decide) (hts _ (vA_in _ _ (in_27 _ (List.mem_of_getElem? (i := 12) rfl)))) (fun _ h9 => h9) rfl hin rfl (by decide +kernel) rfl rfl (mL_lt (Nat.le_of_ble_eq_true rfl)) dX13_init_17 (fun H locs hP hD hS => ?_)
  replace hP : va_P (dC, dI) vwCl ((h, .inr (14, (mL g2).set 3 (.ref q3))) :: wq3) H := hP
  replace hD : va_D A ((h, .inr (14, (mL g2).set 3 (.ref q3))) :: wq3) := hD
  obtain ⟨g4, eg4⟩ : ∃ z9, z9 = va_up g2 3 (.ref q3) := ⟨_, rfl⟩
  rw [mL_upd, ← eg4] at hP hD
  have hg4_0 : g4 0 = .int 0 := (congrFun eg4 0).trans ((va_up_ne _ _ (Nat.ne_of_beq_eq_false rfl)).trans hg2_0)
  have hg4_1 : g4 1 = .int 0 := (congrFun eg4 1).trans ((va_up_ne _ _ (Nat.ne_of_beq_eq_false rfl)).trans hg2_1)
  have hg4_8 : g4 8 = .int 0 := (congrFun eg4 8).trans ((va_up_ne _ _ (Nat.ne_of_beq_eq_false rfl)).trans hg2_8)
  have hg4_9 : g4 9 = .int 0 := (congrFun eg4 9).trans ((va_up_ne _ _ (Nat.ne_of_beq_eq_false rfl)).trans hg2_9)
  have hg4_16 : g4 16 = .int 0 := (congrFun eg4 16).trans ((va_up_ne _ _ (Nat.ne_of_beq_eq_false rfl)).trans hg2_16)
  have hg4_17 : g4 17 = .int 0 := (congrFun eg4 17).trans ((va_up_ne _ _ (Nat.ne_of_beq_eq_false rfl)).trans hg2_17)
  have hg4_19 : g4 19 = .int 0 := (congrFun eg4 19).trans ((va_up_ne _ _ (Nat.ne_of_beq_eq_false rfl)).trans hg2_19)
  have hg4_20 : g4 20 = .int 0 := (congrFun eg4 20).trans ((va_up_ne _ _ (Nat.ne_of_beq_eq_false rfl)).trans hg2_20)
  have hg4_21 : g4 21 = .int 0 := (congrFun eg4 21).trans ((va_up_ne _ _ (Nat.ne_of_beq_eq_false rfl)).trans hg2_21)
  have hg4_22 : g4 22 = .int 0 := (congrFun eg4 22).trans ((va_up_ne _ _ (Nat.ne_of_beq_eq_false rfl)).trans hg2_22)
  have hg4_23 : g4 23 = .int 0 := (congrFun eg4 23).trans ((va_up_ne _ _ (Nat.ne_of_beq_eq_false rfl)).trans hg2_23)
  have hg4_24 : g4 24 = .int 0 := (congrFun eg4 24).trans ((va_up_ne _ _ (Nat.ne_of_beq_eq_false rfl)).trans hg2_24)
  have hg4_25 : g4 25 = .int 0 := (congrFun eg4 25).trans ((va_up_ne _ _ (Nat.ne_of_beq_eq_false rfl)).trans hg2_25)
  have hg4_26 : g4 26 = .int 0 := (congrFun eg4 26).trans ((va_up_ne _ _ (Nat.ne_of_beq_eq_false rfl)).trans hg2_26)
  have hg4_46 : g4 46 = .int 0 := (congrFun eg4 46).trans ((va_up_ne _ _ (Nat.ne_of_beq_eq_false rfl)).trans hg2_46)
  have hg4_47 : g4 47 = .int 0 := (congrFun eg4 47).trans ((va_up_ne _ _ (Nat.ne_of_beq_eq_false rfl)).trans hg2_47)
  have hg4_48 : g4 48 = .int 0 := (congrFun eg4 48).trans ((va_up_ne _ _ (Nat.ne_of_beq_eq_false rfl)).trans hg2_48)
  have hg4_55 : g4 55 = .int 0 := (congrFun eg4 55).trans ((va_up_ne _ _ (Nat.ne_of_beq_eq_false rfl)).trans hg2_55)
  have hg4_74 : g4 74 = .int 0 := (congrFun eg4 74).trans ((va_up_ne _ _ (Nat.ne_of_beq_eq_false rfl)).trans hg2_74)
  have hg4_75 : g4 75 = .int 0 := (congrFun eg4 75).trans ((va_up_ne _ _ (Nat.ne_of_beq_eq_false rfl)).trans hg2_75)
  have hg4_86 : g4 86 = .int 0 := (congrFun eg4 86).trans ((va_up_ne _ _ (Nat.ne_of_beq_eq_false rfl)).trans hg2_86)
  have hg4_87 : g4 87 = .int 0 := (congrFun eg4 87).trans ((va_up_ne _ _ (Nat.ne_of_beq_eq_false rfl)).trans hg2_87)
  have hg4_88 : g4 88 = .int 0 := (congrFun eg4 88).trans ((va_up_ne _ _ (Nat.ne_of_beq_eq_false rfl)).trans hg2_88)
  have hg4_89 : g4 89 = .int 0 := (congrFun eg4 89).trans ((va_up_ne _ _ (Nat.ne_of_beq_eq_false rfl)).trans hg2_89)
  have hg4_95 : g4 95 = .int 0 := (congrFun eg4 95).trans ((va_up_ne _ _ (Nat.ne_of_beq_eq_false rfl)).trans hg2_95)
  have hg4_2 : g4 2 = .ref q1 := (congrFun eg4 2).trans ((va_up_ne _ _ (Nat.ne_of_beq_eq_false rfl)).trans hg2_2)
  clear hg2_0 hg2_1 hg2_8 hg2_9 hg2_16 hg2_17 hg2_19 hg2_20 hg2_21 hg2_22 hg2_23 hg2_24 hg2_25 hg2_26 hg2_46 hg2_47 hg2_48 hg2_55 hg2_74 hg2_75 hg2_86 hg2_87 hg2_88 hg2_89 hg2_95 hg2_2
  have hg4_3 : g4 3 = .ref q3 := by rw [eg4]; exact va_up_self _ _ _
  refine lv_aload_n hx hb dX13_init_20 rfl (lv_at hl 0 rfl) ?_
  refine lv_bipush (v := 80) hx hb dX13_init_21 (by decide) ?_
  refine va_newa (atype := .int) (ty := .int) (N' := 80) (a0 := (80, .inl (fun _ => (0 : Int32)))) hx hb (hts _ (vA_in _ _ (in_2 _ (List.mem_of_getElem? (i := 38) rfl)))) rfl hK hP hD hS hA (fun _ => rfl) (by decide) (by decide) (Nat.le_of_ble_eq_true rfl) (Nat.le_of_ble_eq_true rfl) (Nat.le_of_ble_eq_true rfl) dX13_init_23 (fun q5 kq5 H hK hP hD hS => ?_)
  have hK : va_K (dC, dI) vwCl [(kq1, .int), (kq5, .int)] s := hK
  obtain ⟨wq5, ewq5⟩ : ∃ z : va_W, z = wq3 ++ [(q5, .inl (kq5, 80, .inl (fun _ => (0 : Int32))))] := ⟨_, rfl⟩
  replace hP : va_P (dC, dI) vwCl ((h, .inr (14, mL g4)) :: wq5) H := by rw [ewq5]; exact hP
  replace hD : va_D A ((h, .inr (14, mL g4)) :: wq5) := by rw [ewq5]; exact hD
  refine W.widen (k := 3) (n := 240) (by omega) (by omega) ?_
  obtain rfl : kq1 = kq5 := ub_sa_int hK 0 1 rfl rfl
  have hK := hK.sub (tys' := [(kq1, .int)]) [0] rfl
  refine va_putF (D := (dC, dI)) (ci := 14) (v := .ref q5) (ty := .array .int) (C := RX13) (T := TX13) (N := 97) hx hb hts (fun w h => vA_in _ w (in_X13 w h)) tyX13 tyX13_ok nmX13 hown hK hP hD hS 0 rfl rfl 4 (by decide) (hts _ (vA_in _ _ (in_27 _ (List.mem_of_getElem? (i := 14) rfl)))) (fun _ h9 => h9) rfl hin rfl (by decide +kernel) rfl rfl (mL_lt (Nat.le_of_ble_eq_true rfl)) dX13_init_25 (fun H locs hP hD hS => ?_)
  replace hP : va_P (dC, dI) vwCl ((h, .inr (14, (mL g4).set 4 (.ref q5))) :: wq5) H := hP
  replace hD : va_D A ((h, .inr (14, (mL g4).set 4 (.ref q5))) :: wq5) := hD
  obtain ⟨g6, eg6⟩ : ∃ z9, z9 = va_up g4 4 (.ref q5) := ⟨_, rfl⟩
  rw [mL_upd, ← eg6] at hP hD
  have hg6_0 : g6 0 = .int 0 := (congrFun eg6 0).trans ((va_up_ne _ _ (Nat.ne_of_beq_eq_false rfl)).trans hg4_0)
  have hg6_1 : g6 1 = .int 0 := (congrFun eg6 1).trans ((va_up_ne _ _ (Nat.ne_of_beq_eq_false rfl)).trans hg4_1)
  have hg6_8 : g6 8 = .int 0 := (congrFun eg6 8).trans ((va_up_ne _ _ (Nat.ne_of_beq_eq_false rfl)).trans hg4_8)
  have hg6_9 : g6 9 = .int 0 := (congrFun eg6 9).trans ((va_up_ne _ _ (Nat.ne_of_beq_eq_false rfl)).trans hg4_9)
  have hg6_16 : g6 16 = .int 0 := (congrFun eg6 16).trans ((va_up_ne _ _ (Nat.ne_of_beq_eq_false rfl)).trans hg4_16)
  have hg6_17 : g6 17 = .int 0 := (congrFun eg6 17).trans ((va_up_ne _ _ (Nat.ne_of_beq_eq_false rfl)).trans hg4_17)
  have hg6_19 : g6 19 = .int 0 := (congrFun eg6 19).trans ((va_up_ne _ _ (Nat.ne_of_beq_eq_false rfl)).trans hg4_19)
  have hg6_20 : g6 20 = .int 0 := (congrFun eg6 20).trans ((va_up_ne _ _ (Nat.ne_of_beq_eq_false rfl)).trans hg4_20)
  have hg6_21 : g6 21 = .int 0 := (congrFun eg6 21).trans ((va_up_ne _ _ (Nat.ne_of_beq_eq_false rfl)).trans hg4_21)
  have hg6_22 : g6 22 = .int 0 := (congrFun eg6 22).trans ((va_up_ne _ _ (Nat.ne_of_beq_eq_false rfl)).trans hg4_22)
  have hg6_23 : g6 23 = .int 0 := (congrFun eg6 23).trans ((va_up_ne _ _ (Nat.ne_of_beq_eq_false rfl)).trans hg4_23)
  have hg6_24 : g6 24 = .int 0 := (congrFun eg6 24).trans ((va_up_ne _ _ (Nat.ne_of_beq_eq_false rfl)).trans hg4_24)
  have hg6_25 : g6 25 = .int 0 := (congrFun eg6 25).trans ((va_up_ne _ _ (Nat.ne_of_beq_eq_false rfl)).trans hg4_25)
  have hg6_26 : g6 26 = .int 0 := (congrFun eg6 26).trans ((va_up_ne _ _ (Nat.ne_of_beq_eq_false rfl)).trans hg4_26)
  have hg6_46 : g6 46 = .int 0 := (congrFun eg6 46).trans ((va_up_ne _ _ (Nat.ne_of_beq_eq_false rfl)).trans hg4_46)
  have hg6_47 : g6 47 = .int 0 := (congrFun eg6 47).trans ((va_up_ne _ _ (Nat.ne_of_beq_eq_false rfl)).trans hg4_47)
  have hg6_48 : g6 48 = .int 0 := (congrFun eg6 48).trans ((va_up_ne _ _ (Nat.ne_of_beq_eq_false rfl)).trans hg4_48)
  have hg6_55 : g6 55 = .int 0 := (congrFun eg6 55).trans ((va_up_ne _ _ (Nat.ne_of_beq_eq_false rfl)).trans hg4_55)
  have hg6_74 : g6 74 = .int 0 := (congrFun eg6 74).trans ((va_up_ne _ _ (Nat.ne_of_beq_eq_false rfl)).trans hg4_74)
  have hg6_75 : g6 75 = .int 0 := (congrFun eg6 75).trans ((va_up_ne _ _ (Nat.ne_of_beq_eq_false rfl)).trans hg4_75)
  have hg6_86 : g6 86 = .int 0 := (congrFun eg6 86).trans ((va_up_ne _ _ (Nat.ne_of_beq_eq_false rfl)).trans hg4_86)
  have hg6_87 : g6 87 = .int 0 := (congrFun eg6 87).trans ((va_up_ne _ _ (Nat.ne_of_beq_eq_false rfl)).trans hg4_87)
  have hg6_88 : g6 88 = .int 0 := (congrFun eg6 88).trans ((va_up_ne _ _ (Nat.ne_of_beq_eq_false rfl)).trans hg4_88)
  have hg6_89 : g6 89 = .int 0 := (congrFun eg6 89).trans ((va_up_ne _ _ (Nat.ne_of_beq_eq_false rfl)).trans hg4_89)
  have hg6_95 : g6 95 = .int 0 := (congrFun eg6 95).trans ((va_up_ne _ _ (Nat.ne_of_beq_eq_false rfl)).trans hg4_95)
  have hg6_2 : g6 2 = .ref q1 := (congrFun eg6 2).trans ((va_up_ne _ _ (Nat.ne_of_beq_eq_false rfl)).trans hg4_2)
  have hg6_3 : g6 3 = .ref q3 := (congrFun eg6 3).trans ((va_up_ne _ _ (Nat.ne_of_beq_eq_false rfl)).trans hg4_3)
  clear hg4_0 hg4_1 hg4_8 hg4_9 hg4_16 hg4_17 hg4_19 hg4_20 hg4_21 hg4_22 hg4_23 hg4_24 hg4_25 hg4_26 hg4_46 hg4_47 hg4_48 hg4_55 hg4_74 hg4_75 hg4_86 hg4_87 hg4_88 hg4_89 hg4_95 hg4_2 hg4_3
  have hg6_4 : g6 4 = .ref q5 := by rw [eg6]; exact va_up_self _ _ _
  refine lv_aload_n hx hb dX13_init_28 rfl (lv_at hl 0 rfl) ?_
  refine lv_bipush (v := 80) hx hb dX13_init_29 (by decide) ?_
  refine va_newa (atype := .int) (ty := .int) (N' := 80) (a0 := (80, .inl (fun _ => (0 : Int32)))) hx hb (hts _ (vA_in _ _ (in_2 _ (List.mem_of_getElem? (i := 38) rfl)))) rfl hK hP hD hS hA (fun _ => rfl) (by decide) (by decide) (Nat.le_of_ble_eq_true rfl) (Nat.le_of_ble_eq_true rfl) (Nat.le_of_ble_eq_true rfl) dX13_init_31 (fun q7 kq7 H hK hP hD hS => ?_)
  have hK : va_K (dC, dI) vwCl [(kq1, .int), (kq7, .int)] s := hK
  obtain ⟨wq7, ewq7⟩ : ∃ z : va_W, z = wq5 ++ [(q7, .inl (kq7, 80, .inl (fun _ => (0 : Int32))))] := ⟨_, rfl⟩
  replace hP : va_P (dC, dI) vwCl ((h, .inr (14, mL g6)) :: wq7) H := by rw [ewq7]; exact hP
  replace hD : va_D A ((h, .inr (14, mL g6)) :: wq7) := by rw [ewq7]; exact hD
  refine W.widen (k := 4) (n := 320) (by omega) (by omega) ?_
  obtain rfl : kq1 = kq7 := ub_sa_int hK 0 1 rfl rfl
  have hK := hK.sub (tys' := [(kq1, .int)]) [0] rfl
  refine va_putF (D := (dC, dI)) (ci := 14) (v := .ref q7) (ty := .array .int) (C := RX13) (T := TX13) (N := 97) hx hb hts (fun w h => vA_in _ w (in_X13 w h)) tyX13 tyX13_ok nmX13 hown hK hP hD hS 0 rfl rfl 5 (by decide) (hts _ (vA_in _ _ (in_27 _ (List.mem_of_getElem? (i := 15) rfl)))) (fun _ h9 => h9) rfl hin rfl (by decide +kernel) rfl rfl (mL_lt (Nat.le_of_ble_eq_true rfl)) dX13_init_33 (fun H locs hP hD hS => ?_)
  replace hP : va_P (dC, dI) vwCl ((h, .inr (14, (mL g6).set 5 (.ref q7))) :: wq7) H := hP
  replace hD : va_D A ((h, .inr (14, (mL g6).set 5 (.ref q7))) :: wq7) := hD
  obtain ⟨g8, eg8⟩ : ∃ z9, z9 = va_up g6 5 (.ref q7) := ⟨_, rfl⟩
  rw [mL_upd, ← eg8] at hP hD
  have hg8_0 : g8 0 = .int 0 := (congrFun eg8 0).trans ((va_up_ne _ _ (Nat.ne_of_beq_eq_false rfl)).trans hg6_0)
  have hg8_1 : g8 1 = .int 0 := (congrFun eg8 1).trans ((va_up_ne _ _ (Nat.ne_of_beq_eq_false rfl)).trans hg6_1)
  have hg8_8 : g8 8 = .int 0 := (congrFun eg8 8).trans ((va_up_ne _ _ (Nat.ne_of_beq_eq_false rfl)).trans hg6_8)
  have hg8_9 : g8 9 = .int 0 := (congrFun eg8 9).trans ((va_up_ne _ _ (Nat.ne_of_beq_eq_false rfl)).trans hg6_9)
  have hg8_16 : g8 16 = .int 0 := (congrFun eg8 16).trans ((va_up_ne _ _ (Nat.ne_of_beq_eq_false rfl)).trans hg6_16)
  have hg8_17 : g8 17 = .int 0 := (congrFun eg8 17).trans ((va_up_ne _ _ (Nat.ne_of_beq_eq_false rfl)).trans hg6_17)
  have hg8_19 : g8 19 = .int 0 := (congrFun eg8 19).trans ((va_up_ne _ _ (Nat.ne_of_beq_eq_false rfl)).trans hg6_19)
  have hg8_20 : g8 20 = .int 0 := (congrFun eg8 20).trans ((va_up_ne _ _ (Nat.ne_of_beq_eq_false rfl)).trans hg6_20)
  have hg8_21 : g8 21 = .int 0 := (congrFun eg8 21).trans ((va_up_ne _ _ (Nat.ne_of_beq_eq_false rfl)).trans hg6_21)
  have hg8_22 : g8 22 = .int 0 := (congrFun eg8 22).trans ((va_up_ne _ _ (Nat.ne_of_beq_eq_false rfl)).trans hg6_22)
  have hg8_23 : g8 23 = .int 0 := (congrFun eg8 23).trans ((va_up_ne _ _ (Nat.ne_of_beq_eq_false rfl)).trans hg6_23)
  have hg8_24 : g8 24 = .int 0 := (congrFun eg8 24).trans ((va_up_ne _ _ (Nat.ne_of_beq_eq_false rfl)).trans hg6_24)
  have hg8_25 : g8 25 = .int 0 := (congrFun eg8 25).trans ((va_up_ne _ _ (Nat.ne_of_beq_eq_false rfl)).trans hg6_25)
  have hg8_26 : g8 26 = .int 0 := (congrFun eg8 26).trans ((va_up_ne _ _ (Nat.ne_of_beq_eq_false rfl)).trans hg6_26)
  have hg8_46 : g8 46 = .int 0 := (congrFun eg8 46).trans ((va_up_ne _ _ (Nat.ne_of_beq_eq_false rfl)).trans hg6_46)
  have hg8_47 : g8 47 = .int 0 := (congrFun eg8 47).trans ((va_up_ne _ _ (Nat.ne_of_beq_eq_false rfl)).trans hg6_47)
  have hg8_48 : g8 48 = .int 0 := (congrFun eg8 48).trans ((va_up_ne _ _ (Nat.ne_of_beq_eq_false rfl)).trans hg6_48)
  have hg8_55 : g8 55 = .int 0 := (congrFun eg8 55).trans ((va_up_ne _ _ (Nat.ne_of_beq_eq_false rfl)).trans hg6_55)
  have hg8_74 : g8 74 = .int 0 := (congrFun eg8 74).trans ((va_up_ne _ _ (Nat.ne_of_beq_eq_false rfl)).trans hg6_74)
  have hg8_75 : g8 75 = .int 0 := (congrFun eg8 75).trans ((va_up_ne _ _ (Nat.ne_of_beq_eq_false rfl)).trans hg6_75)
  have hg8_86 : g8 86 = .int 0 := (congrFun eg8 86).trans ((va_up_ne _ _ (Nat.ne_of_beq_eq_false rfl)).trans hg6_86)
  have hg8_87 : g8 87 = .int 0 := (congrFun eg8 87).trans ((va_up_ne _ _ (Nat.ne_of_beq_eq_false rfl)).trans hg6_87)
  have hg8_88 : g8 88 = .int 0 := (congrFun eg8 88).trans ((va_up_ne _ _ (Nat.ne_of_beq_eq_false rfl)).trans hg6_88)
  have hg8_89 : g8 89 = .int 0 := (congrFun eg8 89).trans ((va_up_ne _ _ (Nat.ne_of_beq_eq_false rfl)).trans hg6_89)
  have hg8_95 : g8 95 = .int 0 := (congrFun eg8 95).trans ((va_up_ne _ _ (Nat.ne_of_beq_eq_false rfl)).trans hg6_95)
  have hg8_2 : g8 2 = .ref q1 := (congrFun eg8 2).trans ((va_up_ne _ _ (Nat.ne_of_beq_eq_false rfl)).trans hg6_2)
  have hg8_3 : g8 3 = .ref q3 := (congrFun eg8 3).trans ((va_up_ne _ _ (Nat.ne_of_beq_eq_false rfl)).trans hg6_3)
  have hg8_4 : g8 4 = .ref q5 := (congrFun eg8 4).trans ((va_up_ne _ _ (Nat.ne_of_beq_eq_false rfl)).trans hg6_4)
  clear hg6_0 hg6_1 hg6_8 hg6_9 hg6_16 hg6_17 hg6_19 hg6_20 hg6_21 hg6_22 hg6_23 hg6_24 hg6_25 hg6_26 hg6_46 hg6_47 hg6_48 hg6_55 hg6_74 hg6_75 hg6_86 hg6_87 hg6_88 hg6_89 hg6_95 hg6_2 hg6_3 hg6_4
  have hg8_5 : g8 5 = .ref q7 := by rw [eg8]; exact va_up_self _ _ _
  refine lv_aload_n hx hb dX13_init_36 rfl (lv_at hl 0 rfl) ?_
  refine lv_bipush (v := 80) hx hb dX13_init_37 (by decide) ?_
  refine va_newa (atype := .int) (ty := .int) (N' := 80) (a0 := (80, .inl (fun _ => (0 : Int32)))) hx hb (hts _ (vA_in _ _ (in_2 _ (List.mem_of_getElem? (i := 38) rfl)))) rfl hK hP hD hS hA (fun _ => rfl) (by decide) (by decide) (Nat.le_of_ble_eq_true rfl) (Nat.le_of_ble_eq_true rfl) (Nat.le_of_ble_eq_true rfl) dX13_init_39 (fun q9 kq9 H hK hP hD hS => ?_)
  have hK : va_K (dC, dI) vwCl [(kq1, .int), (kq9, .int)] s := hK
  obtain ⟨wq9, ewq9⟩ : ∃ z : va_W, z = wq7 ++ [(q9, .inl (kq9, 80, .inl (fun _ => (0 : Int32))))] := ⟨_, rfl⟩
  replace hP : va_P (dC, dI) vwCl ((h, .inr (14, mL g8)) :: wq9) H := by rw [ewq9]; exact hP
  replace hD : va_D A ((h, .inr (14, mL g8)) :: wq9) := by rw [ewq9]; exact hD
  refine W.widen (k := 5) (n := 400) (by omega) (by omega) ?_
  obtain rfl : kq1 = kq9 := ub_sa_int hK 0 1 rfl rfl
  have hK := hK.sub (tys' := [(kq1, .int)]) [0] rfl
  refine va_putF (D := (dC, dI)) (ci := 14) (v := .ref q9) (ty := .array .int) (C := RX13) (T := TX13) (N := 97) hx hb hts (fun w h => vA_in _ w (in_X13 w h)) tyX13 tyX13_ok nmX13 hown hK hP hD hS 0 rfl rfl 6 (by decide) (hts _ (vA_in _ _ (in_27 _ (List.mem_of_getElem? (i := 16) rfl)))) (fun _ h9 => h9) rfl hin rfl (by decide +kernel) rfl rfl (mL_lt (Nat.le_of_ble_eq_true rfl)) dX13_init_41 (fun H locs hP hD hS => ?_)
  replace hP : va_P (dC, dI) vwCl ((h, .inr (14, (mL g8).set 6 (.ref q9))) :: wq9) H := hP
  replace hD : va_D A ((h, .inr (14, (mL g8).set 6 (.ref q9))) :: wq9) := hD
  obtain ⟨g10, eg10⟩ : ∃ z9, z9 = va_up g8 6 (.ref q9) := ⟨_, rfl⟩
  rw [mL_upd, ← eg10] at hP hD
  have hg10_0 : g10 0 = .int 0 := (congrFun eg10 0).trans ((va_up_ne _ _ (Nat.ne_of_beq_eq_false rfl)).trans hg8_0)
  have hg10_1 : g10 1 = .int 0 := (congrFun eg10 1).trans ((va_up_ne _ _ (Nat.ne_of_beq_eq_false rfl)).trans hg8_1)
  have hg10_8 : g10 8 = .int 0 := (congrFun eg10 8).trans ((va_up_ne _ _ (Nat.ne_of_beq_eq_false rfl)).trans hg8_8)
  have hg10_9 : g10 9 = .int 0 := (congrFun eg10 9).trans ((va_up_ne _ _ (Nat.ne_of_beq_eq_false rfl)).trans hg8_9)
  have hg10_16 : g10 16 = .int 0 := (congrFun eg10 16).trans ((va_up_ne _ _ (Nat.ne_of_beq_eq_false rfl)).trans hg8_16)
  have hg10_17 : g10 17 = .int 0 := (congrFun eg10 17).trans ((va_up_ne _ _ (Nat.ne_of_beq_eq_false rfl)).trans hg8_17)
  have hg10_19 : g10 19 = .int 0 := (congrFun eg10 19).trans ((va_up_ne _ _ (Nat.ne_of_beq_eq_false rfl)).trans hg8_19)
  have hg10_20 : g10 20 = .int 0 := (congrFun eg10 20).trans ((va_up_ne _ _ (Nat.ne_of_beq_eq_false rfl)).trans hg8_20)
  have hg10_21 : g10 21 = .int 0 := (congrFun eg10 21).trans ((va_up_ne _ _ (Nat.ne_of_beq_eq_false rfl)).trans hg8_21)
  have hg10_22 : g10 22 = .int 0 := (congrFun eg10 22).trans ((va_up_ne _ _ (Nat.ne_of_beq_eq_false rfl)).trans hg8_22)
  have hg10_23 : g10 23 = .int 0 := (congrFun eg10 23).trans ((va_up_ne _ _ (Nat.ne_of_beq_eq_false rfl)).trans hg8_23)
  have hg10_24 : g10 24 = .int 0 := (congrFun eg10 24).trans ((va_up_ne _ _ (Nat.ne_of_beq_eq_false rfl)).trans hg8_24)
  have hg10_25 : g10 25 = .int 0 := (congrFun eg10 25).trans ((va_up_ne _ _ (Nat.ne_of_beq_eq_false rfl)).trans hg8_25)
  have hg10_26 : g10 26 = .int 0 := (congrFun eg10 26).trans ((va_up_ne _ _ (Nat.ne_of_beq_eq_false rfl)).trans hg8_26)
  have hg10_46 : g10 46 = .int 0 := (congrFun eg10 46).trans ((va_up_ne _ _ (Nat.ne_of_beq_eq_false rfl)).trans hg8_46)
  have hg10_47 : g10 47 = .int 0 := (congrFun eg10 47).trans ((va_up_ne _ _ (Nat.ne_of_beq_eq_false rfl)).trans hg8_47)
  have hg10_48 : g10 48 = .int 0 := (congrFun eg10 48).trans ((va_up_ne _ _ (Nat.ne_of_beq_eq_false rfl)).trans hg8_48)
  have hg10_55 : g10 55 = .int 0 := (congrFun eg10 55).trans ((va_up_ne _ _ (Nat.ne_of_beq_eq_false rfl)).trans hg8_55)
  have hg10_74 : g10 74 = .int 0 := (congrFun eg10 74).trans ((va_up_ne _ _ (Nat.ne_of_beq_eq_false rfl)).trans hg8_74)
  have hg10_75 : g10 75 = .int 0 := (congrFun eg10 75).trans ((va_up_ne _ _ (Nat.ne_of_beq_eq_false rfl)).trans hg8_75)
  have hg10_86 : g10 86 = .int 0 := (congrFun eg10 86).trans ((va_up_ne _ _ (Nat.ne_of_beq_eq_false rfl)).trans hg8_86)
  have hg10_87 : g10 87 = .int 0 := (congrFun eg10 87).trans ((va_up_ne _ _ (Nat.ne_of_beq_eq_false rfl)).trans hg8_87)
  have hg10_88 : g10 88 = .int 0 := (congrFun eg10 88).trans ((va_up_ne _ _ (Nat.ne_of_beq_eq_false rfl)).trans hg8_88)
  have hg10_89 : g10 89 = .int 0 := (congrFun eg10 89).trans ((va_up_ne _ _ (Nat.ne_of_beq_eq_false rfl)).trans hg8_89)
  have hg10_95 : g10 95 = .int 0 := (congrFun eg10 95).trans ((va_up_ne _ _ (Nat.ne_of_beq_eq_false rfl)).trans hg8_95)
  have hg10_2 : g10 2 = .ref q1 := (congrFun eg10 2).trans ((va_up_ne _ _ (Nat.ne_of_beq_eq_false rfl)).trans hg8_2)
  have hg10_3 : g10 3 = .ref q3 := (congrFun eg10 3).trans ((va_up_ne _ _ (Nat.ne_of_beq_eq_false rfl)).trans hg8_3)
  have hg10_4 : g10 4 = .ref q5 := (congrFun eg10 4).trans ((va_up_ne _ _ (Nat.ne_of_beq_eq_false rfl)).trans hg8_4)
  have hg10_5 : g10 5 = .ref q7 := (congrFun eg10 5).trans ((va_up_ne _ _ (Nat.ne_of_beq_eq_false rfl)).trans hg8_5)
  clear hg8_0 hg8_1 hg8_8 hg8_9 hg8_16 hg8_17 hg8_19 hg8_20 hg8_21 hg8_22 hg8_23 hg8_24 hg8_25 hg8_26 hg8_46 hg8_47 hg8_48 hg8_55 hg8_74 hg8_75 hg8_86 hg8_87 hg8_88 hg8_89 hg8_95 hg8_2 hg8_3 hg8_4 hg8_5
  have hg10_6 : g10 6 = .ref q9 := by rw [eg10]; exact va_up_self _ _ _
  refine lv_aload_n hx hb dX13_init_44 rfl (lv_at hl 0 rfl) ?_
  refine lv_bipush (v := 80) hx hb dX13_init_45 (by decide) ?_
  refine va_newa (atype := .int) (ty := .int) (N' := 80) (a0 := (80, .inl (fun _ => (0 : Int32)))) hx hb (hts _ (vA_in _ _ (in_2 _ (List.mem_of_getElem? (i := 38) rfl)))) rfl hK hP hD hS hA (fun _ => rfl) (by decide) (by decide) (Nat.le_of_ble_eq_true rfl) (Nat.le_of_ble_eq_true rfl) (Nat.le_of_ble_eq_true rfl) dX13_init_47 (fun q11 kq11 H hK hP hD hS => ?_)
  have hK : va_K (dC, dI) vwCl [(kq1, .int), (kq11, .int)] s := hK
  obtain ⟨wq11, ewq11⟩ : ∃ z : va_W, z = wq9 ++ [(q11, .inl (kq11, 80, .inl (fun _ => (0 : Int32))))] := ⟨_, rfl⟩
  replace hP : va_P (dC, dI) vwCl ((h, .inr (14, mL g10)) :: wq11) H := by rw [ewq11]; exact hP
  replace hD : va_D A ((h, .inr (14, mL g10)) :: wq11) := by rw [ewq11]; exact hD
  refine W.widen (k := 6) (n := 480) (by omega) (by omega) ?_
  obtain rfl : kq1 = kq11 := ub_sa_int hK 0 1 rfl rfl
  have hK := hK.sub (tys' := [(kq1, .int)]) [0] rfl
  refine va_putF (D := (dC, dI)) (ci := 14) (v := .ref q11) (ty := .array .int) (C := RX13) (T := TX13) (N := 97) hx hb hts (fun w h => vA_in _ w (in_X13 w h)) tyX13 tyX13_ok nmX13 hown hK hP hD hS 0 rfl rfl 7 (by decide) (hts _ (vA_in _ _ (in_27 _ (List.mem_of_getElem? (i := 11) rfl)))) (fun _ h9 => h9) rfl hin rfl (by decide +kernel) rfl rfl (mL_lt (Nat.le_of_ble_eq_true rfl)) dX13_init_49 (fun H locs hP hD hS => ?_)
  replace hP : va_P (dC, dI) vwCl ((h, .inr (14, (mL g10).set 7 (.ref q11))) :: wq11) H := hP
  replace hD : va_D A ((h, .inr (14, (mL g10).set 7 (.ref q11))) :: wq11) := hD
  obtain ⟨g12, eg12⟩ : ∃ z9, z9 = va_up g10 7 (.ref q11) := ⟨_, rfl⟩
  rw [mL_upd, ← eg12] at hP hD
  have hg12_0 : g12 0 = .int 0 := (congrFun eg12 0).trans ((va_up_ne _ _ (Nat.ne_of_beq_eq_false rfl)).trans hg10_0)
  have hg12_1 : g12 1 = .int 0 := (congrFun eg12 1).trans ((va_up_ne _ _ (Nat.ne_of_beq_eq_false rfl)).trans hg10_1)
  have hg12_8 : g12 8 = .int 0 := (congrFun eg12 8).trans ((va_up_ne _ _ (Nat.ne_of_beq_eq_false rfl)).trans hg10_8)
  have hg12_9 : g12 9 = .int 0 := (congrFun eg12 9).trans ((va_up_ne _ _ (Nat.ne_of_beq_eq_false rfl)).trans hg10_9)
  have hg12_16 : g12 16 = .int 0 := (congrFun eg12 16).trans ((va_up_ne _ _ (Nat.ne_of_beq_eq_false rfl)).trans hg10_16)
  have hg12_17 : g12 17 = .int 0 := (congrFun eg12 17).trans ((va_up_ne _ _ (Nat.ne_of_beq_eq_false rfl)).trans hg10_17)
  have hg12_19 : g12 19 = .int 0 := (congrFun eg12 19).trans ((va_up_ne _ _ (Nat.ne_of_beq_eq_false rfl)).trans hg10_19)
  have hg12_20 : g12 20 = .int 0 := (congrFun eg12 20).trans ((va_up_ne _ _ (Nat.ne_of_beq_eq_false rfl)).trans hg10_20)
  have hg12_21 : g12 21 = .int 0 := (congrFun eg12 21).trans ((va_up_ne _ _ (Nat.ne_of_beq_eq_false rfl)).trans hg10_21)
  have hg12_22 : g12 22 = .int 0 := (congrFun eg12 22).trans ((va_up_ne _ _ (Nat.ne_of_beq_eq_false rfl)).trans hg10_22)
  have hg12_23 : g12 23 = .int 0 := (congrFun eg12 23).trans ((va_up_ne _ _ (Nat.ne_of_beq_eq_false rfl)).trans hg10_23)
  have hg12_24 : g12 24 = .int 0 := (congrFun eg12 24).trans ((va_up_ne _ _ (Nat.ne_of_beq_eq_false rfl)).trans hg10_24)
  have hg12_25 : g12 25 = .int 0 := (congrFun eg12 25).trans ((va_up_ne _ _ (Nat.ne_of_beq_eq_false rfl)).trans hg10_25)
  have hg12_26 : g12 26 = .int 0 := (congrFun eg12 26).trans ((va_up_ne _ _ (Nat.ne_of_beq_eq_false rfl)).trans hg10_26)
  have hg12_46 : g12 46 = .int 0 := (congrFun eg12 46).trans ((va_up_ne _ _ (Nat.ne_of_beq_eq_false rfl)).trans hg10_46)
  have hg12_47 : g12 47 = .int 0 := (congrFun eg12 47).trans ((va_up_ne _ _ (Nat.ne_of_beq_eq_false rfl)).trans hg10_47)
  have hg12_48 : g12 48 = .int 0 := (congrFun eg12 48).trans ((va_up_ne _ _ (Nat.ne_of_beq_eq_false rfl)).trans hg10_48)
  have hg12_55 : g12 55 = .int 0 := (congrFun eg12 55).trans ((va_up_ne _ _ (Nat.ne_of_beq_eq_false rfl)).trans hg10_55)
  have hg12_74 : g12 74 = .int 0 := (congrFun eg12 74).trans ((va_up_ne _ _ (Nat.ne_of_beq_eq_false rfl)).trans hg10_74)
  have hg12_75 : g12 75 = .int 0 := (congrFun eg12 75).trans ((va_up_ne _ _ (Nat.ne_of_beq_eq_false rfl)).trans hg10_75)
  have hg12_86 : g12 86 = .int 0 := (congrFun eg12 86).trans ((va_up_ne _ _ (Nat.ne_of_beq_eq_false rfl)).trans hg10_86)
  have hg12_87 : g12 87 = .int 0 := (congrFun eg12 87).trans ((va_up_ne _ _ (Nat.ne_of_beq_eq_false rfl)).trans hg10_87)
  have hg12_88 : g12 88 = .int 0 := (congrFun eg12 88).trans ((va_up_ne _ _ (Nat.ne_of_beq_eq_false rfl)).trans hg10_88)
  have hg12_89 : g12 89 = .int 0 := (congrFun eg12 89).trans ((va_up_ne _ _ (Nat.ne_of_beq_eq_false rfl)).trans hg10_89)
  have hg12_95 : g12 95 = .int 0 := (congrFun eg12 95).trans ((va_up_ne _ _ (Nat.ne_of_beq_eq_false rfl)).trans hg10_95)
  have hg12_2 : g12 2 = .ref q1 := (congrFun eg12 2).trans ((va_up_ne _ _ (Nat.ne_of_beq_eq_false rfl)).trans hg10_2)
  have hg12_3 : g12 3 = .ref q3 := (congrFun eg12 3).trans ((va_up_ne _ _ (Nat.ne_of_beq_eq_false rfl)).trans hg10_3)
  have hg12_4 : g12 4 = .ref q5 := (congrFun eg12 4).trans ((va_up_ne _ _ (Nat.ne_of_beq_eq_false rfl)).trans hg10_4)
  have hg12_5 : g12 5 = .ref q7 := (congrFun eg12 5).trans ((va_up_ne _ _ (Nat.ne_of_beq_eq_false rfl)).trans hg10_5)
  have hg12_6 : g12 6 = .ref q9 := (congrFun eg12 6).trans ((va_up_ne _ _ (Nat.ne_of_beq_eq_false rfl)).trans hg10_6)
  clear hg10_0 hg10_1 hg10_8 hg10_9 hg10_16 hg10_17 hg10_19 hg10_20 hg10_21 hg10_22 hg10_23 hg10_24 hg10_25 hg10_26 hg10_46 hg10_47 hg10_48 hg10_55 hg10_74 hg10_75 hg10_86 hg10_87 hg10_88 hg10_89 hg10_95 hg10_2 hg10_3 hg10_4 hg10_5 hg10_6
  have hg12_7 : g12 7 = .ref q11 := by rw [eg12]; exact va_up_self _ _ _
  refine lv_aload_n hx hb dX13_init_52 rfl (lv_at hl 0 rfl) ?_
  refine lv_sipush (v := 200) hx hb dX13_init_53 (by decide) ?_
  refine va_newa (atype := .byte) (ty := .byte) (N' := 200) (a0 := (200, .inl (fun _ => (0 : Int32)))) hx hb (hts _ (vA_in _ _ (in_32 _ (List.mem_of_getElem? (i := 6) rfl)))) rfl hK hP hD hS hA (fun _ => rfl) (by decide) (by decide) (Nat.le_of_ble_eq_true rfl) (Nat.le_of_ble_eq_true rfl) (Nat.le_of_ble_eq_true rfl) dX13_init_56 (fun q13 kq13 H hK hP hD hS => ?_)
  have hK : va_K (dC, dI) vwCl [(kq1, .int), (kq13, .byte)] s := hK
  obtain ⟨wq13, ewq13⟩ : ∃ z : va_W, z = wq11 ++ [(q13, .inl (kq13, 200, .inl (fun _ => (0 : Int32))))] := ⟨_, rfl⟩
  replace hP : va_P (dC, dI) vwCl ((h, .inr (14, mL g12)) :: wq13) H := by rw [ewq13]; exact hP
  replace hD : va_D A ((h, .inr (14, mL g12)) :: wq13) := by rw [ewq13]; exact hD
  refine W.widen (k := 7) (n := 680) (by omega) (by omega) ?_
  refine va_putF (D := (dC, dI)) (ci := 14) (v := .ref q13) (ty := .array .byte) (C := RX13) (T := TX13) (N := 97) hx hb hts (fun w h => vA_in _ w (in_X13 w h)) tyX13 tyX13_ok nmX13 hown hK hP hD hS 0 rfl rfl 10 (by decide) (hts _ (vA_in _ _ (in_31 _ (List.mem_of_getElem? (i := 29) rfl)))) (fun _ h9 => h9) rfl hin rfl (by decide +kernel) rfl rfl (mL_lt (Nat.le_of_ble_eq_true rfl)) dX13_init_58 (fun H locs hP hD hS => ?_)
  replace hP : va_P (dC, dI) vwCl ((h, .inr (14, (mL g12).set 10 (.ref q13))) :: wq13) H := hP
  replace hD : va_D A ((h, .inr (14, (mL g12).set 10 (.ref q13))) :: wq13) := hD
  obtain ⟨g14, eg14⟩ : ∃ z9, z9 = va_up g12 10 (.ref q13) := ⟨_, rfl⟩
  rw [mL_upd, ← eg14] at hP hD
  have hg14_0 : g14 0 = .int 0 := (congrFun eg14 0).trans ((va_up_ne _ _ (Nat.ne_of_beq_eq_false rfl)).trans hg12_0)
  have hg14_1 : g14 1 = .int 0 := (congrFun eg14 1).trans ((va_up_ne _ _ (Nat.ne_of_beq_eq_false rfl)).trans hg12_1)
  have hg14_8 : g14 8 = .int 0 := (congrFun eg14 8).trans ((va_up_ne _ _ (Nat.ne_of_beq_eq_false rfl)).trans hg12_8)
  have hg14_9 : g14 9 = .int 0 := (congrFun eg14 9).trans ((va_up_ne _ _ (Nat.ne_of_beq_eq_false rfl)).trans hg12_9)
  have hg14_16 : g14 16 = .int 0 := (congrFun eg14 16).trans ((va_up_ne _ _ (Nat.ne_of_beq_eq_false rfl)).trans hg12_16)
  have hg14_17 : g14 17 = .int 0 := (congrFun eg14 17).trans ((va_up_ne _ _ (Nat.ne_of_beq_eq_false rfl)).trans hg12_17)
  have hg14_19 : g14 19 = .int 0 := (congrFun eg14 19).trans ((va_up_ne _ _ (Nat.ne_of_beq_eq_false rfl)).trans hg12_19)
  have hg14_20 : g14 20 = .int 0 := (congrFun eg14 20).trans ((va_up_ne _ _ (Nat.ne_of_beq_eq_false rfl)).trans hg12_20)
  have hg14_21 : g14 21 = .int 0 := (congrFun eg14 21).trans ((va_up_ne _ _ (Nat.ne_of_beq_eq_false rfl)).trans hg12_21)
  have hg14_22 : g14 22 = .int 0 := (congrFun eg14 22).trans ((va_up_ne _ _ (Nat.ne_of_beq_eq_false rfl)).trans hg12_22)
  have hg14_23 : g14 23 = .int 0 := (congrFun eg14 23).trans ((va_up_ne _ _ (Nat.ne_of_beq_eq_false rfl)).trans hg12_23)
  have hg14_24 : g14 24 = .int 0 := (congrFun eg14 24).trans ((va_up_ne _ _ (Nat.ne_of_beq_eq_false rfl)).trans hg12_24)
  have hg14_25 : g14 25 = .int 0 := (congrFun eg14 25).trans ((va_up_ne _ _ (Nat.ne_of_beq_eq_false rfl)).trans hg12_25)
  have hg14_26 : g14 26 = .int 0 := (congrFun eg14 26).trans ((va_up_ne _ _ (Nat.ne_of_beq_eq_false rfl)).trans hg12_26)
  have hg14_46 : g14 46 = .int 0 := (congrFun eg14 46).trans ((va_up_ne _ _ (Nat.ne_of_beq_eq_false rfl)).trans hg12_46)
  have hg14_47 : g14 47 = .int 0 := (congrFun eg14 47).trans ((va_up_ne _ _ (Nat.ne_of_beq_eq_false rfl)).trans hg12_47)
  have hg14_48 : g14 48 = .int 0 := (congrFun eg14 48).trans ((va_up_ne _ _ (Nat.ne_of_beq_eq_false rfl)).trans hg12_48)
  have hg14_55 : g14 55 = .int 0 := (congrFun eg14 55).trans ((va_up_ne _ _ (Nat.ne_of_beq_eq_false rfl)).trans hg12_55)
  have hg14_74 : g14 74 = .int 0 := (congrFun eg14 74).trans ((va_up_ne _ _ (Nat.ne_of_beq_eq_false rfl)).trans hg12_74)
  have hg14_75 : g14 75 = .int 0 := (congrFun eg14 75).trans ((va_up_ne _ _ (Nat.ne_of_beq_eq_false rfl)).trans hg12_75)
  have hg14_86 : g14 86 = .int 0 := (congrFun eg14 86).trans ((va_up_ne _ _ (Nat.ne_of_beq_eq_false rfl)).trans hg12_86)
  have hg14_87 : g14 87 = .int 0 := (congrFun eg14 87).trans ((va_up_ne _ _ (Nat.ne_of_beq_eq_false rfl)).trans hg12_87)
  have hg14_88 : g14 88 = .int 0 := (congrFun eg14 88).trans ((va_up_ne _ _ (Nat.ne_of_beq_eq_false rfl)).trans hg12_88)
  have hg14_89 : g14 89 = .int 0 := (congrFun eg14 89).trans ((va_up_ne _ _ (Nat.ne_of_beq_eq_false rfl)).trans hg12_89)
  have hg14_95 : g14 95 = .int 0 := (congrFun eg14 95).trans ((va_up_ne _ _ (Nat.ne_of_beq_eq_false rfl)).trans hg12_95)
  have hg14_2 : g14 2 = .ref q1 := (congrFun eg14 2).trans ((va_up_ne _ _ (Nat.ne_of_beq_eq_false rfl)).trans hg12_2)
  have hg14_3 : g14 3 = .ref q3 := (congrFun eg14 3).trans ((va_up_ne _ _ (Nat.ne_of_beq_eq_false rfl)).trans hg12_3)
  have hg14_4 : g14 4 = .ref q5 := (congrFun eg14 4).trans ((va_up_ne _ _ (Nat.ne_of_beq_eq_false rfl)).trans hg12_4)
  have hg14_5 : g14 5 = .ref q7 := (congrFun eg14 5).trans ((va_up_ne _ _ (Nat.ne_of_beq_eq_false rfl)).trans hg12_5)
  have hg14_6 : g14 6 = .ref q9 := (congrFun eg14 6).trans ((va_up_ne _ _ (Nat.ne_of_beq_eq_false rfl)).trans hg12_6)
  have hg14_7 : g14 7 = .ref q11 := (congrFun eg14 7).trans ((va_up_ne _ _ (Nat.ne_of_beq_eq_false rfl)).trans hg12_7)
  clear hg12_0 hg12_1 hg12_8 hg12_9 hg12_16 hg12_17 hg12_19 hg12_20 hg12_21 hg12_22 hg12_23 hg12_24 hg12_25 hg12_26 hg12_46 hg12_47 hg12_48 hg12_55 hg12_74 hg12_75 hg12_86 hg12_87 hg12_88 hg12_89 hg12_95 hg12_2 hg12_3 hg12_4 hg12_5 hg12_6 hg12_7
  have hg14_10 : g14 10 = .ref q13 := by rw [eg14]; exact va_up_self _ _ _
  refine lv_aload_n hx hb dX13_init_61 rfl (lv_at hl 0 rfl) ?_
  refine lv_sipush (v := 3200) hx hb dX13_init_62 (by decide) ?_
  refine va_newa (atype := .byte) (ty := .byte) (N' := 3200) (a0 := (3200, .inl (fun _ => (0 : Int32)))) hx hb (hts _ (vA_in _ _ (in_32 _ (List.mem_of_getElem? (i := 6) rfl)))) rfl hK hP hD hS hA (fun _ => rfl) (by decide) (by decide) (Nat.le_of_ble_eq_true rfl) (Nat.le_of_ble_eq_true rfl) (Nat.le_of_ble_eq_true rfl) dX13_init_65 (fun q15 kq15 H hK hP hD hS => ?_)
  have hK : va_K (dC, dI) vwCl [(kq1, .int), (kq13, .byte), (kq15, .byte)] s := hK
  obtain ⟨wq15, ewq15⟩ : ∃ z : va_W, z = wq13 ++ [(q15, .inl (kq15, 3200, .inl (fun _ => (0 : Int32))))] := ⟨_, rfl⟩
  replace hP : va_P (dC, dI) vwCl ((h, .inr (14, mL g14)) :: wq15) H := by rw [ewq15]; exact hP
  replace hD : va_D A ((h, .inr (14, mL g14)) :: wq15) := by rw [ewq15]; exact hD
  refine W.widen (k := 8) (n := 3880) (by omega) (by omega) ?_
  obtain rfl : kq13 = kq15 := ub_sa_byte hK 1 2 rfl rfl
  have hK := hK.sub (tys' := [(kq1, .int), (kq13, .byte)]) [0, 1] rfl
  refine va_putF (D := (dC, dI)) (ci := 14) (v := .ref q15) (ty := .array .byte) (C := RX13) (T := TX13) (N := 97) hx hb hts (fun w h => vA_in _ w (in_X13 w h)) tyX13 tyX13_ok nmX13 hown hK hP hD hS 0 rfl rfl 11 (by decide) (hts _ (vA_in _ _ (in_28 _ (List.mem_of_getElem? (i := 38) rfl)))) (fun _ h9 => h9) rfl hin rfl (by decide +kernel) rfl rfl (mL_lt (Nat.le_of_ble_eq_true rfl)) dX13_init_67 (fun H locs hP hD hS => ?_)
  replace hP : va_P (dC, dI) vwCl ((h, .inr (14, (mL g14).set 11 (.ref q15))) :: wq15) H := hP
  replace hD : va_D A ((h, .inr (14, (mL g14).set 11 (.ref q15))) :: wq15) := hD
  obtain ⟨g16, eg16⟩ : ∃ z9, z9 = va_up g14 11 (.ref q15) := ⟨_, rfl⟩
  rw [mL_upd, ← eg16] at hP hD
  have hg16_0 : g16 0 = .int 0 := (congrFun eg16 0).trans ((va_up_ne _ _ (Nat.ne_of_beq_eq_false rfl)).trans hg14_0)
  have hg16_1 : g16 1 = .int 0 := (congrFun eg16 1).trans ((va_up_ne _ _ (Nat.ne_of_beq_eq_false rfl)).trans hg14_1)
  have hg16_8 : g16 8 = .int 0 := (congrFun eg16 8).trans ((va_up_ne _ _ (Nat.ne_of_beq_eq_false rfl)).trans hg14_8)
  have hg16_9 : g16 9 = .int 0 := (congrFun eg16 9).trans ((va_up_ne _ _ (Nat.ne_of_beq_eq_false rfl)).trans hg14_9)
  have hg16_16 : g16 16 = .int 0 := (congrFun eg16 16).trans ((va_up_ne _ _ (Nat.ne_of_beq_eq_false rfl)).trans hg14_16)
  have hg16_17 : g16 17 = .int 0 := (congrFun eg16 17).trans ((va_up_ne _ _ (Nat.ne_of_beq_eq_false rfl)).trans hg14_17)
  have hg16_19 : g16 19 = .int 0 := (congrFun eg16 19).trans ((va_up_ne _ _ (Nat.ne_of_beq_eq_false rfl)).trans hg14_19)
  have hg16_20 : g16 20 = .int 0 := (congrFun eg16 20).trans ((va_up_ne _ _ (Nat.ne_of_beq_eq_false rfl)).trans hg14_20)
  have hg16_21 : g16 21 = .int 0 := (congrFun eg16 21).trans ((va_up_ne _ _ (Nat.ne_of_beq_eq_false rfl)).trans hg14_21)
  have hg16_22 : g16 22 = .int 0 := (congrFun eg16 22).trans ((va_up_ne _ _ (Nat.ne_of_beq_eq_false rfl)).trans hg14_22)
  have hg16_23 : g16 23 = .int 0 := (congrFun eg16 23).trans ((va_up_ne _ _ (Nat.ne_of_beq_eq_false rfl)).trans hg14_23)
  have hg16_24 : g16 24 = .int 0 := (congrFun eg16 24).trans ((va_up_ne _ _ (Nat.ne_of_beq_eq_false rfl)).trans hg14_24)
  have hg16_25 : g16 25 = .int 0 := (congrFun eg16 25).trans ((va_up_ne _ _ (Nat.ne_of_beq_eq_false rfl)).trans hg14_25)
  have hg16_26 : g16 26 = .int 0 := (congrFun eg16 26).trans ((va_up_ne _ _ (Nat.ne_of_beq_eq_false rfl)).trans hg14_26)
  have hg16_46 : g16 46 = .int 0 := (congrFun eg16 46).trans ((va_up_ne _ _ (Nat.ne_of_beq_eq_false rfl)).trans hg14_46)
  have hg16_47 : g16 47 = .int 0 := (congrFun eg16 47).trans ((va_up_ne _ _ (Nat.ne_of_beq_eq_false rfl)).trans hg14_47)
  have hg16_48 : g16 48 = .int 0 := (congrFun eg16 48).trans ((va_up_ne _ _ (Nat.ne_of_beq_eq_false rfl)).trans hg14_48)
  have hg16_55 : g16 55 = .int 0 := (congrFun eg16 55).trans ((va_up_ne _ _ (Nat.ne_of_beq_eq_false rfl)).trans hg14_55)
  have hg16_74 : g16 74 = .int 0 := (congrFun eg16 74).trans ((va_up_ne _ _ (Nat.ne_of_beq_eq_false rfl)).trans hg14_74)
  have hg16_75 : g16 75 = .int 0 := (congrFun eg16 75).trans ((va_up_ne _ _ (Nat.ne_of_beq_eq_false rfl)).trans hg14_75)
  have hg16_86 : g16 86 = .int 0 := (congrFun eg16 86).trans ((va_up_ne _ _ (Nat.ne_of_beq_eq_false rfl)).trans hg14_86)
  have hg16_87 : g16 87 = .int 0 := (congrFun eg16 87).trans ((va_up_ne _ _ (Nat.ne_of_beq_eq_false rfl)).trans hg14_87)
  have hg16_88 : g16 88 = .int 0 := (congrFun eg16 88).trans ((va_up_ne _ _ (Nat.ne_of_beq_eq_false rfl)).trans hg14_88)
  have hg16_89 : g16 89 = .int 0 := (congrFun eg16 89).trans ((va_up_ne _ _ (Nat.ne_of_beq_eq_false rfl)).trans hg14_89)
  have hg16_95 : g16 95 = .int 0 := (congrFun eg16 95).trans ((va_up_ne _ _ (Nat.ne_of_beq_eq_false rfl)).trans hg14_95)
  have hg16_2 : g16 2 = .ref q1 := (congrFun eg16 2).trans ((va_up_ne _ _ (Nat.ne_of_beq_eq_false rfl)).trans hg14_2)
  have hg16_3 : g16 3 = .ref q3 := (congrFun eg16 3).trans ((va_up_ne _ _ (Nat.ne_of_beq_eq_false rfl)).trans hg14_3)
  have hg16_4 : g16 4 = .ref q5 := (congrFun eg16 4).trans ((va_up_ne _ _ (Nat.ne_of_beq_eq_false rfl)).trans hg14_4)
  have hg16_5 : g16 5 = .ref q7 := (congrFun eg16 5).trans ((va_up_ne _ _ (Nat.ne_of_beq_eq_false rfl)).trans hg14_5)
  have hg16_6 : g16 6 = .ref q9 := (congrFun eg16 6).trans ((va_up_ne _ _ (Nat.ne_of_beq_eq_false rfl)).trans hg14_6)
  have hg16_7 : g16 7 = .ref q11 := (congrFun eg16 7).trans ((va_up_ne _ _ (Nat.ne_of_beq_eq_false rfl)).trans hg14_7)
  have hg16_10 : g16 10 = .ref q13 := (congrFun eg16 10).trans ((va_up_ne _ _ (Nat.ne_of_beq_eq_false rfl)).trans hg14_10)
  clear hg14_0 hg14_1 hg14_8 hg14_9 hg14_16 hg14_17 hg14_19 hg14_20 hg14_21 hg14_22 hg14_23 hg14_24 hg14_25 hg14_26 hg14_46 hg14_47 hg14_48 hg14_55 hg14_74 hg14_75 hg14_86 hg14_87 hg14_88 hg14_89 hg14_95 hg14_2 hg14_3 hg14_4 hg14_5 hg14_6 hg14_7 hg14_10
  have hg16_11 : g16 11 = .ref q15 := by rw [eg16]; exact va_up_self _ _ _
  refine lv_aload_n hx hb dX13_init_70 rfl (lv_at hl 0 rfl) ?_
  refine lv_bipush (v := 16) hx hb dX13_init_71 (by decide) ?_
  refine va_newa (atype := .int) (ty := .int) (N' := 16) (a0 := (16, .inl (fun _ => (0 : Int32)))) hx hb (hts _ (vA_in _ _ (in_2 _ (List.mem_of_getElem? (i := 38) rfl)))) rfl hK hP hD hS hA (fun _ => rfl) (by decide) (by decide) (Nat.le_of_ble_eq_true rfl) (Nat.le_of_ble_eq_true rfl) (Nat.le_of_ble_eq_true rfl) dX13_init_73 (fun q17 kq17 H hK hP hD hS => ?_)
  have hK : va_K (dC, dI) vwCl [(kq1, .int), (kq13, .byte), (kq17, .int)] s := hK
  obtain ⟨wq17, ewq17⟩ : ∃ z : va_W, z = wq15 ++ [(q17, .inl (kq17, 16, .inl (fun _ => (0 : Int32))))] := ⟨_, rfl⟩
  replace hP : va_P (dC, dI) vwCl ((h, .inr (14, mL g16)) :: wq17) H := by rw [ewq17]; exact hP
  replace hD : va_D A ((h, .inr (14, mL g16)) :: wq17) := by rw [ewq17]; exact hD
  refine W.widen (k := 9) (n := 3896) (by omega) (by omega) ?_
  obtain rfl : kq1 = kq17 := ub_sa_int hK 0 2 rfl rfl
  have hK := hK.sub (tys' := [(kq1, .int), (kq13, .byte)]) [0, 1] rfl
  refine va_putF (D := (dC, dI)) (ci := 14) (v := .ref q17) (ty := .array .int) (C := RX13) (T := TX13) (N := 97) hx hb hts (fun w h => vA_in _ w (in_X13 w h)) tyX13 tyX13_ok nmX13 hown hK hP hD hS 0 rfl rfl 12 (by decide) (hts _ (vA_in _ _ (in_28 _ (List.mem_of_getElem? (i := 39) rfl)))) (fun _ h9 => h9) rfl hin rfl (by decide +kernel) rfl rfl (mL_lt (Nat.le_of_ble_eq_true rfl)) dX13_init_75 (fun H locs hP hD hS => ?_)
  replace hP : va_P (dC, dI) vwCl ((h, .inr (14, (mL g16).set 12 (.ref q17))) :: wq17) H := hP
  replace hD : va_D A ((h, .inr (14, (mL g16).set 12 (.ref q17))) :: wq17) := hD
  obtain ⟨g18, eg18⟩ : ∃ z9, z9 = va_up g16 12 (.ref q17) := ⟨_, rfl⟩
  rw [mL_upd, ← eg18] at hP hD
  have hg18_0 : g18 0 = .int 0 := (congrFun eg18 0).trans ((va_up_ne _ _ (Nat.ne_of_beq_eq_false rfl)).trans hg16_0)
  have hg18_1 : g18 1 = .int 0 := (congrFun eg18 1).trans ((va_up_ne _ _ (Nat.ne_of_beq_eq_false rfl)).trans hg16_1)
  have hg18_8 : g18 8 = .int 0 := (congrFun eg18 8).trans ((va_up_ne _ _ (Nat.ne_of_beq_eq_false rfl)).trans hg16_8)
  have hg18_9 : g18 9 = .int 0 := (congrFun eg18 9).trans ((va_up_ne _ _ (Nat.ne_of_beq_eq_false rfl)).trans hg16_9)
  have hg18_16 : g18 16 = .int 0 := (congrFun eg18 16).trans ((va_up_ne _ _ (Nat.ne_of_beq_eq_false rfl)).trans hg16_16)
  have hg18_17 : g18 17 = .int 0 := (congrFun eg18 17).trans ((va_up_ne _ _ (Nat.ne_of_beq_eq_false rfl)).trans hg16_17)
  have hg18_19 : g18 19 = .int 0 := (congrFun eg18 19).trans ((va_up_ne _ _ (Nat.ne_of_beq_eq_false rfl)).trans hg16_19)
  have hg18_20 : g18 20 = .int 0 := (congrFun eg18 20).trans ((va_up_ne _ _ (Nat.ne_of_beq_eq_false rfl)).trans hg16_20)
  have hg18_21 : g18 21 = .int 0 := (congrFun eg18 21).trans ((va_up_ne _ _ (Nat.ne_of_beq_eq_false rfl)).trans hg16_21)
  have hg18_22 : g18 22 = .int 0 := (congrFun eg18 22).trans ((va_up_ne _ _ (Nat.ne_of_beq_eq_false rfl)).trans hg16_22)
  have hg18_23 : g18 23 = .int 0 := (congrFun eg18 23).trans ((va_up_ne _ _ (Nat.ne_of_beq_eq_false rfl)).trans hg16_23)
  have hg18_24 : g18 24 = .int 0 := (congrFun eg18 24).trans ((va_up_ne _ _ (Nat.ne_of_beq_eq_false rfl)).trans hg16_24)
  have hg18_25 : g18 25 = .int 0 := (congrFun eg18 25).trans ((va_up_ne _ _ (Nat.ne_of_beq_eq_false rfl)).trans hg16_25)
  have hg18_26 : g18 26 = .int 0 := (congrFun eg18 26).trans ((va_up_ne _ _ (Nat.ne_of_beq_eq_false rfl)).trans hg16_26)
  have hg18_46 : g18 46 = .int 0 := (congrFun eg18 46).trans ((va_up_ne _ _ (Nat.ne_of_beq_eq_false rfl)).trans hg16_46)
  have hg18_47 : g18 47 = .int 0 := (congrFun eg18 47).trans ((va_up_ne _ _ (Nat.ne_of_beq_eq_false rfl)).trans hg16_47)
  have hg18_48 : g18 48 = .int 0 := (congrFun eg18 48).trans ((va_up_ne _ _ (Nat.ne_of_beq_eq_false rfl)).trans hg16_48)
  have hg18_55 : g18 55 = .int 0 := (congrFun eg18 55).trans ((va_up_ne _ _ (Nat.ne_of_beq_eq_false rfl)).trans hg16_55)
  have hg18_74 : g18 74 = .int 0 := (congrFun eg18 74).trans ((va_up_ne _ _ (Nat.ne_of_beq_eq_false rfl)).trans hg16_74)
  have hg18_75 : g18 75 = .int 0 := (congrFun eg18 75).trans ((va_up_ne _ _ (Nat.ne_of_beq_eq_false rfl)).trans hg16_75)
  have hg18_86 : g18 86 = .int 0 := (congrFun eg18 86).trans ((va_up_ne _ _ (Nat.ne_of_beq_eq_false rfl)).trans hg16_86)
  have hg18_87 : g18 87 = .int 0 := (congrFun eg18 87).trans ((va_up_ne _ _ (Nat.ne_of_beq_eq_false rfl)).trans hg16_87)
  have hg18_88 : g18 88 = .int 0 := (congrFun eg18 88).trans ((va_up_ne _ _ (Nat.ne_of_beq_eq_false rfl)).trans hg16_88)
  have hg18_89 : g18 89 = .int 0 := (congrFun eg18 89).trans ((va_up_ne _ _ (Nat.ne_of_beq_eq_false rfl)).trans hg16_89)
  have hg18_95 : g18 95 = .int 0 := (congrFun eg18 95).trans ((va_up_ne _ _ (Nat.ne_of_beq_eq_false rfl)).trans hg16_95)
  have hg18_2 : g18 2 = .ref q1 := (congrFun eg18 2).trans ((va_up_ne _ _ (Nat.ne_of_beq_eq_false rfl)).trans hg16_2)
  have hg18_3 : g18 3 = .ref q3 := (congrFun eg18 3).trans ((va_up_ne _ _ (Nat.ne_of_beq_eq_false rfl)).trans hg16_3)
  have hg18_4 : g18 4 = .ref q5 := (congrFun eg18 4).trans ((va_up_ne _ _ (Nat.ne_of_beq_eq_false rfl)).trans hg16_4)
  have hg18_5 : g18 5 = .ref q7 := (congrFun eg18 5).trans ((va_up_ne _ _ (Nat.ne_of_beq_eq_false rfl)).trans hg16_5)
  have hg18_6 : g18 6 = .ref q9 := (congrFun eg18 6).trans ((va_up_ne _ _ (Nat.ne_of_beq_eq_false rfl)).trans hg16_6)
  have hg18_7 : g18 7 = .ref q11 := (congrFun eg18 7).trans ((va_up_ne _ _ (Nat.ne_of_beq_eq_false rfl)).trans hg16_7)
  have hg18_10 : g18 10 = .ref q13 := (congrFun eg18 10).trans ((va_up_ne _ _ (Nat.ne_of_beq_eq_false rfl)).trans hg16_10)
  have hg18_11 : g18 11 = .ref q15 := (congrFun eg18 11).trans ((va_up_ne _ _ (Nat.ne_of_beq_eq_false rfl)).trans hg16_11)
  clear hg16_0 hg16_1 hg16_8 hg16_9 hg16_16 hg16_17 hg16_19 hg16_20 hg16_21 hg16_22 hg16_23 hg16_24 hg16_25 hg16_26 hg16_46 hg16_47 hg16_48 hg16_55 hg16_74 hg16_75 hg16_86 hg16_87 hg16_88 hg16_89 hg16_95 hg16_2 hg16_3 hg16_4 hg16_5 hg16_6 hg16_7 hg16_10 hg16_11
  have hg18_12 : g18 12 = .ref q17 := by rw [eg18]; exact va_up_self _ _ _
  refine lv_aload_n hx hb dX13_init_78 rfl (lv_at hl 0 rfl) ?_
  refine lv_bipush (v := 16) hx hb dX13_init_79 (by decide) ?_
  refine va_newa (atype := .int) (ty := .int) (N' := 16) (a0 := (16, .inl (fun _ => (0 : Int32)))) hx hb (hts _ (vA_in _ _ (in_2 _ (List.mem_of_getElem? (i := 38) rfl)))) rfl hK hP hD hS hA (fun _ => rfl) (by decide) (by decide) (Nat.le_of_ble_eq_true rfl) (Nat.le_of_ble_eq_true rfl) (Nat.le_of_ble_eq_true rfl) dX13_init_81 (fun q19 kq19 H hK hP hD hS => ?_)
  have hK : va_K (dC, dI) vwCl [(kq1, .int), (kq13, .byte), (kq19, .int)] s := hK
  obtain ⟨wq19, ewq19⟩ : ∃ z : va_W, z = wq17 ++ [(q19, .inl (kq19, 16, .inl (fun _ => (0 : Int32))))] := ⟨_, rfl⟩
  replace hP : va_P (dC, dI) vwCl ((h, .inr (14, mL g18)) :: wq19) H := by rw [ewq19]; exact hP
  replace hD : va_D A ((h, .inr (14, mL g18)) :: wq19) := by rw [ewq19]; exact hD
  refine W.widen (k := 10) (n := 3912) (by omega) (by omega) ?_
  obtain rfl : kq1 = kq19 := ub_sa_int hK 0 2 rfl rfl
  have hK := hK.sub (tys' := [(kq1, .int), (kq13, .byte)]) [0, 1] rfl
  refine va_putF (D := (dC, dI)) (ci := 14) (v := .ref q19) (ty := .array .int) (C := RX13) (T := TX13) (N := 97) hx hb hts (fun w h => vA_in _ w (in_X13 w h)) tyX13 tyX13_ok nmX13 hown hK hP hD hS 0 rfl rfl 13 (by decide) (hts _ (vA_in _ _ (in_29 _ (List.mem_of_getElem? (i := 7) rfl)))) (fun _ h9 => h9) rfl hin rfl (by decide +kernel) rfl rfl (mL_lt (Nat.le_of_ble_eq_true rfl)) dX13_init_83 (fun H locs hP hD hS => ?_)
  replace hP : va_P (dC, dI) vwCl ((h, .inr (14, (mL g18).set 13 (.ref q19))) :: wq19) H := hP
  replace hD : va_D A ((h, .inr (14, (mL g18).set 13 (.ref q19))) :: wq19) := hD
  obtain ⟨g20, eg20⟩ : ∃ z9, z9 = va_up g18 13 (.ref q19) := ⟨_, rfl⟩
  rw [mL_upd, ← eg20] at hP hD
  have hg20_0 : g20 0 = .int 0 := (congrFun eg20 0).trans ((va_up_ne _ _ (Nat.ne_of_beq_eq_false rfl)).trans hg18_0)
  have hg20_1 : g20 1 = .int 0 := (congrFun eg20 1).trans ((va_up_ne _ _ (Nat.ne_of_beq_eq_false rfl)).trans hg18_1)
  have hg20_8 : g20 8 = .int 0 := (congrFun eg20 8).trans ((va_up_ne _ _ (Nat.ne_of_beq_eq_false rfl)).trans hg18_8)
  have hg20_9 : g20 9 = .int 0 := (congrFun eg20 9).trans ((va_up_ne _ _ (Nat.ne_of_beq_eq_false rfl)).trans hg18_9)
  have hg20_16 : g20 16 = .int 0 := (congrFun eg20 16).trans ((va_up_ne _ _ (Nat.ne_of_beq_eq_false rfl)).trans hg18_16)
  have hg20_17 : g20 17 = .int 0 := (congrFun eg20 17).trans ((va_up_ne _ _ (Nat.ne_of_beq_eq_false rfl)).trans hg18_17)
  have hg20_19 : g20 19 = .int 0 := (congrFun eg20 19).trans ((va_up_ne _ _ (Nat.ne_of_beq_eq_false rfl)).trans hg18_19)
  have hg20_20 : g20 20 = .int 0 := (congrFun eg20 20).trans ((va_up_ne _ _ (Nat.ne_of_beq_eq_false rfl)).trans hg18_20)
  have hg20_21 : g20 21 = .int 0 := (congrFun eg20 21).trans ((va_up_ne _ _ (Nat.ne_of_beq_eq_false rfl)).trans hg18_21)
  have hg20_22 : g20 22 = .int 0 := (congrFun eg20 22).trans ((va_up_ne _ _ (Nat.ne_of_beq_eq_false rfl)).trans hg18_22)
  have hg20_23 : g20 23 = .int 0 := (congrFun eg20 23).trans ((va_up_ne _ _ (Nat.ne_of_beq_eq_false rfl)).trans hg18_23)
  have hg20_24 : g20 24 = .int 0 := (congrFun eg20 24).trans ((va_up_ne _ _ (Nat.ne_of_beq_eq_false rfl)).trans hg18_24)
  have hg20_25 : g20 25 = .int 0 := (congrFun eg20 25).trans ((va_up_ne _ _ (Nat.ne_of_beq_eq_false rfl)).trans hg18_25)
  have hg20_26 : g20 26 = .int 0 := (congrFun eg20 26).trans ((va_up_ne _ _ (Nat.ne_of_beq_eq_false rfl)).trans hg18_26)
  have hg20_46 : g20 46 = .int 0 := (congrFun eg20 46).trans ((va_up_ne _ _ (Nat.ne_of_beq_eq_false rfl)).trans hg18_46)
  have hg20_47 : g20 47 = .int 0 := (congrFun eg20 47).trans ((va_up_ne _ _ (Nat.ne_of_beq_eq_false rfl)).trans hg18_47)
  have hg20_48 : g20 48 = .int 0 := (congrFun eg20 48).trans ((va_up_ne _ _ (Nat.ne_of_beq_eq_false rfl)).trans hg18_48)
  have hg20_55 : g20 55 = .int 0 := (congrFun eg20 55).trans ((va_up_ne _ _ (Nat.ne_of_beq_eq_false rfl)).trans hg18_55)
  have hg20_74 : g20 74 = .int 0 := (congrFun eg20 74).trans ((va_up_ne _ _ (Nat.ne_of_beq_eq_false rfl)).trans hg18_74)
  have hg20_75 : g20 75 = .int 0 := (congrFun eg20 75).trans ((va_up_ne _ _ (Nat.ne_of_beq_eq_false rfl)).trans hg18_75)
  have hg20_86 : g20 86 = .int 0 := (congrFun eg20 86).trans ((va_up_ne _ _ (Nat.ne_of_beq_eq_false rfl)).trans hg18_86)
  have hg20_87 : g20 87 = .int 0 := (congrFun eg20 87).trans ((va_up_ne _ _ (Nat.ne_of_beq_eq_false rfl)).trans hg18_87)
  have hg20_88 : g20 88 = .int 0 := (congrFun eg20 88).trans ((va_up_ne _ _ (Nat.ne_of_beq_eq_false rfl)).trans hg18_88)
  have hg20_89 : g20 89 = .int 0 := (congrFun eg20 89).trans ((va_up_ne _ _ (Nat.ne_of_beq_eq_false rfl)).trans hg18_89)
  have hg20_95 : g20 95 = .int 0 := (congrFun eg20 95).trans ((va_up_ne _ _ (Nat.ne_of_beq_eq_false rfl)).trans hg18_95)
  have hg20_2 : g20 2 = .ref q1 := (congrFun eg20 2).trans ((va_up_ne _ _ (Nat.ne_of_beq_eq_false rfl)).trans hg18_2)
  have hg20_3 : g20 3 = .ref q3 := (congrFun eg20 3).trans ((va_up_ne _ _ (Nat.ne_of_beq_eq_false rfl)).trans hg18_3)
  have hg20_4 : g20 4 = .ref q5 := (congrFun eg20 4).trans ((va_up_ne _ _ (Nat.ne_of_beq_eq_false rfl)).trans hg18_4)
  have hg20_5 : g20 5 = .ref q7 := (congrFun eg20 5).trans ((va_up_ne _ _ (Nat.ne_of_beq_eq_false rfl)).trans hg18_5)
  have hg20_6 : g20 6 = .ref q9 := (congrFun eg20 6).trans ((va_up_ne _ _ (Nat.ne_of_beq_eq_false rfl)).trans hg18_6)
  have hg20_7 : g20 7 = .ref q11 := (congrFun eg20 7).trans ((va_up_ne _ _ (Nat.ne_of_beq_eq_false rfl)).trans hg18_7)
  have hg20_10 : g20 10 = .ref q13 := (congrFun eg20 10).trans ((va_up_ne _ _ (Nat.ne_of_beq_eq_false rfl)).trans hg18_10)
  have hg20_11 : g20 11 = .ref q15 := (congrFun eg20 11).trans ((va_up_ne _ _ (Nat.ne_of_beq_eq_false rfl)).trans hg18_11)
  have hg20_12 : g20 12 = .ref q17 := (congrFun eg20 12).trans ((va_up_ne _ _ (Nat.ne_of_beq_eq_false rfl)).trans hg18_12)
  clear hg18_0 hg18_1 hg18_8 hg18_9 hg18_16 hg18_17 hg18_19 hg18_20 hg18_21 hg18_22 hg18_23 hg18_24 hg18_25 hg18_26 hg18_46 hg18_47 hg18_48 hg18_55 hg18_74 hg18_75 hg18_86 hg18_87 hg18_88 hg18_89 hg18_95 hg18_2 hg18_3 hg18_4 hg18_5 hg18_6 hg18_7 hg18_10 hg18_11 hg18_12
  have hg20_13 : g20 13 = .ref q19 := by rw [eg20]; exact va_up_self _ _ _
  refine lv_aload_n hx hb dX13_init_86 rfl (lv_at hl 0 rfl) ?_
  refine lv_bipush (v := 16) hx hb dX13_init_87 (by decide) ?_
  refine va_newa (atype := .int) (ty := .int) (N' := 16) (a0 := (16, .inl (fun _ => (0 : Int32)))) hx hb (hts _ (vA_in _ _ (in_2 _ (List.mem_of_getElem? (i := 38) rfl)))) rfl hK hP hD hS hA (fun _ => rfl) (by decide) (by decide) (Nat.le_of_ble_eq_true rfl) (Nat.le_of_ble_eq_true rfl) (Nat.le_of_ble_eq_true rfl) dX13_init_89 (fun q21 kq21 H hK hP hD hS => ?_)
  have hK : va_K (dC, dI) vwCl [(kq1, .int), (kq13, .byte), (kq21, .int)] s := hK
  obtain ⟨wq21, ewq21⟩ : ∃ z : va_W, z = wq19 ++ [(q21, .inl (kq21, 16, .inl (fun _ => (0 : Int32))))] := ⟨_, rfl⟩
  replace hP : va_P (dC, dI) vwCl ((h, .inr (14, mL g20)) :: wq21) H := by rw [ewq21]; exact hP
  replace hD : va_D A ((h, .inr (14, mL g20)) :: wq21) := by rw [ewq21]; exact hD
  refine W.widen (k := 11) (n := 3928) (by omega) (by omega) ?_
  obtain rfl : kq1 = kq21 := ub_sa_int hK 0 2 rfl rfl
  have hK := hK.sub (tys' := [(kq1, .int), (kq13, .byte)]) [0, 1] rfl
  refine va_putF (D := (dC, dI)) (ci := 14) (v := .ref q21) (ty := .array .int) (C := RX13) (T := TX13) (N := 97) hx hb hts (fun w h => vA_in _ w (in_X13 w h)) tyX13 tyX13_ok nmX13 hown hK hP hD hS 0 rfl rfl 14 (by decide) (hts _ (vA_in _ _ (in_29 _ (List.mem_of_getElem? (i := 6) rfl)))) (fun _ h9 => h9) rfl hin rfl (by decide +kernel) rfl rfl (mL_lt (Nat.le_of_ble_eq_true rfl)) dX13_init_91 (fun H locs hP hD hS => ?_)
  replace hP : va_P (dC, dI) vwCl ((h, .inr (14, (mL g20).set 14 (.ref q21))) :: wq21) H := hP
  replace hD : va_D A ((h, .inr (14, (mL g20).set 14 (.ref q21))) :: wq21) := hD
  obtain ⟨g22, eg22⟩ : ∃ z9, z9 = va_up g20 14 (.ref q21) := ⟨_, rfl⟩
  rw [mL_upd, ← eg22] at hP hD
  have hg22_0 : g22 0 = .int 0 := (congrFun eg22 0).trans ((va_up_ne _ _ (Nat.ne_of_beq_eq_false rfl)).trans hg20_0)
  have hg22_1 : g22 1 = .int 0 := (congrFun eg22 1).trans ((va_up_ne _ _ (Nat.ne_of_beq_eq_false rfl)).trans hg20_1)
  have hg22_8 : g22 8 = .int 0 := (congrFun eg22 8).trans ((va_up_ne _ _ (Nat.ne_of_beq_eq_false rfl)).trans hg20_8)
  have hg22_9 : g22 9 = .int 0 := (congrFun eg22 9).trans ((va_up_ne _ _ (Nat.ne_of_beq_eq_false rfl)).trans hg20_9)
  have hg22_16 : g22 16 = .int 0 := (congrFun eg22 16).trans ((va_up_ne _ _ (Nat.ne_of_beq_eq_false rfl)).trans hg20_16)
  have hg22_17 : g22 17 = .int 0 := (congrFun eg22 17).trans ((va_up_ne _ _ (Nat.ne_of_beq_eq_false rfl)).trans hg20_17)
  have hg22_19 : g22 19 = .int 0 := (congrFun eg22 19).trans ((va_up_ne _ _ (Nat.ne_of_beq_eq_false rfl)).trans hg20_19)
  have hg22_20 : g22 20 = .int 0 := (congrFun eg22 20).trans ((va_up_ne _ _ (Nat.ne_of_beq_eq_false rfl)).trans hg20_20)
  have hg22_21 : g22 21 = .int 0 := (congrFun eg22 21).trans ((va_up_ne _ _ (Nat.ne_of_beq_eq_false rfl)).trans hg20_21)
  have hg22_22 : g22 22 = .int 0 := (congrFun eg22 22).trans ((va_up_ne _ _ (Nat.ne_of_beq_eq_false rfl)).trans hg20_22)
  have hg22_23 : g22 23 = .int 0 := (congrFun eg22 23).trans ((va_up_ne _ _ (Nat.ne_of_beq_eq_false rfl)).trans hg20_23)
  have hg22_24 : g22 24 = .int 0 := (congrFun eg22 24).trans ((va_up_ne _ _ (Nat.ne_of_beq_eq_false rfl)).trans hg20_24)
  have hg22_25 : g22 25 = .int 0 := (congrFun eg22 25).trans ((va_up_ne _ _ (Nat.ne_of_beq_eq_false rfl)).trans hg20_25)
  have hg22_26 : g22 26 = .int 0 := (congrFun eg22 26).trans ((va_up_ne _ _ (Nat.ne_of_beq_eq_false rfl)).trans hg20_26)
  have hg22_46 : g22 46 = .int 0 := (congrFun eg22 46).trans ((va_up_ne _ _ (Nat.ne_of_beq_eq_false rfl)).trans hg20_46)
  have hg22_47 : g22 47 = .int 0 := (congrFun eg22 47).trans ((va_up_ne _ _ (Nat.ne_of_beq_eq_false rfl)).trans hg20_47)
  have hg22_48 : g22 48 = .int 0 := (congrFun eg22 48).trans ((va_up_ne _ _ (Nat.ne_of_beq_eq_false rfl)).trans hg20_48)
  have hg22_55 : g22 55 = .int 0 := (congrFun eg22 55).trans ((va_up_ne _ _ (Nat.ne_of_beq_eq_false rfl)).trans hg20_55)
  have hg22_74 : g22 74 = .int 0 := (congrFun eg22 74).trans ((va_up_ne _ _ (Nat.ne_of_beq_eq_false rfl)).trans hg20_74)
  have hg22_75 : g22 75 = .int 0 := (congrFun eg22 75).trans ((va_up_ne _ _ (Nat.ne_of_beq_eq_false rfl)).trans hg20_75)
  have hg22_86 : g22 86 = .int 0 := (congrFun eg22 86).trans ((va_up_ne _ _ (Nat.ne_of_beq_eq_false rfl)).trans hg20_86)
  have hg22_87 : g22 87 = .int 0 := (congrFun eg22 87).trans ((va_up_ne _ _ (Nat.ne_of_beq_eq_false rfl)).trans hg20_87)
  have hg22_88 : g22 88 = .int 0 := (congrFun eg22 88).trans ((va_up_ne _ _ (Nat.ne_of_beq_eq_false rfl)).trans hg20_88)
  have hg22_89 : g22 89 = .int 0 := (congrFun eg22 89).trans ((va_up_ne _ _ (Nat.ne_of_beq_eq_false rfl)).trans hg20_89)
  have hg22_95 : g22 95 = .int 0 := (congrFun eg22 95).trans ((va_up_ne _ _ (Nat.ne_of_beq_eq_false rfl)).trans hg20_95)
  have hg22_2 : g22 2 = .ref q1 := (congrFun eg22 2).trans ((va_up_ne _ _ (Nat.ne_of_beq_eq_false rfl)).trans hg20_2)
  have hg22_3 : g22 3 = .ref q3 := (congrFun eg22 3).trans ((va_up_ne _ _ (Nat.ne_of_beq_eq_false rfl)).trans hg20_3)
  have hg22_4 : g22 4 = .ref q5 := (congrFun eg22 4).trans ((va_up_ne _ _ (Nat.ne_of_beq_eq_false rfl)).trans hg20_4)
  have hg22_5 : g22 5 = .ref q7 := (congrFun eg22 5).trans ((va_up_ne _ _ (Nat.ne_of_beq_eq_false rfl)).trans hg20_5)
  have hg22_6 : g22 6 = .ref q9 := (congrFun eg22 6).trans ((va_up_ne _ _ (Nat.ne_of_beq_eq_false rfl)).trans hg20_6)
  have hg22_7 : g22 7 = .ref q11 := (congrFun eg22 7).trans ((va_up_ne _ _ (Nat.ne_of_beq_eq_false rfl)).trans hg20_7)
  have hg22_10 : g22 10 = .ref q13 := (congrFun eg22 10).trans ((va_up_ne _ _ (Nat.ne_of_beq_eq_false rfl)).trans hg20_10)
  have hg22_11 : g22 11 = .ref q15 := (congrFun eg22 11).trans ((va_up_ne _ _ (Nat.ne_of_beq_eq_false rfl)).trans hg20_11)
  have hg22_12 : g22 12 = .ref q17 := (congrFun eg22 12).trans ((va_up_ne _ _ (Nat.ne_of_beq_eq_false rfl)).trans hg20_12)
  have hg22_13 : g22 13 = .ref q19 := (congrFun eg22 13).trans ((va_up_ne _ _ (Nat.ne_of_beq_eq_false rfl)).trans hg20_13)
  clear hg20_0 hg20_1 hg20_8 hg20_9 hg20_16 hg20_17 hg20_19 hg20_20 hg20_21 hg20_22 hg20_23 hg20_24 hg20_25 hg20_26 hg20_46 hg20_47 hg20_48 hg20_55 hg20_74 hg20_75 hg20_86 hg20_87 hg20_88 hg20_89 hg20_95 hg20_2 hg20_3 hg20_4 hg20_5 hg20_6 hg20_7 hg20_10 hg20_11 hg20_12 hg20_13
  have hg22_14 : g22 14 = .ref q21 := by rw [eg22]; exact va_up_self _ _ _
  refine lv_aload_n hx hb dX13_init_94 rfl (lv_at hl 0 rfl) ?_
  refine lv_sipush (v := 128) hx hb dX13_init_95 (by decide) ?_
  refine va_newa (atype := .int) (ty := .int) (N' := 128) (a0 := (128, .inl (fun _ => (0 : Int32)))) hx hb (hts _ (vA_in _ _ (in_2 _ (List.mem_of_getElem? (i := 38) rfl)))) rfl hK hP hD hS hA (fun _ => rfl) (by decide) (by decide) (Nat.le_of_ble_eq_true rfl) (Nat.le_of_ble_eq_true rfl) (Nat.le_of_ble_eq_true rfl) dX13_init_98 (fun q23 kq23 H hK hP hD hS => ?_)
  have hK : va_K (dC, dI) vwCl [(kq1, .int), (kq13, .byte), (kq23, .int)] s := hK
  obtain ⟨wq23, ewq23⟩ : ∃ z : va_W, z = wq21 ++ [(q23, .inl (kq23, 128, .inl (fun _ => (0 : Int32))))] := ⟨_, rfl⟩
  replace hP : va_P (dC, dI) vwCl ((h, .inr (14, mL g22)) :: wq23) H := by rw [ewq23]; exact hP
  replace hD : va_D A ((h, .inr (14, mL g22)) :: wq23) := by rw [ewq23]; exact hD
  refine W.widen (k := 12) (n := 4056) (by omega) (by omega) ?_
  obtain rfl : kq1 = kq23 := ub_sa_int hK 0 2 rfl rfl
  have hK := hK.sub (tys' := [(kq1, .int), (kq13, .byte)]) [0, 1] rfl
  refine va_putF (D := (dC, dI)) (ci := 14) (v := .ref q23) (ty := .array .int) (C := RX13) (T := TX13) (N := 97) hx hb hts (fun w h => vA_in _ w (in_X13 w h)) tyX13 tyX13_ok nmX13 hown hK hP hD hS 0 rfl rfl 15 (by decide) (hts _ (vA_in _ _ (in_25 _ (List.mem_of_getElem? (i := 37) rfl)))) (fun _ h9 => h9) rfl hin rfl (by decide +kernel) rfl rfl (mL_lt (Nat.le_of_ble_eq_true rfl)) dX13_init_100 (fun H locs hP hD hS => ?_)
  replace hP : va_P (dC, dI) vwCl ((h, .inr (14, (mL g22).set 15 (.ref q23))) :: wq23) H := hP
  replace hD : va_D A ((h, .inr (14, (mL g22).set 15 (.ref q23))) :: wq23) := hD
  obtain ⟨g24, eg24⟩ : ∃ z9, z9 = va_up g22 15 (.ref q23) := ⟨_, rfl⟩
  rw [mL_upd, ← eg24] at hP hD
  have hg24_0 : g24 0 = .int 0 := (congrFun eg24 0).trans ((va_up_ne _ _ (Nat.ne_of_beq_eq_false rfl)).trans hg22_0)
  have hg24_1 : g24 1 = .int 0 := (congrFun eg24 1).trans ((va_up_ne _ _ (Nat.ne_of_beq_eq_false rfl)).trans hg22_1)
  have hg24_8 : g24 8 = .int 0 := (congrFun eg24 8).trans ((va_up_ne _ _ (Nat.ne_of_beq_eq_false rfl)).trans hg22_8)
  have hg24_9 : g24 9 = .int 0 := (congrFun eg24 9).trans ((va_up_ne _ _ (Nat.ne_of_beq_eq_false rfl)).trans hg22_9)
  have hg24_16 : g24 16 = .int 0 := (congrFun eg24 16).trans ((va_up_ne _ _ (Nat.ne_of_beq_eq_false rfl)).trans hg22_16)
  have hg24_17 : g24 17 = .int 0 := (congrFun eg24 17).trans ((va_up_ne _ _ (Nat.ne_of_beq_eq_false rfl)).trans hg22_17)
  have hg24_19 : g24 19 = .int 0 := (congrFun eg24 19).trans ((va_up_ne _ _ (Nat.ne_of_beq_eq_false rfl)).trans hg22_19)
  have hg24_20 : g24 20 = .int 0 := (congrFun eg24 20).trans ((va_up_ne _ _ (Nat.ne_of_beq_eq_false rfl)).trans hg22_20)
  have hg24_21 : g24 21 = .int 0 := (congrFun eg24 21).trans ((va_up_ne _ _ (Nat.ne_of_beq_eq_false rfl)).trans hg22_21)
  have hg24_22 : g24 22 = .int 0 := (congrFun eg24 22).trans ((va_up_ne _ _ (Nat.ne_of_beq_eq_false rfl)).trans hg22_22)
  have hg24_23 : g24 23 = .int 0 := (congrFun eg24 23).trans ((va_up_ne _ _ (Nat.ne_of_beq_eq_false rfl)).trans hg22_23)
  have hg24_24 : g24 24 = .int 0 := (congrFun eg24 24).trans ((va_up_ne _ _ (Nat.ne_of_beq_eq_false rfl)).trans hg22_24)
  have hg24_25 : g24 25 = .int 0 := (congrFun eg24 25).trans ((va_up_ne _ _ (Nat.ne_of_beq_eq_false rfl)).trans hg22_25)
  have hg24_26 : g24 26 = .int 0 := (congrFun eg24 26).trans ((va_up_ne _ _ (Nat.ne_of_beq_eq_false rfl)).trans hg22_26)
  have hg24_46 : g24 46 = .int 0 := (congrFun eg24 46).trans ((va_up_ne _ _ (Nat.ne_of_beq_eq_false rfl)).trans hg22_46)
  have hg24_47 : g24 47 = .int 0 := (congrFun eg24 47).trans ((va_up_ne _ _ (Nat.ne_of_beq_eq_false rfl)).trans hg22_47)
  have hg24_48 : g24 48 = .int 0 := (congrFun eg24 48).trans ((va_up_ne _ _ (Nat.ne_of_beq_eq_false rfl)).trans hg22_48)
  have hg24_55 : g24 55 = .int 0 := (congrFun eg24 55).trans ((va_up_ne _ _ (Nat.ne_of_beq_eq_false rfl)).trans hg22_55)
  have hg24_74 : g24 74 = .int 0 := (congrFun eg24 74).trans ((va_up_ne _ _ (Nat.ne_of_beq_eq_false rfl)).trans hg22_74)
  have hg24_75 : g24 75 = .int 0 := (congrFun eg24 75).trans ((va_up_ne _ _ (Nat.ne_of_beq_eq_false rfl)).trans hg22_75)
  have hg24_86 : g24 86 = .int 0 := (congrFun eg24 86).trans ((va_up_ne _ _ (Nat.ne_of_beq_eq_false rfl)).trans hg22_86)
  have hg24_87 : g24 87 = .int 0 := (congrFun eg24 87).trans ((va_up_ne _ _ (Nat.ne_of_beq_eq_false rfl)).trans hg22_87)
  have hg24_88 : g24 88 = .int 0 := (congrFun eg24 88).trans ((va_up_ne _ _ (Nat.ne_of_beq_eq_false rfl)).trans hg22_88)
  have hg24_89 : g24 89 = .int 0 := (congrFun eg24 89).trans ((va_up_ne _ _ (Nat.ne_of_beq_eq_false rfl)).trans hg22_89)
  have hg24_95 : g24 95 = .int 0 := (congrFun eg24 95).trans ((va_up_ne _ _ (Nat.ne_of_beq_eq_false rfl)).trans hg22_95)
  have hg24_2 : g24 2 = .ref q1 := (congrFun eg24 2).trans ((va_up_ne _ _ (Nat.ne_of_beq_eq_false rfl)).trans hg22_2)
  have hg24_3 : g24 3 = .ref q3 := (congrFun eg24 3).trans ((va_up_ne _ _ (Nat.ne_of_beq_eq_false rfl)).trans hg22_3)
  have hg24_4 : g24 4 = .ref q5 := (congrFun eg24 4).trans ((va_up_ne _ _ (Nat.ne_of_beq_eq_false rfl)).trans hg22_4)
  have hg24_5 : g24 5 = .ref q7 := (congrFun eg24 5).trans ((va_up_ne _ _ (Nat.ne_of_beq_eq_false rfl)).trans hg22_5)
  have hg24_6 : g24 6 = .ref q9 := (congrFun eg24 6).trans ((va_up_ne _ _ (Nat.ne_of_beq_eq_false rfl)).trans hg22_6)
  have hg24_7 : g24 7 = .ref q11 := (congrFun eg24 7).trans ((va_up_ne _ _ (Nat.ne_of_beq_eq_false rfl)).trans hg22_7)
  have hg24_10 : g24 10 = .ref q13 := (congrFun eg24 10).trans ((va_up_ne _ _ (Nat.ne_of_beq_eq_false rfl)).trans hg22_10)
  have hg24_11 : g24 11 = .ref q15 := (congrFun eg24 11).trans ((va_up_ne _ _ (Nat.ne_of_beq_eq_false rfl)).trans hg22_11)
  have hg24_12 : g24 12 = .ref q17 := (congrFun eg24 12).trans ((va_up_ne _ _ (Nat.ne_of_beq_eq_false rfl)).trans hg22_12)
  have hg24_13 : g24 13 = .ref q19 := (congrFun eg24 13).trans ((va_up_ne _ _ (Nat.ne_of_beq_eq_false rfl)).trans hg22_13)
  have hg24_14 : g24 14 = .ref q21 := (congrFun eg24 14).trans ((va_up_ne _ _ (Nat.ne_of_beq_eq_false rfl)).trans hg22_14)
  clear hg22_0 hg22_1 hg22_8 hg22_9 hg22_16 hg22_17 hg22_19 hg22_20 hg22_21 hg22_22 hg22_23 hg22_24 hg22_25 hg22_26 hg22_46 hg22_47 hg22_48 hg22_55 hg22_74 hg22_75 hg22_86 hg22_87 hg22_88 hg22_89 hg22_95 hg22_2 hg22_3 hg22_4 hg22_5 hg22_6 hg22_7 hg22_10 hg22_11 hg22_12 hg22_13 hg22_14
  have hg24_15 : g24 15 = .ref q23 := by rw [eg24]; exact va_up_self _ _ _
  refine lv_aload_n hx hb dX13_init_103 rfl (lv_at hl 0 rfl) ?_
  refine lv_aload_n hx hb dX13_init_104 rfl (lv_at hl 0 rfl) ?_
  refine va_get (D := (dC, dI)) (ci := 14) (v := .ref q13) (C := RX13) (T := TX13) (N := 97) hx hb hts (fun w h => vA_in _ w (in_X13 w h)) hown hK hP 0 rfl rfl 10 (by decide) (hts _ (vA_in _ _ (in_31 _ (List.mem_of_getElem? (i := 29) rfl)))) (fun _ h9 => h9) (mL_some (Nat.le_of_ble_eq_true rfl) hg24_10) dX13_init_105 ?_
  refine va_put (D := (dC, dI)) (ci := 14) (v := .ref q13) (ty := .array .byte) (C := RX13) (T := TX13) (N := 97) hx hb hts (fun w h => vA_in _ w (in_X13 w h)) tyX13 tyX13_ok nmX13 hown hK hP hD hS 0 rfl rfl 18 (by decide) (hts _ (vA_in _ _ (in_26 _ (List.mem_of_getElem? (i := 0) rfl)))) (fun _ h9 => h9) rfl (by decide +kernel) rfl rfl (mL_lt (Nat.le_of_ble_eq_true rfl)) dX13_init_108 (fun H locs hP hD hS => ?_)
  replace hP : va_P (dC, dI) vwCl ((h, .inr (14, (mL g24).set 18 (.ref q13))) :: wq23) H := hP
  replace hD : va_D A ((h, .inr (14, (mL g24).set 18 (.ref q13))) :: wq23) := hD
  obtain ⟨g25, eg25⟩ : ∃ z9, z9 = va_up g24 18 (.ref q13) := ⟨_, rfl⟩
  rw [mL_upd, ← eg25] at hP hD
  have hg25_0 : g25 0 = .int 0 := (congrFun eg25 0).trans ((va_up_ne _ _ (Nat.ne_of_beq_eq_false rfl)).trans hg24_0)
  have hg25_1 : g25 1 = .int 0 := (congrFun eg25 1).trans ((va_up_ne _ _ (Nat.ne_of_beq_eq_false rfl)).trans hg24_1)
  have hg25_8 : g25 8 = .int 0 := (congrFun eg25 8).trans ((va_up_ne _ _ (Nat.ne_of_beq_eq_false rfl)).trans hg24_8)
  have hg25_9 : g25 9 = .int 0 := (congrFun eg25 9).trans ((va_up_ne _ _ (Nat.ne_of_beq_eq_false rfl)).trans hg24_9)
  have hg25_16 : g25 16 = .int 0 := (congrFun eg25 16).trans ((va_up_ne _ _ (Nat.ne_of_beq_eq_false rfl)).trans hg24_16)
  have hg25_17 : g25 17 = .int 0 := (congrFun eg25 17).trans ((va_up_ne _ _ (Nat.ne_of_beq_eq_false rfl)).trans hg24_17)
  have hg25_19 : g25 19 = .int 0 := (congrFun eg25 19).trans ((va_up_ne _ _ (Nat.ne_of_beq_eq_false rfl)).trans hg24_19)
  have hg25_20 : g25 20 = .int 0 := (congrFun eg25 20).trans ((va_up_ne _ _ (Nat.ne_of_beq_eq_false rfl)).trans hg24_20)
  have hg25_21 : g25 21 = .int 0 := (congrFun eg25 21).trans ((va_up_ne _ _ (Nat.ne_of_beq_eq_false rfl)).trans hg24_21)
  have hg25_22 : g25 22 = .int 0 := (congrFun eg25 22).trans ((va_up_ne _ _ (Nat.ne_of_beq_eq_false rfl)).trans hg24_22)
  have hg25_23 : g25 23 = .int 0 := (congrFun eg25 23).trans ((va_up_ne _ _ (Nat.ne_of_beq_eq_false rfl)).trans hg24_23)
  have hg25_24 : g25 24 = .int 0 := (congrFun eg25 24).trans ((va_up_ne _ _ (Nat.ne_of_beq_eq_false rfl)).trans hg24_24)
  have hg25_25 : g25 25 = .int 0 := (congrFun eg25 25).trans ((va_up_ne _ _ (Nat.ne_of_beq_eq_false rfl)).trans hg24_25)
  have hg25_26 : g25 26 = .int 0 := (congrFun eg25 26).trans ((va_up_ne _ _ (Nat.ne_of_beq_eq_false rfl)).trans hg24_26)
  have hg25_46 : g25 46 = .int 0 := (congrFun eg25 46).trans ((va_up_ne _ _ (Nat.ne_of_beq_eq_false rfl)).trans hg24_46)
  have hg25_47 : g25 47 = .int 0 := (congrFun eg25 47).trans ((va_up_ne _ _ (Nat.ne_of_beq_eq_false rfl)).trans hg24_47)
  have hg25_48 : g25 48 = .int 0 := (congrFun eg25 48).trans ((va_up_ne _ _ (Nat.ne_of_beq_eq_false rfl)).trans hg24_48)
  have hg25_55 : g25 55 = .int 0 := (congrFun eg25 55).trans ((va_up_ne _ _ (Nat.ne_of_beq_eq_false rfl)).trans hg24_55)
  have hg25_74 : g25 74 = .int 0 := (congrFun eg25 74).trans ((va_up_ne _ _ (Nat.ne_of_beq_eq_false rfl)).trans hg24_74)
  have hg25_75 : g25 75 = .int 0 := (congrFun eg25 75).trans ((va_up_ne _ _ (Nat.ne_of_beq_eq_false rfl)).trans hg24_75)
  have hg25_86 : g25 86 = .int 0 := (congrFun eg25 86).trans ((va_up_ne _ _ (Nat.ne_of_beq_eq_false rfl)).trans hg24_86)
  have hg25_87 : g25 87 = .int 0 := (congrFun eg25 87).trans ((va_up_ne _ _ (Nat.ne_of_beq_eq_false rfl)).trans hg24_87)
  have hg25_88 : g25 88 = .int 0 := (congrFun eg25 88).trans ((va_up_ne _ _ (Nat.ne_of_beq_eq_false rfl)).trans hg24_88)
  have hg25_89 : g25 89 = .int 0 := (congrFun eg25 89).trans ((va_up_ne _ _ (Nat.ne_of_beq_eq_false rfl)).trans hg24_89)
  have hg25_95 : g25 95 = .int 0 := (congrFun eg25 95).trans ((va_up_ne _ _ (Nat.ne_of_beq_eq_false rfl)).trans hg24_95)
  have hg25_2 : g25 2 = .ref q1 := (congrFun eg25 2).trans ((va_up_ne _ _ (Nat.ne_of_beq_eq_false rfl)).trans hg24_2)
  have hg25_3 : g25 3 = .ref q3 := (congrFun eg25 3).trans ((va_up_ne _ _ (Nat.ne_of_beq_eq_false rfl)).trans hg24_3)
  have hg25_4 : g25 4 = .ref q5 := (congrFun eg25 4).trans ((va_up_ne _ _ (Nat.ne_of_beq_eq_false rfl)).trans hg24_4)
  have hg25_5 : g25 5 = .ref q7 := (congrFun eg25 5).trans ((va_up_ne _ _ (Nat.ne_of_beq_eq_false rfl)).trans hg24_5)
  have hg25_6 : g25 6 = .ref q9 := (congrFun eg25 6).trans ((va_up_ne _ _ (Nat.ne_of_beq_eq_false rfl)).trans hg24_6)
  have hg25_7 : g25 7 = .ref q11 := (congrFun eg25 7).trans ((va_up_ne _ _ (Nat.ne_of_beq_eq_false rfl)).trans hg24_7)
  have hg25_10 : g25 10 = .ref q13 := (congrFun eg25 10).trans ((va_up_ne _ _ (Nat.ne_of_beq_eq_false rfl)).trans hg24_10)
  have hg25_11 : g25 11 = .ref q15 := (congrFun eg25 11).trans ((va_up_ne _ _ (Nat.ne_of_beq_eq_false rfl)).trans hg24_11)
  have hg25_12 : g25 12 = .ref q17 := (congrFun eg25 12).trans ((va_up_ne _ _ (Nat.ne_of_beq_eq_false rfl)).trans hg24_12)
  have hg25_13 : g25 13 = .ref q19 := (congrFun eg25 13).trans ((va_up_ne _ _ (Nat.ne_of_beq_eq_false rfl)).trans hg24_13)
  have hg25_14 : g25 14 = .ref q21 := (congrFun eg25 14).trans ((va_up_ne _ _ (Nat.ne_of_beq_eq_false rfl)).trans hg24_14)
  have hg25_15 : g25 15 = .ref q23 := (congrFun eg25 15).trans ((va_up_ne _ _ (Nat.ne_of_beq_eq_false rfl)).trans hg24_15)
  clear hg24_0 hg24_1 hg24_8 hg24_9 hg24_16 hg24_17 hg24_19 hg24_20 hg24_21 hg24_22 hg24_23 hg24_24 hg24_25 hg24_26 hg24_46 hg24_47 hg24_48 hg24_55 hg24_74 hg24_75 hg24_86 hg24_87 hg24_88 hg24_89 hg24_95 hg24_2 hg24_3 hg24_4 hg24_5 hg24_6 hg24_7 hg24_10 hg24_11 hg24_12 hg24_13 hg24_14 hg24_15
  have hg25_18 : g25 18 = .ref q13 := by rw [eg25]; exact va_up_self _ _ _
  refine lv_aload_n hx hb dX13_init_111 rfl (lv_at hl 0 rfl) ?_
  refine lv_bipush (v := 20) hx hb dX13_init_112 (by decide) ?_
  refine va_newa (atype := .int) (ty := .int) (N' := 20) (a0 := (20, .inl (fun _ => (0 : Int32)))) hx hb (hts _ (vA_in _ _ (in_2 _ (List.mem_of_getElem? (i := 38) rfl)))) rfl hK hP hD hS hA (fun _ => rfl) (by decide) (by decide) (Nat.le_of_ble_eq_true rfl) (Nat.le_of_ble_eq_true rfl) (Nat.le_of_ble_eq_true rfl) dX13_init_114 (fun q26 kq26 H hK hP hD hS => ?_)
  have hK : va_K (dC, dI) vwCl [(kq1, .int), (kq13, .byte), (kq26, .int)] s := hK
  obtain ⟨wq26, ewq26⟩ : ∃ z : va_W, z = wq23 ++ [(q26, .inl (kq26, 20, .inl (fun _ => (0 : Int32))))] := ⟨_, rfl⟩
  replace hP : va_P (dC, dI) vwCl ((h, .inr (14, mL g25)) :: wq26) H := by rw [ewq26]; exact hP
  replace hD : va_D A ((h, .inr (14, mL g25)) :: wq26) := by rw [ewq26]; exact hD
  refine W.widen (k := 13) (n := 4076) (by omega) (by omega) ?_
  obtain rfl : kq1 = kq26 := ub_sa_int hK 0 2 rfl rfl
  have hK := hK.sub (tys' := [(kq1, .int), (kq13, .byte)]) [0, 1] rfl
  refine va_putF (D := (dC, dI)) (ci := 14) (v := .ref q26) (ty := .array .int) (C := RX13) (T := TX13) (N := 97) hx hb hts (fun w h => vA_in _ w (in_X13 w h)) tyX13 tyX13_ok nmX13 hown hK hP hD hS 0 rfl rfl 27 (by decide) (hts _ (vA_in _ _ (in_27 _ (List.mem_of_getElem? (i := 32) rfl)))) (fun _ h9 => h9) rfl hin rfl (by decide +kernel) rfl rfl (mL_lt (Nat.le_of_ble_eq_true rfl)) dX13_init_116 (fun H locs hP hD hS => ?_)
  replace hP : va_P (dC, dI) vwCl ((h, .inr (14, (mL g25).set 27 (.ref q26))) :: wq26) H := hP
  replace hD : va_D A ((h, .inr (14, (mL g25).set 27 (.ref q26))) :: wq26) := hD
  obtain ⟨g27, eg27⟩ : ∃ z9, z9 = va_up g25 27 (.ref q26) := ⟨_, rfl⟩
  rw [mL_upd, ← eg27] at hP hD
  have hg27_0 : g27 0 = .int 0 := (congrFun eg27 0).trans ((va_up_ne _ _ (Nat.ne_of_beq_eq_false rfl)).trans hg25_0)
  have hg27_1 : g27 1 = .int 0 := (congrFun eg27 1).trans ((va_up_ne _ _ (Nat.ne_of_beq_eq_false rfl)).trans hg25_1)
  have hg27_8 : g27 8 = .int 0 := (congrFun eg27 8).trans ((va_up_ne _ _ (Nat.ne_of_beq_eq_false rfl)).trans hg25_8)
  have hg27_9 : g27 9 = .int 0 := (congrFun eg27 9).trans ((va_up_ne _ _ (Nat.ne_of_beq_eq_false rfl)).trans hg25_9)
  have hg27_16 : g27 16 = .int 0 := (congrFun eg27 16).trans ((va_up_ne _ _ (Nat.ne_of_beq_eq_false rfl)).trans hg25_16)
  have hg27_17 : g27 17 = .int 0 := (congrFun eg27 17).trans ((va_up_ne _ _ (Nat.ne_of_beq_eq_false rfl)).trans hg25_17)
  have hg27_19 : g27 19 = .int 0 := (congrFun eg27 19).trans ((va_up_ne _ _ (Nat.ne_of_beq_eq_false rfl)).trans hg25_19)
  have hg27_20 : g27 20 = .int 0 := (congrFun eg27 20).trans ((va_up_ne _ _ (Nat.ne_of_beq_eq_false rfl)).trans hg25_20)
  have hg27_21 : g27 21 = .int 0 := (congrFun eg27 21).trans ((va_up_ne _ _ (Nat.ne_of_beq_eq_false rfl)).trans hg25_21)
  have hg27_22 : g27 22 = .int 0 := (congrFun eg27 22).trans ((va_up_ne _ _ (Nat.ne_of_beq_eq_false rfl)).trans hg25_22)
  have hg27_23 : g27 23 = .int 0 := (congrFun eg27 23).trans ((va_up_ne _ _ (Nat.ne_of_beq_eq_false rfl)).trans hg25_23)
  have hg27_24 : g27 24 = .int 0 := (congrFun eg27 24).trans ((va_up_ne _ _ (Nat.ne_of_beq_eq_false rfl)).trans hg25_24)
  have hg27_25 : g27 25 = .int 0 := (congrFun eg27 25).trans ((va_up_ne _ _ (Nat.ne_of_beq_eq_false rfl)).trans hg25_25)
  have hg27_26 : g27 26 = .int 0 := (congrFun eg27 26).trans ((va_up_ne _ _ (Nat.ne_of_beq_eq_false rfl)).trans hg25_26)
  have hg27_46 : g27 46 = .int 0 := (congrFun eg27 46).trans ((va_up_ne _ _ (Nat.ne_of_beq_eq_false rfl)).trans hg25_46)
  have hg27_47 : g27 47 = .int 0 := (congrFun eg27 47).trans ((va_up_ne _ _ (Nat.ne_of_beq_eq_false rfl)).trans hg25_47)
  have hg27_48 : g27 48 = .int 0 := (congrFun eg27 48).trans ((va_up_ne _ _ (Nat.ne_of_beq_eq_false rfl)).trans hg25_48)
  have hg27_55 : g27 55 = .int 0 := (congrFun eg27 55).trans ((va_up_ne _ _ (Nat.ne_of_beq_eq_false rfl)).trans hg25_55)
  have hg27_74 : g27 74 = .int 0 := (congrFun eg27 74).trans ((va_up_ne _ _ (Nat.ne_of_beq_eq_false rfl)).trans hg25_74)
  have hg27_75 : g27 75 = .int 0 := (congrFun eg27 75).trans ((va_up_ne _ _ (Nat.ne_of_beq_eq_false rfl)).trans hg25_75)
  have hg27_86 : g27 86 = .int 0 := (congrFun eg27 86).trans ((va_up_ne _ _ (Nat.ne_of_beq_eq_false rfl)).trans hg25_86)
  have hg27_87 : g27 87 = .int 0 := (congrFun eg27 87).trans ((va_up_ne _ _ (Nat.ne_of_beq_eq_false rfl)).trans hg25_87)
  have hg27_88 : g27 88 = .int 0 := (congrFun eg27 88).trans ((va_up_ne _ _ (Nat.ne_of_beq_eq_false rfl)).trans hg25_88)
  have hg27_89 : g27 89 = .int 0 := (congrFun eg27 89).trans ((va_up_ne _ _ (Nat.ne_of_beq_eq_false rfl)).trans hg25_89)
  have hg27_95 : g27 95 = .int 0 := (congrFun eg27 95).trans ((va_up_ne _ _ (Nat.ne_of_beq_eq_false rfl)).trans hg25_95)
  have hg27_2 : g27 2 = .ref q1 := (congrFun eg27 2).trans ((va_up_ne _ _ (Nat.ne_of_beq_eq_false rfl)).trans hg25_2)
  have hg27_3 : g27 3 = .ref q3 := (congrFun eg27 3).trans ((va_up_ne _ _ (Nat.ne_of_beq_eq_false rfl)).trans hg25_3)
  have hg27_4 : g27 4 = .ref q5 := (congrFun eg27 4).trans ((va_up_ne _ _ (Nat.ne_of_beq_eq_false rfl)).trans hg25_4)
  have hg27_5 : g27 5 = .ref q7 := (congrFun eg27 5).trans ((va_up_ne _ _ (Nat.ne_of_beq_eq_false rfl)).trans hg25_5)
  have hg27_6 : g27 6 = .ref q9 := (congrFun eg27 6).trans ((va_up_ne _ _ (Nat.ne_of_beq_eq_false rfl)).trans hg25_6)
  have hg27_7 : g27 7 = .ref q11 := (congrFun eg27 7).trans ((va_up_ne _ _ (Nat.ne_of_beq_eq_false rfl)).trans hg25_7)
  have hg27_10 : g27 10 = .ref q13 := (congrFun eg27 10).trans ((va_up_ne _ _ (Nat.ne_of_beq_eq_false rfl)).trans hg25_10)
  have hg27_11 : g27 11 = .ref q15 := (congrFun eg27 11).trans ((va_up_ne _ _ (Nat.ne_of_beq_eq_false rfl)).trans hg25_11)
  have hg27_12 : g27 12 = .ref q17 := (congrFun eg27 12).trans ((va_up_ne _ _ (Nat.ne_of_beq_eq_false rfl)).trans hg25_12)
  have hg27_13 : g27 13 = .ref q19 := (congrFun eg27 13).trans ((va_up_ne _ _ (Nat.ne_of_beq_eq_false rfl)).trans hg25_13)
  have hg27_14 : g27 14 = .ref q21 := (congrFun eg27 14).trans ((va_up_ne _ _ (Nat.ne_of_beq_eq_false rfl)).trans hg25_14)
  have hg27_15 : g27 15 = .ref q23 := (congrFun eg27 15).trans ((va_up_ne _ _ (Nat.ne_of_beq_eq_false rfl)).trans hg25_15)
  have hg27_18 : g27 18 = .ref q13 := (congrFun eg27 18).trans ((va_up_ne _ _ (Nat.ne_of_beq_eq_false rfl)).trans hg25_18)
  clear hg25_0 hg25_1 hg25_8 hg25_9 hg25_16 hg25_17 hg25_19 hg25_20 hg25_21 hg25_22 hg25_23 hg25_24 hg25_25 hg25_26 hg25_46 hg25_47 hg25_48 hg25_55 hg25_74 hg25_75 hg25_86 hg25_87 hg25_88 hg25_89 hg25_95 hg25_2 hg25_3 hg25_4 hg25_5 hg25_6 hg25_7 hg25_10 hg25_11 hg25_12 hg25_13 hg25_14 hg25_15 hg25_18
  have hg27_27 : g27 27 = .ref q26 := by rw [eg27]; exact va_up_self _ _ _
  refine lv_aload_n hx hb dX13_init_119 rfl (lv_at hl 0 rfl) ?_
  refine lv_bipush (v := 20) hx hb dX13_init_120 (by decide) ?_
  refine va_newa (atype := .int) (ty := .int) (N' := 20) (a0 := (20, .inl (fun _ => (0 : Int32)))) hx hb (hts _ (vA_in _ _ (in_2 _ (List.mem_of_getElem? (i := 38) rfl)))) rfl hK hP hD hS hA (fun _ => rfl) (by decide) (by decide) (Nat.le_of_ble_eq_true rfl) (Nat.le_of_ble_eq_true rfl) (Nat.le_of_ble_eq_true rfl) dX13_init_122 (fun q28 kq28 H hK hP hD hS => ?_)
  have hK : va_K (dC, dI) vwCl [(kq1, .int), (kq13, .byte), (kq28, .int)] s := hK
  obtain ⟨wq28, ewq28⟩ : ∃ z : va_W, z = wq26 ++ [(q28, .inl (kq28, 20, .inl (fun _ => (0 : Int32))))] := ⟨_, rfl⟩
  replace hP : va_P (dC, dI) vwCl ((h, .inr (14, mL g27)) :: wq28) H := by rw [ewq28]; exact hP
  replace hD : va_D A ((h, .inr (14, mL g27)) :: wq28) := by rw [ewq28]; exact hD
  refine W.widen (k := 14) (n := 4096) (by omega) (by omega) ?_
  obtain rfl : kq1 = kq28 := ub_sa_int hK 0 2 rfl rfl
  have hK := hK.sub (tys' := [(kq1, .int), (kq13, .byte)]) [0, 1] rfl
  refine va_putF (D := (dC, dI)) (ci := 14) (v := .ref q28) (ty := .array .int) (C := RX13) (T := TX13) (N := 97) hx hb hts (fun w h => vA_in _ w (in_X13 w h)) tyX13 tyX13_ok nmX13 hown hK hP hD hS 0 rfl rfl 28 (by decide) (hts _ (vA_in _ _ (in_30 _ (List.mem_of_getElem? (i := 10) rfl)))) (fun _ h9 => h9) rfl hin rfl (by decide +kernel) rfl rfl (mL_lt (Nat.le_of_ble_eq_true rfl)) dX13_init_124 (fun H locs hP hD hS => ?_)
  replace hP : va_P (dC, dI) vwCl ((h, .inr (14, (mL g27).set 28 (.ref q28))) :: wq28) H := hP
  replace hD : va_D A ((h, .inr (14, (mL g27).set 28 (.ref q28))) :: wq28) := hD
  obtain ⟨g29, eg29⟩ : ∃ z9, z9 = va_up g27 28 (.ref q28) := ⟨_, rfl⟩
  rw [mL_upd, ← eg29] at hP hD
  have hg29_0 : g29 0 = .int 0 := (congrFun eg29 0).trans ((va_up_ne _ _ (Nat.ne_of_beq_eq_false rfl)).trans hg27_0)
  have hg29_1 : g29 1 = .int 0 := (congrFun eg29 1).trans ((va_up_ne _ _ (Nat.ne_of_beq_eq_false rfl)).trans hg27_1)
  have hg29_8 : g29 8 = .int 0 := (congrFun eg29 8).trans ((va_up_ne _ _ (Nat.ne_of_beq_eq_false rfl)).trans hg27_8)
  have hg29_9 : g29 9 = .int 0 := (congrFun eg29 9).trans ((va_up_ne _ _ (Nat.ne_of_beq_eq_false rfl)).trans hg27_9)
  have hg29_16 : g29 16 = .int 0 := (congrFun eg29 16).trans ((va_up_ne _ _ (Nat.ne_of_beq_eq_false rfl)).trans hg27_16)
  have hg29_17 : g29 17 = .int 0 := (congrFun eg29 17).trans ((va_up_ne _ _ (Nat.ne_of_beq_eq_false rfl)).trans hg27_17)
  have hg29_19 : g29 19 = .int 0 := (congrFun eg29 19).trans ((va_up_ne _ _ (Nat.ne_of_beq_eq_false rfl)).trans hg27_19)
  have hg29_20 : g29 20 = .int 0 := (congrFun eg29 20).trans ((va_up_ne _ _ (Nat.ne_of_beq_eq_false rfl)).trans hg27_20)
  have hg29_21 : g29 21 = .int 0 := (congrFun eg29 21).trans ((va_up_ne _ _ (Nat.ne_of_beq_eq_false rfl)).trans hg27_21)
  have hg29_22 : g29 22 = .int 0 := (congrFun eg29 22).trans ((va_up_ne _ _ (Nat.ne_of_beq_eq_false rfl)).trans hg27_22)
  have hg29_23 : g29 23 = .int 0 := (congrFun eg29 23).trans ((va_up_ne _ _ (Nat.ne_of_beq_eq_false rfl)).trans hg27_23)
  have hg29_24 : g29 24 = .int 0 := (congrFun eg29 24).trans ((va_up_ne _ _ (Nat.ne_of_beq_eq_false rfl)).trans hg27_24)
  have hg29_25 : g29 25 = .int 0 := (congrFun eg29 25).trans ((va_up_ne _ _ (Nat.ne_of_beq_eq_false rfl)).trans hg27_25)
  have hg29_26 : g29 26 = .int 0 := (congrFun eg29 26).trans ((va_up_ne _ _ (Nat.ne_of_beq_eq_false rfl)).trans hg27_26)
  have hg29_46 : g29 46 = .int 0 := (congrFun eg29 46).trans ((va_up_ne _ _ (Nat.ne_of_beq_eq_false rfl)).trans hg27_46)
  have hg29_47 : g29 47 = .int 0 := (congrFun eg29 47).trans ((va_up_ne _ _ (Nat.ne_of_beq_eq_false rfl)).trans hg27_47)
  have hg29_48 : g29 48 = .int 0 := (congrFun eg29 48).trans ((va_up_ne _ _ (Nat.ne_of_beq_eq_false rfl)).trans hg27_48)
  have hg29_55 : g29 55 = .int 0 := (congrFun eg29 55).trans ((va_up_ne _ _ (Nat.ne_of_beq_eq_false rfl)).trans hg27_55)
  have hg29_74 : g29 74 = .int 0 := (congrFun eg29 74).trans ((va_up_ne _ _ (Nat.ne_of_beq_eq_false rfl)).trans hg27_74)
  have hg29_75 : g29 75 = .int 0 := (congrFun eg29 75).trans ((va_up_ne _ _ (Nat.ne_of_beq_eq_false rfl)).trans hg27_75)
  have hg29_86 : g29 86 = .int 0 := (congrFun eg29 86).trans ((va_up_ne _ _ (Nat.ne_of_beq_eq_false rfl)).trans hg27_86)
  have hg29_87 : g29 87 = .int 0 := (congrFun eg29 87).trans ((va_up_ne _ _ (Nat.ne_of_beq_eq_false rfl)).trans hg27_87)
  have hg29_88 : g29 88 = .int 0 := (congrFun eg29 88).trans ((va_up_ne _ _ (Nat.ne_of_beq_eq_false rfl)).trans hg27_88)
  have hg29_89 : g29 89 = .int 0 := (congrFun eg29 89).trans ((va_up_ne _ _ (Nat.ne_of_beq_eq_false rfl)).trans hg27_89)
  have hg29_95 : g29 95 = .int 0 := (congrFun eg29 95).trans ((va_up_ne _ _ (Nat.ne_of_beq_eq_false rfl)).trans hg27_95)
  have hg29_2 : g29 2 = .ref q1 := (congrFun eg29 2).trans ((va_up_ne _ _ (Nat.ne_of_beq_eq_false rfl)).trans hg27_2)
  have hg29_3 : g29 3 = .ref q3 := (congrFun eg29 3).trans ((va_up_ne _ _ (Nat.ne_of_beq_eq_false rfl)).trans hg27_3)
  have hg29_4 : g29 4 = .ref q5 := (congrFun eg29 4).trans ((va_up_ne _ _ (Nat.ne_of_beq_eq_false rfl)).trans hg27_4)
  have hg29_5 : g29 5 = .ref q7 := (congrFun eg29 5).trans ((va_up_ne _ _ (Nat.ne_of_beq_eq_false rfl)).trans hg27_5)
  have hg29_6 : g29 6 = .ref q9 := (congrFun eg29 6).trans ((va_up_ne _ _ (Nat.ne_of_beq_eq_false rfl)).trans hg27_6)
  have hg29_7 : g29 7 = .ref q11 := (congrFun eg29 7).trans ((va_up_ne _ _ (Nat.ne_of_beq_eq_false rfl)).trans hg27_7)
  have hg29_10 : g29 10 = .ref q13 := (congrFun eg29 10).trans ((va_up_ne _ _ (Nat.ne_of_beq_eq_false rfl)).trans hg27_10)
  have hg29_11 : g29 11 = .ref q15 := (congrFun eg29 11).trans ((va_up_ne _ _ (Nat.ne_of_beq_eq_false rfl)).trans hg27_11)
  have hg29_12 : g29 12 = .ref q17 := (congrFun eg29 12).trans ((va_up_ne _ _ (Nat.ne_of_beq_eq_false rfl)).trans hg27_12)
  have hg29_13 : g29 13 = .ref q19 := (congrFun eg29 13).trans ((va_up_ne _ _ (Nat.ne_of_beq_eq_false rfl)).trans hg27_13)
  have hg29_14 : g29 14 = .ref q21 := (congrFun eg29 14).trans ((va_up_ne _ _ (Nat.ne_of_beq_eq_false rfl)).trans hg27_14)
  have hg29_15 : g29 15 = .ref q23 := (congrFun eg29 15).trans ((va_up_ne _ _ (Nat.ne_of_beq_eq_false rfl)).trans hg27_15)
  have hg29_18 : g29 18 = .ref q13 := (congrFun eg29 18).trans ((va_up_ne _ _ (Nat.ne_of_beq_eq_false rfl)).trans hg27_18)
  have hg29_27 : g29 27 = .ref q26 := (congrFun eg29 27).trans ((va_up_ne _ _ (Nat.ne_of_beq_eq_false rfl)).trans hg27_27)
  clear hg27_0 hg27_1 hg27_8 hg27_9 hg27_16 hg27_17 hg27_19 hg27_20 hg27_21 hg27_22 hg27_23 hg27_24 hg27_25 hg27_26 hg27_46 hg27_47 hg27_48 hg27_55 hg27_74 hg27_75 hg27_86 hg27_87 hg27_88 hg27_89 hg27_95 hg27_2 hg27_3 hg27_4 hg27_5 hg27_6 hg27_7 hg27_10 hg27_11 hg27_12 hg27_13 hg27_14 hg27_15 hg27_18 hg27_27
  have hg29_28 : g29 28 = .ref q28 := by rw [eg29]; exact va_up_self _ _ _
  refine lv_aload_n hx hb dX13_init_127 rfl (lv_at hl 0 rfl) ?_
  refine lv_bipush (v := 20) hx hb dX13_init_128 (by decide) ?_
  refine va_newa (atype := .int) (ty := .int) (N' := 20) (a0 := (20, .inl (fun _ => (0 : Int32)))) hx hb (hts _ (vA_in _ _ (in_2 _ (List.mem_of_getElem? (i := 38) rfl)))) rfl hK hP hD hS hA (fun _ => rfl) (by decide) (by decide) (Nat.le_of_ble_eq_true rfl) (Nat.le_of_ble_eq_true rfl) (Nat.le_of_ble_eq_true rfl) dX13_init_130 (fun q30 kq30 H hK hP hD hS => ?_)
  have hK : va_K (dC, dI) vwCl [(kq1, .int), (kq13, .byte), (kq30, .int)] s := hK
  obtain ⟨wq30, ewq30⟩ : ∃ z : va_W, z = wq28 ++ [(q30, .inl (kq30, 20, .inl (fun _ => (0 : Int32))))] := ⟨_, rfl⟩
  replace hP : va_P (dC, dI) vwCl ((h, .inr (14, mL g29)) :: wq30) H := by rw [ewq30]; exact hP
  replace hD : va_D A ((h, .inr (14, mL g29)) :: wq30) := by rw [ewq30]; exact hD
  refine W.widen (k := 15) (n := 4116) (by omega) (by omega) ?_
  obtain rfl : kq1 = kq30 := ub_sa_int hK 0 2 rfl rfl
  have hK := hK.sub (tys' := [(kq1, .int), (kq13, .byte)]) [0, 1] rfl
  refine va_putF (D := (dC, dI)) (ci := 14) (v := .ref q30) (ty := .array .int) (C := RX13) (T := TX13) (N := 97) hx hb hts (fun w h => vA_in _ w (in_X13 w h)) tyX13 tyX13_ok nmX13 hown hK hP hD hS 0 rfl rfl 29 (by decide) (hts _ (vA_in _ _ (in_27 _ (List.mem_of_getElem? (i := 33) rfl)))) (fun _ h9 => h9) rfl hin rfl (by decide +kernel) rfl rfl (mL_lt (Nat.le_of_ble_eq_true rfl)) dX13_init_132 (fun H locs hP hD hS => ?_)
  replace hP : va_P (dC, dI) vwCl ((h, .inr (14, (mL g29).set 29 (.ref q30))) :: wq30) H := hP
  replace hD : va_D A ((h, .inr (14, (mL g29).set 29 (.ref q30))) :: wq30) := hD
  obtain ⟨g31, eg31⟩ : ∃ z9, z9 = va_up g29 29 (.ref q30) := ⟨_, rfl⟩
  rw [mL_upd, ← eg31] at hP hD
  have hg31_0 : g31 0 = .int 0 := (congrFun eg31 0).trans ((va_up_ne _ _ (Nat.ne_of_beq_eq_false rfl)).trans hg29_0)
  have hg31_1 : g31 1 = .int 0 := (congrFun eg31 1).trans ((va_up_ne _ _ (Nat.ne_of_beq_eq_false rfl)).trans hg29_1)
  have hg31_8 : g31 8 = .int 0 := (congrFun eg31 8).trans ((va_up_ne _ _ (Nat.ne_of_beq_eq_false rfl)).trans hg29_8)
  have hg31_9 : g31 9 = .int 0 := (congrFun eg31 9).trans ((va_up_ne _ _ (Nat.ne_of_beq_eq_false rfl)).trans hg29_9)
  have hg31_16 : g31 16 = .int 0 := (congrFun eg31 16).trans ((va_up_ne _ _ (Nat.ne_of_beq_eq_false rfl)).trans hg29_16)
  have hg31_17 : g31 17 = .int 0 := (congrFun eg31 17).trans ((va_up_ne _ _ (Nat.ne_of_beq_eq_false rfl)).trans hg29_17)
  have hg31_19 : g31 19 = .int 0 := (congrFun eg31 19).trans ((va_up_ne _ _ (Nat.ne_of_beq_eq_false rfl)).trans hg29_19)
  have hg31_20 : g31 20 = .int 0 := (congrFun eg31 20).trans ((va_up_ne _ _ (Nat.ne_of_beq_eq_false rfl)).trans hg29_20)
  have hg31_21 : g31 21 = .int 0 := (congrFun eg31 21).trans ((va_up_ne _ _ (Nat.ne_of_beq_eq_false rfl)).trans hg29_21)
  have hg31_22 : g31 22 = .int 0 := (congrFun eg31 22).trans ((va_up_ne _ _ (Nat.ne_of_beq_eq_false rfl)).trans hg29_22)
  have hg31_23 : g31 23 = .int 0 := (congrFun eg31 23).trans ((va_up_ne _ _ (Nat.ne_of_beq_eq_false rfl)).trans hg29_23)
  have hg31_24 : g31 24 = .int 0 := (congrFun eg31 24).trans ((va_up_ne _ _ (Nat.ne_of_beq_eq_false rfl)).trans hg29_24)
  have hg31_25 : g31 25 = .int 0 := (congrFun eg31 25).trans ((va_up_ne _ _ (Nat.ne_of_beq_eq_false rfl)).trans hg29_25)
  have hg31_26 : g31 26 = .int 0 := (congrFun eg31 26).trans ((va_up_ne _ _ (Nat.ne_of_beq_eq_false rfl)).trans hg29_26)
  have hg31_46 : g31 46 = .int 0 := (congrFun eg31 46).trans ((va_up_ne _ _ (Nat.ne_of_beq_eq_false rfl)).trans hg29_46)
  have hg31_47 : g31 47 = .int 0 := (congrFun eg31 47).trans ((va_up_ne _ _ (Nat.ne_of_beq_eq_false rfl)).trans hg29_47)
  have hg31_48 : g31 48 = .int 0 := (congrFun eg31 48).trans ((va_up_ne _ _ (Nat.ne_of_beq_eq_false rfl)).trans hg29_48)
  have hg31_55 : g31 55 = .int 0 := (congrFun eg31 55).trans ((va_up_ne _ _ (Nat.ne_of_beq_eq_false rfl)).trans hg29_55)
  have hg31_74 : g31 74 = .int 0 := (congrFun eg31 74).trans ((va_up_ne _ _ (Nat.ne_of_beq_eq_false rfl)).trans hg29_74)
  have hg31_75 : g31 75 = .int 0 := (congrFun eg31 75).trans ((va_up_ne _ _ (Nat.ne_of_beq_eq_false rfl)).trans hg29_75)
  have hg31_86 : g31 86 = .int 0 := (congrFun eg31 86).trans ((va_up_ne _ _ (Nat.ne_of_beq_eq_false rfl)).trans hg29_86)
  have hg31_87 : g31 87 = .int 0 := (congrFun eg31 87).trans ((va_up_ne _ _ (Nat.ne_of_beq_eq_false rfl)).trans hg29_87)
  have hg31_88 : g31 88 = .int 0 := (congrFun eg31 88).trans ((va_up_ne _ _ (Nat.ne_of_beq_eq_false rfl)).trans hg29_88)
  have hg31_89 : g31 89 = .int 0 := (congrFun eg31 89).trans ((va_up_ne _ _ (Nat.ne_of_beq_eq_false rfl)).trans hg29_89)
  have hg31_95 : g31 95 = .int 0 := (congrFun eg31 95).trans ((va_up_ne _ _ (Nat.ne_of_beq_eq_false rfl)).trans hg29_95)
  have hg31_2 : g31 2 = .ref q1 := (congrFun eg31 2).trans ((va_up_ne _ _ (Nat.ne_of_beq_eq_false rfl)).trans hg29_2)
  have hg31_3 : g31 3 = .ref q3 := (congrFun eg31 3).trans ((va_up_ne _ _ (Nat.ne_of_beq_eq_false rfl)).trans hg29_3)
  have hg31_4 : g31 4 = .ref q5 := (congrFun eg31 4).trans ((va_up_ne _ _ (Nat.ne_of_beq_eq_false rfl)).trans hg29_4)
  have hg31_5 : g31 5 = .ref q7 := (congrFun eg31 5).trans ((va_up_ne _ _ (Nat.ne_of_beq_eq_false rfl)).trans hg29_5)
  have hg31_6 : g31 6 = .ref q9 := (congrFun eg31 6).trans ((va_up_ne _ _ (Nat.ne_of_beq_eq_false rfl)).trans hg29_6)
  have hg31_7 : g31 7 = .ref q11 := (congrFun eg31 7).trans ((va_up_ne _ _ (Nat.ne_of_beq_eq_false rfl)).trans hg29_7)
  have hg31_10 : g31 10 = .ref q13 := (congrFun eg31 10).trans ((va_up_ne _ _ (Nat.ne_of_beq_eq_false rfl)).trans hg29_10)
  have hg31_11 : g31 11 = .ref q15 := (congrFun eg31 11).trans ((va_up_ne _ _ (Nat.ne_of_beq_eq_false rfl)).trans hg29_11)
  have hg31_12 : g31 12 = .ref q17 := (congrFun eg31 12).trans ((va_up_ne _ _ (Nat.ne_of_beq_eq_false rfl)).trans hg29_12)
  have hg31_13 : g31 13 = .ref q19 := (congrFun eg31 13).trans ((va_up_ne _ _ (Nat.ne_of_beq_eq_false rfl)).trans hg29_13)
  have hg31_14 : g31 14 = .ref q21 := (congrFun eg31 14).trans ((va_up_ne _ _ (Nat.ne_of_beq_eq_false rfl)).trans hg29_14)
  have hg31_15 : g31 15 = .ref q23 := (congrFun eg31 15).trans ((va_up_ne _ _ (Nat.ne_of_beq_eq_false rfl)).trans hg29_15)
  have hg31_18 : g31 18 = .ref q13 := (congrFun eg31 18).trans ((va_up_ne _ _ (Nat.ne_of_beq_eq_false rfl)).trans hg29_18)
  have hg31_27 : g31 27 = .ref q26 := (congrFun eg31 27).trans ((va_up_ne _ _ (Nat.ne_of_beq_eq_false rfl)).trans hg29_27)
  have hg31_28 : g31 28 = .ref q28 := (congrFun eg31 28).trans ((va_up_ne _ _ (Nat.ne_of_beq_eq_false rfl)).trans hg29_28)
  clear hg29_0 hg29_1 hg29_8 hg29_9 hg29_16 hg29_17 hg29_19 hg29_20 hg29_21 hg29_22 hg29_23 hg29_24 hg29_25 hg29_26 hg29_46 hg29_47 hg29_48 hg29_55 hg29_74 hg29_75 hg29_86 hg29_87 hg29_88 hg29_89 hg29_95 hg29_2 hg29_3 hg29_4 hg29_5 hg29_6 hg29_7 hg29_10 hg29_11 hg29_12 hg29_13 hg29_14 hg29_15 hg29_18 hg29_27 hg29_28
  have hg31_29 : g31 29 = .ref q30 := by rw [eg31]; exact va_up_self _ _ _
  refine lv_aload_n hx hb dX13_init_135 rfl (lv_at hl 0 rfl) ?_
  refine lv_bipush (v := 20) hx hb dX13_init_136 (by decide) ?_
  refine va_newa (atype := .int) (ty := .int) (N' := 20) (a0 := (20, .inl (fun _ => (0 : Int32)))) hx hb (hts _ (vA_in _ _ (in_2 _ (List.mem_of_getElem? (i := 38) rfl)))) rfl hK hP hD hS hA (fun _ => rfl) (by decide) (by decide) (Nat.le_of_ble_eq_true rfl) (Nat.le_of_ble_eq_true rfl) (Nat.le_of_ble_eq_true rfl) dX13_init_138 (fun q32 kq32 H hK hP hD hS => ?_)
  have hK : va_K (dC, dI) vwCl [(kq1, .int), (kq13, .byte), (kq32, .int)] s := hK
  obtain ⟨wq32, ewq32⟩ : ∃ z : va_W, z = wq30 ++ [(q32, .inl (kq32, 20, .inl (fun _ => (0 : Int32))))] := ⟨_, rfl⟩
  replace hP : va_P (dC, dI) vwCl ((h, .inr (14, mL g31)) :: wq32) H := by rw [ewq32]; exact hP
  replace hD : va_D A ((h, .inr (14, mL g31)) :: wq32) := by rw [ewq32]; exact hD
  refine W.widen (k := 16) (n := 4136) (by omega) (by omega) ?_
  obtain rfl : kq1 = kq32 := ub_sa_int hK 0 2 rfl rfl
  have hK := hK.sub (tys' := [(kq1, .int), (kq13, .byte)]) [0, 1] rfl
  refine va_putF (D := (dC, dI)) (ci := 14) (v := .ref q32) (ty := .array .int) (C := RX13) (T := TX13) (N := 97) hx hb hts (fun w h => vA_in _ w (in_X13 w h)) tyX13 tyX13_ok nmX13 hown hK hP hD hS 0 rfl rfl 30 (by decide) (hts _ (vA_in _ _ (in_30 _ (List.mem_of_getElem? (i := 32) rfl)))) (fun _ h9 => h9) rfl hin rfl (by decide +kernel) rfl rfl (mL_lt (Nat.le_of_ble_eq_true rfl)) dX13_init_140 (fun H locs hP hD hS => ?_)
  replace hP : va_P (dC, dI) vwCl ((h, .inr (14, (mL g31).set 30 (.ref q32))) :: wq32) H := hP
  replace hD : va_D A ((h, .inr (14, (mL g31).set 30 (.ref q32))) :: wq32) := hD
  obtain ⟨g33, eg33⟩ : ∃ z9, z9 = va_up g31 30 (.ref q32) := ⟨_, rfl⟩
  rw [mL_upd, ← eg33] at hP hD
  have hg33_0 : g33 0 = .int 0 := (congrFun eg33 0).trans ((va_up_ne _ _ (Nat.ne_of_beq_eq_false rfl)).trans hg31_0)
  have hg33_1 : g33 1 = .int 0 := (congrFun eg33 1).trans ((va_up_ne _ _ (Nat.ne_of_beq_eq_false rfl)).trans hg31_1)
  have hg33_8 : g33 8 = .int 0 := (congrFun eg33 8).trans ((va_up_ne _ _ (Nat.ne_of_beq_eq_false rfl)).trans hg31_8)
  have hg33_9 : g33 9 = .int 0 := (congrFun eg33 9).trans ((va_up_ne _ _ (Nat.ne_of_beq_eq_false rfl)).trans hg31_9)
  have hg33_16 : g33 16 = .int 0 := (congrFun eg33 16).trans ((va_up_ne _ _ (Nat.ne_of_beq_eq_false rfl)).trans hg31_16)
  have hg33_17 : g33 17 = .int 0 := (congrFun eg33 17).trans ((va_up_ne _ _ (Nat.ne_of_beq_eq_false rfl)).trans hg31_17)
  have hg33_19 : g33 19 = .int 0 := (congrFun eg33 19).trans ((va_up_ne _ _ (Nat.ne_of_beq_eq_false rfl)).trans hg31_19)
  have hg33_20 : g33 20 = .int 0 := (congrFun eg33 20).trans ((va_up_ne _ _ (Nat.ne_of_beq_eq_false rfl)).trans hg31_20)
  have hg33_21 : g33 21 = .int 0 := (congrFun eg33 21).trans ((va_up_ne _ _ (Nat.ne_of_beq_eq_false rfl)).trans hg31_21)
  have hg33_22 : g33 22 = .int 0 := (congrFun eg33 22).trans ((va_up_ne _ _ (Nat.ne_of_beq_eq_false rfl)).trans hg31_22)
  have hg33_23 : g33 23 = .int 0 := (congrFun eg33 23).trans ((va_up_ne _ _ (Nat.ne_of_beq_eq_false rfl)).trans hg31_23)
  have hg33_24 : g33 24 = .int 0 := (congrFun eg33 24).trans ((va_up_ne _ _ (Nat.ne_of_beq_eq_false rfl)).trans hg31_24)
  have hg33_25 : g33 25 = .int 0 := (congrFun eg33 25).trans ((va_up_ne _ _ (Nat.ne_of_beq_eq_false rfl)).trans hg31_25)
  have hg33_26 : g33 26 = .int 0 := (congrFun eg33 26).trans ((va_up_ne _ _ (Nat.ne_of_beq_eq_false rfl)).trans hg31_26)
  have hg33_46 : g33 46 = .int 0 := (congrFun eg33 46).trans ((va_up_ne _ _ (Nat.ne_of_beq_eq_false rfl)).trans hg31_46)
  have hg33_47 : g33 47 = .int 0 := (congrFun eg33 47).trans ((va_up_ne _ _ (Nat.ne_of_beq_eq_false rfl)).trans hg31_47)
  have hg33_48 : g33 48 = .int 0 := (congrFun eg33 48).trans ((va_up_ne _ _ (Nat.ne_of_beq_eq_false rfl)).trans hg31_48)
  have hg33_55 : g33 55 = .int 0 := (congrFun eg33 55).trans ((va_up_ne _ _ (Nat.ne_of_beq_eq_false rfl)).trans hg31_55)
  have hg33_74 : g33 74 = .int 0 := (congrFun eg33 74).trans ((va_up_ne _ _ (Nat.ne_of_beq_eq_false rfl)).trans hg31_74)
  have hg33_75 : g33 75 = .int 0 := (congrFun eg33 75).trans ((va_up_ne _ _ (Nat.ne_of_beq_eq_false rfl)).trans hg31_75)
  have hg33_86 : g33 86 = .int 0 := (congrFun eg33 86).trans ((va_up_ne _ _ (Nat.ne_of_beq_eq_false rfl)).trans hg31_86)
  have hg33_87 : g33 87 = .int 0 := (congrFun eg33 87).trans ((va_up_ne _ _ (Nat.ne_of_beq_eq_false rfl)).trans hg31_87)
  have hg33_88 : g33 88 = .int 0 := (congrFun eg33 88).trans ((va_up_ne _ _ (Nat.ne_of_beq_eq_false rfl)).trans hg31_88)
  have hg33_89 : g33 89 = .int 0 := (congrFun eg33 89).trans ((va_up_ne _ _ (Nat.ne_of_beq_eq_false rfl)).trans hg31_89)
  have hg33_95 : g33 95 = .int 0 := (congrFun eg33 95).trans ((va_up_ne _ _ (Nat.ne_of_beq_eq_false rfl)).trans hg31_95)
  have hg33_2 : g33 2 = .ref q1 := (congrFun eg33 2).trans ((va_up_ne _ _ (Nat.ne_of_beq_eq_false rfl)).trans hg31_2)
  have hg33_3 : g33 3 = .ref q3 := (congrFun eg33 3).trans ((va_up_ne _ _ (Nat.ne_of_beq_eq_false rfl)).trans hg31_3)
  have hg33_4 : g33 4 = .ref q5 := (congrFun eg33 4).trans ((va_up_ne _ _ (Nat.ne_of_beq_eq_false rfl)).trans hg31_4)
  have hg33_5 : g33 5 = .ref q7 := (congrFun eg33 5).trans ((va_up_ne _ _ (Nat.ne_of_beq_eq_false rfl)).trans hg31_5)
  have hg33_6 : g33 6 = .ref q9 := (congrFun eg33 6).trans ((va_up_ne _ _ (Nat.ne_of_beq_eq_false rfl)).trans hg31_6)
  have hg33_7 : g33 7 = .ref q11 := (congrFun eg33 7).trans ((va_up_ne _ _ (Nat.ne_of_beq_eq_false rfl)).trans hg31_7)
  have hg33_10 : g33 10 = .ref q13 := (congrFun eg33 10).trans ((va_up_ne _ _ (Nat.ne_of_beq_eq_false rfl)).trans hg31_10)
  have hg33_11 : g33 11 = .ref q15 := (congrFun eg33 11).trans ((va_up_ne _ _ (Nat.ne_of_beq_eq_false rfl)).trans hg31_11)
  have hg33_12 : g33 12 = .ref q17 := (congrFun eg33 12).trans ((va_up_ne _ _ (Nat.ne_of_beq_eq_false rfl)).trans hg31_12)
  have hg33_13 : g33 13 = .ref q19 := (congrFun eg33 13).trans ((va_up_ne _ _ (Nat.ne_of_beq_eq_false rfl)).trans hg31_13)
  have hg33_14 : g33 14 = .ref q21 := (congrFun eg33 14).trans ((va_up_ne _ _ (Nat.ne_of_beq_eq_false rfl)).trans hg31_14)
  have hg33_15 : g33 15 = .ref q23 := (congrFun eg33 15).trans ((va_up_ne _ _ (Nat.ne_of_beq_eq_false rfl)).trans hg31_15)
  have hg33_18 : g33 18 = .ref q13 := (congrFun eg33 18).trans ((va_up_ne _ _ (Nat.ne_of_beq_eq_false rfl)).trans hg31_18)
  have hg33_27 : g33 27 = .ref q26 := (congrFun eg33 27).trans ((va_up_ne _ _ (Nat.ne_of_beq_eq_false rfl)).trans hg31_27)
  have hg33_28 : g33 28 = .ref q28 := (congrFun eg33 28).trans ((va_up_ne _ _ (Nat.ne_of_beq_eq_false rfl)).trans hg31_28)
  have hg33_29 : g33 29 = .ref q30 := (congrFun eg33 29).trans ((va_up_ne _ _ (Nat.ne_of_beq_eq_false rfl)).trans hg31_29)
  clear hg31_0 hg31_1 hg31_8 hg31_9 hg31_16 hg31_17 hg31_19 hg31_20 hg31_21 hg31_22 hg31_23 hg31_24 hg31_25 hg31_26 hg31_46 hg31_47 hg31_48 hg31_55 hg31_74 hg31_75 hg31_86 hg31_87 hg31_88 hg31_89 hg31_95 hg31_2 hg31_3 hg31_4 hg31_5 hg31_6 hg31_7 hg31_10 hg31_11 hg31_12 hg31_13 hg31_14 hg31_15 hg31_18 hg31_27 hg31_28 hg31_29
  have hg33_30 : g33 30 = .ref q32 := by rw [eg33]; exact va_up_self _ _ _
  refine lv_aload_n hx hb dX13_init_143 rfl (lv_at hl 0 rfl) ?_
  refine lv_bipush (v := 20) hx hb dX13_init_144 (by decide) ?_
  refine va_newa (atype := .int) (ty := .int) (N' := 20) (a0 := (20, .inl (fun _ => (0 : Int32)))) hx hb (hts _ (vA_in _ _ (in_2 _ (List.mem_of_getElem? (i := 38) rfl)))) rfl hK hP hD hS hA (fun _ => rfl) (by decide) (by decide) (Nat.le_of_ble_eq_true rfl) (Nat.le_of_ble_eq_true rfl) (Nat.le_of_ble_eq_true rfl) dX13_init_146 (fun q34 kq34 H hK hP hD hS => ?_)
  have hK : va_K (dC, dI) vwCl [(kq1, .int), (kq13, .byte), (kq34, .int)] s := hK
  obtain ⟨wq34, ewq34⟩ : ∃ z : va_W, z = wq32 ++ [(q34, .inl (kq34, 20, .inl (fun _ => (0 : Int32))))] := ⟨_, rfl⟩
  replace hP : va_P (dC, dI) vwCl ((h, .inr (14, mL g33)) :: wq34) H := by rw [ewq34]; exact hP
  replace hD : va_D A ((h, .inr (14, mL g33)) :: wq34) := by rw [ewq34]; exact hD
  refine W.widen (k := 17) (n := 4156) (by omega) (by omega) ?_
  obtain rfl : kq1 = kq34 := ub_sa_int hK 0 2 rfl rfl
  have hK := hK.sub (tys' := [(kq1, .int), (kq13, .byte)]) [0, 1] rfl
  refine va_putF (D := (dC, dI)) (ci := 14) (v := .ref q34) (ty := .array .int) (C := RX13) (T := TX13) (N := 97) hx hb hts (fun w h => vA_in _ w (in_X13 w h)) tyX13 tyX13_ok nmX13 hown hK hP hD hS 0 rfl rfl 31 (by decide) (hts _ (vA_in _ _ (in_30 _ (List.mem_of_getElem? (i := 33) rfl)))) (fun _ h9 => h9) rfl hin rfl (by decide +kernel) rfl rfl (mL_lt (Nat.le_of_ble_eq_true rfl)) dX13_init_148 (fun H locs hP hD hS => ?_)
  replace hP : va_P (dC, dI) vwCl ((h, .inr (14, (mL g33).set 31 (.ref q34))) :: wq34) H := hP
  replace hD : va_D A ((h, .inr (14, (mL g33).set 31 (.ref q34))) :: wq34) := hD
  obtain ⟨g35, eg35⟩ : ∃ z9, z9 = va_up g33 31 (.ref q34) := ⟨_, rfl⟩
  rw [mL_upd, ← eg35] at hP hD
  have hg35_0 : g35 0 = .int 0 := (congrFun eg35 0).trans ((va_up_ne _ _ (Nat.ne_of_beq_eq_false rfl)).trans hg33_0)
  have hg35_1 : g35 1 = .int 0 := (congrFun eg35 1).trans ((va_up_ne _ _ (Nat.ne_of_beq_eq_false rfl)).trans hg33_1)
  have hg35_8 : g35 8 = .int 0 := (congrFun eg35 8).trans ((va_up_ne _ _ (Nat.ne_of_beq_eq_false rfl)).trans hg33_8)
  have hg35_9 : g35 9 = .int 0 := (congrFun eg35 9).trans ((va_up_ne _ _ (Nat.ne_of_beq_eq_false rfl)).trans hg33_9)
  have hg35_16 : g35 16 = .int 0 := (congrFun eg35 16).trans ((va_up_ne _ _ (Nat.ne_of_beq_eq_false rfl)).trans hg33_16)
  have hg35_17 : g35 17 = .int 0 := (congrFun eg35 17).trans ((va_up_ne _ _ (Nat.ne_of_beq_eq_false rfl)).trans hg33_17)
  have hg35_19 : g35 19 = .int 0 := (congrFun eg35 19).trans ((va_up_ne _ _ (Nat.ne_of_beq_eq_false rfl)).trans hg33_19)
  have hg35_20 : g35 20 = .int 0 := (congrFun eg35 20).trans ((va_up_ne _ _ (Nat.ne_of_beq_eq_false rfl)).trans hg33_20)
  have hg35_21 : g35 21 = .int 0 := (congrFun eg35 21).trans ((va_up_ne _ _ (Nat.ne_of_beq_eq_false rfl)).trans hg33_21)
  have hg35_22 : g35 22 = .int 0 := (congrFun eg35 22).trans ((va_up_ne _ _ (Nat.ne_of_beq_eq_false rfl)).trans hg33_22)
  have hg35_23 : g35 23 = .int 0 := (congrFun eg35 23).trans ((va_up_ne _ _ (Nat.ne_of_beq_eq_false rfl)).trans hg33_23)
  have hg35_24 : g35 24 = .int 0 := (congrFun eg35 24).trans ((va_up_ne _ _ (Nat.ne_of_beq_eq_false rfl)).trans hg33_24)
  have hg35_25 : g35 25 = .int 0 := (congrFun eg35 25).trans ((va_up_ne _ _ (Nat.ne_of_beq_eq_false rfl)).trans hg33_25)
  have hg35_26 : g35 26 = .int 0 := (congrFun eg35 26).trans ((va_up_ne _ _ (Nat.ne_of_beq_eq_false rfl)).trans hg33_26)
  have hg35_46 : g35 46 = .int 0 := (congrFun eg35 46).trans ((va_up_ne _ _ (Nat.ne_of_beq_eq_false rfl)).trans hg33_46)
  have hg35_47 : g35 47 = .int 0 := (congrFun eg35 47).trans ((va_up_ne _ _ (Nat.ne_of_beq_eq_false rfl)).trans hg33_47)
  have hg35_48 : g35 48 = .int 0 := (congrFun eg35 48).trans ((va_up_ne _ _ (Nat.ne_of_beq_eq_false rfl)).trans hg33_48)
  have hg35_55 : g35 55 = .int 0 := (congrFun eg35 55).trans ((va_up_ne _ _ (Nat.ne_of_beq_eq_false rfl)).trans hg33_55)
  have hg35_74 : g35 74 = .int 0 := (congrFun eg35 74).trans ((va_up_ne _ _ (Nat.ne_of_beq_eq_false rfl)).trans hg33_74)
  have hg35_75 : g35 75 = .int 0 := (congrFun eg35 75).trans ((va_up_ne _ _ (Nat.ne_of_beq_eq_false rfl)).trans hg33_75)
  have hg35_86 : g35 86 = .int 0 := (congrFun eg35 86).trans ((va_up_ne _ _ (Nat.ne_of_beq_eq_false rfl)).trans hg33_86)
  have hg35_87 : g35 87 = .int 0 := (congrFun eg35 87).trans ((va_up_ne _ _ (Nat.ne_of_beq_eq_false rfl)).trans hg33_87)
  have hg35_88 : g35 88 = .int 0 := (congrFun eg35 88).trans ((va_up_ne _ _ (Nat.ne_of_beq_eq_false rfl)).trans hg33_88)
  have hg35_89 : g35 89 = .int 0 := (congrFun eg35 89).trans ((va_up_ne _ _ (Nat.ne_of_beq_eq_false rfl)).trans hg33_89)
  have hg35_95 : g35 95 = .int 0 := (congrFun eg35 95).trans ((va_up_ne _ _ (Nat.ne_of_beq_eq_false rfl)).trans hg33_95)
  have hg35_2 : g35 2 = .ref q1 := (congrFun eg35 2).trans ((va_up_ne _ _ (Nat.ne_of_beq_eq_false rfl)).trans hg33_2)
  have hg35_3 : g35 3 = .ref q3 := (congrFun eg35 3).trans ((va_up_ne _ _ (Nat.ne_of_beq_eq_false rfl)).trans hg33_3)
  have hg35_4 : g35 4 = .ref q5 := (congrFun eg35 4).trans ((va_up_ne _ _ (Nat.ne_of_beq_eq_false rfl)).trans hg33_4)
  have hg35_5 : g35 5 = .ref q7 := (congrFun eg35 5).trans ((va_up_ne _ _ (Nat.ne_of_beq_eq_false rfl)).trans hg33_5)
  have hg35_6 : g35 6 = .ref q9 := (congrFun eg35 6).trans ((va_up_ne _ _ (Nat.ne_of_beq_eq_false rfl)).trans hg33_6)
  have hg35_7 : g35 7 = .ref q11 := (congrFun eg35 7).trans ((va_up_ne _ _ (Nat.ne_of_beq_eq_false rfl)).trans hg33_7)
  have hg35_10 : g35 10 = .ref q13 := (congrFun eg35 10).trans ((va_up_ne _ _ (Nat.ne_of_beq_eq_false rfl)).trans hg33_10)
  have hg35_11 : g35 11 = .ref q15 := (congrFun eg35 11).trans ((va_up_ne _ _ (Nat.ne_of_beq_eq_false rfl)).trans hg33_11)
  have hg35_12 : g35 12 = .ref q17 := (congrFun eg35 12).trans ((va_up_ne _ _ (Nat.ne_of_beq_eq_false rfl)).trans hg33_12)
  have hg35_13 : g35 13 = .ref q19 := (congrFun eg35 13).trans ((va_up_ne _ _ (Nat.ne_of_beq_eq_false rfl)).trans hg33_13)
  have hg35_14 : g35 14 = .ref q21 := (congrFun eg35 14).trans ((va_up_ne _ _ (Nat.ne_of_beq_eq_false rfl)).trans hg33_14)
  have hg35_15 : g35 15 = .ref q23 := (congrFun eg35 15).trans ((va_up_ne _ _ (Nat.ne_of_beq_eq_false rfl)).trans hg33_15)
  have hg35_18 : g35 18 = .ref q13 := (congrFun eg35 18).trans ((va_up_ne _ _ (Nat.ne_of_beq_eq_false rfl)).trans hg33_18)
  have hg35_27 : g35 27 = .ref q26 := (congrFun eg35 27).trans ((va_up_ne _ _ (Nat.ne_of_beq_eq_false rfl)).trans hg33_27)
  have hg35_28 : g35 28 = .ref q28 := (congrFun eg35 28).trans ((va_up_ne _ _ (Nat.ne_of_beq_eq_false rfl)).trans hg33_28)
  have hg35_29 : g35 29 = .ref q30 := (congrFun eg35 29).trans ((va_up_ne _ _ (Nat.ne_of_beq_eq_false rfl)).trans hg33_29)
  have hg35_30 : g35 30 = .ref q32 := (congrFun eg35 30).trans ((va_up_ne _ _ (Nat.ne_of_beq_eq_false rfl)).trans hg33_30)
  clear hg33_0 hg33_1 hg33_8 hg33_9 hg33_16 hg33_17 hg33_19 hg33_20 hg33_21 hg33_22 hg33_23 hg33_24 hg33_25 hg33_26 hg33_46 hg33_47 hg33_48 hg33_55 hg33_74 hg33_75 hg33_86 hg33_87 hg33_88 hg33_89 hg33_95 hg33_2 hg33_3 hg33_4 hg33_5 hg33_6 hg33_7 hg33_10 hg33_11 hg33_12 hg33_13 hg33_14 hg33_15 hg33_18 hg33_27 hg33_28 hg33_29 hg33_30
  have hg35_31 : g35 31 = .ref q34 := by rw [eg35]; exact va_up_self _ _ _
  refine lv_aload_n hx hb dX13_init_151 rfl (lv_at hl 0 rfl) ?_
  refine lv_bipush (v := 20) hx hb dX13_init_152 (by decide) ?_
  refine va_newa (atype := .int) (ty := .int) (N' := 20) (a0 := (20, .inl (fun _ => (0 : Int32)))) hx hb (hts _ (vA_in _ _ (in_2 _ (List.mem_of_getElem? (i := 38) rfl)))) rfl hK hP hD hS hA (fun _ => rfl) (by decide) (by decide) (Nat.le_of_ble_eq_true rfl) (Nat.le_of_ble_eq_true rfl) (Nat.le_of_ble_eq_true rfl) dX13_init_154 (fun q36 kq36 H hK hP hD hS => ?_)
  have hK : va_K (dC, dI) vwCl [(kq1, .int), (kq13, .byte), (kq36, .int)] s := hK
  obtain ⟨wq36, ewq36⟩ : ∃ z : va_W, z = wq34 ++ [(q36, .inl (kq36, 20, .inl (fun _ => (0 : Int32))))] := ⟨_, rfl⟩
  replace hP : va_P (dC, dI) vwCl ((h, .inr (14, mL g35)) :: wq36) H := by rw [ewq36]; exact hP
  replace hD : va_D A ((h, .inr (14, mL g35)) :: wq36) := by rw [ewq36]; exact hD
  refine W.widen (k := 18) (n := 4176) (by omega) (by omega) ?_
  obtain rfl : kq1 = kq36 := ub_sa_int hK 0 2 rfl rfl
  have hK := hK.sub (tys' := [(kq1, .int), (kq13, .byte)]) [0, 1] rfl
  refine va_putF (D := (dC, dI)) (ci := 14) (v := .ref q36) (ty := .array .int) (C := RX13) (T := TX13) (N := 97) hx hb hts (fun w h => vA_in _ w (in_X13 w h)) tyX13 tyX13_ok nmX13 hown hK hP hD hS 0 rfl rfl 32 (by decide) (hts _ (vA_in _ _ (in_30 _ (List.mem_of_getElem? (i := 34) rfl)))) (fun _ h9 => h9) rfl hin rfl (by decide +kernel) rfl rfl (mL_lt (Nat.le_of_ble_eq_true rfl)) dX13_init_156 (fun H locs hP hD hS => ?_)
  replace hP : va_P (dC, dI) vwCl ((h, .inr (14, (mL g35).set 32 (.ref q36))) :: wq36) H := hP
  replace hD : va_D A ((h, .inr (14, (mL g35).set 32 (.ref q36))) :: wq36) := hD
  obtain ⟨g37, eg37⟩ : ∃ z9, z9 = va_up g35 32 (.ref q36) := ⟨_, rfl⟩
  rw [mL_upd, ← eg37] at hP hD
  have hg37_0 : g37 0 = .int 0 := (congrFun eg37 0).trans ((va_up_ne _ _ (Nat.ne_of_beq_eq_false rfl)).trans hg35_0)
  have hg37_1 : g37 1 = .int 0 := (congrFun eg37 1).trans ((va_up_ne _ _ (Nat.ne_of_beq_eq_false rfl)).trans hg35_1)
  have hg37_8 : g37 8 = .int 0 := (congrFun eg37 8).trans ((va_up_ne _ _ (Nat.ne_of_beq_eq_false rfl)).trans hg35_8)
  have hg37_9 : g37 9 = .int 0 := (congrFun eg37 9).trans ((va_up_ne _ _ (Nat.ne_of_beq_eq_false rfl)).trans hg35_9)
  have hg37_16 : g37 16 = .int 0 := (congrFun eg37 16).trans ((va_up_ne _ _ (Nat.ne_of_beq_eq_false rfl)).trans hg35_16)
  have hg37_17 : g37 17 = .int 0 := (congrFun eg37 17).trans ((va_up_ne _ _ (Nat.ne_of_beq_eq_false rfl)).trans hg35_17)
  have hg37_19 : g37 19 = .int 0 := (congrFun eg37 19).trans ((va_up_ne _ _ (Nat.ne_of_beq_eq_false rfl)).trans hg35_19)
  have hg37_20 : g37 20 = .int 0 := (congrFun eg37 20).trans ((va_up_ne _ _ (Nat.ne_of_beq_eq_false rfl)).trans hg35_20)
  have hg37_21 : g37 21 = .int 0 := (congrFun eg37 21).trans ((va_up_ne _ _ (Nat.ne_of_beq_eq_false rfl)).trans hg35_21)
  have hg37_22 : g37 22 = .int 0 := (congrFun eg37 22).trans ((va_up_ne _ _ (Nat.ne_of_beq_eq_false rfl)).trans hg35_22)
  have hg37_23 : g37 23 = .int 0 := (congrFun eg37 23).trans ((va_up_ne _ _ (Nat.ne_of_beq_eq_false rfl)).trans hg35_23)
  have hg37_24 : g37 24 = .int 0 := (congrFun eg37 24).trans ((va_up_ne _ _ (Nat.ne_of_beq_eq_false rfl)).trans hg35_24)
  have hg37_25 : g37 25 = .int 0 := (congrFun eg37 25).trans ((va_up_ne _ _ (Nat.ne_of_beq_eq_false rfl)).trans hg35_25)
  have hg37_26 : g37 26 = .int 0 := (congrFun eg37 26).trans ((va_up_ne _ _ (Nat.ne_of_beq_eq_false rfl)).trans hg35_26)
  have hg37_46 : g37 46 = .int 0 := (congrFun eg37 46).trans ((va_up_ne _ _ (Nat.ne_of_beq_eq_false rfl)).trans hg35_46)
  have hg37_47 : g37 47 = .int 0 := (congrFun eg37 47).trans ((va_up_ne _ _ (Nat.ne_of_beq_eq_false rfl)).trans hg35_47)
  have hg37_48 : g37 48 = .int 0 := (congrFun eg37 48).trans ((va_up_ne _ _ (Nat.ne_of_beq_eq_false rfl)).trans hg35_48)
  have hg37_55 : g37 55 = .int 0 := (congrFun eg37 55).trans ((va_up_ne _ _ (Nat.ne_of_beq_eq_false rfl)).trans hg35_55)
  have hg37_74 : g37 74 = .int 0 := (congrFun eg37 74).trans ((va_up_ne _ _ (Nat.ne_of_beq_eq_false rfl)).trans hg35_74)
  have hg37_75 : g37 75 = .int 0 := (congrFun eg37 75).trans ((va_up_ne _ _ (Nat.ne_of_beq_eq_false rfl)).trans hg35_75)
  have hg37_86 : g37 86 = .int 0 := (congrFun eg37 86).trans ((va_up_ne _ _ (Nat.ne_of_beq_eq_false rfl)).trans hg35_86)
  have hg37_87 : g37 87 = .int 0 := (congrFun eg37 87).trans ((va_up_ne _ _ (Nat.ne_of_beq_eq_false rfl)).trans hg35_87)
  have hg37_88 : g37 88 = .int 0 := (congrFun eg37 88).trans ((va_up_ne _ _ (Nat.ne_of_beq_eq_false rfl)).trans hg35_88)
  have hg37_89 : g37 89 = .int 0 := (congrFun eg37 89).trans ((va_up_ne _ _ (Nat.ne_of_beq_eq_false rfl)).trans hg35_89)
  have hg37_95 : g37 95 = .int 0 := (congrFun eg37 95).trans ((va_up_ne _ _ (Nat.ne_of_beq_eq_false rfl)).trans hg35_95)
  have hg37_2 : g37 2 = .ref q1 := (congrFun eg37 2).trans ((va_up_ne _ _ (Nat.ne_of_beq_eq_false rfl)).trans hg35_2)
  have hg37_3 : g37 3 = .ref q3 := (congrFun eg37 3).trans ((va_up_ne _ _ (Nat.ne_of_beq_eq_false rfl)).trans hg35_3)
  have hg37_4 : g37 4 = .ref q5 := (congrFun eg37 4).trans ((va_up_ne _ _ (Nat.ne_of_beq_eq_false rfl)).trans hg35_4)
  have hg37_5 : g37 5 = .ref q7 := (congrFun eg37 5).trans ((va_up_ne _ _ (Nat.ne_of_beq_eq_false rfl)).trans hg35_5)
  have hg37_6 : g37 6 = .ref q9 := (congrFun eg37 6).trans ((va_up_ne _ _ (Nat.ne_of_beq_eq_false rfl)).trans hg35_6)
  have hg37_7 : g37 7 = .ref q11 := (congrFun eg37 7).trans ((va_up_ne _ _ (Nat.ne_of_beq_eq_false rfl)).trans hg35_7)
  have hg37_10 : g37 10 = .ref q13 := (congrFun eg37 10).trans ((va_up_ne _ _ (Nat.ne_of_beq_eq_false rfl)).trans hg35_10)
  have hg37_11 : g37 11 = .ref q15 := (congrFun eg37 11).trans ((va_up_ne _ _ (Nat.ne_of_beq_eq_false rfl)).trans hg35_11)
  have hg37_12 : g37 12 = .ref q17 := (congrFun eg37 12).trans ((va_up_ne _ _ (Nat.ne_of_beq_eq_false rfl)).trans hg35_12)
  have hg37_13 : g37 13 = .ref q19 := (congrFun eg37 13).trans ((va_up_ne _ _ (Nat.ne_of_beq_eq_false rfl)).trans hg35_13)
  have hg37_14 : g37 14 = .ref q21 := (congrFun eg37 14).trans ((va_up_ne _ _ (Nat.ne_of_beq_eq_false rfl)).trans hg35_14)
  have hg37_15 : g37 15 = .ref q23 := (congrFun eg37 15).trans ((va_up_ne _ _ (Nat.ne_of_beq_eq_false rfl)).trans hg35_15)
  have hg37_18 : g37 18 = .ref q13 := (congrFun eg37 18).trans ((va_up_ne _ _ (Nat.ne_of_beq_eq_false rfl)).trans hg35_18)
  have hg37_27 : g37 27 = .ref q26 := (congrFun eg37 27).trans ((va_up_ne _ _ (Nat.ne_of_beq_eq_false rfl)).trans hg35_27)
  have hg37_28 : g37 28 = .ref q28 := (congrFun eg37 28).trans ((va_up_ne _ _ (Nat.ne_of_beq_eq_false rfl)).trans hg35_28)
  have hg37_29 : g37 29 = .ref q30 := (congrFun eg37 29).trans ((va_up_ne _ _ (Nat.ne_of_beq_eq_false rfl)).trans hg35_29)
  have hg37_30 : g37 30 = .ref q32 := (congrFun eg37 30).trans ((va_up_ne _ _ (Nat.ne_of_beq_eq_false rfl)).trans hg35_30)
  have hg37_31 : g37 31 = .ref q34 := (congrFun eg37 31).trans ((va_up_ne _ _ (Nat.ne_of_beq_eq_false rfl)).trans hg35_31)
  clear hg35_0 hg35_1 hg35_8 hg35_9 hg35_16 hg35_17 hg35_19 hg35_20 hg35_21 hg35_22 hg35_23 hg35_24 hg35_25 hg35_26 hg35_46 hg35_47 hg35_48 hg35_55 hg35_74 hg35_75 hg35_86 hg35_87 hg35_88 hg35_89 hg35_95 hg35_2 hg35_3 hg35_4 hg35_5 hg35_6 hg35_7 hg35_10 hg35_11 hg35_12 hg35_13 hg35_14 hg35_15 hg35_18 hg35_27 hg35_28 hg35_29 hg35_30 hg35_31
  have hg37_32 : g37 32 = .ref q36 := by rw [eg37]; exact va_up_self _ _ _
  refine lv_aload_n hx hb dX13_init_159 rfl (lv_at hl 0 rfl) ?_
  refine lv_bipush (v := 20) hx hb dX13_init_160 (by decide) ?_
  refine va_newa (atype := .int) (ty := .int) (N' := 20) (a0 := (20, .inl (fun _ => (0 : Int32)))) hx hb (hts _ (vA_in _ _ (in_2 _ (List.mem_of_getElem? (i := 38) rfl)))) rfl hK hP hD hS hA (fun _ => rfl) (by decide) (by decide) (Nat.le_of_ble_eq_true rfl) (Nat.le_of_ble_eq_true rfl) (Nat.le_of_ble_eq_true rfl) dX13_init_162 (fun q38 kq38 H hK hP hD hS => ?_)
  have hK : va_K (dC, dI) vwCl [(kq1, .int), (kq13, .byte), (kq38, .int)] s := hK
  obtain ⟨wq38, ewq38⟩ : ∃ z : va_W, z = wq36 ++ [(q38, .inl (kq38, 20, .inl (fun _ => (0 : Int32))))] := ⟨_, rfl⟩
  replace hP : va_P (dC, dI) vwCl ((h, .inr (14, mL g37)) :: wq38) H := by rw [ewq38]; exact hP
  replace hD : va_D A ((h, .inr (14, mL g37)) :: wq38) := by rw [ewq38]; exact hD
  refine W.widen (k := 19) (n := 4196) (by omega) (by omega) ?_
  obtain rfl : kq1 = kq38 := ub_sa_int hK 0 2 rfl rfl
  have hK := hK.sub (tys' := [(kq1, .int), (kq13, .byte)]) [0, 1] rfl
  refine va_putF (D := (dC, dI)) (ci := 14) (v := .ref q38) (ty := .array .int) (C := RX13) (T := TX13) (N := 97) hx hb hts (fun w h => vA_in _ w (in_X13 w h)) tyX13 tyX13_ok nmX13 hown hK hP hD hS 0 rfl rfl 33 (by decide) (hts _ (vA_in _ _ (in_25 _ (List.mem_of_getElem? (i := 33) rfl)))) (fun _ h9 => h9) rfl hin rfl (by decide +kernel) rfl rfl (mL_lt (Nat.le_of_ble_eq_true rfl)) dX13_init_164 (fun H locs hP hD hS => ?_)
  replace hP : va_P (dC, dI) vwCl ((h, .inr (14, (mL g37).set 33 (.ref q38))) :: wq38) H := hP
  replace hD : va_D A ((h, .inr (14, (mL g37).set 33 (.ref q38))) :: wq38) := hD
  obtain ⟨g39, eg39⟩ : ∃ z9, z9 = va_up g37 33 (.ref q38) := ⟨_, rfl⟩
  rw [mL_upd, ← eg39] at hP hD
  have hg39_0 : g39 0 = .int 0 := (congrFun eg39 0).trans ((va_up_ne _ _ (Nat.ne_of_beq_eq_false rfl)).trans hg37_0)
  have hg39_1 : g39 1 = .int 0 := (congrFun eg39 1).trans ((va_up_ne _ _ (Nat.ne_of_beq_eq_false rfl)).trans hg37_1)
  have hg39_8 : g39 8 = .int 0 := (congrFun eg39 8).trans ((va_up_ne _ _ (Nat.ne_of_beq_eq_false rfl)).trans hg37_8)
  have hg39_9 : g39 9 = .int 0 := (congrFun eg39 9).trans ((va_up_ne _ _ (Nat.ne_of_beq_eq_false rfl)).trans hg37_9)
  have hg39_16 : g39 16 = .int 0 := (congrFun eg39 16).trans ((va_up_ne _ _ (Nat.ne_of_beq_eq_false rfl)).trans hg37_16)
  have hg39_17 : g39 17 = .int 0 := (congrFun eg39 17).trans ((va_up_ne _ _ (Nat.ne_of_beq_eq_false rfl)).trans hg37_17)
  have hg39_19 : g39 19 = .int 0 := (congrFun eg39 19).trans ((va_up_ne _ _ (Nat.ne_of_beq_eq_false rfl)).trans hg37_19)
  have hg39_20 : g39 20 = .int 0 := (congrFun eg39 20).trans ((va_up_ne _ _ (Nat.ne_of_beq_eq_false rfl)).trans hg37_20)
  have hg39_21 : g39 21 = .int 0 := (congrFun eg39 21).trans ((va_up_ne _ _ (Nat.ne_of_beq_eq_false rfl)).trans hg37_21)
  have hg39_22 : g39 22 = .int 0 := (congrFun eg39 22).trans ((va_up_ne _ _ (Nat.ne_of_beq_eq_false rfl)).trans hg37_22)
  have hg39_23 : g39 23 = .int 0 := (congrFun eg39 23).trans ((va_up_ne _ _ (Nat.ne_of_beq_eq_false rfl)).trans hg37_23)
  have hg39_24 : g39 24 = .int 0 := (congrFun eg39 24).trans ((va_up_ne _ _ (Nat.ne_of_beq_eq_false rfl)).trans hg37_24)
  have hg39_25 : g39 25 = .int 0 := (congrFun eg39 25).trans ((va_up_ne _ _ (Nat.ne_of_beq_eq_false rfl)).trans hg37_25)
  have hg39_26 : g39 26 = .int 0 := (congrFun eg39 26).trans ((va_up_ne _ _ (Nat.ne_of_beq_eq_false rfl)).trans hg37_26)
  have hg39_46 : g39 46 = .int 0 := (congrFun eg39 46).trans ((va_up_ne _ _ (Nat.ne_of_beq_eq_false rfl)).trans hg37_46)
  have hg39_47 : g39 47 = .int 0 := (congrFun eg39 47).trans ((va_up_ne _ _ (Nat.ne_of_beq_eq_false rfl)).trans hg37_47)
  have hg39_48 : g39 48 = .int 0 := (congrFun eg39 48).trans ((va_up_ne _ _ (Nat.ne_of_beq_eq_false rfl)).trans hg37_48)
  have hg39_55 : g39 55 = .int 0 := (congrFun eg39 55).trans ((va_up_ne _ _ (Nat.ne_of_beq_eq_false rfl)).trans hg37_55)
  have hg39_74 : g39 74 = .int 0 := (congrFun eg39 74).trans ((va_up_ne _ _ (Nat.ne_of_beq_eq_false rfl)).trans hg37_74)
  have hg39_75 : g39 75 = .int 0 := (congrFun eg39 75).trans ((va_up_ne _ _ (Nat.ne_of_beq_eq_false rfl)).trans hg37_75)
  have hg39_86 : g39 86 = .int 0 := (congrFun eg39 86).trans ((va_up_ne _ _ (Nat.ne_of_beq_eq_false rfl)).trans hg37_86)
  have hg39_87 : g39 87 = .int 0 := (congrFun eg39 87).trans ((va_up_ne _ _ (Nat.ne_of_beq_eq_false rfl)).trans hg37_87)
  have hg39_88 : g39 88 = .int 0 := (congrFun eg39 88).trans ((va_up_ne _ _ (Nat.ne_of_beq_eq_false rfl)).trans hg37_88)
  have hg39_89 : g39 89 = .int 0 := (congrFun eg39 89).trans ((va_up_ne _ _ (Nat.ne_of_beq_eq_false rfl)).trans hg37_89)
  have hg39_95 : g39 95 = .int 0 := (congrFun eg39 95).trans ((va_up_ne _ _ (Nat.ne_of_beq_eq_false rfl)).trans hg37_95)
  have hg39_2 : g39 2 = .ref q1 := (congrFun eg39 2).trans ((va_up_ne _ _ (Nat.ne_of_beq_eq_false rfl)).trans hg37_2)
  have hg39_3 : g39 3 = .ref q3 := (congrFun eg39 3).trans ((va_up_ne _ _ (Nat.ne_of_beq_eq_false rfl)).trans hg37_3)
  have hg39_4 : g39 4 = .ref q5 := (congrFun eg39 4).trans ((va_up_ne _ _ (Nat.ne_of_beq_eq_false rfl)).trans hg37_4)
  have hg39_5 : g39 5 = .ref q7 := (congrFun eg39 5).trans ((va_up_ne _ _ (Nat.ne_of_beq_eq_false rfl)).trans hg37_5)
  have hg39_6 : g39 6 = .ref q9 := (congrFun eg39 6).trans ((va_up_ne _ _ (Nat.ne_of_beq_eq_false rfl)).trans hg37_6)
  have hg39_7 : g39 7 = .ref q11 := (congrFun eg39 7).trans ((va_up_ne _ _ (Nat.ne_of_beq_eq_false rfl)).trans hg37_7)
  have hg39_10 : g39 10 = .ref q13 := (congrFun eg39 10).trans ((va_up_ne _ _ (Nat.ne_of_beq_eq_false rfl)).trans hg37_10)
  have hg39_11 : g39 11 = .ref q15 := (congrFun eg39 11).trans ((va_up_ne _ _ (Nat.ne_of_beq_eq_false rfl)).trans hg37_11)
  have hg39_12 : g39 12 = .ref q17 := (congrFun eg39 12).trans ((va_up_ne _ _ (Nat.ne_of_beq_eq_false rfl)).trans hg37_12)
  have hg39_13 : g39 13 = .ref q19 := (congrFun eg39 13).trans ((va_up_ne _ _ (Nat.ne_of_beq_eq_false rfl)).trans hg37_13)
  have hg39_14 : g39 14 = .ref q21 := (congrFun eg39 14).trans ((va_up_ne _ _ (Nat.ne_of_beq_eq_false rfl)).trans hg37_14)
  have hg39_15 : g39 15 = .ref q23 := (congrFun eg39 15).trans ((va_up_ne _ _ (Nat.ne_of_beq_eq_false rfl)).trans hg37_15)
  have hg39_18 : g39 18 = .ref q13 := (congrFun eg39 18).trans ((va_up_ne _ _ (Nat.ne_of_beq_eq_false rfl)).trans hg37_18)
  have hg39_27 : g39 27 = .ref q26 := (congrFun eg39 27).trans ((va_up_ne _ _ (Nat.ne_of_beq_eq_false rfl)).trans hg37_27)
  have hg39_28 : g39 28 = .ref q28 := (congrFun eg39 28).trans ((va_up_ne _ _ (Nat.ne_of_beq_eq_false rfl)).trans hg37_28)
  have hg39_29 : g39 29 = .ref q30 := (congrFun eg39 29).trans ((va_up_ne _ _ (Nat.ne_of_beq_eq_false rfl)).trans hg37_29)
  have hg39_30 : g39 30 = .ref q32 := (congrFun eg39 30).trans ((va_up_ne _ _ (Nat.ne_of_beq_eq_false rfl)).trans hg37_30)
  have hg39_31 : g39 31 = .ref q34 := (congrFun eg39 31).trans ((va_up_ne _ _ (Nat.ne_of_beq_eq_false rfl)).trans hg37_31)
  have hg39_32 : g39 32 = .ref q36 := (congrFun eg39 32).trans ((va_up_ne _ _ (Nat.ne_of_beq_eq_false rfl)).trans hg37_32)
  clear hg37_0 hg37_1 hg37_8 hg37_9 hg37_16 hg37_17 hg37_19 hg37_20 hg37_21 hg37_22 hg37_23 hg37_24 hg37_25 hg37_26 hg37_46 hg37_47 hg37_48 hg37_55 hg37_74 hg37_75 hg37_86 hg37_87 hg37_88 hg37_89 hg37_95 hg37_2 hg37_3 hg37_4 hg37_5 hg37_6 hg37_7 hg37_10 hg37_11 hg37_12 hg37_13 hg37_14 hg37_15 hg37_18 hg37_27 hg37_28 hg37_29 hg37_30 hg37_31 hg37_32
  have hg39_33 : g39 33 = .ref q38 := by rw [eg39]; exact va_up_self _ _ _
  refine lv_aload_n hx hb dX13_init_167 rfl (lv_at hl 0 rfl) ?_
  refine lv_bipush (v := 20) hx hb dX13_init_168 (by decide) ?_
  refine va_newa (atype := .int) (ty := .int) (N' := 20) (a0 := (20, .inl (fun _ => (0 : Int32)))) hx hb (hts _ (vA_in _ _ (in_2 _ (List.mem_of_getElem? (i := 38) rfl)))) rfl hK hP hD hS hA (fun _ => rfl) (by decide) (by decide) (Nat.le_of_ble_eq_true rfl) (Nat.le_of_ble_eq_true rfl) (Nat.le_of_ble_eq_true rfl) dX13_init_170 (fun q40 kq40 H hK hP hD hS => ?_)
  have hK : va_K (dC, dI) vwCl [(kq1, .int), (kq13, .byte), (kq40, .int)] s := hK
  obtain ⟨wq40, ewq40⟩ : ∃ z : va_W, z = wq38 ++ [(q40, .inl (kq40, 20, .inl (fun _ => (0 : Int32))))] := ⟨_, rfl⟩
  replace hP : va_P (dC, dI) vwCl ((h, .inr (14, mL g39)) :: wq40) H := by rw [ewq40]; exact hP
  replace hD : va_D A ((h, .inr (14, mL g39)) :: wq40) := by rw [ewq40]; exact hD
  refine W.widen (k := 20) (n := 4216) (by omega) (by omega) ?_
  obtain rfl : kq1 = kq40 := ub_sa_int hK 0 2 rfl rfl
  have hK := hK.sub (tys' := [(kq1, .int), (kq13, .byte)]) [0, 1] rfl
  refine va_putF (D := (dC, dI)) (ci := 14) (v := .ref q40) (ty := .array .int) (C := RX13) (T := TX13) (N := 97) hx hb hts (fun w h => vA_in _ w (in_X13 w h)) tyX13 tyX13_ok nmX13 hown hK hP hD hS 0 rfl rfl 34 (by decide) (hts _ (vA_in _ _ (in_24 _ (List.mem_of_getElem? (i := 11) rfl)))) (fun _ h9 => h9) rfl hin rfl (by decide +kernel) rfl rfl (mL_lt (Nat.le_of_ble_eq_true rfl)) dX13_init_172 (fun H locs hP hD hS => ?_)
  replace hP : va_P (dC, dI) vwCl ((h, .inr (14, (mL g39).set 34 (.ref q40))) :: wq40) H := hP
  replace hD : va_D A ((h, .inr (14, (mL g39).set 34 (.ref q40))) :: wq40) := hD
  obtain ⟨g41, eg41⟩ : ∃ z9, z9 = va_up g39 34 (.ref q40) := ⟨_, rfl⟩
  rw [mL_upd, ← eg41] at hP hD
  have hg41_0 : g41 0 = .int 0 := (congrFun eg41 0).trans ((va_up_ne _ _ (Nat.ne_of_beq_eq_false rfl)).trans hg39_0)
  have hg41_1 : g41 1 = .int 0 := (congrFun eg41 1).trans ((va_up_ne _ _ (Nat.ne_of_beq_eq_false rfl)).trans hg39_1)
  have hg41_8 : g41 8 = .int 0 := (congrFun eg41 8).trans ((va_up_ne _ _ (Nat.ne_of_beq_eq_false rfl)).trans hg39_8)
  have hg41_9 : g41 9 = .int 0 := (congrFun eg41 9).trans ((va_up_ne _ _ (Nat.ne_of_beq_eq_false rfl)).trans hg39_9)
  have hg41_16 : g41 16 = .int 0 := (congrFun eg41 16).trans ((va_up_ne _ _ (Nat.ne_of_beq_eq_false rfl)).trans hg39_16)
  have hg41_17 : g41 17 = .int 0 := (congrFun eg41 17).trans ((va_up_ne _ _ (Nat.ne_of_beq_eq_false rfl)).trans hg39_17)
  have hg41_19 : g41 19 = .int 0 := (congrFun eg41 19).trans ((va_up_ne _ _ (Nat.ne_of_beq_eq_false rfl)).trans hg39_19)
  have hg41_20 : g41 20 = .int 0 := (congrFun eg41 20).trans ((va_up_ne _ _ (Nat.ne_of_beq_eq_false rfl)).trans hg39_20)
  have hg41_21 : g41 21 = .int 0 := (congrFun eg41 21).trans ((va_up_ne _ _ (Nat.ne_of_beq_eq_false rfl)).trans hg39_21)
  have hg41_22 : g41 22 = .int 0 := (congrFun eg41 22).trans ((va_up_ne _ _ (Nat.ne_of_beq_eq_false rfl)).trans hg39_22)
  have hg41_23 : g41 23 = .int 0 := (congrFun eg41 23).trans ((va_up_ne _ _ (Nat.ne_of_beq_eq_false rfl)).trans hg39_23)
  have hg41_24 : g41 24 = .int 0 := (congrFun eg41 24).trans ((va_up_ne _ _ (Nat.ne_of_beq_eq_false rfl)).trans hg39_24)
  have hg41_25 : g41 25 = .int 0 := (congrFun eg41 25).trans ((va_up_ne _ _ (Nat.ne_of_beq_eq_false rfl)).trans hg39_25)
  have hg41_26 : g41 26 = .int 0 := (congrFun eg41 26).trans ((va_up_ne _ _ (Nat.ne_of_beq_eq_false rfl)).trans hg39_26)
  have hg41_46 : g41 46 = .int 0 := (congrFun eg41 46).trans ((va_up_ne _ _ (Nat.ne_of_beq_eq_false rfl)).trans hg39_46)
  have hg41_47 : g41 47 = .int 0 := (congrFun eg41 47).trans ((va_up_ne _ _ (Nat.ne_of_beq_eq_false rfl)).trans hg39_47)
  have hg41_48 : g41 48 = .int 0 := (congrFun eg41 48).trans ((va_up_ne _ _ (Nat.ne_of_beq_eq_false rfl)).trans hg39_48)
  have hg41_55 : g41 55 = .int 0 := (congrFun eg41 55).trans ((va_up_ne _ _ (Nat.ne_of_beq_eq_false rfl)).trans hg39_55)
  have hg41_74 : g41 74 = .int 0 := (congrFun eg41 74).trans ((va_up_ne _ _ (Nat.ne_of_beq_eq_false rfl)).trans hg39_74)
  have hg41_75 : g41 75 = .int 0 := (congrFun eg41 75).trans ((va_up_ne _ _ (Nat.ne_of_beq_eq_false rfl)).trans hg39_75)
  have hg41_86 : g41 86 = .int 0 := (congrFun eg41 86).trans ((va_up_ne _ _ (Nat.ne_of_beq_eq_false rfl)).trans hg39_86)
  have hg41_87 : g41 87 = .int 0 := (congrFun eg41 87).trans ((va_up_ne _ _ (Nat.ne_of_beq_eq_false rfl)).trans hg39_87)
  have hg41_88 : g41 88 = .int 0 := (congrFun eg41 88).trans ((va_up_ne _ _ (Nat.ne_of_beq_eq_false rfl)).trans hg39_88)
  have hg41_89 : g41 89 = .int 0 := (congrFun eg41 89).trans ((va_up_ne _ _ (Nat.ne_of_beq_eq_false rfl)).trans hg39_89)
  have hg41_95 : g41 95 = .int 0 := (congrFun eg41 95).trans ((va_up_ne _ _ (Nat.ne_of_beq_eq_false rfl)).trans hg39_95)
  have hg41_2 : g41 2 = .ref q1 := (congrFun eg41 2).trans ((va_up_ne _ _ (Nat.ne_of_beq_eq_false rfl)).trans hg39_2)
  have hg41_3 : g41 3 = .ref q3 := (congrFun eg41 3).trans ((va_up_ne _ _ (Nat.ne_of_beq_eq_false rfl)).trans hg39_3)
  have hg41_4 : g41 4 = .ref q5 := (congrFun eg41 4).trans ((va_up_ne _ _ (Nat.ne_of_beq_eq_false rfl)).trans hg39_4)
  have hg41_5 : g41 5 = .ref q7 := (congrFun eg41 5).trans ((va_up_ne _ _ (Nat.ne_of_beq_eq_false rfl)).trans hg39_5)
  have hg41_6 : g41 6 = .ref q9 := (congrFun eg41 6).trans ((va_up_ne _ _ (Nat.ne_of_beq_eq_false rfl)).trans hg39_6)
  have hg41_7 : g41 7 = .ref q11 := (congrFun eg41 7).trans ((va_up_ne _ _ (Nat.ne_of_beq_eq_false rfl)).trans hg39_7)
  have hg41_10 : g41 10 = .ref q13 := (congrFun eg41 10).trans ((va_up_ne _ _ (Nat.ne_of_beq_eq_false rfl)).trans hg39_10)
  have hg41_11 : g41 11 = .ref q15 := (congrFun eg41 11).trans ((va_up_ne _ _ (Nat.ne_of_beq_eq_false rfl)).trans hg39_11)
  have hg41_12 : g41 12 = .ref q17 := (congrFun eg41 12).trans ((va_up_ne _ _ (Nat.ne_of_beq_eq_false rfl)).trans hg39_12)
  have hg41_13 : g41 13 = .ref q19 := (congrFun eg41 13).trans ((va_up_ne _ _ (Nat.ne_of_beq_eq_false rfl)).trans hg39_13)
  have hg41_14 : g41 14 = .ref q21 := (congrFun eg41 14).trans ((va_up_ne _ _ (Nat.ne_of_beq_eq_false rfl)).trans hg39_14)
  have hg41_15 : g41 15 = .ref q23 := (congrFun eg41 15).trans ((va_up_ne _ _ (Nat.ne_of_beq_eq_false rfl)).trans hg39_15)
  have hg41_18 : g41 18 = .ref q13 := (congrFun eg41 18).trans ((va_up_ne _ _ (Nat.ne_of_beq_eq_false rfl)).trans hg39_18)
  have hg41_27 : g41 27 = .ref q26 := (congrFun eg41 27).trans ((va_up_ne _ _ (Nat.ne_of_beq_eq_false rfl)).trans hg39_27)
  have hg41_28 : g41 28 = .ref q28 := (congrFun eg41 28).trans ((va_up_ne _ _ (Nat.ne_of_beq_eq_false rfl)).trans hg39_28)
  have hg41_29 : g41 29 = .ref q30 := (congrFun eg41 29).trans ((va_up_ne _ _ (Nat.ne_of_beq_eq_false rfl)).trans hg39_29)
  have hg41_30 : g41 30 = .ref q32 := (congrFun eg41 30).trans ((va_up_ne _ _ (Nat.ne_of_beq_eq_false rfl)).trans hg39_30)
  have hg41_31 : g41 31 = .ref q34 := (congrFun eg41 31).trans ((va_up_ne _ _ (Nat.ne_of_beq_eq_false rfl)).trans hg39_31)
  have hg41_32 : g41 32 = .ref q36 := (congrFun eg41 32).trans ((va_up_ne _ _ (Nat.ne_of_beq_eq_false rfl)).trans hg39_32)
  have hg41_33 : g41 33 = .ref q38 := (congrFun eg41 33).trans ((va_up_ne _ _ (Nat.ne_of_beq_eq_false rfl)).trans hg39_33)
  clear hg39_0 hg39_1 hg39_8 hg39_9 hg39_16 hg39_17 hg39_19 hg39_20 hg39_21 hg39_22 hg39_23 hg39_24 hg39_25 hg39_26 hg39_46 hg39_47 hg39_48 hg39_55 hg39_74 hg39_75 hg39_86 hg39_87 hg39_88 hg39_89 hg39_95 hg39_2 hg39_3 hg39_4 hg39_5 hg39_6 hg39_7 hg39_10 hg39_11 hg39_12 hg39_13 hg39_14 hg39_15 hg39_18 hg39_27 hg39_28 hg39_29 hg39_30 hg39_31 hg39_32 hg39_33
  have hg41_34 : g41 34 = .ref q40 := by rw [eg41]; exact va_up_self _ _ _
  refine lv_aload_n hx hb dX13_init_175 rfl (lv_at hl 0 rfl) ?_
  refine lv_sipush (v := 320) hx hb dX13_init_176 (by decide) ?_
  refine va_newa (atype := .int) (ty := .int) (N' := 320) (a0 := (320, .inl (fun _ => (0 : Int32)))) hx hb (hts _ (vA_in _ _ (in_2 _ (List.mem_of_getElem? (i := 38) rfl)))) rfl hK hP hD hS hA (fun _ => rfl) (by decide) (by decide) (Nat.le_of_ble_eq_true rfl) (Nat.le_of_ble_eq_true rfl) (Nat.le_of_ble_eq_true rfl) dX13_init_179 (fun q42 kq42 H hK hP hD hS => ?_)
  have hK : va_K (dC, dI) vwCl [(kq1, .int), (kq13, .byte), (kq42, .int)] s := hK
  obtain ⟨wq42, ewq42⟩ : ∃ z : va_W, z = wq40 ++ [(q42, .inl (kq42, 320, .inl (fun _ => (0 : Int32))))] := ⟨_, rfl⟩
  replace hP : va_P (dC, dI) vwCl ((h, .inr (14, mL g41)) :: wq42) H := by rw [ewq42]; exact hP
  replace hD : va_D A ((h, .inr (14, mL g41)) :: wq42) := by rw [ewq42]; exact hD
  refine W.widen (k := 21) (n := 4536) (by omega) (by omega) ?_
  obtain rfl : kq1 = kq42 := ub_sa_int hK 0 2 rfl rfl
  have hK := hK.sub (tys' := [(kq1, .int), (kq13, .byte)]) [0, 1] rfl
  refine va_putF (D := (dC, dI)) (ci := 14) (v := .ref q42) (ty := .array .int) (C := RX13) (T := TX13) (N := 97) hx hb hts (fun w h => vA_in _ w (in_X13 w h)) tyX13 tyX13_ok nmX13 hown hK hP hD hS 0 rfl rfl 35 (by decide) (hts _ (vA_in _ _ (in_24 _ (List.mem_of_getElem? (i := 39) rfl)))) (fun _ h9 => h9) rfl hin rfl (by decide +kernel) rfl rfl (mL_lt (Nat.le_of_ble_eq_true rfl)) dX13_init_181 (fun H locs hP hD hS => ?_)
  replace hP : va_P (dC, dI) vwCl ((h, .inr (14, (mL g41).set 35 (.ref q42))) :: wq42) H := hP
  replace hD : va_D A ((h, .inr (14, (mL g41).set 35 (.ref q42))) :: wq42) := hD
  obtain ⟨g43, eg43⟩ : ∃ z9, z9 = va_up g41 35 (.ref q42) := ⟨_, rfl⟩
  rw [mL_upd, ← eg43] at hP hD
  have hg43_0 : g43 0 = .int 0 := (congrFun eg43 0).trans ((va_up_ne _ _ (Nat.ne_of_beq_eq_false rfl)).trans hg41_0)
  have hg43_1 : g43 1 = .int 0 := (congrFun eg43 1).trans ((va_up_ne _ _ (Nat.ne_of_beq_eq_false rfl)).trans hg41_1)
  have hg43_8 : g43 8 = .int 0 := (congrFun eg43 8).trans ((va_up_ne _ _ (Nat.ne_of_beq_eq_false rfl)).trans hg41_8)
  have hg43_9 : g43 9 = .int 0 := (congrFun eg43 9).trans ((va_up_ne _ _ (Nat.ne_of_beq_eq_false rfl)).trans hg41_9)
  have hg43_16 : g43 16 = .int 0 := (congrFun eg43 16).trans ((va_up_ne _ _ (Nat.ne_of_beq_eq_false rfl)).trans hg41_16)
  have hg43_17 : g43 17 = .int 0 := (congrFun eg43 17).trans ((va_up_ne _ _ (Nat.ne_of_beq_eq_false rfl)).trans hg41_17)
  have hg43_19 : g43 19 = .int 0 := (congrFun eg43 19).trans ((va_up_ne _ _ (Nat.ne_of_beq_eq_false rfl)).trans hg41_19)
  have hg43_20 : g43 20 = .int 0 := (congrFun eg43 20).trans ((va_up_ne _ _ (Nat.ne_of_beq_eq_false rfl)).trans hg41_20)
  have hg43_21 : g43 21 = .int 0 := (congrFun eg43 21).trans ((va_up_ne _ _ (Nat.ne_of_beq_eq_false rfl)).trans hg41_21)
  have hg43_22 : g43 22 = .int 0 := (congrFun eg43 22).trans ((va_up_ne _ _ (Nat.ne_of_beq_eq_false rfl)).trans hg41_22)
  have hg43_23 : g43 23 = .int 0 := (congrFun eg43 23).trans ((va_up_ne _ _ (Nat.ne_of_beq_eq_false rfl)).trans hg41_23)
  have hg43_24 : g43 24 = .int 0 := (congrFun eg43 24).trans ((va_up_ne _ _ (Nat.ne_of_beq_eq_false rfl)).trans hg41_24)
  have hg43_25 : g43 25 = .int 0 := (congrFun eg43 25).trans ((va_up_ne _ _ (Nat.ne_of_beq_eq_false rfl)).trans hg41_25)
  have hg43_26 : g43 26 = .int 0 := (congrFun eg43 26).trans ((va_up_ne _ _ (Nat.ne_of_beq_eq_false rfl)).trans hg41_26)
  have hg43_46 : g43 46 = .int 0 := (congrFun eg43 46).trans ((va_up_ne _ _ (Nat.ne_of_beq_eq_false rfl)).trans hg41_46)
  have hg43_47 : g43 47 = .int 0 := (congrFun eg43 47).trans ((va_up_ne _ _ (Nat.ne_of_beq_eq_false rfl)).trans hg41_47)
  have hg43_48 : g43 48 = .int 0 := (congrFun eg43 48).trans ((va_up_ne _ _ (Nat.ne_of_beq_eq_false rfl)).trans hg41_48)
  have hg43_55 : g43 55 = .int 0 := (congrFun eg43 55).trans ((va_up_ne _ _ (Nat.ne_of_beq_eq_false rfl)).trans hg41_55)
  have hg43_74 : g43 74 = .int 0 := (congrFun eg43 74).trans ((va_up_ne _ _ (Nat.ne_of_beq_eq_false rfl)).trans hg41_74)
  have hg43_75 : g43 75 = .int 0 := (congrFun eg43 75).trans ((va_up_ne _ _ (Nat.ne_of_beq_eq_false rfl)).trans hg41_75)
  have hg43_86 : g43 86 = .int 0 := (congrFun eg43 86).trans ((va_up_ne _ _ (Nat.ne_of_beq_eq_false rfl)).trans hg41_86)
  have hg43_87 : g43 87 = .int 0 := (congrFun eg43 87).trans ((va_up_ne _ _ (Nat.ne_of_beq_eq_false rfl)).trans hg41_87)
  have hg43_88 : g43 88 = .int 0 := (congrFun eg43 88).trans ((va_up_ne _ _ (Nat.ne_of_beq_eq_false rfl)).trans hg41_88)
  have hg43_89 : g43 89 = .int 0 := (congrFun eg43 89).trans ((va_up_ne _ _ (Nat.ne_of_beq_eq_false rfl)).trans hg41_89)
  have hg43_95 : g43 95 = .int 0 := (congrFun eg43 95).trans ((va_up_ne _ _ (Nat.ne_of_beq_eq_false rfl)).trans hg41_95)
  have hg43_2 : g43 2 = .ref q1 := (congrFun eg43 2).trans ((va_up_ne _ _ (Nat.ne_of_beq_eq_false rfl)).trans hg41_2)
  have hg43_3 : g43 3 = .ref q3 := (congrFun eg43 3).trans ((va_up_ne _ _ (Nat.ne_of_beq_eq_false rfl)).trans hg41_3)
  have hg43_4 : g43 4 = .ref q5 := (congrFun eg43 4).trans ((va_up_ne _ _ (Nat.ne_of_beq_eq_false rfl)).trans hg41_4)
  have hg43_5 : g43 5 = .ref q7 := (congrFun eg43 5).trans ((va_up_ne _ _ (Nat.ne_of_beq_eq_false rfl)).trans hg41_5)
  have hg43_6 : g43 6 = .ref q9 := (congrFun eg43 6).trans ((va_up_ne _ _ (Nat.ne_of_beq_eq_false rfl)).trans hg41_6)
  have hg43_7 : g43 7 = .ref q11 := (congrFun eg43 7).trans ((va_up_ne _ _ (Nat.ne_of_beq_eq_false rfl)).trans hg41_7)
  have hg43_10 : g43 10 = .ref q13 := (congrFun eg43 10).trans ((va_up_ne _ _ (Nat.ne_of_beq_eq_false rfl)).trans hg41_10)
  have hg43_11 : g43 11 = .ref q15 := (congrFun eg43 11).trans ((va_up_ne _ _ (Nat.ne_of_beq_eq_false rfl)).trans hg41_11)
  have hg43_12 : g43 12 = .ref q17 := (congrFun eg43 12).trans ((va_up_ne _ _ (Nat.ne_of_beq_eq_false rfl)).trans hg41_12)
  have hg43_13 : g43 13 = .ref q19 := (congrFun eg43 13).trans ((va_up_ne _ _ (Nat.ne_of_beq_eq_false rfl)).trans hg41_13)
  have hg43_14 : g43 14 = .ref q21 := (congrFun eg43 14).trans ((va_up_ne _ _ (Nat.ne_of_beq_eq_false rfl)).trans hg41_14)
  have hg43_15 : g43 15 = .ref q23 := (congrFun eg43 15).trans ((va_up_ne _ _ (Nat.ne_of_beq_eq_false rfl)).trans hg41_15)
  have hg43_18 : g43 18 = .ref q13 := (congrFun eg43 18).trans ((va_up_ne _ _ (Nat.ne_of_beq_eq_false rfl)).trans hg41_18)
  have hg43_27 : g43 27 = .ref q26 := (congrFun eg43 27).trans ((va_up_ne _ _ (Nat.ne_of_beq_eq_false rfl)).trans hg41_27)
  have hg43_28 : g43 28 = .ref q28 := (congrFun eg43 28).trans ((va_up_ne _ _ (Nat.ne_of_beq_eq_false rfl)).trans hg41_28)
  have hg43_29 : g43 29 = .ref q30 := (congrFun eg43 29).trans ((va_up_ne _ _ (Nat.ne_of_beq_eq_false rfl)).trans hg41_29)
  have hg43_30 : g43 30 = .ref q32 := (congrFun eg43 30).trans ((va_up_ne _ _ (Nat.ne_of_beq_eq_false rfl)).trans hg41_30)
  have hg43_31 : g43 31 = .ref q34 := (congrFun eg43 31).trans ((va_up_ne _ _ (Nat.ne_of_beq_eq_false rfl)).trans hg41_31)
  have hg43_32 : g43 32 = .ref q36 := (congrFun eg43 32).trans ((va_up_ne _ _ (Nat.ne_of_beq_eq_false rfl)).trans hg41_32)
  have hg43_33 : g43 33 = .ref q38 := (congrFun eg43 33).trans ((va_up_ne _ _ (Nat.ne_of_beq_eq_false rfl)).trans hg41_33)
  have hg43_34 : g43 34 = .ref q40 := (congrFun eg43 34).trans ((va_up_ne _ _ (Nat.ne_of_beq_eq_false rfl)).trans hg41_34)
  clear hg41_0 hg41_1 hg41_8 hg41_9 hg41_16 hg41_17 hg41_19 hg41_20 hg41_21 hg41_22 hg41_23 hg41_24 hg41_25 hg41_26 hg41_46 hg41_47 hg41_48 hg41_55 hg41_74 hg41_75 hg41_86 hg41_87 hg41_88 hg41_89 hg41_95 hg41_2 hg41_3 hg41_4 hg41_5 hg41_6 hg41_7 hg41_10 hg41_11 hg41_12 hg41_13 hg41_14 hg41_15 hg41_18 hg41_27 hg41_28 hg41_29 hg41_30 hg41_31 hg41_32 hg41_33 hg41_34
  have hg43_35 : g43 35 = .ref q42 := by rw [eg43]; exact va_up_self _ _ _
  refine lv_aload_n hx hb dX13_init_184 rfl (lv_at hl 0 rfl) ?_
  refine lv_sipush (v := 320) hx hb dX13_init_185 (by decide) ?_
  refine va_newa (atype := .int) (ty := .int) (N' := 320) (a0 := (320, .inl (fun _ => (0 : Int32)))) hx hb (hts _ (vA_in _ _ (in_2 _ (List.mem_of_getElem? (i := 38) rfl)))) rfl hK hP hD hS hA (fun _ => rfl) (by decide) (by decide) (Nat.le_of_ble_eq_true rfl) (Nat.le_of_ble_eq_true rfl) (Nat.le_of_ble_eq_true rfl) dX13_init_188 (fun q44 kq44 H hK hP hD hS => ?_)
  have hK : va_K (dC, dI) vwCl [(kq1, .int), (kq13, .byte), (kq44, .int)] s := hK
  obtain ⟨wq44, ewq44⟩ : ∃ z : va_W, z = wq42 ++ [(q44, .inl (kq44, 320, .inl (fun _ => (0 : Int32))))] := ⟨_, rfl⟩
  replace hP : va_P (dC, dI) vwCl ((h, .inr (14, mL g43)) :: wq44) H := by rw [ewq44]; exact hP
  replace hD : va_D A ((h, .inr (14, mL g43)) :: wq44) := by rw [ewq44]; exact hD
  refine W.widen (k := 22) (n := 4856) (by omega) (by omega) ?_
  obtain rfl : kq1 = kq44 := ub_sa_int hK 0 2 rfl rfl
  have hK := hK.sub (tys' := [(kq1, .int), (kq13, .byte)]) [0, 1] rfl
  refine va_putF (D := (dC, dI)) (ci := 14) (v := .ref q44) (ty := .array .int) (C := RX13) (T := TX13) (N := 97) hx hb hts (fun w h => vA_in _ w (in_X13 w h)) tyX13 tyX13_ok nmX13 hown hK hP hD hS 0 rfl rfl 36 (by decide) (hts _ (vA_in _ _ (in_32 _ (List.mem_of_getElem? (i := 7) rfl)))) (fun _ h9 => h9) rfl hin rfl (by decide +kernel) rfl rfl (mL_lt (Nat.le_of_ble_eq_true rfl)) dX13_init_190 (fun H locs hP hD hS => ?_)
  replace hP : va_P (dC, dI) vwCl ((h, .inr (14, (mL g43).set 36 (.ref q44))) :: wq44) H := hP
  replace hD : va_D A ((h, .inr (14, (mL g43).set 36 (.ref q44))) :: wq44) := hD
  obtain ⟨g45, eg45⟩ : ∃ z9, z9 = va_up g43 36 (.ref q44) := ⟨_, rfl⟩
  rw [mL_upd, ← eg45] at hP hD
  have hg45_0 : g45 0 = .int 0 := (congrFun eg45 0).trans ((va_up_ne _ _ (Nat.ne_of_beq_eq_false rfl)).trans hg43_0)
  have hg45_1 : g45 1 = .int 0 := (congrFun eg45 1).trans ((va_up_ne _ _ (Nat.ne_of_beq_eq_false rfl)).trans hg43_1)
  have hg45_8 : g45 8 = .int 0 := (congrFun eg45 8).trans ((va_up_ne _ _ (Nat.ne_of_beq_eq_false rfl)).trans hg43_8)
  have hg45_9 : g45 9 = .int 0 := (congrFun eg45 9).trans ((va_up_ne _ _ (Nat.ne_of_beq_eq_false rfl)).trans hg43_9)
  have hg45_16 : g45 16 = .int 0 := (congrFun eg45 16).trans ((va_up_ne _ _ (Nat.ne_of_beq_eq_false rfl)).trans hg43_16)
  have hg45_17 : g45 17 = .int 0 := (congrFun eg45 17).trans ((va_up_ne _ _ (Nat.ne_of_beq_eq_false rfl)).trans hg43_17)
  have hg45_19 : g45 19 = .int 0 := (congrFun eg45 19).trans ((va_up_ne _ _ (Nat.ne_of_beq_eq_false rfl)).trans hg43_19)
  have hg45_20 : g45 20 = .int 0 := (congrFun eg45 20).trans ((va_up_ne _ _ (Nat.ne_of_beq_eq_false rfl)).trans hg43_20)
  have hg45_21 : g45 21 = .int 0 := (congrFun eg45 21).trans ((va_up_ne _ _ (Nat.ne_of_beq_eq_false rfl)).trans hg43_21)
  have hg45_22 : g45 22 = .int 0 := (congrFun eg45 22).trans ((va_up_ne _ _ (Nat.ne_of_beq_eq_false rfl)).trans hg43_22)
  have hg45_23 : g45 23 = .int 0 := (congrFun eg45 23).trans ((va_up_ne _ _ (Nat.ne_of_beq_eq_false rfl)).trans hg43_23)
  have hg45_24 : g45 24 = .int 0 := (congrFun eg45 24).trans ((va_up_ne _ _ (Nat.ne_of_beq_eq_false rfl)).trans hg43_24)
  have hg45_25 : g45 25 = .int 0 := (congrFun eg45 25).trans ((va_up_ne _ _ (Nat.ne_of_beq_eq_false rfl)).trans hg43_25)
  have hg45_26 : g45 26 = .int 0 := (congrFun eg45 26).trans ((va_up_ne _ _ (Nat.ne_of_beq_eq_false rfl)).trans hg43_26)
  have hg45_46 : g45 46 = .int 0 := (congrFun eg45 46).trans ((va_up_ne _ _ (Nat.ne_of_beq_eq_false rfl)).trans hg43_46)
  have hg45_47 : g45 47 = .int 0 := (congrFun eg45 47).trans ((va_up_ne _ _ (Nat.ne_of_beq_eq_false rfl)).trans hg43_47)
  have hg45_48 : g45 48 = .int 0 := (congrFun eg45 48).trans ((va_up_ne _ _ (Nat.ne_of_beq_eq_false rfl)).trans hg43_48)
  have hg45_55 : g45 55 = .int 0 := (congrFun eg45 55).trans ((va_up_ne _ _ (Nat.ne_of_beq_eq_false rfl)).trans hg43_55)
  have hg45_74 : g45 74 = .int 0 := (congrFun eg45 74).trans ((va_up_ne _ _ (Nat.ne_of_beq_eq_false rfl)).trans hg43_74)
  have hg45_75 : g45 75 = .int 0 := (congrFun eg45 75).trans ((va_up_ne _ _ (Nat.ne_of_beq_eq_false rfl)).trans hg43_75)
  have hg45_86 : g45 86 = .int 0 := (congrFun eg45 86).trans ((va_up_ne _ _ (Nat.ne_of_beq_eq_false rfl)).trans hg43_86)
  have hg45_87 : g45 87 = .int 0 := (congrFun eg45 87).trans ((va_up_ne _ _ (Nat.ne_of_beq_eq_false rfl)).trans hg43_87)
  have hg45_88 : g45 88 = .int 0 := (congrFun eg45 88).trans ((va_up_ne _ _ (Nat.ne_of_beq_eq_false rfl)).trans hg43_88)
  have hg45_89 : g45 89 = .int 0 := (congrFun eg45 89).trans ((va_up_ne _ _ (Nat.ne_of_beq_eq_false rfl)).trans hg43_89)
  have hg45_95 : g45 95 = .int 0 := (congrFun eg45 95).trans ((va_up_ne _ _ (Nat.ne_of_beq_eq_false rfl)).trans hg43_95)
  have hg45_2 : g45 2 = .ref q1 := (congrFun eg45 2).trans ((va_up_ne _ _ (Nat.ne_of_beq_eq_false rfl)).trans hg43_2)
  have hg45_3 : g45 3 = .ref q3 := (congrFun eg45 3).trans ((va_up_ne _ _ (Nat.ne_of_beq_eq_false rfl)).trans hg43_3)
  have hg45_4 : g45 4 = .ref q5 := (congrFun eg45 4).trans ((va_up_ne _ _ (Nat.ne_of_beq_eq_false rfl)).trans hg43_4)
  have hg45_5 : g45 5 = .ref q7 := (congrFun eg45 5).trans ((va_up_ne _ _ (Nat.ne_of_beq_eq_false rfl)).trans hg43_5)
  have hg45_6 : g45 6 = .ref q9 := (congrFun eg45 6).trans ((va_up_ne _ _ (Nat.ne_of_beq_eq_false rfl)).trans hg43_6)
  have hg45_7 : g45 7 = .ref q11 := (congrFun eg45 7).trans ((va_up_ne _ _ (Nat.ne_of_beq_eq_false rfl)).trans hg43_7)
  have hg45_10 : g45 10 = .ref q13 := (congrFun eg45 10).trans ((va_up_ne _ _ (Nat.ne_of_beq_eq_false rfl)).trans hg43_10)
  have hg45_11 : g45 11 = .ref q15 := (congrFun eg45 11).trans ((va_up_ne _ _ (Nat.ne_of_beq_eq_false rfl)).trans hg43_11)
  have hg45_12 : g45 12 = .ref q17 := (congrFun eg45 12).trans ((va_up_ne _ _ (Nat.ne_of_beq_eq_false rfl)).trans hg43_12)
  have hg45_13 : g45 13 = .ref q19 := (congrFun eg45 13).trans ((va_up_ne _ _ (Nat.ne_of_beq_eq_false rfl)).trans hg43_13)
  have hg45_14 : g45 14 = .ref q21 := (congrFun eg45 14).trans ((va_up_ne _ _ (Nat.ne_of_beq_eq_false rfl)).trans hg43_14)
  have hg45_15 : g45 15 = .ref q23 := (congrFun eg45 15).trans ((va_up_ne _ _ (Nat.ne_of_beq_eq_false rfl)).trans hg43_15)
  have hg45_18 : g45 18 = .ref q13 := (congrFun eg45 18).trans ((va_up_ne _ _ (Nat.ne_of_beq_eq_false rfl)).trans hg43_18)
  have hg45_27 : g45 27 = .ref q26 := (congrFun eg45 27).trans ((va_up_ne _ _ (Nat.ne_of_beq_eq_false rfl)).trans hg43_27)
  have hg45_28 : g45 28 = .ref q28 := (congrFun eg45 28).trans ((va_up_ne _ _ (Nat.ne_of_beq_eq_false rfl)).trans hg43_28)
  have hg45_29 : g45 29 = .ref q30 := (congrFun eg45 29).trans ((va_up_ne _ _ (Nat.ne_of_beq_eq_false rfl)).trans hg43_29)
  have hg45_30 : g45 30 = .ref q32 := (congrFun eg45 30).trans ((va_up_ne _ _ (Nat.ne_of_beq_eq_false rfl)).trans hg43_30)
  have hg45_31 : g45 31 = .ref q34 := (congrFun eg45 31).trans ((va_up_ne _ _ (Nat.ne_of_beq_eq_false rfl)).trans hg43_31)
  have hg45_32 : g45 32 = .ref q36 := (congrFun eg45 32).trans ((va_up_ne _ _ (Nat.ne_of_beq_eq_false rfl)).trans hg43_32)
  have hg45_33 : g45 33 = .ref q38 := (congrFun eg45 33).trans ((va_up_ne _ _ (Nat.ne_of_beq_eq_false rfl)).trans hg43_33)
  have hg45_34 : g45 34 = .ref q40 := (congrFun eg45 34).trans ((va_up_ne _ _ (Nat.ne_of_beq_eq_false rfl)).trans hg43_34)
  have hg45_35 : g45 35 = .ref q42 := (congrFun eg45 35).trans ((va_up_ne _ _ (Nat.ne_of_beq_eq_false rfl)).trans hg43_35)
  clear hg43_0 hg43_1 hg43_8 hg43_9 hg43_16 hg43_17 hg43_19 hg43_20 hg43_21 hg43_22 hg43_23 hg43_24 hg43_25 hg43_26 hg43_46 hg43_47 hg43_48 hg43_55 hg43_74 hg43_75 hg43_86 hg43_87 hg43_88 hg43_89 hg43_95 hg43_2 hg43_3 hg43_4 hg43_5 hg43_6 hg43_7 hg43_10 hg43_11 hg43_12 hg43_13 hg43_14 hg43_15 hg43_18 hg43_27 hg43_28 hg43_29 hg43_30 hg43_31 hg43_32 hg43_33 hg43_34 hg43_35
  have hg45_36 : g45 36 = .ref q44 := by rw [eg45]; exact va_up_self _ _ _
  refine lv_aload_n hx hb dX13_init_193 rfl (lv_at hl 0 rfl) ?_
  refine lv_sipush (v := 320) hx hb dX13_init_194 (by decide) ?_
  refine va_newa (atype := .int) (ty := .int) (N' := 320) (a0 := (320, .inl (fun _ => (0 : Int32)))) hx hb (hts _ (vA_in _ _ (in_2 _ (List.mem_of_getElem? (i := 38) rfl)))) rfl hK hP hD hS hA (fun _ => rfl) (by decide) (by decide) (Nat.le_of_ble_eq_true rfl) (Nat.le_of_ble_eq_true rfl) (Nat.le_of_ble_eq_true rfl) dX13_init_197 (fun q46 kq46 H hK hP hD hS => ?_)
  have hK : va_K (dC, dI) vwCl [(kq1, .int), (kq13, .byte), (kq46, .int)] s := hK
  obtain ⟨wq46, ewq46⟩ : ∃ z : va_W, z = wq44 ++ [(q46, .inl (kq46, 320, .inl (fun _ => (0 : Int32))))] := ⟨_, rfl⟩
  replace hP : va_P (dC, dI) vwCl ((h, .inr (14, mL g45)) :: wq46) H := by rw [ewq46]; exact hP
  replace hD : va_D A ((h, .inr (14, mL g45)) :: wq46) := by rw [ewq46]; exact hD
  refine W.widen (k := 23) (n := 5176) (by omega) (by omega) ?_
  obtain rfl : kq1 = kq46 := ub_sa_int hK 0 2 rfl rfl
  have hK := hK.sub (tys' := [(kq1, .int), (kq13, .byte)]) [0, 1] rfl
  refine va_putF (D := (dC, dI)) (ci := 14) (v := .ref q46) (ty := .array .int) (C := RX13) (T := TX13) (N := 97) hx hb hts (fun w h => vA_in _ w (in_X13 w h)) tyX13 tyX13_ok nmX13 hown hK hP hD hS 0 rfl rfl 37 (by decide) (hts _ (vA_in _ _ (in_32 _ (List.mem_of_getElem? (i := 8) rfl)))) (fun _ h9 => h9) rfl hin rfl (by decide +kernel) rfl rfl (mL_lt (Nat.le_of_ble_eq_true rfl)) dX13_init_199 (fun H locs hP hD hS => ?_)
  replace hP : va_P (dC, dI) vwCl ((h, .inr (14, (mL g45).set 37 (.ref q46))) :: wq46) H := hP
  replace hD : va_D A ((h, .inr (14, (mL g45).set 37 (.ref q46))) :: wq46) := hD
  obtain ⟨g47, eg47⟩ : ∃ z9, z9 = va_up g45 37 (.ref q46) := ⟨_, rfl⟩
  rw [mL_upd, ← eg47] at hP hD
  have hg47_0 : g47 0 = .int 0 := (congrFun eg47 0).trans ((va_up_ne _ _ (Nat.ne_of_beq_eq_false rfl)).trans hg45_0)
  have hg47_1 : g47 1 = .int 0 := (congrFun eg47 1).trans ((va_up_ne _ _ (Nat.ne_of_beq_eq_false rfl)).trans hg45_1)
  have hg47_8 : g47 8 = .int 0 := (congrFun eg47 8).trans ((va_up_ne _ _ (Nat.ne_of_beq_eq_false rfl)).trans hg45_8)
  have hg47_9 : g47 9 = .int 0 := (congrFun eg47 9).trans ((va_up_ne _ _ (Nat.ne_of_beq_eq_false rfl)).trans hg45_9)
  have hg47_16 : g47 16 = .int 0 := (congrFun eg47 16).trans ((va_up_ne _ _ (Nat.ne_of_beq_eq_false rfl)).trans hg45_16)
  have hg47_17 : g47 17 = .int 0 := (congrFun eg47 17).trans ((va_up_ne _ _ (Nat.ne_of_beq_eq_false rfl)).trans hg45_17)
  have hg47_19 : g47 19 = .int 0 := (congrFun eg47 19).trans ((va_up_ne _ _ (Nat.ne_of_beq_eq_false rfl)).trans hg45_19)
  have hg47_20 : g47 20 = .int 0 := (congrFun eg47 20).trans ((va_up_ne _ _ (Nat.ne_of_beq_eq_false rfl)).trans hg45_20)
  have hg47_21 : g47 21 = .int 0 := (congrFun eg47 21).trans ((va_up_ne _ _ (Nat.ne_of_beq_eq_false rfl)).trans hg45_21)
  have hg47_22 : g47 22 = .int 0 := (congrFun eg47 22).trans ((va_up_ne _ _ (Nat.ne_of_beq_eq_false rfl)).trans hg45_22)
  have hg47_23 : g47 23 = .int 0 := (congrFun eg47 23).trans ((va_up_ne _ _ (Nat.ne_of_beq_eq_false rfl)).trans hg45_23)
  have hg47_24 : g47 24 = .int 0 := (congrFun eg47 24).trans ((va_up_ne _ _ (Nat.ne_of_beq_eq_false rfl)).trans hg45_24)
  have hg47_25 : g47 25 = .int 0 := (congrFun eg47 25).trans ((va_up_ne _ _ (Nat.ne_of_beq_eq_false rfl)).trans hg45_25)
  have hg47_26 : g47 26 = .int 0 := (congrFun eg47 26).trans ((va_up_ne _ _ (Nat.ne_of_beq_eq_false rfl)).trans hg45_26)
  have hg47_46 : g47 46 = .int 0 := (congrFun eg47 46).trans ((va_up_ne _ _ (Nat.ne_of_beq_eq_false rfl)).trans hg45_46)
  have hg47_47 : g47 47 = .int 0 := (congrFun eg47 47).trans ((va_up_ne _ _ (Nat.ne_of_beq_eq_false rfl)).trans hg45_47)
  have hg47_48 : g47 48 = .int 0 := (congrFun eg47 48).trans ((va_up_ne _ _ (Nat.ne_of_beq_eq_false rfl)).trans hg45_48)
  have hg47_55 : g47 55 = .int 0 := (congrFun eg47 55).trans ((va_up_ne _ _ (Nat.ne_of_beq_eq_false rfl)).trans hg45_55)
  have hg47_74 : g47 74 = .int 0 := (congrFun eg47 74).trans ((va_up_ne _ _ (Nat.ne_of_beq_eq_false rfl)).trans hg45_74)
  have hg47_75 : g47 75 = .int 0 := (congrFun eg47 75).trans ((va_up_ne _ _ (Nat.ne_of_beq_eq_false rfl)).trans hg45_75)
  have hg47_86 : g47 86 = .int 0 := (congrFun eg47 86).trans ((va_up_ne _ _ (Nat.ne_of_beq_eq_false rfl)).trans hg45_86)
  have hg47_87 : g47 87 = .int 0 := (congrFun eg47 87).trans ((va_up_ne _ _ (Nat.ne_of_beq_eq_false rfl)).trans hg45_87)
  have hg47_88 : g47 88 = .int 0 := (congrFun eg47 88).trans ((va_up_ne _ _ (Nat.ne_of_beq_eq_false rfl)).trans hg45_88)
  have hg47_89 : g47 89 = .int 0 := (congrFun eg47 89).trans ((va_up_ne _ _ (Nat.ne_of_beq_eq_false rfl)).trans hg45_89)
  have hg47_95 : g47 95 = .int 0 := (congrFun eg47 95).trans ((va_up_ne _ _ (Nat.ne_of_beq_eq_false rfl)).trans hg45_95)
  have hg47_2 : g47 2 = .ref q1 := (congrFun eg47 2).trans ((va_up_ne _ _ (Nat.ne_of_beq_eq_false rfl)).trans hg45_2)
  have hg47_3 : g47 3 = .ref q3 := (congrFun eg47 3).trans ((va_up_ne _ _ (Nat.ne_of_beq_eq_false rfl)).trans hg45_3)
  have hg47_4 : g47 4 = .ref q5 := (congrFun eg47 4).trans ((va_up_ne _ _ (Nat.ne_of_beq_eq_false rfl)).trans hg45_4)
  have hg47_5 : g47 5 = .ref q7 := (congrFun eg47 5).trans ((va_up_ne _ _ (Nat.ne_of_beq_eq_false rfl)).trans hg45_5)
  have hg47_6 : g47 6 = .ref q9 := (congrFun eg47 6).trans ((va_up_ne _ _ (Nat.ne_of_beq_eq_false rfl)).trans hg45_6)
  have hg47_7 : g47 7 = .ref q11 := (congrFun eg47 7).trans ((va_up_ne _ _ (Nat.ne_of_beq_eq_false rfl)).trans hg45_7)
  have hg47_10 : g47 10 = .ref q13 := (congrFun eg47 10).trans ((va_up_ne _ _ (Nat.ne_of_beq_eq_false rfl)).trans hg45_10)
  have hg47_11 : g47 11 = .ref q15 := (congrFun eg47 11).trans ((va_up_ne _ _ (Nat.ne_of_beq_eq_false rfl)).trans hg45_11)
  have hg47_12 : g47 12 = .ref q17 := (congrFun eg47 12).trans ((va_up_ne _ _ (Nat.ne_of_beq_eq_false rfl)).trans hg45_12)
  have hg47_13 : g47 13 = .ref q19 := (congrFun eg47 13).trans ((va_up_ne _ _ (Nat.ne_of_beq_eq_false rfl)).trans hg45_13)
  have hg47_14 : g47 14 = .ref q21 := (congrFun eg47 14).trans ((va_up_ne _ _ (Nat.ne_of_beq_eq_false rfl)).trans hg45_14)
  have hg47_15 : g47 15 = .ref q23 := (congrFun eg47 15).trans ((va_up_ne _ _ (Nat.ne_of_beq_eq_false rfl)).trans hg45_15)
  have hg47_18 : g47 18 = .ref q13 := (congrFun eg47 18).trans ((va_up_ne _ _ (Nat.ne_of_beq_eq_false rfl)).trans hg45_18)
  have hg47_27 : g47 27 = .ref q26 := (congrFun eg47 27).trans ((va_up_ne _ _ (Nat.ne_of_beq_eq_false rfl)).trans hg45_27)
  have hg47_28 : g47 28 = .ref q28 := (congrFun eg47 28).trans ((va_up_ne _ _ (Nat.ne_of_beq_eq_false rfl)).trans hg45_28)
  have hg47_29 : g47 29 = .ref q30 := (congrFun eg47 29).trans ((va_up_ne _ _ (Nat.ne_of_beq_eq_false rfl)).trans hg45_29)
  have hg47_30 : g47 30 = .ref q32 := (congrFun eg47 30).trans ((va_up_ne _ _ (Nat.ne_of_beq_eq_false rfl)).trans hg45_30)
  have hg47_31 : g47 31 = .ref q34 := (congrFun eg47 31).trans ((va_up_ne _ _ (Nat.ne_of_beq_eq_false rfl)).trans hg45_31)
  have hg47_32 : g47 32 = .ref q36 := (congrFun eg47 32).trans ((va_up_ne _ _ (Nat.ne_of_beq_eq_false rfl)).trans hg45_32)
  have hg47_33 : g47 33 = .ref q38 := (congrFun eg47 33).trans ((va_up_ne _ _ (Nat.ne_of_beq_eq_false rfl)).trans hg45_33)
  have hg47_34 : g47 34 = .ref q40 := (congrFun eg47 34).trans ((va_up_ne _ _ (Nat.ne_of_beq_eq_false rfl)).trans hg45_34)
  have hg47_35 : g47 35 = .ref q42 := (congrFun eg47 35).trans ((va_up_ne _ _ (Nat.ne_of_beq_eq_false rfl)).trans hg45_35)
  have hg47_36 : g47 36 = .ref q44 := (congrFun eg47 36).trans ((va_up_ne _ _ (Nat.ne_of_beq_eq_false rfl)).trans hg45_36)
  clear hg45_0 hg45_1 hg45_8 hg45_9 hg45_16 hg45_17 hg45_19 hg45_20 hg45_21 hg45_22 hg45_23 hg45_24 hg45_25 hg45_26 hg45_46 hg45_47 hg45_48 hg45_55 hg45_74 hg45_75 hg45_86 hg45_87 hg45_88 hg45_89 hg45_95 hg45_2 hg45_3 hg45_4 hg45_5 hg45_6 hg45_7 hg45_10 hg45_11 hg45_12 hg45_13 hg45_14 hg45_15 hg45_18 hg45_27 hg45_28 hg45_29 hg45_30 hg45_31 hg45_32 hg45_33 hg45_34 hg45_35 hg45_36
  have hg47_37 : g47 37 = .ref q46 := by rw [eg47]; exact va_up_self _ _ _
  refine lv_aload_n hx hb dX13_init_202 rfl (lv_at hl 0 rfl) ?_
  refine lv_sipush (v := 300) hx hb dX13_init_203 (by decide) ?_
  refine va_newa (atype := .int) (ty := .int) (N' := 300) (a0 := (300, .inl (fun _ => (0 : Int32)))) hx hb (hts _ (vA_in _ _ (in_2 _ (List.mem_of_getElem? (i := 38) rfl)))) rfl hK hP hD hS hA (fun _ => rfl) (by decide) (by decide) (Nat.le_of_ble_eq_true rfl) (Nat.le_of_ble_eq_true rfl) (Nat.le_of_ble_eq_true rfl) dX13_init_206 (fun q48 kq48 H hK hP hD hS => ?_)
  have hK : va_K (dC, dI) vwCl [(kq1, .int), (kq13, .byte), (kq48, .int)] s := hK
  obtain ⟨wq48, ewq48⟩ : ∃ z : va_W, z = wq46 ++ [(q48, .inl (kq48, 300, .inl (fun _ => (0 : Int32))))] := ⟨_, rfl⟩
  replace hP : va_P (dC, dI) vwCl ((h, .inr (14, mL g47)) :: wq48) H := by rw [ewq48]; exact hP
  replace hD : va_D A ((h, .inr (14, mL g47)) :: wq48) := by rw [ewq48]; exact hD
  refine W.widen (k := 24) (n := 5476) (by omega) (by omega) ?_
  obtain rfl : kq1 = kq48 := ub_sa_int hK 0 2 rfl rfl
  have hK := hK.sub (tys' := [(kq1, .int), (kq13, .byte)]) [0, 1] rfl
  refine va_putF (D := (dC, dI)) (ci := 14) (v := .ref q48) (ty := .array .int) (C := RX13) (T := TX13) (N := 97) hx hb hts (fun w h => vA_in _ w (in_X13 w h)) tyX13 tyX13_ok nmX13 hown hK hP hD hS 0 rfl rfl 38 (by decide) (hts _ (vA_in _ _ (in_28 _ (List.mem_of_getElem? (i := 14) rfl)))) (fun _ h9 => h9) rfl hin rfl (by decide +kernel) rfl rfl (mL_lt (Nat.le_of_ble_eq_true rfl)) dX13_init_208 (fun H locs hP hD hS => ?_)
  replace hP : va_P (dC, dI) vwCl ((h, .inr (14, (mL g47).set 38 (.ref q48))) :: wq48) H := hP
  replace hD : va_D A ((h, .inr (14, (mL g47).set 38 (.ref q48))) :: wq48) := hD
  obtain ⟨g49, eg49⟩ : ∃ z9, z9 = va_up g47 38 (.ref q48) := ⟨_, rfl⟩
  rw [mL_upd, ← eg49] at hP hD
  have hg49_0 : g49 0 = .int 0 := (congrFun eg49 0).trans ((va_up_ne _ _ (Nat.ne_of_beq_eq_false rfl)).trans hg47_0)
  have hg49_1 : g49 1 = .int 0 := (congrFun eg49 1).trans ((va_up_ne _ _ (Nat.ne_of_beq_eq_false rfl)).trans hg47_1)
  have hg49_8 : g49 8 = .int 0 := (congrFun eg49 8).trans ((va_up_ne _ _ (Nat.ne_of_beq_eq_false rfl)).trans hg47_8)
  have hg49_9 : g49 9 = .int 0 := (congrFun eg49 9).trans ((va_up_ne _ _ (Nat.ne_of_beq_eq_false rfl)).trans hg47_9)
  have hg49_16 : g49 16 = .int 0 := (congrFun eg49 16).trans ((va_up_ne _ _ (Nat.ne_of_beq_eq_false rfl)).trans hg47_16)
  have hg49_17 : g49 17 = .int 0 := (congrFun eg49 17).trans ((va_up_ne _ _ (Nat.ne_of_beq_eq_false rfl)).trans hg47_17)
  have hg49_19 : g49 19 = .int 0 := (congrFun eg49 19).trans ((va_up_ne _ _ (Nat.ne_of_beq_eq_false rfl)).trans hg47_19)
  have hg49_20 : g49 20 = .int 0 := (congrFun eg49 20).trans ((va_up_ne _ _ (Nat.ne_of_beq_eq_false rfl)).trans hg47_20)
  have hg49_21 : g49 21 = .int 0 := (congrFun eg49 21).trans ((va_up_ne _ _ (Nat.ne_of_beq_eq_false rfl)).trans hg47_21)
  have hg49_22 : g49 22 = .int 0 := (congrFun eg49 22).trans ((va_up_ne _ _ (Nat.ne_of_beq_eq_false rfl)).trans hg47_22)
  have hg49_23 : g49 23 = .int 0 := (congrFun eg49 23).trans ((va_up_ne _ _ (Nat.ne_of_beq_eq_false rfl)).trans hg47_23)
  have hg49_24 : g49 24 = .int 0 := (congrFun eg49 24).trans ((va_up_ne _ _ (Nat.ne_of_beq_eq_false rfl)).trans hg47_24)
  have hg49_25 : g49 25 = .int 0 := (congrFun eg49 25).trans ((va_up_ne _ _ (Nat.ne_of_beq_eq_false rfl)).trans hg47_25)
  have hg49_26 : g49 26 = .int 0 := (congrFun eg49 26).trans ((va_up_ne _ _ (Nat.ne_of_beq_eq_false rfl)).trans hg47_26)
  have hg49_46 : g49 46 = .int 0 := (congrFun eg49 46).trans ((va_up_ne _ _ (Nat.ne_of_beq_eq_false rfl)).trans hg47_46)
  have hg49_47 : g49 47 = .int 0 := (congrFun eg49 47).trans ((va_up_ne _ _ (Nat.ne_of_beq_eq_false rfl)).trans hg47_47)
  have hg49_48 : g49 48 = .int 0 := (congrFun eg49 48).trans ((va_up_ne _ _ (Nat.ne_of_beq_eq_false rfl)).trans hg47_48)
  have hg49_55 : g49 55 = .int 0 := (congrFun eg49 55).trans ((va_up_ne _ _ (Nat.ne_of_beq_eq_false rfl)).trans hg47_55)
  have hg49_74 : g49 74 = .int 0 := (congrFun eg49 74).trans ((va_up_ne _ _ (Nat.ne_of_beq_eq_false rfl)).trans hg47_74)
  have hg49_75 : g49 75 = .int 0 := (congrFun eg49 75).trans ((va_up_ne _ _ (Nat.ne_of_beq_eq_false rfl)).trans hg47_75)
  have hg49_86 : g49 86 = .int 0 := (congrFun eg49 86).trans ((va_up_ne _ _ (Nat.ne_of_beq_eq_false rfl)).trans hg47_86)
  have hg49_87 : g49 87 = .int 0 := (congrFun eg49 87).trans ((va_up_ne _ _ (Nat.ne_of_beq_eq_false rfl)).trans hg47_87)
  have hg49_88 : g49 88 = .int 0 := (congrFun eg49 88).trans ((va_up_ne _ _ (Nat.ne_of_beq_eq_false rfl)).trans hg47_88)
  have hg49_89 : g49 89 = .int 0 := (congrFun eg49 89).trans ((va_up_ne _ _ (Nat.ne_of_beq_eq_false rfl)).trans hg47_89)
  have hg49_95 : g49 95 = .int 0 := (congrFun eg49 95).trans ((va_up_ne _ _ (Nat.ne_of_beq_eq_false rfl)).trans hg47_95)
  have hg49_2 : g49 2 = .ref q1 := (congrFun eg49 2).trans ((va_up_ne _ _ (Nat.ne_of_beq_eq_false rfl)).trans hg47_2)
  have hg49_3 : g49 3 = .ref q3 := (congrFun eg49 3).trans ((va_up_ne _ _ (Nat.ne_of_beq_eq_false rfl)).trans hg47_3)
  have hg49_4 : g49 4 = .ref q5 := (congrFun eg49 4).trans ((va_up_ne _ _ (Nat.ne_of_beq_eq_false rfl)).trans hg47_4)
  have hg49_5 : g49 5 = .ref q7 := (congrFun eg49 5).trans ((va_up_ne _ _ (Nat.ne_of_beq_eq_false rfl)).trans hg47_5)
  have hg49_6 : g49 6 = .ref q9 := (congrFun eg49 6).trans ((va_up_ne _ _ (Nat.ne_of_beq_eq_false rfl)).trans hg47_6)
  have hg49_7 : g49 7 = .ref q11 := (congrFun eg49 7).trans ((va_up_ne _ _ (Nat.ne_of_beq_eq_false rfl)).trans hg47_7)
  have hg49_10 : g49 10 = .ref q13 := (congrFun eg49 10).trans ((va_up_ne _ _ (Nat.ne_of_beq_eq_false rfl)).trans hg47_10)
  have hg49_11 : g49 11 = .ref q15 := (congrFun eg49 11).trans ((va_up_ne _ _ (Nat.ne_of_beq_eq_false rfl)).trans hg47_11)
  have hg49_12 : g49 12 = .ref q17 := (congrFun eg49 12).trans ((va_up_ne _ _ (Nat.ne_of_beq_eq_false rfl)).trans hg47_12)
  have hg49_13 : g49 13 = .ref q19 := (congrFun eg49 13).trans ((va_up_ne _ _ (Nat.ne_of_beq_eq_false rfl)).trans hg47_13)
  have hg49_14 : g49 14 = .ref q21 := (congrFun eg49 14).trans ((va_up_ne _ _ (Nat.ne_of_beq_eq_false rfl)).trans hg47_14)
  have hg49_15 : g49 15 = .ref q23 := (congrFun eg49 15).trans ((va_up_ne _ _ (Nat.ne_of_beq_eq_false rfl)).trans hg47_15)
  have hg49_18 : g49 18 = .ref q13 := (congrFun eg49 18).trans ((va_up_ne _ _ (Nat.ne_of_beq_eq_false rfl)).trans hg47_18)
  have hg49_27 : g49 27 = .ref q26 := (congrFun eg49 27).trans ((va_up_ne _ _ (Nat.ne_of_beq_eq_false rfl)).trans hg47_27)
  have hg49_28 : g49 28 = .ref q28 := (congrFun eg49 28).trans ((va_up_ne _ _ (Nat.ne_of_beq_eq_false rfl)).trans hg47_28)
  have hg49_29 : g49 29 = .ref q30 := (congrFun eg49 29).trans ((va_up_ne _ _ (Nat.ne_of_beq_eq_false rfl)).trans hg47_29)
  have hg49_30 : g49 30 = .ref q32 := (congrFun eg49 30).trans ((va_up_ne _ _ (Nat.ne_of_beq_eq_false rfl)).trans hg47_30)
  have hg49_31 : g49 31 = .ref q34 := (congrFun eg49 31).trans ((va_up_ne _ _ (Nat.ne_of_beq_eq_false rfl)).trans hg47_31)
  have hg49_32 : g49 32 = .ref q36 := (congrFun eg49 32).trans ((va_up_ne _ _ (Nat.ne_of_beq_eq_false rfl)).trans hg47_32)
  have hg49_33 : g49 33 = .ref q38 := (congrFun eg49 33).trans ((va_up_ne _ _ (Nat.ne_of_beq_eq_false rfl)).trans hg47_33)
  have hg49_34 : g49 34 = .ref q40 := (congrFun eg49 34).trans ((va_up_ne _ _ (Nat.ne_of_beq_eq_false rfl)).trans hg47_34)
  have hg49_35 : g49 35 = .ref q42 := (congrFun eg49 35).trans ((va_up_ne _ _ (Nat.ne_of_beq_eq_false rfl)).trans hg47_35)
  have hg49_36 : g49 36 = .ref q44 := (congrFun eg49 36).trans ((va_up_ne _ _ (Nat.ne_of_beq_eq_false rfl)).trans hg47_36)
  have hg49_37 : g49 37 = .ref q46 := (congrFun eg49 37).trans ((va_up_ne _ _ (Nat.ne_of_beq_eq_false rfl)).trans hg47_37)
  clear hg47_0 hg47_1 hg47_8 hg47_9 hg47_16 hg47_17 hg47_19 hg47_20 hg47_21 hg47_22 hg47_23 hg47_24 hg47_25 hg47_26 hg47_46 hg47_47 hg47_48 hg47_55 hg47_74 hg47_75 hg47_86 hg47_87 hg47_88 hg47_89 hg47_95 hg47_2 hg47_3 hg47_4 hg47_5 hg47_6 hg47_7 hg47_10 hg47_11 hg47_12 hg47_13 hg47_14 hg47_15 hg47_18 hg47_27 hg47_28 hg47_29 hg47_30 hg47_31 hg47_32 hg47_33 hg47_34 hg47_35 hg47_36 hg47_37
  have hg49_38 : g49 38 = .ref q48 := by rw [eg49]; exact va_up_self _ _ _
  refine lv_aload_n hx hb dX13_init_211 rfl (lv_at hl 0 rfl) ?_
  refine lv_sipush (v := 300) hx hb dX13_init_212 (by decide) ?_
  refine va_newa (atype := .int) (ty := .int) (N' := 300) (a0 := (300, .inl (fun _ => (0 : Int32)))) hx hb (hts _ (vA_in _ _ (in_2 _ (List.mem_of_getElem? (i := 38) rfl)))) rfl hK hP hD hS hA (fun _ => rfl) (by decide) (by decide) (Nat.le_of_ble_eq_true rfl) (Nat.le_of_ble_eq_true rfl) (Nat.le_of_ble_eq_true rfl) dX13_init_215 (fun q50 kq50 H hK hP hD hS => ?_)
  have hK : va_K (dC, dI) vwCl [(kq1, .int), (kq13, .byte), (kq50, .int)] s := hK
  obtain ⟨wq50, ewq50⟩ : ∃ z : va_W, z = wq48 ++ [(q50, .inl (kq50, 300, .inl (fun _ => (0 : Int32))))] := ⟨_, rfl⟩
  replace hP : va_P (dC, dI) vwCl ((h, .inr (14, mL g49)) :: wq50) H := by rw [ewq50]; exact hP
  replace hD : va_D A ((h, .inr (14, mL g49)) :: wq50) := by rw [ewq50]; exact hD
  refine W.widen (k := 25) (n := 5776) (by omega) (by omega) ?_
  obtain rfl : kq1 = kq50 := ub_sa_int hK 0 2 rfl rfl
  have hK := hK.sub (tys' := [(kq1, .int), (kq13, .byte)]) [0, 1] rfl
  refine va_putF (D := (dC, dI)) (ci := 14) (v := .ref q50) (ty := .array .int) (C := RX13) (T := TX13) (N := 97) hx hb hts (fun w h => vA_in _ w (in_X13 w h)) tyX13 tyX13_ok nmX13 hown hK hP hD hS 0 rfl rfl 39 (by decide) (hts _ (vA_in _ _ (in_28 _ (List.mem_of_getElem? (i := 15) rfl)))) (fun _ h9 => h9) rfl hin rfl (by decide +kernel) rfl rfl (mL_lt (Nat.le_of_ble_eq_true rfl)) dX13_init_217 (fun H locs hP hD hS => ?_)
  replace hP : va_P (dC, dI) vwCl ((h, .inr (14, (mL g49).set 39 (.ref q50))) :: wq50) H := hP
  replace hD : va_D A ((h, .inr (14, (mL g49).set 39 (.ref q50))) :: wq50) := hD
  obtain ⟨g51, eg51⟩ : ∃ z9, z9 = va_up g49 39 (.ref q50) := ⟨_, rfl⟩
  rw [mL_upd, ← eg51] at hP hD
  have hg51_0 : g51 0 = .int 0 := (congrFun eg51 0).trans ((va_up_ne _ _ (Nat.ne_of_beq_eq_false rfl)).trans hg49_0)
  have hg51_1 : g51 1 = .int 0 := (congrFun eg51 1).trans ((va_up_ne _ _ (Nat.ne_of_beq_eq_false rfl)).trans hg49_1)
  have hg51_8 : g51 8 = .int 0 := (congrFun eg51 8).trans ((va_up_ne _ _ (Nat.ne_of_beq_eq_false rfl)).trans hg49_8)
  have hg51_9 : g51 9 = .int 0 := (congrFun eg51 9).trans ((va_up_ne _ _ (Nat.ne_of_beq_eq_false rfl)).trans hg49_9)
  have hg51_16 : g51 16 = .int 0 := (congrFun eg51 16).trans ((va_up_ne _ _ (Nat.ne_of_beq_eq_false rfl)).trans hg49_16)
  have hg51_17 : g51 17 = .int 0 := (congrFun eg51 17).trans ((va_up_ne _ _ (Nat.ne_of_beq_eq_false rfl)).trans hg49_17)
  have hg51_19 : g51 19 = .int 0 := (congrFun eg51 19).trans ((va_up_ne _ _ (Nat.ne_of_beq_eq_false rfl)).trans hg49_19)
  have hg51_20 : g51 20 = .int 0 := (congrFun eg51 20).trans ((va_up_ne _ _ (Nat.ne_of_beq_eq_false rfl)).trans hg49_20)
  have hg51_21 : g51 21 = .int 0 := (congrFun eg51 21).trans ((va_up_ne _ _ (Nat.ne_of_beq_eq_false rfl)).trans hg49_21)
  have hg51_22 : g51 22 = .int 0 := (congrFun eg51 22).trans ((va_up_ne _ _ (Nat.ne_of_beq_eq_false rfl)).trans hg49_22)
  have hg51_23 : g51 23 = .int 0 := (congrFun eg51 23).trans ((va_up_ne _ _ (Nat.ne_of_beq_eq_false rfl)).trans hg49_23)
  have hg51_24 : g51 24 = .int 0 := (congrFun eg51 24).trans ((va_up_ne _ _ (Nat.ne_of_beq_eq_false rfl)).trans hg49_24)
  have hg51_25 : g51 25 = .int 0 := (congrFun eg51 25).trans ((va_up_ne _ _ (Nat.ne_of_beq_eq_false rfl)).trans hg49_25)
  have hg51_26 : g51 26 = .int 0 := (congrFun eg51 26).trans ((va_up_ne _ _ (Nat.ne_of_beq_eq_false rfl)).trans hg49_26)
  have hg51_46 : g51 46 = .int 0 := (congrFun eg51 46).trans ((va_up_ne _ _ (Nat.ne_of_beq_eq_false rfl)).trans hg49_46)
  have hg51_47 : g51 47 = .int 0 := (congrFun eg51 47).trans ((va_up_ne _ _ (Nat.ne_of_beq_eq_false rfl)).trans hg49_47)
  have hg51_48 : g51 48 = .int 0 := (congrFun eg51 48).trans ((va_up_ne _ _ (Nat.ne_of_beq_eq_false rfl)).trans hg49_48)
  have hg51_55 : g51 55 = .int 0 := (congrFun eg51 55).trans ((va_up_ne _ _ (Nat.ne_of_beq_eq_false rfl)).trans hg49_55)
  have hg51_74 : g51 74 = .int 0 := (congrFun eg51 74).trans ((va_up_ne _ _ (Nat.ne_of_beq_eq_false rfl)).trans hg49_74)
  have hg51_75 : g51 75 = .int 0 := (congrFun eg51 75).trans ((va_up_ne _ _ (Nat.ne_of_beq_eq_false rfl)).trans hg49_75)
  have hg51_86 : g51 86 = .int 0 := (congrFun eg51 86).trans ((va_up_ne _ _ (Nat.ne_of_beq_eq_false rfl)).trans hg49_86)
  have hg51_87 : g51 87 = .int 0 := (congrFun eg51 87).trans ((va_up_ne _ _ (Nat.ne_of_beq_eq_false rfl)).trans hg49_87)
  have hg51_88 : g51 88 = .int 0 := (congrFun eg51 88).trans ((va_up_ne _ _ (Nat.ne_of_beq_eq_false rfl)).trans hg49_88)
  have hg51_89 : g51 89 = .int 0 := (congrFun eg51 89).trans ((va_up_ne _ _ (Nat.ne_of_beq_eq_false rfl)).trans hg49_89)
  have hg51_95 : g51 95 = .int 0 := (congrFun eg51 95).trans ((va_up_ne _ _ (Nat.ne_of_beq_eq_false rfl)).trans hg49_95)
  have hg51_2 : g51 2 = .ref q1 := (congrFun eg51 2).trans ((va_up_ne _ _ (Nat.ne_of_beq_eq_false rfl)).trans hg49_2)
  have hg51_3 : g51 3 = .ref q3 := (congrFun eg51 3).trans ((va_up_ne _ _ (Nat.ne_of_beq_eq_false rfl)).trans hg49_3)
  have hg51_4 : g51 4 = .ref q5 := (congrFun eg51 4).trans ((va_up_ne _ _ (Nat.ne_of_beq_eq_false rfl)).trans hg49_4)
  have hg51_5 : g51 5 = .ref q7 := (congrFun eg51 5).trans ((va_up_ne _ _ (Nat.ne_of_beq_eq_false rfl)).trans hg49_5)
  have hg51_6 : g51 6 = .ref q9 := (congrFun eg51 6).trans ((va_up_ne _ _ (Nat.ne_of_beq_eq_false rfl)).trans hg49_6)
  have hg51_7 : g51 7 = .ref q11 := (congrFun eg51 7).trans ((va_up_ne _ _ (Nat.ne_of_beq_eq_false rfl)).trans hg49_7)
  have hg51_10 : g51 10 = .ref q13 := (congrFun eg51 10).trans ((va_up_ne _ _ (Nat.ne_of_beq_eq_false rfl)).trans hg49_10)
  have hg51_11 : g51 11 = .ref q15 := (congrFun eg51 11).trans ((va_up_ne _ _ (Nat.ne_of_beq_eq_false rfl)).trans hg49_11)
  have hg51_12 : g51 12 = .ref q17 := (congrFun eg51 12).trans ((va_up_ne _ _ (Nat.ne_of_beq_eq_false rfl)).trans hg49_12)
  have hg51_13 : g51 13 = .ref q19 := (congrFun eg51 13).trans ((va_up_ne _ _ (Nat.ne_of_beq_eq_false rfl)).trans hg49_13)
  have hg51_14 : g51 14 = .ref q21 := (congrFun eg51 14).trans ((va_up_ne _ _ (Nat.ne_of_beq_eq_false rfl)).trans hg49_14)
  have hg51_15 : g51 15 = .ref q23 := (congrFun eg51 15).trans ((va_up_ne _ _ (Nat.ne_of_beq_eq_false rfl)).trans hg49_15)
  have hg51_18 : g51 18 = .ref q13 := (congrFun eg51 18).trans ((va_up_ne _ _ (Nat.ne_of_beq_eq_false rfl)).trans hg49_18)
  have hg51_27 : g51 27 = .ref q26 := (congrFun eg51 27).trans ((va_up_ne _ _ (Nat.ne_of_beq_eq_false rfl)).trans hg49_27)
  have hg51_28 : g51 28 = .ref q28 := (congrFun eg51 28).trans ((va_up_ne _ _ (Nat.ne_of_beq_eq_false rfl)).trans hg49_28)
  have hg51_29 : g51 29 = .ref q30 := (congrFun eg51 29).trans ((va_up_ne _ _ (Nat.ne_of_beq_eq_false rfl)).trans hg49_29)
  have hg51_30 : g51 30 = .ref q32 := (congrFun eg51 30).trans ((va_up_ne _ _ (Nat.ne_of_beq_eq_false rfl)).trans hg49_30)
  have hg51_31 : g51 31 = .ref q34 := (congrFun eg51 31).trans ((va_up_ne _ _ (Nat.ne_of_beq_eq_false rfl)).trans hg49_31)
  have hg51_32 : g51 32 = .ref q36 := (congrFun eg51 32).trans ((va_up_ne _ _ (Nat.ne_of_beq_eq_false rfl)).trans hg49_32)
  have hg51_33 : g51 33 = .ref q38 := (congrFun eg51 33).trans ((va_up_ne _ _ (Nat.ne_of_beq_eq_false rfl)).trans hg49_33)
  have hg51_34 : g51 34 = .ref q40 := (congrFun eg51 34).trans ((va_up_ne _ _ (Nat.ne_of_beq_eq_false rfl)).trans hg49_34)
  have hg51_35 : g51 35 = .ref q42 := (congrFun eg51 35).trans ((va_up_ne _ _ (Nat.ne_of_beq_eq_false rfl)).trans hg49_35)
  have hg51_36 : g51 36 = .ref q44 := (congrFun eg51 36).trans ((va_up_ne _ _ (Nat.ne_of_beq_eq_false rfl)).trans hg49_36)
  have hg51_37 : g51 37 = .ref q46 := (congrFun eg51 37).trans ((va_up_ne _ _ (Nat.ne_of_beq_eq_false rfl)).trans hg49_37)
  have hg51_38 : g51 38 = .ref q48 := (congrFun eg51 38).trans ((va_up_ne _ _ (Nat.ne_of_beq_eq_false rfl)).trans hg49_38)
  clear hg49_0 hg49_1 hg49_8 hg49_9 hg49_16 hg49_17 hg49_19 hg49_20 hg49_21 hg49_22 hg49_23 hg49_24 hg49_25 hg49_26 hg49_46 hg49_47 hg49_48 hg49_55 hg49_74 hg49_75 hg49_86 hg49_87 hg49_88 hg49_89 hg49_95 hg49_2 hg49_3 hg49_4 hg49_5 hg49_6 hg49_7 hg49_10 hg49_11 hg49_12 hg49_13 hg49_14 hg49_15 hg49_18 hg49_27 hg49_28 hg49_29 hg49_30 hg49_31 hg49_32 hg49_33 hg49_34 hg49_35 hg49_36 hg49_37 hg49_38
  have hg51_39 : g51 39 = .ref q50 := by rw [eg51]; exact va_up_self _ _ _
  refine lv_aload_n hx hb dX13_init_220 rfl (lv_at hl 0 rfl) ?_
  refine lv_sipush (v := 300) hx hb dX13_init_221 (by decide) ?_
  refine va_newa (atype := .int) (ty := .int) (N' := 300) (a0 := (300, .inl (fun _ => (0 : Int32)))) hx hb (hts _ (vA_in _ _ (in_2 _ (List.mem_of_getElem? (i := 38) rfl)))) rfl hK hP hD hS hA (fun _ => rfl) (by decide) (by decide) (Nat.le_of_ble_eq_true rfl) (Nat.le_of_ble_eq_true rfl) (Nat.le_of_ble_eq_true rfl) dX13_init_224 (fun q52 kq52 H hK hP hD hS => ?_)
  have hK : va_K (dC, dI) vwCl [(kq1, .int), (kq13, .byte), (kq52, .int)] s := hK
  obtain ⟨wq52, ewq52⟩ : ∃ z : va_W, z = wq50 ++ [(q52, .inl (kq52, 300, .inl (fun _ => (0 : Int32))))] := ⟨_, rfl⟩
  replace hP : va_P (dC, dI) vwCl ((h, .inr (14, mL g51)) :: wq52) H := by rw [ewq52]; exact hP
  replace hD : va_D A ((h, .inr (14, mL g51)) :: wq52) := by rw [ewq52]; exact hD
  refine W.widen (k := 26) (n := 6076) (by omega) (by omega) ?_
  obtain rfl : kq1 = kq52 := ub_sa_int hK 0 2 rfl rfl
  have hK := hK.sub (tys' := [(kq1, .int), (kq13, .byte)]) [0, 1] rfl
  refine va_putF (D := (dC, dI)) (ci := 14) (v := .ref q52) (ty := .array .int) (C := RX13) (T := TX13) (N := 97) hx hb hts (fun w h => vA_in _ w (in_X13 w h)) tyX13 tyX13_ok nmX13 hown hK hP hD hS 0 rfl rfl 40 (by decide) (hts _ (vA_in _ _ (in_28 _ (List.mem_of_getElem? (i := 0) rfl)))) (fun _ h9 => h9) rfl hin rfl (by decide +kernel) rfl rfl (mL_lt (Nat.le_of_ble_eq_true rfl)) dX13_init_226 (fun H locs hP hD hS => ?_)
  replace hP : va_P (dC, dI) vwCl ((h, .inr (14, (mL g51).set 40 (.ref q52))) :: wq52) H := hP
  replace hD : va_D A ((h, .inr (14, (mL g51).set 40 (.ref q52))) :: wq52) := hD
  obtain ⟨g53, eg53⟩ : ∃ z9, z9 = va_up g51 40 (.ref q52) := ⟨_, rfl⟩
  rw [mL_upd, ← eg53] at hP hD
  have hg53_0 : g53 0 = .int 0 := (congrFun eg53 0).trans ((va_up_ne _ _ (Nat.ne_of_beq_eq_false rfl)).trans hg51_0)
  have hg53_1 : g53 1 = .int 0 := (congrFun eg53 1).trans ((va_up_ne _ _ (Nat.ne_of_beq_eq_false rfl)).trans hg51_1)
  have hg53_8 : g53 8 = .int 0 := (congrFun eg53 8).trans ((va_up_ne _ _ (Nat.ne_of_beq_eq_false rfl)).trans hg51_8)
  have hg53_9 : g53 9 = .int 0 := (congrFun eg53 9).trans ((va_up_ne _ _ (Nat.ne_of_beq_eq_false rfl)).trans hg51_9)
  have hg53_16 : g53 16 = .int 0 := (congrFun eg53 16).trans ((va_up_ne _ _ (Nat.ne_of_beq_eq_false rfl)).trans hg51_16)
  have hg53_17 : g53 17 = .int 0 := (congrFun eg53 17).trans ((va_up_ne _ _ (Nat.ne_of_beq_eq_false rfl)).trans hg51_17)
  have hg53_19 : g53 19 = .int 0 := (congrFun eg53 19).trans ((va_up_ne _ _ (Nat.ne_of_beq_eq_false rfl)).trans hg51_19)
  have hg53_20 : g53 20 = .int 0 := (congrFun eg53 20).trans ((va_up_ne _ _ (Nat.ne_of_beq_eq_false rfl)).trans hg51_20)
  have hg53_21 : g53 21 = .int 0 := (congrFun eg53 21).trans ((va_up_ne _ _ (Nat.ne_of_beq_eq_false rfl)).trans hg51_21)
  have hg53_22 : g53 22 = .int 0 := (congrFun eg53 22).trans ((va_up_ne _ _ (Nat.ne_of_beq_eq_false rfl)).trans hg51_22)
  have hg53_23 : g53 23 = .int 0 := (congrFun eg53 23).trans ((va_up_ne _ _ (Nat.ne_of_beq_eq_false rfl)).trans hg51_23)
  have hg53_24 : g53 24 = .int 0 := (congrFun eg53 24).trans ((va_up_ne _ _ (Nat.ne_of_beq_eq_false rfl)).trans hg51_24)
  have hg53_25 : g53 25 = .int 0 := (congrFun eg53 25).trans ((va_up_ne _ _ (Nat.ne_of_beq_eq_false rfl)).trans hg51_25)
  have hg53_26 : g53 26 = .int 0 := (congrFun eg53 26).trans ((va_up_ne _ _ (Nat.ne_of_beq_eq_false rfl)).trans hg51_26)
  have hg53_46 : g53 46 = .int 0 := (congrFun eg53 46).trans ((va_up_ne _ _ (Nat.ne_of_beq_eq_false rfl)).trans hg51_46)
  have hg53_47 : g53 47 = .int 0 := (congrFun eg53 47).trans ((va_up_ne _ _ (Nat.ne_of_beq_eq_false rfl)).trans hg51_47)
  have hg53_48 : g53 48 = .int 0 := (congrFun eg53 48).trans ((va_up_ne _ _ (Nat.ne_of_beq_eq_false rfl)).trans hg51_48)
  have hg53_55 : g53 55 = .int 0 := (congrFun eg53 55).trans ((va_up_ne _ _ (Nat.ne_of_beq_eq_false rfl)).trans hg51_55)
  have hg53_74 : g53 74 = .int 0 := (congrFun eg53 74).trans ((va_up_ne _ _ (Nat.ne_of_beq_eq_false rfl)).trans hg51_74)
  have hg53_75 : g53 75 = .int 0 := (congrFun eg53 75).trans ((va_up_ne _ _ (Nat.ne_of_beq_eq_false rfl)).trans hg51_75)
  have hg53_86 : g53 86 = .int 0 := (congrFun eg53 86).trans ((va_up_ne _ _ (Nat.ne_of_beq_eq_false rfl)).trans hg51_86)
  have hg53_87 : g53 87 = .int 0 := (congrFun eg53 87).trans ((va_up_ne _ _ (Nat.ne_of_beq_eq_false rfl)).trans hg51_87)
  have hg53_88 : g53 88 = .int 0 := (congrFun eg53 88).trans ((va_up_ne _ _ (Nat.ne_of_beq_eq_false rfl)).trans hg51_88)
  have hg53_89 : g53 89 = .int 0 := (congrFun eg53 89).trans ((va_up_ne _ _ (Nat.ne_of_beq_eq_false rfl)).trans hg51_89)
  have hg53_95 : g53 95 = .int 0 := (congrFun eg53 95).trans ((va_up_ne _ _ (Nat.ne_of_beq_eq_false rfl)).trans hg51_95)
  have hg53_2 : g53 2 = .ref q1 := (congrFun eg53 2).trans ((va_up_ne _ _ (Nat.ne_of_beq_eq_false rfl)).trans hg51_2)
  have hg53_3 : g53 3 = .ref q3 := (congrFun eg53 3).trans ((va_up_ne _ _ (Nat.ne_of_beq_eq_false rfl)).trans hg51_3)
  have hg53_4 : g53 4 = .ref q5 := (congrFun eg53 4).trans ((va_up_ne _ _ (Nat.ne_of_beq_eq_false rfl)).trans hg51_4)
  have hg53_5 : g53 5 = .ref q7 := (congrFun eg53 5).trans ((va_up_ne _ _ (Nat.ne_of_beq_eq_false rfl)).trans hg51_5)
  have hg53_6 : g53 6 = .ref q9 := (congrFun eg53 6).trans ((va_up_ne _ _ (Nat.ne_of_beq_eq_false rfl)).trans hg51_6)
  have hg53_7 : g53 7 = .ref q11 := (congrFun eg53 7).trans ((va_up_ne _ _ (Nat.ne_of_beq_eq_false rfl)).trans hg51_7)
  have hg53_10 : g53 10 = .ref q13 := (congrFun eg53 10).trans ((va_up_ne _ _ (Nat.ne_of_beq_eq_false rfl)).trans hg51_10)
  have hg53_11 : g53 11 = .ref q15 := (congrFun eg53 11).trans ((va_up_ne _ _ (Nat.ne_of_beq_eq_false rfl)).trans hg51_11)
  have hg53_12 : g53 12 = .ref q17 := (congrFun eg53 12).trans ((va_up_ne _ _ (Nat.ne_of_beq_eq_false rfl)).trans hg51_12)
  have hg53_13 : g53 13 = .ref q19 := (congrFun eg53 13).trans ((va_up_ne _ _ (Nat.ne_of_beq_eq_false rfl)).trans hg51_13)
  have hg53_14 : g53 14 = .ref q21 := (congrFun eg53 14).trans ((va_up_ne _ _ (Nat.ne_of_beq_eq_false rfl)).trans hg51_14)
  have hg53_15 : g53 15 = .ref q23 := (congrFun eg53 15).trans ((va_up_ne _ _ (Nat.ne_of_beq_eq_false rfl)).trans hg51_15)
  have hg53_18 : g53 18 = .ref q13 := (congrFun eg53 18).trans ((va_up_ne _ _ (Nat.ne_of_beq_eq_false rfl)).trans hg51_18)
  have hg53_27 : g53 27 = .ref q26 := (congrFun eg53 27).trans ((va_up_ne _ _ (Nat.ne_of_beq_eq_false rfl)).trans hg51_27)
  have hg53_28 : g53 28 = .ref q28 := (congrFun eg53 28).trans ((va_up_ne _ _ (Nat.ne_of_beq_eq_false rfl)).trans hg51_28)
  have hg53_29 : g53 29 = .ref q30 := (congrFun eg53 29).trans ((va_up_ne _ _ (Nat.ne_of_beq_eq_false rfl)).trans hg51_29)
  have hg53_30 : g53 30 = .ref q32 := (congrFun eg53 30).trans ((va_up_ne _ _ (Nat.ne_of_beq_eq_false rfl)).trans hg51_30)
  have hg53_31 : g53 31 = .ref q34 := (congrFun eg53 31).trans ((va_up_ne _ _ (Nat.ne_of_beq_eq_false rfl)).trans hg51_31)
  have hg53_32 : g53 32 = .ref q36 := (congrFun eg53 32).trans ((va_up_ne _ _ (Nat.ne_of_beq_eq_false rfl)).trans hg51_32)
  have hg53_33 : g53 33 = .ref q38 := (congrFun eg53 33).trans ((va_up_ne _ _ (Nat.ne_of_beq_eq_false rfl)).trans hg51_33)
  have hg53_34 : g53 34 = .ref q40 := (congrFun eg53 34).trans ((va_up_ne _ _ (Nat.ne_of_beq_eq_false rfl)).trans hg51_34)
  have hg53_35 : g53 35 = .ref q42 := (congrFun eg53 35).trans ((va_up_ne _ _ (Nat.ne_of_beq_eq_false rfl)).trans hg51_35)
  have hg53_36 : g53 36 = .ref q44 := (congrFun eg53 36).trans ((va_up_ne _ _ (Nat.ne_of_beq_eq_false rfl)).trans hg51_36)
  have hg53_37 : g53 37 = .ref q46 := (congrFun eg53 37).trans ((va_up_ne _ _ (Nat.ne_of_beq_eq_false rfl)).trans hg51_37)
  have hg53_38 : g53 38 = .ref q48 := (congrFun eg53 38).trans ((va_up_ne _ _ (Nat.ne_of_beq_eq_false rfl)).trans hg51_38)
  have hg53_39 : g53 39 = .ref q50 := (congrFun eg53 39).trans ((va_up_ne _ _ (Nat.ne_of_beq_eq_false rfl)).trans hg51_39)
  clear hg51_0 hg51_1 hg51_8 hg51_9 hg51_16 hg51_17 hg51_19 hg51_20 hg51_21 hg51_22 hg51_23 hg51_24 hg51_25 hg51_26 hg51_46 hg51_47 hg51_48 hg51_55 hg51_74 hg51_75 hg51_86 hg51_87 hg51_88 hg51_89 hg51_95 hg51_2 hg51_3 hg51_4 hg51_5 hg51_6 hg51_7 hg51_10 hg51_11 hg51_12 hg51_13 hg51_14 hg51_15 hg51_18 hg51_27 hg51_28 hg51_29 hg51_30 hg51_31 hg51_32 hg51_33 hg51_34 hg51_35 hg51_36 hg51_37 hg51_38 hg51_39
  have hg53_40 : g53 40 = .ref q52 := by rw [eg53]; exact va_up_self _ _ _
  refine lv_aload_n hx hb dX13_init_229 rfl (lv_at hl 0 rfl) ?_
  refine lv_sipush (v := 300) hx hb dX13_init_230 (by decide) ?_
  refine va_newa (atype := .int) (ty := .int) (N' := 300) (a0 := (300, .inl (fun _ => (0 : Int32)))) hx hb (hts _ (vA_in _ _ (in_2 _ (List.mem_of_getElem? (i := 38) rfl)))) rfl hK hP hD hS hA (fun _ => rfl) (by decide) (by decide) (Nat.le_of_ble_eq_true rfl) (Nat.le_of_ble_eq_true rfl) (Nat.le_of_ble_eq_true rfl) dX13_init_233 (fun q54 kq54 H hK hP hD hS => ?_)
  have hK : va_K (dC, dI) vwCl [(kq1, .int), (kq13, .byte), (kq54, .int)] s := hK
  obtain ⟨wq54, ewq54⟩ : ∃ z : va_W, z = wq52 ++ [(q54, .inl (kq54, 300, .inl (fun _ => (0 : Int32))))] := ⟨_, rfl⟩
  replace hP : va_P (dC, dI) vwCl ((h, .inr (14, mL g53)) :: wq54) H := by rw [ewq54]; exact hP
  replace hD : va_D A ((h, .inr (14, mL g53)) :: wq54) := by rw [ewq54]; exact hD
  refine W.widen (k := 27) (n := 6376) (by omega) (by omega) ?_
  obtain rfl : kq1 = kq54 := ub_sa_int hK 0 2 rfl rfl
  have hK := hK.sub (tys' := [(kq1, .int), (kq13, .byte)]) [0, 1] rfl
  refine va_putF (D := (dC, dI)) (ci := 14) (v := .ref q54) (ty := .array .int) (C := RX13) (T := TX13) (N := 97) hx hb hts (fun w h => vA_in _ w (in_X13 w h)) tyX13 tyX13_ok nmX13 hown hK hP hD hS 0 rfl rfl 41 (by decide) (hts _ (vA_in _ _ (in_28 _ (List.mem_of_getElem? (i := 21) rfl)))) (fun _ h9 => h9) rfl hin rfl (by decide +kernel) rfl rfl (mL_lt (Nat.le_of_ble_eq_true rfl)) dX13_init_235 (fun H locs hP hD hS => ?_)
  replace hP : va_P (dC, dI) vwCl ((h, .inr (14, (mL g53).set 41 (.ref q54))) :: wq54) H := hP
  replace hD : va_D A ((h, .inr (14, (mL g53).set 41 (.ref q54))) :: wq54) := hD
  obtain ⟨g55, eg55⟩ : ∃ z9, z9 = va_up g53 41 (.ref q54) := ⟨_, rfl⟩
  rw [mL_upd, ← eg55] at hP hD
  have hg55_0 : g55 0 = .int 0 := (congrFun eg55 0).trans ((va_up_ne _ _ (Nat.ne_of_beq_eq_false rfl)).trans hg53_0)
  have hg55_1 : g55 1 = .int 0 := (congrFun eg55 1).trans ((va_up_ne _ _ (Nat.ne_of_beq_eq_false rfl)).trans hg53_1)
  have hg55_8 : g55 8 = .int 0 := (congrFun eg55 8).trans ((va_up_ne _ _ (Nat.ne_of_beq_eq_false rfl)).trans hg53_8)
  have hg55_9 : g55 9 = .int 0 := (congrFun eg55 9).trans ((va_up_ne _ _ (Nat.ne_of_beq_eq_false rfl)).trans hg53_9)
  have hg55_16 : g55 16 = .int 0 := (congrFun eg55 16).trans ((va_up_ne _ _ (Nat.ne_of_beq_eq_false rfl)).trans hg53_16)
  have hg55_17 : g55 17 = .int 0 := (congrFun eg55 17).trans ((va_up_ne _ _ (Nat.ne_of_beq_eq_false rfl)).trans hg53_17)
  have hg55_19 : g55 19 = .int 0 := (congrFun eg55 19).trans ((va_up_ne _ _ (Nat.ne_of_beq_eq_false rfl)).trans hg53_19)
  have hg55_20 : g55 20 = .int 0 := (congrFun eg55 20).trans ((va_up_ne _ _ (Nat.ne_of_beq_eq_false rfl)).trans hg53_20)
  have hg55_21 : g55 21 = .int 0 := (congrFun eg55 21).trans ((va_up_ne _ _ (Nat.ne_of_beq_eq_false rfl)).trans hg53_21)
  have hg55_22 : g55 22 = .int 0 := (congrFun eg55 22).trans ((va_up_ne _ _ (Nat.ne_of_beq_eq_false rfl)).trans hg53_22)
  have hg55_23 : g55 23 = .int 0 := (congrFun eg55 23).trans ((va_up_ne _ _ (Nat.ne_of_beq_eq_false rfl)).trans hg53_23)
  have hg55_24 : g55 24 = .int 0 := (congrFun eg55 24).trans ((va_up_ne _ _ (Nat.ne_of_beq_eq_false rfl)).trans hg53_24)
  have hg55_25 : g55 25 = .int 0 := (congrFun eg55 25).trans ((va_up_ne _ _ (Nat.ne_of_beq_eq_false rfl)).trans hg53_25)
  have hg55_26 : g55 26 = .int 0 := (congrFun eg55 26).trans ((va_up_ne _ _ (Nat.ne_of_beq_eq_false rfl)).trans hg53_26)
  have hg55_46 : g55 46 = .int 0 := (congrFun eg55 46).trans ((va_up_ne _ _ (Nat.ne_of_beq_eq_false rfl)).trans hg53_46)
  have hg55_47 : g55 47 = .int 0 := (congrFun eg55 47).trans ((va_up_ne _ _ (Nat.ne_of_beq_eq_false rfl)).trans hg53_47)
  have hg55_48 : g55 48 = .int 0 := (congrFun eg55 48).trans ((va_up_ne _ _ (Nat.ne_of_beq_eq_false rfl)).trans hg53_48)
  have hg55_55 : g55 55 = .int 0 := (congrFun eg55 55).trans ((va_up_ne _ _ (Nat.ne_of_beq_eq_false rfl)).trans hg53_55)
  have hg55_74 : g55 74 = .int 0 := (congrFun eg55 74).trans ((va_up_ne _ _ (Nat.ne_of_beq_eq_false rfl)).trans hg53_74)
  have hg55_75 : g55 75 = .int 0 := (congrFun eg55 75).trans ((va_up_ne _ _ (Nat.ne_of_beq_eq_false rfl)).trans hg53_75)
  have hg55_86 : g55 86 = .int 0 := (congrFun eg55 86).trans ((va_up_ne _ _ (Nat.ne_of_beq_eq_false rfl)).trans hg53_86)
  have hg55_87 : g55 87 = .int 0 := (congrFun eg55 87).trans ((va_up_ne _ _ (Nat.ne_of_beq_eq_false rfl)).trans hg53_87)
  have hg55_88 : g55 88 = .int 0 := (congrFun eg55 88).trans ((va_up_ne _ _ (Nat.ne_of_beq_eq_false rfl)).trans hg53_88)
  have hg55_89 : g55 89 = .int 0 := (congrFun eg55 89).trans ((va_up_ne _ _ (Nat.ne_of_beq_eq_false rfl)).trans hg53_89)
  have hg55_95 : g55 95 = .int 0 := (congrFun eg55 95).trans ((va_up_ne _ _ (Nat.ne_of_beq_eq_false rfl)).trans hg53_95)
  have hg55_2 : g55 2 = .ref q1 := (congrFun eg55 2).trans ((va_up_ne _ _ (Nat.ne_of_beq_eq_false rfl)).trans hg53_2)
  have hg55_3 : g55 3 = .ref q3 := (congrFun eg55 3).trans ((va_up_ne _ _ (Nat.ne_of_beq_eq_false rfl)).trans hg53_3)
  have hg55_4 : g55 4 = .ref q5 := (congrFun eg55 4).trans ((va_up_ne _ _ (Nat.ne_of_beq_eq_false rfl)).trans hg53_4)
  have hg55_5 : g55 5 = .ref q7 := (congrFun eg55 5).trans ((va_up_ne _ _ (Nat.ne_of_beq_eq_false rfl)).trans hg53_5)
  have hg55_6 : g55 6 = .ref q9 := (congrFun eg55 6).trans ((va_up_ne _ _ (Nat.ne_of_beq_eq_false rfl)).trans hg53_6)
  have hg55_7 : g55 7 = .ref q11 := (congrFun eg55 7).trans ((va_up_ne _ _ (Nat.ne_of_beq_eq_false rfl)).trans hg53_7)
  have hg55_10 : g55 10 = .ref q13 := (congrFun eg55 10).trans ((va_up_ne _ _ (Nat.ne_of_beq_eq_false rfl)).trans hg53_10)
  have hg55_11 : g55 11 = .ref q15 := (congrFun eg55 11).trans ((va_up_ne _ _ (Nat.ne_of_beq_eq_false rfl)).trans hg53_11)
  have hg55_12 : g55 12 = .ref q17 := (congrFun eg55 12).trans ((va_up_ne _ _ (Nat.ne_of_beq_eq_false rfl)).trans hg53_12)
  have hg55_13 : g55 13 = .ref q19 := (congrFun eg55 13).trans ((va_up_ne _ _ (Nat.ne_of_beq_eq_false rfl)).trans hg53_13)
  have hg55_14 : g55 14 = .ref q21 := (congrFun eg55 14).trans ((va_up_ne _ _ (Nat.ne_of_beq_eq_false rfl)).trans hg53_14)
  have hg55_15 : g55 15 = .ref q23 := (congrFun eg55 15).trans ((va_up_ne _ _ (Nat.ne_of_beq_eq_false rfl)).trans hg53_15)
  have hg55_18 : g55 18 = .ref q13 := (congrFun eg55 18).trans ((va_up_ne _ _ (Nat.ne_of_beq_eq_false rfl)).trans hg53_18)
  have hg55_27 : g55 27 = .ref q26 := (congrFun eg55 27).trans ((va_up_ne _ _ (Nat.ne_of_beq_eq_false rfl)).trans hg53_27)
  have hg55_28 : g55 28 = .ref q28 := (congrFun eg55 28).trans ((va_up_ne _ _ (Nat.ne_of_beq_eq_false rfl)).trans hg53_28)
  have hg55_29 : g55 29 = .ref q30 := (congrFun eg55 29).trans ((va_up_ne _ _ (Nat.ne_of_beq_eq_false rfl)).trans hg53_29)
  have hg55_30 : g55 30 = .ref q32 := (congrFun eg55 30).trans ((va_up_ne _ _ (Nat.ne_of_beq_eq_false rfl)).trans hg53_30)
  have hg55_31 : g55 31 = .ref q34 := (congrFun eg55 31).trans ((va_up_ne _ _ (Nat.ne_of_beq_eq_false rfl)).trans hg53_31)
  have hg55_32 : g55 32 = .ref q36 := (congrFun eg55 32).trans ((va_up_ne _ _ (Nat.ne_of_beq_eq_false rfl)).trans hg53_32)
  have hg55_33 : g55 33 = .ref q38 := (congrFun eg55 33).trans ((va_up_ne _ _ (Nat.ne_of_beq_eq_false rfl)).trans hg53_33)
  have hg55_34 : g55 34 = .ref q40 := (congrFun eg55 34).trans ((va_up_ne _ _ (Nat.ne_of_beq_eq_false rfl)).trans hg53_34)
  have hg55_35 : g55 35 = .ref q42 := (congrFun eg55 35).trans ((va_up_ne _ _ (Nat.ne_of_beq_eq_false rfl)).trans hg53_35)
  have hg55_36 : g55 36 = .ref q44 := (congrFun eg55 36).trans ((va_up_ne _ _ (Nat.ne_of_beq_eq_false rfl)).trans hg53_36)
  have hg55_37 : g55 37 = .ref q46 := (congrFun eg55 37).trans ((va_up_ne _ _ (Nat.ne_of_beq_eq_false rfl)).trans hg53_37)
  have hg55_38 : g55 38 = .ref q48 := (congrFun eg55 38).trans ((va_up_ne _ _ (Nat.ne_of_beq_eq_false rfl)).trans hg53_38)
  have hg55_39 : g55 39 = .ref q50 := (congrFun eg55 39).trans ((va_up_ne _ _ (Nat.ne_of_beq_eq_false rfl)).trans hg53_39)
  have hg55_40 : g55 40 = .ref q52 := (congrFun eg55 40).trans ((va_up_ne _ _ (Nat.ne_of_beq_eq_false rfl)).trans hg53_40)
  clear hg53_0 hg53_1 hg53_8 hg53_9 hg53_16 hg53_17 hg53_19 hg53_20 hg53_21 hg53_22 hg53_23 hg53_24 hg53_25 hg53_26 hg53_46 hg53_47 hg53_48 hg53_55 hg53_74 hg53_75 hg53_86 hg53_87 hg53_88 hg53_89 hg53_95 hg53_2 hg53_3 hg53_4 hg53_5 hg53_6 hg53_7 hg53_10 hg53_11 hg53_12 hg53_13 hg53_14 hg53_15 hg53_18 hg53_27 hg53_28 hg53_29 hg53_30 hg53_31 hg53_32 hg53_33 hg53_34 hg53_35 hg53_36 hg53_37 hg53_38 hg53_39 hg53_40
  have hg55_41 : g55 41 = .ref q54 := by rw [eg55]; exact va_up_self _ _ _
  refine lv_aload_n hx hb dX13_init_238 rfl (lv_at hl 0 rfl) ?_
  refine lv_sipush (v := 300) hx hb dX13_init_239 (by decide) ?_
  refine va_newa (atype := .int) (ty := .int) (N' := 300) (a0 := (300, .inl (fun _ => (0 : Int32)))) hx hb (hts _ (vA_in _ _ (in_2 _ (List.mem_of_getElem? (i := 38) rfl)))) rfl hK hP hD hS hA (fun _ => rfl) (by decide) (by decide) (Nat.le_of_ble_eq_true rfl) (Nat.le_of_ble_eq_true rfl) (Nat.le_of_ble_eq_true rfl) dX13_init_242 (fun q56 kq56 H hK hP hD hS => ?_)
  have hK : va_K (dC, dI) vwCl [(kq1, .int), (kq13, .byte), (kq56, .int)] s := hK
  obtain ⟨wq56, ewq56⟩ : ∃ z : va_W, z = wq54 ++ [(q56, .inl (kq56, 300, .inl (fun _ => (0 : Int32))))] := ⟨_, rfl⟩
  replace hP : va_P (dC, dI) vwCl ((h, .inr (14, mL g55)) :: wq56) H := by rw [ewq56]; exact hP
  replace hD : va_D A ((h, .inr (14, mL g55)) :: wq56) := by rw [ewq56]; exact hD
  refine W.widen (k := 28) (n := 6676) (by omega) (by omega) ?_
  obtain rfl : kq1 = kq56 := ub_sa_int hK 0 2 rfl rfl
  have hK := hK.sub (tys' := [(kq1, .int), (kq13, .byte)]) [0, 1] rfl
  refine va_putF (D := (dC, dI)) (ci := 14) (v := .ref q56) (ty := .array .int) (C := RX13) (T := TX13) (N := 97) hx hb hts (fun w h => vA_in _ w (in_X13 w h)) tyX13 tyX13_ok nmX13 hown hK hP hD hS 0 rfl rfl 42 (by decide) (hts _ (vA_in _ _ (in_28 _ (List.mem_of_getElem? (i := 16) rfl)))) (fun _ h9 => h9) rfl hin rfl (by decide +kernel) rfl rfl (mL_lt (Nat.le_of_ble_eq_true rfl)) dX13_init_244 (fun H locs hP hD hS => ?_)
  replace hP : va_P (dC, dI) vwCl ((h, .inr (14, (mL g55).set 42 (.ref q56))) :: wq56) H := hP
  replace hD : va_D A ((h, .inr (14, (mL g55).set 42 (.ref q56))) :: wq56) := hD
  obtain ⟨g57, eg57⟩ : ∃ z9, z9 = va_up g55 42 (.ref q56) := ⟨_, rfl⟩
  rw [mL_upd, ← eg57] at hP hD
  have hg57_0 : g57 0 = .int 0 := (congrFun eg57 0).trans ((va_up_ne _ _ (Nat.ne_of_beq_eq_false rfl)).trans hg55_0)
  have hg57_1 : g57 1 = .int 0 := (congrFun eg57 1).trans ((va_up_ne _ _ (Nat.ne_of_beq_eq_false rfl)).trans hg55_1)
  have hg57_8 : g57 8 = .int 0 := (congrFun eg57 8).trans ((va_up_ne _ _ (Nat.ne_of_beq_eq_false rfl)).trans hg55_8)
  have hg57_9 : g57 9 = .int 0 := (congrFun eg57 9).trans ((va_up_ne _ _ (Nat.ne_of_beq_eq_false rfl)).trans hg55_9)
  have hg57_16 : g57 16 = .int 0 := (congrFun eg57 16).trans ((va_up_ne _ _ (Nat.ne_of_beq_eq_false rfl)).trans hg55_16)
  have hg57_17 : g57 17 = .int 0 := (congrFun eg57 17).trans ((va_up_ne _ _ (Nat.ne_of_beq_eq_false rfl)).trans hg55_17)
  have hg57_19 : g57 19 = .int 0 := (congrFun eg57 19).trans ((va_up_ne _ _ (Nat.ne_of_beq_eq_false rfl)).trans hg55_19)
  have hg57_20 : g57 20 = .int 0 := (congrFun eg57 20).trans ((va_up_ne _ _ (Nat.ne_of_beq_eq_false rfl)).trans hg55_20)
  have hg57_21 : g57 21 = .int 0 := (congrFun eg57 21).trans ((va_up_ne _ _ (Nat.ne_of_beq_eq_false rfl)).trans hg55_21)
  have hg57_22 : g57 22 = .int 0 := (congrFun eg57 22).trans ((va_up_ne _ _ (Nat.ne_of_beq_eq_false rfl)).trans hg55_22)
  have hg57_23 : g57 23 = .int 0 := (congrFun eg57 23).trans ((va_up_ne _ _ (Nat.ne_of_beq_eq_false rfl)).trans hg55_23)
  have hg57_24 : g57 24 = .int 0 := (congrFun eg57 24).trans ((va_up_ne _ _ (Nat.ne_of_beq_eq_false rfl)).trans hg55_24)
  have hg57_25 : g57 25 = .int 0 := (congrFun eg57 25).trans ((va_up_ne _ _ (Nat.ne_of_beq_eq_false rfl)).trans hg55_25)
  have hg57_26 : g57 26 = .int 0 := (congrFun eg57 26).trans ((va_up_ne _ _ (Nat.ne_of_beq_eq_false rfl)).trans hg55_26)
  have hg57_46 : g57 46 = .int 0 := (congrFun eg57 46).trans ((va_up_ne _ _ (Nat.ne_of_beq_eq_false rfl)).trans hg55_46)
  have hg57_47 : g57 47 = .int 0 := (congrFun eg57 47).trans ((va_up_ne _ _ (Nat.ne_of_beq_eq_false rfl)).trans hg55_47)
  have hg57_48 : g57 48 = .int 0 := (congrFun eg57 48).trans ((va_up_ne _ _ (Nat.ne_of_beq_eq_false rfl)).trans hg55_48)
  have hg57_55 : g57 55 = .int 0 := (congrFun eg57 55).trans ((va_up_ne _ _ (Nat.ne_of_beq_eq_false rfl)).trans hg55_55)
  have hg57_74 : g57 74 = .int 0 := (congrFun eg57 74).trans ((va_up_ne _ _ (Nat.ne_of_beq_eq_false rfl)).trans hg55_74)
  have hg57_75 : g57 75 = .int 0 := (congrFun eg57 75).trans ((va_up_ne _ _ (Nat.ne_of_beq_eq_false rfl)).trans hg55_75)
  have hg57_86 : g57 86 = .int 0 := (congrFun eg57 86).trans ((va_up_ne _ _ (Nat.ne_of_beq_eq_false rfl)).trans hg55_86)
  have hg57_87 : g57 87 = .int 0 := (congrFun eg57 87).trans ((va_up_ne _ _ (Nat.ne_of_beq_eq_false rfl)).trans hg55_87)
  have hg57_88 : g57 88 = .int 0 := (congrFun eg57 88).trans ((va_up_ne _ _ (Nat.ne_of_beq_eq_false rfl)).trans hg55_88)
  have hg57_89 : g57 89 = .int 0 := (congrFun eg57 89).trans ((va_up_ne _ _ (Nat.ne_of_beq_eq_false rfl)).trans hg55_89)
  have hg57_95 : g57 95 = .int 0 := (congrFun eg57 95).trans ((va_up_ne _ _ (Nat.ne_of_beq_eq_false rfl)).trans hg55_95)
  have hg57_2 : g57 2 = .ref q1 := (congrFun eg57 2).trans ((va_up_ne _ _ (Nat.ne_of_beq_eq_false rfl)).trans hg55_2)
  have hg57_3 : g57 3 = .ref q3 := (congrFun eg57 3).trans ((va_up_ne _ _ (Nat.ne_of_beq_eq_false rfl)).trans hg55_3)
  have hg57_4 : g57 4 = .ref q5 := (congrFun eg57 4).trans ((va_up_ne _ _ (Nat.ne_of_beq_eq_false rfl)).trans hg55_4)
  have hg57_5 : g57 5 = .ref q7 := (congrFun eg57 5).trans ((va_up_ne _ _ (Nat.ne_of_beq_eq_false rfl)).trans hg55_5)
  have hg57_6 : g57 6 = .ref q9 := (congrFun eg57 6).trans ((va_up_ne _ _ (Nat.ne_of_beq_eq_false rfl)).trans hg55_6)
  have hg57_7 : g57 7 = .ref q11 := (congrFun eg57 7).trans ((va_up_ne _ _ (Nat.ne_of_beq_eq_false rfl)).trans hg55_7)
  have hg57_10 : g57 10 = .ref q13 := (congrFun eg57 10).trans ((va_up_ne _ _ (Nat.ne_of_beq_eq_false rfl)).trans hg55_10)
  have hg57_11 : g57 11 = .ref q15 := (congrFun eg57 11).trans ((va_up_ne _ _ (Nat.ne_of_beq_eq_false rfl)).trans hg55_11)
  have hg57_12 : g57 12 = .ref q17 := (congrFun eg57 12).trans ((va_up_ne _ _ (Nat.ne_of_beq_eq_false rfl)).trans hg55_12)
  have hg57_13 : g57 13 = .ref q19 := (congrFun eg57 13).trans ((va_up_ne _ _ (Nat.ne_of_beq_eq_false rfl)).trans hg55_13)
  have hg57_14 : g57 14 = .ref q21 := (congrFun eg57 14).trans ((va_up_ne _ _ (Nat.ne_of_beq_eq_false rfl)).trans hg55_14)
  have hg57_15 : g57 15 = .ref q23 := (congrFun eg57 15).trans ((va_up_ne _ _ (Nat.ne_of_beq_eq_false rfl)).trans hg55_15)
  have hg57_18 : g57 18 = .ref q13 := (congrFun eg57 18).trans ((va_up_ne _ _ (Nat.ne_of_beq_eq_false rfl)).trans hg55_18)
  have hg57_27 : g57 27 = .ref q26 := (congrFun eg57 27).trans ((va_up_ne _ _ (Nat.ne_of_beq_eq_false rfl)).trans hg55_27)
  have hg57_28 : g57 28 = .ref q28 := (congrFun eg57 28).trans ((va_up_ne _ _ (Nat.ne_of_beq_eq_false rfl)).trans hg55_28)
  have hg57_29 : g57 29 = .ref q30 := (congrFun eg57 29).trans ((va_up_ne _ _ (Nat.ne_of_beq_eq_false rfl)).trans hg55_29)
  have hg57_30 : g57 30 = .ref q32 := (congrFun eg57 30).trans ((va_up_ne _ _ (Nat.ne_of_beq_eq_false rfl)).trans hg55_30)
  have hg57_31 : g57 31 = .ref q34 := (congrFun eg57 31).trans ((va_up_ne _ _ (Nat.ne_of_beq_eq_false rfl)).trans hg55_31)
  have hg57_32 : g57 32 = .ref q36 := (congrFun eg57 32).trans ((va_up_ne _ _ (Nat.ne_of_beq_eq_false rfl)).trans hg55_32)
  have hg57_33 : g57 33 = .ref q38 := (congrFun eg57 33).trans ((va_up_ne _ _ (Nat.ne_of_beq_eq_false rfl)).trans hg55_33)
  have hg57_34 : g57 34 = .ref q40 := (congrFun eg57 34).trans ((va_up_ne _ _ (Nat.ne_of_beq_eq_false rfl)).trans hg55_34)
  have hg57_35 : g57 35 = .ref q42 := (congrFun eg57 35).trans ((va_up_ne _ _ (Nat.ne_of_beq_eq_false rfl)).trans hg55_35)
  have hg57_36 : g57 36 = .ref q44 := (congrFun eg57 36).trans ((va_up_ne _ _ (Nat.ne_of_beq_eq_false rfl)).trans hg55_36)
  have hg57_37 : g57 37 = .ref q46 := (congrFun eg57 37).trans ((va_up_ne _ _ (Nat.ne_of_beq_eq_false rfl)).trans hg55_37)
  have hg57_38 : g57 38 = .ref q48 := (congrFun eg57 38).trans ((va_up_ne _ _ (Nat.ne_of_beq_eq_false rfl)).trans hg55_38)
  have hg57_39 : g57 39 = .ref q50 := (congrFun eg57 39).trans ((va_up_ne _ _ (Nat.ne_of_beq_eq_false rfl)).trans hg55_39)
  have hg57_40 : g57 40 = .ref q52 := (congrFun eg57 40).trans ((va_up_ne _ _ (Nat.ne_of_beq_eq_false rfl)).trans hg55_40)
  have hg57_41 : g57 41 = .ref q54 := (congrFun eg57 41).trans ((va_up_ne _ _ (Nat.ne_of_beq_eq_false rfl)).trans hg55_41)
  clear hg55_0 hg55_1 hg55_8 hg55_9 hg55_16 hg55_17 hg55_19 hg55_20 hg55_21 hg55_22 hg55_23 hg55_24 hg55_25 hg55_26 hg55_46 hg55_47 hg55_48 hg55_55 hg55_74 hg55_75 hg55_86 hg55_87 hg55_88 hg55_89 hg55_95 hg55_2 hg55_3 hg55_4 hg55_5 hg55_6 hg55_7 hg55_10 hg55_11 hg55_12 hg55_13 hg55_14 hg55_15 hg55_18 hg55_27 hg55_28 hg55_29 hg55_30 hg55_31 hg55_32 hg55_33 hg55_34 hg55_35 hg55_36 hg55_37 hg55_38 hg55_39 hg55_40 hg55_41
  have hg57_42 : g57 42 = .ref q56 := by rw [eg57]; exact va_up_self _ _ _
  refine lv_aload_n hx hb dX13_init_247 rfl (lv_at hl 0 rfl) ?_
  refine lv_bipush (v := 20) hx hb dX13_init_248 (by decide) ?_
  refine va_newa (atype := .int) (ty := .int) (N' := 20) (a0 := (20, .inl (fun _ => (0 : Int32)))) hx hb (hts _ (vA_in _ _ (in_2 _ (List.mem_of_getElem? (i := 38) rfl)))) rfl hK hP hD hS hA (fun _ => rfl) (by decide) (by decide) (Nat.le_of_ble_eq_true rfl) (Nat.le_of_ble_eq_true rfl) (Nat.le_of_ble_eq_true rfl) dX13_init_250 (fun q58 kq58 H hK hP hD hS => ?_)
  have hK : va_K (dC, dI) vwCl [(kq1, .int), (kq13, .byte), (kq58, .int)] s := hK
  obtain ⟨wq58, ewq58⟩ : ∃ z : va_W, z = wq56 ++ [(q58, .inl (kq58, 20, .inl (fun _ => (0 : Int32))))] := ⟨_, rfl⟩
  replace hP : va_P (dC, dI) vwCl ((h, .inr (14, mL g57)) :: wq58) H := by rw [ewq58]; exact hP
  replace hD : va_D A ((h, .inr (14, mL g57)) :: wq58) := by rw [ewq58]; exact hD
  refine W.widen (k := 29) (n := 6696) (by omega) (by omega) ?_
  obtain rfl : kq1 = kq58 := ub_sa_int hK 0 2 rfl rfl
  have hK := hK.sub (tys' := [(kq1, .int), (kq13, .byte)]) [0, 1] rfl
  refine va_putF (D := (dC, dI)) (ci := 14) (v := .ref q58) (ty := .array .int) (C := RX13) (T := TX13) (N := 97) hx hb hts (fun w h => vA_in _ w (in_X13 w h)) tyX13 tyX13_ok nmX13 hown hK hP hD hS 0 rfl rfl 43 (by decide) (hts _ (vA_in _ _ (in_32 _ (List.mem_of_getElem? (i := 1) rfl)))) (fun _ h9 => h9) rfl hin rfl (by decide +kernel) rfl rfl (mL_lt (Nat.le_of_ble_eq_true rfl)) dX13_init_252 (fun H locs hP hD hS => ?_)
  replace hP : va_P (dC, dI) vwCl ((h, .inr (14, (mL g57).set 43 (.ref q58))) :: wq58) H := hP
  replace hD : va_D A ((h, .inr (14, (mL g57).set 43 (.ref q58))) :: wq58) := hD
  obtain ⟨g59, eg59⟩ : ∃ z9, z9 = va_up g57 43 (.ref q58) := ⟨_, rfl⟩
  rw [mL_upd, ← eg59] at hP hD
  have hg59_0 : g59 0 = .int 0 := (congrFun eg59 0).trans ((va_up_ne _ _ (Nat.ne_of_beq_eq_false rfl)).trans hg57_0)
  have hg59_1 : g59 1 = .int 0 := (congrFun eg59 1).trans ((va_up_ne _ _ (Nat.ne_of_beq_eq_false rfl)).trans hg57_1)
  have hg59_8 : g59 8 = .int 0 := (congrFun eg59 8).trans ((va_up_ne _ _ (Nat.ne_of_beq_eq_false rfl)).trans hg57_8)
  have hg59_9 : g59 9 = .int 0 := (congrFun eg59 9).trans ((va_up_ne _ _ (Nat.ne_of_beq_eq_false rfl)).trans hg57_9)
  have hg59_16 : g59 16 = .int 0 := (congrFun eg59 16).trans ((va_up_ne _ _ (Nat.ne_of_beq_eq_false rfl)).trans hg57_16)
  have hg59_17 : g59 17 = .int 0 := (congrFun eg59 17).trans ((va_up_ne _ _ (Nat.ne_of_beq_eq_false rfl)).trans hg57_17)
  have hg59_19 : g59 19 = .int 0 := (congrFun eg59 19).trans ((va_up_ne _ _ (Nat.ne_of_beq_eq_false rfl)).trans hg57_19)
  have hg59_20 : g59 20 = .int 0 := (congrFun eg59 20).trans ((va_up_ne _ _ (Nat.ne_of_beq_eq_false rfl)).trans hg57_20)
  have hg59_21 : g59 21 = .int 0 := (congrFun eg59 21).trans ((va_up_ne _ _ (Nat.ne_of_beq_eq_false rfl)).trans hg57_21)
  have hg59_22 : g59 22 = .int 0 := (congrFun eg59 22).trans ((va_up_ne _ _ (Nat.ne_of_beq_eq_false rfl)).trans hg57_22)
  have hg59_23 : g59 23 = .int 0 := (congrFun eg59 23).trans ((va_up_ne _ _ (Nat.ne_of_beq_eq_false rfl)).trans hg57_23)
  have hg59_24 : g59 24 = .int 0 := (congrFun eg59 24).trans ((va_up_ne _ _ (Nat.ne_of_beq_eq_false rfl)).trans hg57_24)
  have hg59_25 : g59 25 = .int 0 := (congrFun eg59 25).trans ((va_up_ne _ _ (Nat.ne_of_beq_eq_false rfl)).trans hg57_25)
  have hg59_26 : g59 26 = .int 0 := (congrFun eg59 26).trans ((va_up_ne _ _ (Nat.ne_of_beq_eq_false rfl)).trans hg57_26)
  have hg59_46 : g59 46 = .int 0 := (congrFun eg59 46).trans ((va_up_ne _ _ (Nat.ne_of_beq_eq_false rfl)).trans hg57_46)
  have hg59_47 : g59 47 = .int 0 := (congrFun eg59 47).trans ((va_up_ne _ _ (Nat.ne_of_beq_eq_false rfl)).trans hg57_47)
  have hg59_48 : g59 48 = .int 0 := (congrFun eg59 48).trans ((va_up_ne _ _ (Nat.ne_of_beq_eq_false rfl)).trans hg57_48)
  have hg59_55 : g59 55 = .int 0 := (congrFun eg59 55).trans ((va_up_ne _ _ (Nat.ne_of_beq_eq_false rfl)).trans hg57_55)
  have hg59_74 : g59 74 = .int 0 := (congrFun eg59 74).trans ((va_up_ne _ _ (Nat.ne_of_beq_eq_false rfl)).trans hg57_74)
  have hg59_75 : g59 75 = .int 0 := (congrFun eg59 75).trans ((va_up_ne _ _ (Nat.ne_of_beq_eq_false rfl)).trans hg57_75)
  have hg59_86 : g59 86 = .int 0 := (congrFun eg59 86).trans ((va_up_ne _ _ (Nat.ne_of_beq_eq_false rfl)).trans hg57_86)
  have hg59_87 : g59 87 = .int 0 := (congrFun eg59 87).trans ((va_up_ne _ _ (Nat.ne_of_beq_eq_false rfl)).trans hg57_87)
  have hg59_88 : g59 88 = .int 0 := (congrFun eg59 88).trans ((va_up_ne _ _ (Nat.ne_of_beq_eq_false rfl)).trans hg57_88)
  have hg59_89 : g59 89 = .int 0 := (congrFun eg59 89).trans ((va_up_ne _ _ (Nat.ne_of_beq_eq_false rfl)).trans hg57_89)
  have hg59_95 : g59 95 = .int 0 := (congrFun eg59 95).trans ((va_up_ne _ _ (Nat.ne_of_beq_eq_false rfl)).trans hg57_95)
  have hg59_2 : g59 2 = .ref q1 := (congrFun eg59 2).trans ((va_up_ne _ _ (Nat.ne_of_beq_eq_false rfl)).trans hg57_2)
  have hg59_3 : g59 3 = .ref q3 := (congrFun eg59 3).trans ((va_up_ne _ _ (Nat.ne_of_beq_eq_false rfl)).trans hg57_3)
  have hg59_4 : g59 4 = .ref q5 := (congrFun eg59 4).trans ((va_up_ne _ _ (Nat.ne_of_beq_eq_false rfl)).trans hg57_4)
  have hg59_5 : g59 5 = .ref q7 := (congrFun eg59 5).trans ((va_up_ne _ _ (Nat.ne_of_beq_eq_false rfl)).trans hg57_5)
  have hg59_6 : g59 6 = .ref q9 := (congrFun eg59 6).trans ((va_up_ne _ _ (Nat.ne_of_beq_eq_false rfl)).trans hg57_6)
  have hg59_7 : g59 7 = .ref q11 := (congrFun eg59 7).trans ((va_up_ne _ _ (Nat.ne_of_beq_eq_false rfl)).trans hg57_7)
  have hg59_10 : g59 10 = .ref q13 := (congrFun eg59 10).trans ((va_up_ne _ _ (Nat.ne_of_beq_eq_false rfl)).trans hg57_10)
  have hg59_11 : g59 11 = .ref q15 := (congrFun eg59 11).trans ((va_up_ne _ _ (Nat.ne_of_beq_eq_false rfl)).trans hg57_11)
  have hg59_12 : g59 12 = .ref q17 := (congrFun eg59 12).trans ((va_up_ne _ _ (Nat.ne_of_beq_eq_false rfl)).trans hg57_12)
  have hg59_13 : g59 13 = .ref q19 := (congrFun eg59 13).trans ((va_up_ne _ _ (Nat.ne_of_beq_eq_false rfl)).trans hg57_13)
  have hg59_14 : g59 14 = .ref q21 := (congrFun eg59 14).trans ((va_up_ne _ _ (Nat.ne_of_beq_eq_false rfl)).trans hg57_14)
  have hg59_15 : g59 15 = .ref q23 := (congrFun eg59 15).trans ((va_up_ne _ _ (Nat.ne_of_beq_eq_false rfl)).trans hg57_15)
  have hg59_18 : g59 18 = .ref q13 := (congrFun eg59 18).trans ((va_up_ne _ _ (Nat.ne_of_beq_eq_false rfl)).trans hg57_18)
  have hg59_27 : g59 27 = .ref q26 := (congrFun eg59 27).trans ((va_up_ne _ _ (Nat.ne_of_beq_eq_false rfl)).trans hg57_27)
  have hg59_28 : g59 28 = .ref q28 := (congrFun eg59 28).trans ((va_up_ne _ _ (Nat.ne_of_beq_eq_false rfl)).trans hg57_28)
  have hg59_29 : g59 29 = .ref q30 := (congrFun eg59 29).trans ((va_up_ne _ _ (Nat.ne_of_beq_eq_false rfl)).trans hg57_29)
  have hg59_30 : g59 30 = .ref q32 := (congrFun eg59 30).trans ((va_up_ne _ _ (Nat.ne_of_beq_eq_false rfl)).trans hg57_30)
  have hg59_31 : g59 31 = .ref q34 := (congrFun eg59 31).trans ((va_up_ne _ _ (Nat.ne_of_beq_eq_false rfl)).trans hg57_31)
  have hg59_32 : g59 32 = .ref q36 := (congrFun eg59 32).trans ((va_up_ne _ _ (Nat.ne_of_beq_eq_false rfl)).trans hg57_32)
  have hg59_33 : g59 33 = .ref q38 := (congrFun eg59 33).trans ((va_up_ne _ _ (Nat.ne_of_beq_eq_false rfl)).trans hg57_33)
  have hg59_34 : g59 34 = .ref q40 := (congrFun eg59 34).trans ((va_up_ne _ _ (Nat.ne_of_beq_eq_false rfl)).trans hg57_34)
  have hg59_35 : g59 35 = .ref q42 := (congrFun eg59 35).trans ((va_up_ne _ _ (Nat.ne_of_beq_eq_false rfl)).trans hg57_35)
  have hg59_36 : g59 36 = .ref q44 := (congrFun eg59 36).trans ((va_up_ne _ _ (Nat.ne_of_beq_eq_false rfl)).trans hg57_36)
  have hg59_37 : g59 37 = .ref q46 := (congrFun eg59 37).trans ((va_up_ne _ _ (Nat.ne_of_beq_eq_false rfl)).trans hg57_37)
  have hg59_38 : g59 38 = .ref q48 := (congrFun eg59 38).trans ((va_up_ne _ _ (Nat.ne_of_beq_eq_false rfl)).trans hg57_38)
  have hg59_39 : g59 39 = .ref q50 := (congrFun eg59 39).trans ((va_up_ne _ _ (Nat.ne_of_beq_eq_false rfl)).trans hg57_39)
  have hg59_40 : g59 40 = .ref q52 := (congrFun eg59 40).trans ((va_up_ne _ _ (Nat.ne_of_beq_eq_false rfl)).trans hg57_40)
  have hg59_41 : g59 41 = .ref q54 := (congrFun eg59 41).trans ((va_up_ne _ _ (Nat.ne_of_beq_eq_false rfl)).trans hg57_41)
  have hg59_42 : g59 42 = .ref q56 := (congrFun eg59 42).trans ((va_up_ne _ _ (Nat.ne_of_beq_eq_false rfl)).trans hg57_42)
  clear hg57_0 hg57_1 hg57_8 hg57_9 hg57_16 hg57_17 hg57_19 hg57_20 hg57_21 hg57_22 hg57_23 hg57_24 hg57_25 hg57_26 hg57_46 hg57_47 hg57_48 hg57_55 hg57_74 hg57_75 hg57_86 hg57_87 hg57_88 hg57_89 hg57_95 hg57_2 hg57_3 hg57_4 hg57_5 hg57_6 hg57_7 hg57_10 hg57_11 hg57_12 hg57_13 hg57_14 hg57_15 hg57_18 hg57_27 hg57_28 hg57_29 hg57_30 hg57_31 hg57_32 hg57_33 hg57_34 hg57_35 hg57_36 hg57_37 hg57_38 hg57_39 hg57_40 hg57_41 hg57_42
  have hg59_43 : g59 43 = .ref q58 := by rw [eg59]; exact va_up_self _ _ _
  refine lv_aload_n hx hb dX13_init_255 rfl (lv_at hl 0 rfl) ?_
  refine lv_bipush (v := 20) hx hb dX13_init_256 (by decide) ?_
  refine va_newa (atype := .int) (ty := .int) (N' := 20) (a0 := (20, .inl (fun _ => (0 : Int32)))) hx hb (hts _ (vA_in _ _ (in_2 _ (List.mem_of_getElem? (i := 38) rfl)))) rfl hK hP hD hS hA (fun _ => rfl) (by decide) (by decide) (Nat.le_of_ble_eq_true rfl) (Nat.le_of_ble_eq_true rfl) (Nat.le_of_ble_eq_true rfl) dX13_init_258 (fun q60 kq60 H hK hP hD hS => ?_)
  have hK : va_K (dC, dI) vwCl [(kq1, .int), (kq13, .byte), (kq60, .int)] s := hK
  obtain ⟨wq60, ewq60⟩ : ∃ z : va_W, z = wq58 ++ [(q60, .inl (kq60, 20, .inl (fun _ => (0 : Int32))))] := ⟨_, rfl⟩
  replace hP : va_P (dC, dI) vwCl ((h, .inr (14, mL g59)) :: wq60) H := by rw [ewq60]; exact hP
  replace hD : va_D A ((h, .inr (14, mL g59)) :: wq60) := by rw [ewq60]; exact hD
  refine W.widen (k := 30) (n := 6716) (by omega) (by omega) ?_
  obtain rfl : kq1 = kq60 := ub_sa_int hK 0 2 rfl rfl
  have hK := hK.sub (tys' := [(kq1, .int), (kq13, .byte)]) [0, 1] rfl
  refine va_putF (D := (dC, dI)) (ci := 14) (v := .ref q60) (ty := .array .int) (C := RX13) (T := TX13) (N := 97) hx hb hts (fun w h => vA_in _ w (in_X13 w h)) tyX13 tyX13_ok nmX13 hown hK hP hD hS 0 rfl rfl 44 (by decide) (hts _ (vA_in _ _ (in_32 _ (List.mem_of_getElem? (i := 2) rfl)))) (fun _ h9 => h9) rfl hin rfl (by decide +kernel) rfl rfl (mL_lt (Nat.le_of_ble_eq_true rfl)) dX13_init_260 (fun H locs hP hD hS => ?_)
  replace hP : va_P (dC, dI) vwCl ((h, .inr (14, (mL g59).set 44 (.ref q60))) :: wq60) H := hP
  replace hD : va_D A ((h, .inr (14, (mL g59).set 44 (.ref q60))) :: wq60) := hD
  obtain ⟨g61, eg61⟩ : ∃ z9, z9 = va_up g59 44 (.ref q60) := ⟨_, rfl⟩
  rw [mL_upd, ← eg61] at hP hD
  have hg61_0 : g61 0 = .int 0 := (congrFun eg61 0).trans ((va_up_ne _ _ (Nat.ne_of_beq_eq_false rfl)).trans hg59_0)
  have hg61_1 : g61 1 = .int 0 := (congrFun eg61 1).trans ((va_up_ne _ _ (Nat.ne_of_beq_eq_false rfl)).trans hg59_1)
  have hg61_8 : g61 8 = .int 0 := (congrFun eg61 8).trans ((va_up_ne _ _ (Nat.ne_of_beq_eq_false rfl)).trans hg59_8)
  have hg61_9 : g61 9 = .int 0 := (congrFun eg61 9).trans ((va_up_ne _ _ (Nat.ne_of_beq_eq_false rfl)).trans hg59_9)
  have hg61_16 : g61 16 = .int 0 := (congrFun eg61 16).trans ((va_up_ne _ _ (Nat.ne_of_beq_eq_false rfl)).trans hg59_16)
  have hg61_17 : g61 17 = .int 0 := (congrFun eg61 17).trans ((va_up_ne _ _ (Nat.ne_of_beq_eq_false rfl)).trans hg59_17)
  have hg61_19 : g61 19 = .int 0 := (congrFun eg61 19).trans ((va_up_ne _ _ (Nat.ne_of_beq_eq_false rfl)).trans hg59_19)
  have hg61_20 : g61 20 = .int 0 := (congrFun eg61 20).trans ((va_up_ne _ _ (Nat.ne_of_beq_eq_false rfl)).trans hg59_20)
  have hg61_21 : g61 21 = .int 0 := (congrFun eg61 21).trans ((va_up_ne _ _ (Nat.ne_of_beq_eq_false rfl)).trans hg59_21)
  have hg61_22 : g61 22 = .int 0 := (congrFun eg61 22).trans ((va_up_ne _ _ (Nat.ne_of_beq_eq_false rfl)).trans hg59_22)
  have hg61_23 : g61 23 = .int 0 := (congrFun eg61 23).trans ((va_up_ne _ _ (Nat.ne_of_beq_eq_false rfl)).trans hg59_23)
  have hg61_24 : g61 24 = .int 0 := (congrFun eg61 24).trans ((va_up_ne _ _ (Nat.ne_of_beq_eq_false rfl)).trans hg59_24)
  have hg61_25 : g61 25 = .int 0 := (congrFun eg61 25).trans ((va_up_ne _ _ (Nat.ne_of_beq_eq_false rfl)).trans hg59_25)
  have hg61_26 : g61 26 = .int 0 := (congrFun eg61 26).trans ((va_up_ne _ _ (Nat.ne_of_beq_eq_false rfl)).trans hg59_26)
  have hg61_46 : g61 46 = .int 0 := (congrFun eg61 46).trans ((va_up_ne _ _ (Nat.ne_of_beq_eq_false rfl)).trans hg59_46)
  have hg61_47 : g61 47 = .int 0 := (congrFun eg61 47).trans ((va_up_ne _ _ (Nat.ne_of_beq_eq_false rfl)).trans hg59_47)
  have hg61_48 : g61 48 = .int 0 := (congrFun eg61 48).trans ((va_up_ne _ _ (Nat.ne_of_beq_eq_false rfl)).trans hg59_48)
  have hg61_55 : g61 55 = .int 0 := (congrFun eg61 55).trans ((va_up_ne _ _ (Nat.ne_of_beq_eq_false rfl)).trans hg59_55)
  have hg61_74 : g61 74 = .int 0 := (congrFun eg61 74).trans ((va_up_ne _ _ (Nat.ne_of_beq_eq_false rfl)).trans hg59_74)
  have hg61_75 : g61 75 = .int 0 := (congrFun eg61 75).trans ((va_up_ne _ _ (Nat.ne_of_beq_eq_false rfl)).trans hg59_75)
  have hg61_86 : g61 86 = .int 0 := (congrFun eg61 86).trans ((va_up_ne _ _ (Nat.ne_of_beq_eq_false rfl)).trans hg59_86)
  have hg61_87 : g61 87 = .int 0 := (congrFun eg61 87).trans ((va_up_ne _ _ (Nat.ne_of_beq_eq_false rfl)).trans hg59_87)
  have hg61_88 : g61 88 = .int 0 := (congrFun eg61 88).trans ((va_up_ne _ _ (Nat.ne_of_beq_eq_false rfl)).trans hg59_88)
  have hg61_89 : g61 89 = .int 0 := (congrFun eg61 89).trans ((va_up_ne _ _ (Nat.ne_of_beq_eq_false rfl)).trans hg59_89)
  have hg61_95 : g61 95 = .int 0 := (congrFun eg61 95).trans ((va_up_ne _ _ (Nat.ne_of_beq_eq_false rfl)).trans hg59_95)
  have hg61_2 : g61 2 = .ref q1 := (congrFun eg61 2).trans ((va_up_ne _ _ (Nat.ne_of_beq_eq_false rfl)).trans hg59_2)
  have hg61_3 : g61 3 = .ref q3 := (congrFun eg61 3).trans ((va_up_ne _ _ (Nat.ne_of_beq_eq_false rfl)).trans hg59_3)
  have hg61_4 : g61 4 = .ref q5 := (congrFun eg61 4).trans ((va_up_ne _ _ (Nat.ne_of_beq_eq_false rfl)).trans hg59_4)
  have hg61_5 : g61 5 = .ref q7 := (congrFun eg61 5).trans ((va_up_ne _ _ (Nat.ne_of_beq_eq_false rfl)).trans hg59_5)
  have hg61_6 : g61 6 = .ref q9 := (congrFun eg61 6).trans ((va_up_ne _ _ (Nat.ne_of_beq_eq_false rfl)).trans hg59_6)
  have hg61_7 : g61 7 = .ref q11 := (congrFun eg61 7).trans ((va_up_ne _ _ (Nat.ne_of_beq_eq_false rfl)).trans hg59_7)
  have hg61_10 : g61 10 = .ref q13 := (congrFun eg61 10).trans ((va_up_ne _ _ (Nat.ne_of_beq_eq_false rfl)).trans hg59_10)
  have hg61_11 : g61 11 = .ref q15 := (congrFun eg61 11).trans ((va_up_ne _ _ (Nat.ne_of_beq_eq_false rfl)).trans hg59_11)
  have hg61_12 : g61 12 = .ref q17 := (congrFun eg61 12).trans ((va_up_ne _ _ (Nat.ne_of_beq_eq_false rfl)).trans hg59_12)
  have hg61_13 : g61 13 = .ref q19 := (congrFun eg61 13).trans ((va_up_ne _ _ (Nat.ne_of_beq_eq_false rfl)).trans hg59_13)
  have hg61_14 : g61 14 = .ref q21 := (congrFun eg61 14).trans ((va_up_ne _ _ (Nat.ne_of_beq_eq_false rfl)).trans hg59_14)
  have hg61_15 : g61 15 = .ref q23 := (congrFun eg61 15).trans ((va_up_ne _ _ (Nat.ne_of_beq_eq_false rfl)).trans hg59_15)
  have hg61_18 : g61 18 = .ref q13 := (congrFun eg61 18).trans ((va_up_ne _ _ (Nat.ne_of_beq_eq_false rfl)).trans hg59_18)
  have hg61_27 : g61 27 = .ref q26 := (congrFun eg61 27).trans ((va_up_ne _ _ (Nat.ne_of_beq_eq_false rfl)).trans hg59_27)
  have hg61_28 : g61 28 = .ref q28 := (congrFun eg61 28).trans ((va_up_ne _ _ (Nat.ne_of_beq_eq_false rfl)).trans hg59_28)
  have hg61_29 : g61 29 = .ref q30 := (congrFun eg61 29).trans ((va_up_ne _ _ (Nat.ne_of_beq_eq_false rfl)).trans hg59_29)
  have hg61_30 : g61 30 = .ref q32 := (congrFun eg61 30).trans ((va_up_ne _ _ (Nat.ne_of_beq_eq_false rfl)).trans hg59_30)
  have hg61_31 : g61 31 = .ref q34 := (congrFun eg61 31).trans ((va_up_ne _ _ (Nat.ne_of_beq_eq_false rfl)).trans hg59_31)
  have hg61_32 : g61 32 = .ref q36 := (congrFun eg61 32).trans ((va_up_ne _ _ (Nat.ne_of_beq_eq_false rfl)).trans hg59_32)
  have hg61_33 : g61 33 = .ref q38 := (congrFun eg61 33).trans ((va_up_ne _ _ (Nat.ne_of_beq_eq_false rfl)).trans hg59_33)
  have hg61_34 : g61 34 = .ref q40 := (congrFun eg61 34).trans ((va_up_ne _ _ (Nat.ne_of_beq_eq_false rfl)).trans hg59_34)
  have hg61_35 : g61 35 = .ref q42 := (congrFun eg61 35).trans ((va_up_ne _ _ (Nat.ne_of_beq_eq_false rfl)).trans hg59_35)
  have hg61_36 : g61 36 = .ref q44 := (congrFun eg61 36).trans ((va_up_ne _ _ (Nat.ne_of_beq_eq_false rfl)).trans hg59_36)
  have hg61_37 : g61 37 = .ref q46 := (congrFun eg61 37).trans ((va_up_ne _ _ (Nat.ne_of_beq_eq_false rfl)).trans hg59_37)
  have hg61_38 : g61 38 = .ref q48 := (congrFun eg61 38).trans ((va_up_ne _ _ (Nat.ne_of_beq_eq_false rfl)).trans hg59_38)
  have hg61_39 : g61 39 = .ref q50 := (congrFun eg61 39).trans ((va_up_ne _ _ (Nat.ne_of_beq_eq_false rfl)).trans hg59_39)
  have hg61_40 : g61 40 = .ref q52 := (congrFun eg61 40).trans ((va_up_ne _ _ (Nat.ne_of_beq_eq_false rfl)).trans hg59_40)
  have hg61_41 : g61 41 = .ref q54 := (congrFun eg61 41).trans ((va_up_ne _ _ (Nat.ne_of_beq_eq_false rfl)).trans hg59_41)
  have hg61_42 : g61 42 = .ref q56 := (congrFun eg61 42).trans ((va_up_ne _ _ (Nat.ne_of_beq_eq_false rfl)).trans hg59_42)
  have hg61_43 : g61 43 = .ref q58 := (congrFun eg61 43).trans ((va_up_ne _ _ (Nat.ne_of_beq_eq_false rfl)).trans hg59_43)
  clear hg59_0 hg59_1 hg59_8 hg59_9 hg59_16 hg59_17 hg59_19 hg59_20 hg59_21 hg59_22 hg59_23 hg59_24 hg59_25 hg59_26 hg59_46 hg59_47 hg59_48 hg59_55 hg59_74 hg59_75 hg59_86 hg59_87 hg59_88 hg59_89 hg59_95 hg59_2 hg59_3 hg59_4 hg59_5 hg59_6 hg59_7 hg59_10 hg59_11 hg59_12 hg59_13 hg59_14 hg59_15 hg59_18 hg59_27 hg59_28 hg59_29 hg59_30 hg59_31 hg59_32 hg59_33 hg59_34 hg59_35 hg59_36 hg59_37 hg59_38 hg59_39 hg59_40 hg59_41 hg59_42 hg59_43
  have hg61_44 : g61 44 = .ref q60 := by rw [eg61]; exact va_up_self _ _ _
  refine lv_aload_n hx hb dX13_init_263 rfl (lv_at hl 0 rfl) ?_
  refine lv_bipush (v := 20) hx hb dX13_init_264 (by decide) ?_
  refine va_newa (atype := .int) (ty := .int) (N' := 20) (a0 := (20, .inl (fun _ => (0 : Int32)))) hx hb (hts _ (vA_in _ _ (in_2 _ (List.mem_of_getElem? (i := 38) rfl)))) rfl hK hP hD hS hA (fun _ => rfl) (by decide) (by decide) (Nat.le_of_ble_eq_true rfl) (Nat.le_of_ble_eq_true rfl) (Nat.le_of_ble_eq_true rfl) dX13_init_266 (fun q62 kq62 H hK hP hD hS => ?_)
  have hK : va_K (dC, dI) vwCl [(kq1, .int), (kq13, .byte), (kq62, .int)] s := hK
  obtain ⟨wq62, ewq62⟩ : ∃ z : va_W, z = wq60 ++ [(q62, .inl (kq62, 20, .inl (fun _ => (0 : Int32))))] := ⟨_, rfl⟩
  replace hP : va_P (dC, dI) vwCl ((h, .inr (14, mL g61)) :: wq62) H := by rw [ewq62]; exact hP
  replace hD : va_D A ((h, .inr (14, mL g61)) :: wq62) := by rw [ewq62]; exact hD
  refine W.widen (k := 31) (n := 6736) (by omega) (by omega) ?_
  obtain rfl : kq1 = kq62 := ub_sa_int hK 0 2 rfl rfl
  have hK := hK.sub (tys' := [(kq1, .int), (kq13, .byte)]) [0, 1] rfl
  refine va_putF (D := (dC, dI)) (ci := 14) (v := .ref q62) (ty := .array .int) (C := RX13) (T := TX13) (N := 97) hx hb hts (fun w h => vA_in _ w (in_X13 w h)) tyX13 tyX13_ok nmX13 hown hK hP hD hS 0 rfl rfl 45 (by decide) (hts _ (vA_in _ _ (in_32 _ (List.mem_of_getElem? (i := 3) rfl)))) (fun _ h9 => h9) rfl hin rfl (by decide +kernel) rfl rfl (mL_lt (Nat.le_of_ble_eq_true rfl)) dX13_init_268 (fun H locs hP hD hS => ?_)
  replace hP : va_P (dC, dI) vwCl ((h, .inr (14, (mL g61).set 45 (.ref q62))) :: wq62) H := hP
  replace hD : va_D A ((h, .inr (14, (mL g61).set 45 (.ref q62))) :: wq62) := hD
  obtain ⟨g63, eg63⟩ : ∃ z9, z9 = va_up g61 45 (.ref q62) := ⟨_, rfl⟩
  rw [mL_upd, ← eg63] at hP hD
  have hg63_0 : g63 0 = .int 0 := (congrFun eg63 0).trans ((va_up_ne _ _ (Nat.ne_of_beq_eq_false rfl)).trans hg61_0)
  have hg63_1 : g63 1 = .int 0 := (congrFun eg63 1).trans ((va_up_ne _ _ (Nat.ne_of_beq_eq_false rfl)).trans hg61_1)
  have hg63_8 : g63 8 = .int 0 := (congrFun eg63 8).trans ((va_up_ne _ _ (Nat.ne_of_beq_eq_false rfl)).trans hg61_8)
  have hg63_9 : g63 9 = .int 0 := (congrFun eg63 9).trans ((va_up_ne _ _ (Nat.ne_of_beq_eq_false rfl)).trans hg61_9)
  have hg63_16 : g63 16 = .int 0 := (congrFun eg63 16).trans ((va_up_ne _ _ (Nat.ne_of_beq_eq_false rfl)).trans hg61_16)
  have hg63_17 : g63 17 = .int 0 := (congrFun eg63 17).trans ((va_up_ne _ _ (Nat.ne_of_beq_eq_false rfl)).trans hg61_17)
  have hg63_19 : g63 19 = .int 0 := (congrFun eg63 19).trans ((va_up_ne _ _ (Nat.ne_of_beq_eq_false rfl)).trans hg61_19)
  have hg63_20 : g63 20 = .int 0 := (congrFun eg63 20).trans ((va_up_ne _ _ (Nat.ne_of_beq_eq_false rfl)).trans hg61_20)
  have hg63_21 : g63 21 = .int 0 := (congrFun eg63 21).trans ((va_up_ne _ _ (Nat.ne_of_beq_eq_false rfl)).trans hg61_21)
  have hg63_22 : g63 22 = .int 0 := (congrFun eg63 22).trans ((va_up_ne _ _ (Nat.ne_of_beq_eq_false rfl)).trans hg61_22)
  have hg63_23 : g63 23 = .int 0 := (congrFun eg63 23).trans ((va_up_ne _ _ (Nat.ne_of_beq_eq_false rfl)).trans hg61_23)
  have hg63_24 : g63 24 = .int 0 := (congrFun eg63 24).trans ((va_up_ne _ _ (Nat.ne_of_beq_eq_false rfl)).trans hg61_24)
  have hg63_25 : g63 25 = .int 0 := (congrFun eg63 25).trans ((va_up_ne _ _ (Nat.ne_of_beq_eq_false rfl)).trans hg61_25)
  have hg63_26 : g63 26 = .int 0 := (congrFun eg63 26).trans ((va_up_ne _ _ (Nat.ne_of_beq_eq_false rfl)).trans hg61_26)
  have hg63_46 : g63 46 = .int 0 := (congrFun eg63 46).trans ((va_up_ne _ _ (Nat.ne_of_beq_eq_false rfl)).trans hg61_46)
  have hg63_47 : g63 47 = .int 0 := (congrFun eg63 47).trans ((va_up_ne _ _ (Nat.ne_of_beq_eq_false rfl)).trans hg61_47)
  have hg63_48 : g63 48 = .int 0 := (congrFun eg63 48).trans ((va_up_ne _ _ (Nat.ne_of_beq_eq_false rfl)).trans hg61_48)
  have hg63_55 : g63 55 = .int 0 := (congrFun eg63 55).trans ((va_up_ne _ _ (Nat.ne_of_beq_eq_false rfl)).trans hg61_55)
  have hg63_74 : g63 74 = .int 0 := (congrFun eg63 74).trans ((va_up_ne _ _ (Nat.ne_of_beq_eq_false rfl)).trans hg61_74)
  have hg63_75 : g63 75 = .int 0 := (congrFun eg63 75).trans ((va_up_ne _ _ (Nat.ne_of_beq_eq_false rfl)).trans hg61_75)
  have hg63_86 : g63 86 = .int 0 := (congrFun eg63 86).trans ((va_up_ne _ _ (Nat.ne_of_beq_eq_false rfl)).trans hg61_86)
  have hg63_87 : g63 87 = .int 0 := (congrFun eg63 87).trans ((va_up_ne _ _ (Nat.ne_of_beq_eq_false rfl)).trans hg61_87)
  have hg63_88 : g63 88 = .int 0 := (congrFun eg63 88).trans ((va_up_ne _ _ (Nat.ne_of_beq_eq_false rfl)).trans hg61_88)
  have hg63_89 : g63 89 = .int 0 := (congrFun eg63 89).trans ((va_up_ne _ _ (Nat.ne_of_beq_eq_false rfl)).trans hg61_89)
  have hg63_95 : g63 95 = .int 0 := (congrFun eg63 95).trans ((va_up_ne _ _ (Nat.ne_of_beq_eq_false rfl)).trans hg61_95)
  have hg63_2 : g63 2 = .ref q1 := (congrFun eg63 2).trans ((va_up_ne _ _ (Nat.ne_of_beq_eq_false rfl)).trans hg61_2)
  have hg63_3 : g63 3 = .ref q3 := (congrFun eg63 3).trans ((va_up_ne _ _ (Nat.ne_of_beq_eq_false rfl)).trans hg61_3)
  have hg63_4 : g63 4 = .ref q5 := (congrFun eg63 4).trans ((va_up_ne _ _ (Nat.ne_of_beq_eq_false rfl)).trans hg61_4)
  have hg63_5 : g63 5 = .ref q7 := (congrFun eg63 5).trans ((va_up_ne _ _ (Nat.ne_of_beq_eq_false rfl)).trans hg61_5)
  have hg63_6 : g63 6 = .ref q9 := (congrFun eg63 6).trans ((va_up_ne _ _ (Nat.ne_of_beq_eq_false rfl)).trans hg61_6)
  have hg63_7 : g63 7 = .ref q11 := (congrFun eg63 7).trans ((va_up_ne _ _ (Nat.ne_of_beq_eq_false rfl)).trans hg61_7)
  have hg63_10 : g63 10 = .ref q13 := (congrFun eg63 10).trans ((va_up_ne _ _ (Nat.ne_of_beq_eq_false rfl)).trans hg61_10)
  have hg63_11 : g63 11 = .ref q15 := (congrFun eg63 11).trans ((va_up_ne _ _ (Nat.ne_of_beq_eq_false rfl)).trans hg61_11)
  have hg63_12 : g63 12 = .ref q17 := (congrFun eg63 12).trans ((va_up_ne _ _ (Nat.ne_of_beq_eq_false rfl)).trans hg61_12)
  have hg63_13 : g63 13 = .ref q19 := (congrFun eg63 13).trans ((va_up_ne _ _ (Nat.ne_of_beq_eq_false rfl)).trans hg61_13)
  have hg63_14 : g63 14 = .ref q21 := (congrFun eg63 14).trans ((va_up_ne _ _ (Nat.ne_of_beq_eq_false rfl)).trans hg61_14)
  have hg63_15 : g63 15 = .ref q23 := (congrFun eg63 15).trans ((va_up_ne _ _ (Nat.ne_of_beq_eq_false rfl)).trans hg61_15)
  have hg63_18 : g63 18 = .ref q13 := (congrFun eg63 18).trans ((va_up_ne _ _ (Nat.ne_of_beq_eq_false rfl)).trans hg61_18)
  have hg63_27 : g63 27 = .ref q26 := (congrFun eg63 27).trans ((va_up_ne _ _ (Nat.ne_of_beq_eq_false rfl)).trans hg61_27)
  have hg63_28 : g63 28 = .ref q28 := (congrFun eg63 28).trans ((va_up_ne _ _ (Nat.ne_of_beq_eq_false rfl)).trans hg61_28)
  have hg63_29 : g63 29 = .ref q30 := (congrFun eg63 29).trans ((va_up_ne _ _ (Nat.ne_of_beq_eq_false rfl)).trans hg61_29)
  have hg63_30 : g63 30 = .ref q32 := (congrFun eg63 30).trans ((va_up_ne _ _ (Nat.ne_of_beq_eq_false rfl)).trans hg61_30)
  have hg63_31 : g63 31 = .ref q34 := (congrFun eg63 31).trans ((va_up_ne _ _ (Nat.ne_of_beq_eq_false rfl)).trans hg61_31)
  have hg63_32 : g63 32 = .ref q36 := (congrFun eg63 32).trans ((va_up_ne _ _ (Nat.ne_of_beq_eq_false rfl)).trans hg61_32)
  have hg63_33 : g63 33 = .ref q38 := (congrFun eg63 33).trans ((va_up_ne _ _ (Nat.ne_of_beq_eq_false rfl)).trans hg61_33)
  have hg63_34 : g63 34 = .ref q40 := (congrFun eg63 34).trans ((va_up_ne _ _ (Nat.ne_of_beq_eq_false rfl)).trans hg61_34)
  have hg63_35 : g63 35 = .ref q42 := (congrFun eg63 35).trans ((va_up_ne _ _ (Nat.ne_of_beq_eq_false rfl)).trans hg61_35)
  have hg63_36 : g63 36 = .ref q44 := (congrFun eg63 36).trans ((va_up_ne _ _ (Nat.ne_of_beq_eq_false rfl)).trans hg61_36)
  have hg63_37 : g63 37 = .ref q46 := (congrFun eg63 37).trans ((va_up_ne _ _ (Nat.ne_of_beq_eq_false rfl)).trans hg61_37)
  have hg63_38 : g63 38 = .ref q48 := (congrFun eg63 38).trans ((va_up_ne _ _ (Nat.ne_of_beq_eq_false rfl)).trans hg61_38)
  have hg63_39 : g63 39 = .ref q50 := (congrFun eg63 39).trans ((va_up_ne _ _ (Nat.ne_of_beq_eq_false rfl)).trans hg61_39)
  have hg63_40 : g63 40 = .ref q52 := (congrFun eg63 40).trans ((va_up_ne _ _ (Nat.ne_of_beq_eq_false rfl)).trans hg61_40)
  have hg63_41 : g63 41 = .ref q54 := (congrFun eg63 41).trans ((va_up_ne _ _ (Nat.ne_of_beq_eq_false rfl)).trans hg61_41)
  have hg63_42 : g63 42 = .ref q56 := (congrFun eg63 42).trans ((va_up_ne _ _ (Nat.ne_of_beq_eq_false rfl)).trans hg61_42)
  have hg63_43 : g63 43 = .ref q58 := (congrFun eg63 43).trans ((va_up_ne _ _ (Nat.ne_of_beq_eq_false rfl)).trans hg61_43)
  have hg63_44 : g63 44 = .ref q60 := (congrFun eg63 44).trans ((va_up_ne _ _ (Nat.ne_of_beq_eq_false rfl)).trans hg61_44)
  clear hg61_0 hg61_1 hg61_8 hg61_9 hg61_16 hg61_17 hg61_19 hg61_20 hg61_21 hg61_22 hg61_23 hg61_24 hg61_25 hg61_26 hg61_46 hg61_47 hg61_48 hg61_55 hg61_74 hg61_75 hg61_86 hg61_87 hg61_88 hg61_89 hg61_95 hg61_2 hg61_3 hg61_4 hg61_5 hg61_6 hg61_7 hg61_10 hg61_11 hg61_12 hg61_13 hg61_14 hg61_15 hg61_18 hg61_27 hg61_28 hg61_29 hg61_30 hg61_31 hg61_32 hg61_33 hg61_34 hg61_35 hg61_36 hg61_37 hg61_38 hg61_39 hg61_40 hg61_41 hg61_42 hg61_43 hg61_44
  have hg63_45 : g63 45 = .ref q62 := by rw [eg63]; exact va_up_self _ _ _
  refine lv_aload_n hx hb dX13_init_271 rfl (lv_at hl 0 rfl) ?_
  refine lv_sipush (v := 320) hx hb dX13_init_272 (by decide) ?_
  refine va_newa (atype := .int) (ty := .int) (N' := 320) (a0 := (320, .inl (fun _ => (0 : Int32)))) hx hb (hts _ (vA_in _ _ (in_2 _ (List.mem_of_getElem? (i := 38) rfl)))) rfl hK hP hD hS hA (fun _ => rfl) (by decide) (by decide) (Nat.le_of_ble_eq_true rfl) (Nat.le_of_ble_eq_true rfl) (Nat.le_of_ble_eq_true rfl) dX13_init_275 (fun q64 kq64 H hK hP hD hS => ?_)
  have hK : va_K (dC, dI) vwCl [(kq1, .int), (kq13, .byte), (kq64, .int)] s := hK
  obtain ⟨wq64, ewq64⟩ : ∃ z : va_W, z = wq62 ++ [(q64, .inl (kq64, 320, .inl (fun _ => (0 : Int32))))] := ⟨_, rfl⟩
  replace hP : va_P (dC, dI) vwCl ((h, .inr (14, mL g63)) :: wq64) H := by rw [ewq64]; exact hP
  replace hD : va_D A ((h, .inr (14, mL g63)) :: wq64) := by rw [ewq64]; exact hD
  refine W.widen (k := 32) (n := 7056) (by omega) (by omega) ?_
  obtain rfl : kq1 = kq64 := ub_sa_int hK 0 2 rfl rfl
  have hK := hK.sub (tys' := [(kq1, .int), (kq13, .byte)]) [0, 1] rfl
  refine va_putF (D := (dC, dI)) (ci := 14) (v := .ref q64) (ty := .array .int) (C := RX13) (T := TX13) (N := 97) hx hb hts (fun w h => vA_in _ w (in_X13 w h)) tyX13 tyX13_ok nmX13 hown hK hP hD hS 0 rfl rfl 49 (by decide) (hts _ (vA_in _ _ (in_32 _ (List.mem_of_getElem? (i := 9) rfl)))) (fun _ h9 => h9) rfl hin rfl (by decide +kernel) rfl rfl (mL_lt (Nat.le_of_ble_eq_true rfl)) dX13_init_277 (fun H locs hP hD hS => ?_)
  replace hP : va_P (dC, dI) vwCl ((h, .inr (14, (mL g63).set 49 (.ref q64))) :: wq64) H := hP
  replace hD : va_D A ((h, .inr (14, (mL g63).set 49 (.ref q64))) :: wq64) := hD
  obtain ⟨g65, eg65⟩ : ∃ z9, z9 = va_up g63 49 (.ref q64) := ⟨_, rfl⟩
  rw [mL_upd, ← eg65] at hP hD
  have hg65_0 : g65 0 = .int 0 := (congrFun eg65 0).trans ((va_up_ne _ _ (Nat.ne_of_beq_eq_false rfl)).trans hg63_0)
  have hg65_1 : g65 1 = .int 0 := (congrFun eg65 1).trans ((va_up_ne _ _ (Nat.ne_of_beq_eq_false rfl)).trans hg63_1)
  have hg65_8 : g65 8 = .int 0 := (congrFun eg65 8).trans ((va_up_ne _ _ (Nat.ne_of_beq_eq_false rfl)).trans hg63_8)
  have hg65_9 : g65 9 = .int 0 := (congrFun eg65 9).trans ((va_up_ne _ _ (Nat.ne_of_beq_eq_false rfl)).trans hg63_9)
  have hg65_16 : g65 16 = .int 0 := (congrFun eg65 16).trans ((va_up_ne _ _ (Nat.ne_of_beq_eq_false rfl)).trans hg63_16)
  have hg65_17 : g65 17 = .int 0 := (congrFun eg65 17).trans ((va_up_ne _ _ (Nat.ne_of_beq_eq_false rfl)).trans hg63_17)
  have hg65_19 : g65 19 = .int 0 := (congrFun eg65 19).trans ((va_up_ne _ _ (Nat.ne_of_beq_eq_false rfl)).trans hg63_19)
  have hg65_20 : g65 20 = .int 0 := (congrFun eg65 20).trans ((va_up_ne _ _ (Nat.ne_of_beq_eq_false rfl)).trans hg63_20)
  have hg65_21 : g65 21 = .int 0 := (congrFun eg65 21).trans ((va_up_ne _ _ (Nat.ne_of_beq_eq_false rfl)).trans hg63_21)
  have hg65_22 : g65 22 = .int 0 := (congrFun eg65 22).trans ((va_up_ne _ _ (Nat.ne_of_beq_eq_false rfl)).trans hg63_22)
  have hg65_23 : g65 23 = .int 0 := (congrFun eg65 23).trans ((va_up_ne _ _ (Nat.ne_of_beq_eq_false rfl)).trans hg63_23)
  have hg65_24 : g65 24 = .int 0 := (congrFun eg65 24).trans ((va_up_ne _ _ (Nat.ne_of_beq_eq_false rfl)).trans hg63_24)
  have hg65_25 : g65 25 = .int 0 := (congrFun eg65 25).trans ((va_up_ne _ _ (Nat.ne_of_beq_eq_false rfl)).trans hg63_25)
  have hg65_26 : g65 26 = .int 0 := (congrFun eg65 26).trans ((va_up_ne _ _ (Nat.ne_of_beq_eq_false rfl)).trans hg63_26)
  have hg65_46 : g65 46 = .int 0 := (congrFun eg65 46).trans ((va_up_ne _ _ (Nat.ne_of_beq_eq_false rfl)).trans hg63_46)
  have hg65_47 : g65 47 = .int 0 := (congrFun eg65 47).trans ((va_up_ne _ _ (Nat.ne_of_beq_eq_false rfl)).trans hg63_47)
  have hg65_48 : g65 48 = .int 0 := (congrFun eg65 48).trans ((va_up_ne _ _ (Nat.ne_of_beq_eq_false rfl)).trans hg63_48)
  have hg65_55 : g65 55 = .int 0 := (congrFun eg65 55).trans ((va_up_ne _ _ (Nat.ne_of_beq_eq_false rfl)).trans hg63_55)
  have hg65_74 : g65 74 = .int 0 := (congrFun eg65 74).trans ((va_up_ne _ _ (Nat.ne_of_beq_eq_false rfl)).trans hg63_74)
  have hg65_75 : g65 75 = .int 0 := (congrFun eg65 75).trans ((va_up_ne _ _ (Nat.ne_of_beq_eq_false rfl)).trans hg63_75)
  have hg65_86 : g65 86 = .int 0 := (congrFun eg65 86).trans ((va_up_ne _ _ (Nat.ne_of_beq_eq_false rfl)).trans hg63_86)
  have hg65_87 : g65 87 = .int 0 := (congrFun eg65 87).trans ((va_up_ne _ _ (Nat.ne_of_beq_eq_false rfl)).trans hg63_87)
  have hg65_88 : g65 88 = .int 0 := (congrFun eg65 88).trans ((va_up_ne _ _ (Nat.ne_of_beq_eq_false rfl)).trans hg63_88)
  have hg65_89 : g65 89 = .int 0 := (congrFun eg65 89).trans ((va_up_ne _ _ (Nat.ne_of_beq_eq_false rfl)).trans hg63_89)
  have hg65_95 : g65 95 = .int 0 := (congrFun eg65 95).trans ((va_up_ne _ _ (Nat.ne_of_beq_eq_false rfl)).trans hg63_95)
  have hg65_2 : g65 2 = .ref q1 := (congrFun eg65 2).trans ((va_up_ne _ _ (Nat.ne_of_beq_eq_false rfl)).trans hg63_2)
  have hg65_3 : g65 3 = .ref q3 := (congrFun eg65 3).trans ((va_up_ne _ _ (Nat.ne_of_beq_eq_false rfl)).trans hg63_3)
  have hg65_4 : g65 4 = .ref q5 := (congrFun eg65 4).trans ((va_up_ne _ _ (Nat.ne_of_beq_eq_false rfl)).trans hg63_4)
  have hg65_5 : g65 5 = .ref q7 := (congrFun eg65 5).trans ((va_up_ne _ _ (Nat.ne_of_beq_eq_false rfl)).trans hg63_5)
  have hg65_6 : g65 6 = .ref q9 := (congrFun eg65 6).trans ((va_up_ne _ _ (Nat.ne_of_beq_eq_false rfl)).trans hg63_6)
  have hg65_7 : g65 7 = .ref q11 := (congrFun eg65 7).trans ((va_up_ne _ _ (Nat.ne_of_beq_eq_false rfl)).trans hg63_7)
  have hg65_10 : g65 10 = .ref q13 := (congrFun eg65 10).trans ((va_up_ne _ _ (Nat.ne_of_beq_eq_false rfl)).trans hg63_10)
  have hg65_11 : g65 11 = .ref q15 := (congrFun eg65 11).trans ((va_up_ne _ _ (Nat.ne_of_beq_eq_false rfl)).trans hg63_11)
  have hg65_12 : g65 12 = .ref q17 := (congrFun eg65 12).trans ((va_up_ne _ _ (Nat.ne_of_beq_eq_false rfl)).trans hg63_12)
  have hg65_13 : g65 13 = .ref q19 := (congrFun eg65 13).trans ((va_up_ne _ _ (Nat.ne_of_beq_eq_false rfl)).trans hg63_13)
  have hg65_14 : g65 14 = .ref q21 := (congrFun eg65 14).trans ((va_up_ne _ _ (Nat.ne_of_beq_eq_false rfl)).trans hg63_14)
  have hg65_15 : g65 15 = .ref q23 := (congrFun eg65 15).trans ((va_up_ne _ _ (Nat.ne_of_beq_eq_false rfl)).trans hg63_15)
  have hg65_18 : g65 18 = .ref q13 := (congrFun eg65 18).trans ((va_up_ne _ _ (Nat.ne_of_beq_eq_false rfl)).trans hg63_18)
  have hg65_27 : g65 27 = .ref q26 := (congrFun eg65 27).trans ((va_up_ne _ _ (Nat.ne_of_beq_eq_false rfl)).trans hg63_27)
  have hg65_28 : g65 28 = .ref q28 := (congrFun eg65 28).trans ((va_up_ne _ _ (Nat.ne_of_beq_eq_false rfl)).trans hg63_28)
  have hg65_29 : g65 29 = .ref q30 := (congrFun eg65 29).trans ((va_up_ne _ _ (Nat.ne_of_beq_eq_false rfl)).trans hg63_29)
  have hg65_30 : g65 30 = .ref q32 := (congrFun eg65 30).trans ((va_up_ne _ _ (Nat.ne_of_beq_eq_false rfl)).trans hg63_30)
  have hg65_31 : g65 31 = .ref q34 := (congrFun eg65 31).trans ((va_up_ne _ _ (Nat.ne_of_beq_eq_false rfl)).trans hg63_31)
  have hg65_32 : g65 32 = .ref q36 := (congrFun eg65 32).trans ((va_up_ne _ _ (Nat.ne_of_beq_eq_false rfl)).trans hg63_32)
  have hg65_33 : g65 33 = .ref q38 := (congrFun eg65 33).trans ((va_up_ne _ _ (Nat.ne_of_beq_eq_false rfl)).trans hg63_33)
  have hg65_34 : g65 34 = .ref q40 := (congrFun eg65 34).trans ((va_up_ne _ _ (Nat.ne_of_beq_eq_false rfl)).trans hg63_34)
  have hg65_35 : g65 35 = .ref q42 := (congrFun eg65 35).trans ((va_up_ne _ _ (Nat.ne_of_beq_eq_false rfl)).trans hg63_35)
  have hg65_36 : g65 36 = .ref q44 := (congrFun eg65 36).trans ((va_up_ne _ _ (Nat.ne_of_beq_eq_false rfl)).trans hg63_36)
  have hg65_37 : g65 37 = .ref q46 := (congrFun eg65 37).trans ((va_up_ne _ _ (Nat.ne_of_beq_eq_false rfl)).trans hg63_37)
  have hg65_38 : g65 38 = .ref q48 := (congrFun eg65 38).trans ((va_up_ne _ _ (Nat.ne_of_beq_eq_false rfl)).trans hg63_38)
  have hg65_39 : g65 39 = .ref q50 := (congrFun eg65 39).trans ((va_up_ne _ _ (Nat.ne_of_beq_eq_false rfl)).trans hg63_39)
  have hg65_40 : g65 40 = .ref q52 := (congrFun eg65 40).trans ((va_up_ne _ _ (Nat.ne_of_beq_eq_false rfl)).trans hg63_40)
  have hg65_41 : g65 41 = .ref q54 := (congrFun eg65 41).trans ((va_up_ne _ _ (Nat.ne_of_beq_eq_false rfl)).trans hg63_41)
  have hg65_42 : g65 42 = .ref q56 := (congrFun eg65 42).trans ((va_up_ne _ _ (Nat.ne_of_beq_eq_false rfl)).trans hg63_42)
  have hg65_43 : g65 43 = .ref q58 := (congrFun eg65 43).trans ((va_up_ne _ _ (Nat.ne_of_beq_eq_false rfl)).trans hg63_43)
  have hg65_44 : g65 44 = .ref q60 := (congrFun eg65 44).trans ((va_up_ne _ _ (Nat.ne_of_beq_eq_false rfl)).trans hg63_44)
  have hg65_45 : g65 45 = .ref q62 := (congrFun eg65 45).trans ((va_up_ne _ _ (Nat.ne_of_beq_eq_false rfl)).trans hg63_45)
  clear hg63_0 hg63_1 hg63_8 hg63_9 hg63_16 hg63_17 hg63_19 hg63_20 hg63_21 hg63_22 hg63_23 hg63_24 hg63_25 hg63_26 hg63_46 hg63_47 hg63_48 hg63_55 hg63_74 hg63_75 hg63_86 hg63_87 hg63_88 hg63_89 hg63_95 hg63_2 hg63_3 hg63_4 hg63_5 hg63_6 hg63_7 hg63_10 hg63_11 hg63_12 hg63_13 hg63_14 hg63_15 hg63_18 hg63_27 hg63_28 hg63_29 hg63_30 hg63_31 hg63_32 hg63_33 hg63_34 hg63_35 hg63_36 hg63_37 hg63_38 hg63_39 hg63_40 hg63_41 hg63_42 hg63_43 hg63_44 hg63_45
  have hg65_49 : g65 49 = .ref q64 := by rw [eg65]; exact va_up_self _ _ _
  refine lv_aload_n hx hb dX13_init_280 rfl (lv_at hl 0 rfl) ?_
  refine lv_bipush (v := 16) hx hb dX13_init_281 (by decide) ?_
  refine va_newa (atype := .int) (ty := .int) (N' := 16) (a0 := (16, .inl (fun _ => (0 : Int32)))) hx hb (hts _ (vA_in _ _ (in_2 _ (List.mem_of_getElem? (i := 38) rfl)))) rfl hK hP hD hS hA (fun _ => rfl) (by decide) (by decide) (Nat.le_of_ble_eq_true rfl) (Nat.le_of_ble_eq_true rfl) (Nat.le_of_ble_eq_true rfl) dX13_init_283 (fun q66 kq66 H hK hP hD hS => ?_)
  have hK : va_K (dC, dI) vwCl [(kq1, .int), (kq13, .byte), (kq66, .int)] s := hK
  obtain ⟨wq66, ewq66⟩ : ∃ z : va_W, z = wq64 ++ [(q66, .inl (kq66, 16, .inl (fun _ => (0 : Int32))))] := ⟨_, rfl⟩
  replace hP : va_P (dC, dI) vwCl ((h, .inr (14, mL g65)) :: wq66) H := by rw [ewq66]; exact hP
  replace hD : va_D A ((h, .inr (14, mL g65)) :: wq66) := by rw [ewq66]; exact hD
  refine W.widen (k := 33) (n := 7072) (by omega) (by omega) ?_
  obtain rfl : kq1 = kq66 := ub_sa_int hK 0 2 rfl rfl
  have hK := hK.sub (tys' := [(kq1, .int), (kq13, .byte)]) [0, 1] rfl
  refine va_putF (D := (dC, dI)) (ci := 14) (v := .ref q66) (ty := .array .int) (C := RX13) (T := TX13) (N := 97) hx hb hts (fun w h => vA_in _ w (in_X13 w h)) tyX13 tyX13_ok nmX13 hown hK hP hD hS 0 rfl rfl 50 (by decide) (hts _ (vA_in _ _ (in_32 _ (List.mem_of_getElem? (i := 10) rfl)))) (fun _ h9 => h9) rfl hin rfl (by decide +kernel) rfl rfl (mL_lt (Nat.le_of_ble_eq_true rfl)) dX13_init_285 (fun H locs hP hD hS => ?_)
  replace hP : va_P (dC, dI) vwCl ((h, .inr (14, (mL g65).set 50 (.ref q66))) :: wq66) H := hP
  replace hD : va_D A ((h, .inr (14, (mL g65).set 50 (.ref q66))) :: wq66) := hD
  obtain ⟨g67, eg67⟩ : ∃ z9, z9 = va_up g65 50 (.ref q66) := ⟨_, rfl⟩
  rw [mL_upd, ← eg67] at hP hD
  have hg67_0 : g67 0 = .int 0 := (congrFun eg67 0).trans ((va_up_ne _ _ (Nat.ne_of_beq_eq_false rfl)).trans hg65_0)
  have hg67_1 : g67 1 = .int 0 := (congrFun eg67 1).trans ((va_up_ne _ _ (Nat.ne_of_beq_eq_false rfl)).trans hg65_1)
  have hg67_8 : g67 8 = .int 0 := (congrFun eg67 8).trans ((va_up_ne _ _ (Nat.ne_of_beq_eq_false rfl)).trans hg65_8)
  have hg67_9 : g67 9 = .int 0 := (congrFun eg67 9).trans ((va_up_ne _ _ (Nat.ne_of_beq_eq_false rfl)).trans hg65_9)
  have hg67_16 : g67 16 = .int 0 := (congrFun eg67 16).trans ((va_up_ne _ _ (Nat.ne_of_beq_eq_false rfl)).trans hg65_16)
  have hg67_17 : g67 17 = .int 0 := (congrFun eg67 17).trans ((va_up_ne _ _ (Nat.ne_of_beq_eq_false rfl)).trans hg65_17)
  have hg67_19 : g67 19 = .int 0 := (congrFun eg67 19).trans ((va_up_ne _ _ (Nat.ne_of_beq_eq_false rfl)).trans hg65_19)
  have hg67_20 : g67 20 = .int 0 := (congrFun eg67 20).trans ((va_up_ne _ _ (Nat.ne_of_beq_eq_false rfl)).trans hg65_20)
  have hg67_21 : g67 21 = .int 0 := (congrFun eg67 21).trans ((va_up_ne _ _ (Nat.ne_of_beq_eq_false rfl)).trans hg65_21)
  have hg67_22 : g67 22 = .int 0 := (congrFun eg67 22).trans ((va_up_ne _ _ (Nat.ne_of_beq_eq_false rfl)).trans hg65_22)
  have hg67_23 : g67 23 = .int 0 := (congrFun eg67 23).trans ((va_up_ne _ _ (Nat.ne_of_beq_eq_false rfl)).trans hg65_23)
  have hg67_24 : g67 24 = .int 0 := (congrFun eg67 24).trans ((va_up_ne _ _ (Nat.ne_of_beq_eq_false rfl)).trans hg65_24)
  have hg67_25 : g67 25 = .int 0 := (congrFun eg67 25).trans ((va_up_ne _ _ (Nat.ne_of_beq_eq_false rfl)).trans hg65_25)
  have hg67_26 : g67 26 = .int 0 := (congrFun eg67 26).trans ((va_up_ne _ _ (Nat.ne_of_beq_eq_false rfl)).trans hg65_26)
  have hg67_46 : g67 46 = .int 0 := (congrFun eg67 46).trans ((va_up_ne _ _ (Nat.ne_of_beq_eq_false rfl)).trans hg65_46)
  have hg67_47 : g67 47 = .int 0 := (congrFun eg67 47).trans ((va_up_ne _ _ (Nat.ne_of_beq_eq_false rfl)).trans hg65_47)
  have hg67_48 : g67 48 = .int 0 := (congrFun eg67 48).trans ((va_up_ne _ _ (Nat.ne_of_beq_eq_false rfl)).trans hg65_48)
  have hg67_55 : g67 55 = .int 0 := (congrFun eg67 55).trans ((va_up_ne _ _ (Nat.ne_of_beq_eq_false rfl)).trans hg65_55)
  have hg67_74 : g67 74 = .int 0 := (congrFun eg67 74).trans ((va_up_ne _ _ (Nat.ne_of_beq_eq_false rfl)).trans hg65_74)
  have hg67_75 : g67 75 = .int 0 := (congrFun eg67 75).trans ((va_up_ne _ _ (Nat.ne_of_beq_eq_false rfl)).trans hg65_75)
  have hg67_86 : g67 86 = .int 0 := (congrFun eg67 86).trans ((va_up_ne _ _ (Nat.ne_of_beq_eq_false rfl)).trans hg65_86)
  have hg67_87 : g67 87 = .int 0 := (congrFun eg67 87).trans ((va_up_ne _ _ (Nat.ne_of_beq_eq_false rfl)).trans hg65_87)
  have hg67_88 : g67 88 = .int 0 := (congrFun eg67 88).trans ((va_up_ne _ _ (Nat.ne_of_beq_eq_false rfl)).trans hg65_88)
  have hg67_89 : g67 89 = .int 0 := (congrFun eg67 89).trans ((va_up_ne _ _ (Nat.ne_of_beq_eq_false rfl)).trans hg65_89)
  have hg67_95 : g67 95 = .int 0 := (congrFun eg67 95).trans ((va_up_ne _ _ (Nat.ne_of_beq_eq_false rfl)).trans hg65_95)
  have hg67_2 : g67 2 = .ref q1 := (congrFun eg67 2).trans ((va_up_ne _ _ (Nat.ne_of_beq_eq_false rfl)).trans hg65_2)
  have hg67_3 : g67 3 = .ref q3 := (congrFun eg67 3).trans ((va_up_ne _ _ (Nat.ne_of_beq_eq_false rfl)).trans hg65_3)
  have hg67_4 : g67 4 = .ref q5 := (congrFun eg67 4).trans ((va_up_ne _ _ (Nat.ne_of_beq_eq_false rfl)).trans hg65_4)
  have hg67_5 : g67 5 = .ref q7 := (congrFun eg67 5).trans ((va_up_ne _ _ (Nat.ne_of_beq_eq_false rfl)).trans hg65_5)
  have hg67_6 : g67 6 = .ref q9 := (congrFun eg67 6).trans ((va_up_ne _ _ (Nat.ne_of_beq_eq_false rfl)).trans hg65_6)
  have hg67_7 : g67 7 = .ref q11 := (congrFun eg67 7).trans ((va_up_ne _ _ (Nat.ne_of_beq_eq_false rfl)).trans hg65_7)
  have hg67_10 : g67 10 = .ref q13 := (congrFun eg67 10).trans ((va_up_ne _ _ (Nat.ne_of_beq_eq_false rfl)).trans hg65_10)
  have hg67_11 : g67 11 = .ref q15 := (congrFun eg67 11).trans ((va_up_ne _ _ (Nat.ne_of_beq_eq_false rfl)).trans hg65_11)
  have hg67_12 : g67 12 = .ref q17 := (congrFun eg67 12).trans ((va_up_ne _ _ (Nat.ne_of_beq_eq_false rfl)).trans hg65_12)
  have hg67_13 : g67 13 = .ref q19 := (congrFun eg67 13).trans ((va_up_ne _ _ (Nat.ne_of_beq_eq_false rfl)).trans hg65_13)
  have hg67_14 : g67 14 = .ref q21 := (congrFun eg67 14).trans ((va_up_ne _ _ (Nat.ne_of_beq_eq_false rfl)).trans hg65_14)
  have hg67_15 : g67 15 = .ref q23 := (congrFun eg67 15).trans ((va_up_ne _ _ (Nat.ne_of_beq_eq_false rfl)).trans hg65_15)
  have hg67_18 : g67 18 = .ref q13 := (congrFun eg67 18).trans ((va_up_ne _ _ (Nat.ne_of_beq_eq_false rfl)).trans hg65_18)
  have hg67_27 : g67 27 = .ref q26 := (congrFun eg67 27).trans ((va_up_ne _ _ (Nat.ne_of_beq_eq_false rfl)).trans hg65_27)
  have hg67_28 : g67 28 = .ref q28 := (congrFun eg67 28).trans ((va_up_ne _ _ (Nat.ne_of_beq_eq_false rfl)).trans hg65_28)
  have hg67_29 : g67 29 = .ref q30 := (congrFun eg67 29).trans ((va_up_ne _ _ (Nat.ne_of_beq_eq_false rfl)).trans hg65_29)
  have hg67_30 : g67 30 = .ref q32 := (congrFun eg67 30).trans ((va_up_ne _ _ (Nat.ne_of_beq_eq_false rfl)).trans hg65_30)
  have hg67_31 : g67 31 = .ref q34 := (congrFun eg67 31).trans ((va_up_ne _ _ (Nat.ne_of_beq_eq_false rfl)).trans hg65_31)
  have hg67_32 : g67 32 = .ref q36 := (congrFun eg67 32).trans ((va_up_ne _ _ (Nat.ne_of_beq_eq_false rfl)).trans hg65_32)
  have hg67_33 : g67 33 = .ref q38 := (congrFun eg67 33).trans ((va_up_ne _ _ (Nat.ne_of_beq_eq_false rfl)).trans hg65_33)
  have hg67_34 : g67 34 = .ref q40 := (congrFun eg67 34).trans ((va_up_ne _ _ (Nat.ne_of_beq_eq_false rfl)).trans hg65_34)
  have hg67_35 : g67 35 = .ref q42 := (congrFun eg67 35).trans ((va_up_ne _ _ (Nat.ne_of_beq_eq_false rfl)).trans hg65_35)
  have hg67_36 : g67 36 = .ref q44 := (congrFun eg67 36).trans ((va_up_ne _ _ (Nat.ne_of_beq_eq_false rfl)).trans hg65_36)
  have hg67_37 : g67 37 = .ref q46 := (congrFun eg67 37).trans ((va_up_ne _ _ (Nat.ne_of_beq_eq_false rfl)).trans hg65_37)
  have hg67_38 : g67 38 = .ref q48 := (congrFun eg67 38).trans ((va_up_ne _ _ (Nat.ne_of_beq_eq_false rfl)).trans hg65_38)
  have hg67_39 : g67 39 = .ref q50 := (congrFun eg67 39).trans ((va_up_ne _ _ (Nat.ne_of_beq_eq_false rfl)).trans hg65_39)
  have hg67_40 : g67 40 = .ref q52 := (congrFun eg67 40).trans ((va_up_ne _ _ (Nat.ne_of_beq_eq_false rfl)).trans hg65_40)
  have hg67_41 : g67 41 = .ref q54 := (congrFun eg67 41).trans ((va_up_ne _ _ (Nat.ne_of_beq_eq_false rfl)).trans hg65_41)
  have hg67_42 : g67 42 = .ref q56 := (congrFun eg67 42).trans ((va_up_ne _ _ (Nat.ne_of_beq_eq_false rfl)).trans hg65_42)
  have hg67_43 : g67 43 = .ref q58 := (congrFun eg67 43).trans ((va_up_ne _ _ (Nat.ne_of_beq_eq_false rfl)).trans hg65_43)
  have hg67_44 : g67 44 = .ref q60 := (congrFun eg67 44).trans ((va_up_ne _ _ (Nat.ne_of_beq_eq_false rfl)).trans hg65_44)
  have hg67_45 : g67 45 = .ref q62 := (congrFun eg67 45).trans ((va_up_ne _ _ (Nat.ne_of_beq_eq_false rfl)).trans hg65_45)
  have hg67_49 : g67 49 = .ref q64 := (congrFun eg67 49).trans ((va_up_ne _ _ (Nat.ne_of_beq_eq_false rfl)).trans hg65_49)
  clear hg65_0 hg65_1 hg65_8 hg65_9 hg65_16 hg65_17 hg65_19 hg65_20 hg65_21 hg65_22 hg65_23 hg65_24 hg65_25 hg65_26 hg65_46 hg65_47 hg65_48 hg65_55 hg65_74 hg65_75 hg65_86 hg65_87 hg65_88 hg65_89 hg65_95 hg65_2 hg65_3 hg65_4 hg65_5 hg65_6 hg65_7 hg65_10 hg65_11 hg65_12 hg65_13 hg65_14 hg65_15 hg65_18 hg65_27 hg65_28 hg65_29 hg65_30 hg65_31 hg65_32 hg65_33 hg65_34 hg65_35 hg65_36 hg65_37 hg65_38 hg65_39 hg65_40 hg65_41 hg65_42 hg65_43 hg65_44 hg65_45 hg65_49
  have hg67_50 : g67 50 = .ref q66 := by rw [eg67]; exact va_up_self _ _ _
  refine lv_aload_n hx hb dX13_init_288 rfl (lv_at hl 0 rfl) ?_
  refine lv_bipush (v := 20) hx hb dX13_init_289 (by decide) ?_
  refine va_newa (atype := .int) (ty := .int) (N' := 20) (a0 := (20, .inl (fun _ => (0 : Int32)))) hx hb (hts _ (vA_in _ _ (in_2 _ (List.mem_of_getElem? (i := 38) rfl)))) rfl hK hP hD hS hA (fun _ => rfl) (by decide) (by decide) (Nat.le_of_ble_eq_true rfl) (Nat.le_of_ble_eq_true rfl) (Nat.le_of_ble_eq_true rfl) dX13_init_291 (fun q68 kq68 H hK hP hD hS => ?_)
  have hK : va_K (dC, dI) vwCl [(kq1, .int), (kq13, .byte), (kq68, .int)] s := hK
  obtain ⟨wq68, ewq68⟩ : ∃ z : va_W, z = wq66 ++ [(q68, .inl (kq68, 20, .inl (fun _ => (0 : Int32))))] := ⟨_, rfl⟩
  replace hP : va_P (dC, dI) vwCl ((h, .inr (14, mL g67)) :: wq68) H := by rw [ewq68]; exact hP
  replace hD : va_D A ((h, .inr (14, mL g67)) :: wq68) := by rw [ewq68]; exact hD
  refine W.widen (k := 34) (n := 7092) (by omega) (by omega) ?_
  obtain rfl : kq1 = kq68 := ub_sa_int hK 0 2 rfl rfl
  have hK := hK.sub (tys' := [(kq1, .int), (kq13, .byte)]) [0, 1] rfl
  refine va_putF (D := (dC, dI)) (ci := 14) (v := .ref q68) (ty := .array .int) (C := RX13) (T := TX13) (N := 97) hx hb hts (fun w h => vA_in _ w (in_X13 w h)) tyX13 tyX13_ok nmX13 hown hK hP hD hS 0 rfl rfl 51 (by decide) (hts _ (vA_in _ _ (in_32 _ (List.mem_of_getElem? (i := 11) rfl)))) (fun _ h9 => h9) rfl hin rfl (by decide +kernel) rfl rfl (mL_lt (Nat.le_of_ble_eq_true rfl)) dX13_init_293 (fun H locs hP hD hS => ?_)
  replace hP : va_P (dC, dI) vwCl ((h, .inr (14, (mL g67).set 51 (.ref q68))) :: wq68) H := hP
  replace hD : va_D A ((h, .inr (14, (mL g67).set 51 (.ref q68))) :: wq68) := hD
  obtain ⟨g69, eg69⟩ : ∃ z9, z9 = va_up g67 51 (.ref q68) := ⟨_, rfl⟩
  rw [mL_upd, ← eg69] at hP hD
  have hg69_0 : g69 0 = .int 0 := (congrFun eg69 0).trans ((va_up_ne _ _ (Nat.ne_of_beq_eq_false rfl)).trans hg67_0)
  have hg69_1 : g69 1 = .int 0 := (congrFun eg69 1).trans ((va_up_ne _ _ (Nat.ne_of_beq_eq_false rfl)).trans hg67_1)
  have hg69_8 : g69 8 = .int 0 := (congrFun eg69 8).trans ((va_up_ne _ _ (Nat.ne_of_beq_eq_false rfl)).trans hg67_8)
  have hg69_9 : g69 9 = .int 0 := (congrFun eg69 9).trans ((va_up_ne _ _ (Nat.ne_of_beq_eq_false rfl)).trans hg67_9)
  have hg69_16 : g69 16 = .int 0 := (congrFun eg69 16).trans ((va_up_ne _ _ (Nat.ne_of_beq_eq_false rfl)).trans hg67_16)
  have hg69_17 : g69 17 = .int 0 := (congrFun eg69 17).trans ((va_up_ne _ _ (Nat.ne_of_beq_eq_false rfl)).trans hg67_17)
  have hg69_19 : g69 19 = .int 0 := (congrFun eg69 19).trans ((va_up_ne _ _ (Nat.ne_of_beq_eq_false rfl)).trans hg67_19)
  have hg69_20 : g69 20 = .int 0 := (congrFun eg69 20).trans ((va_up_ne _ _ (Nat.ne_of_beq_eq_false rfl)).trans hg67_20)
  have hg69_21 : g69 21 = .int 0 := (congrFun eg69 21).trans ((va_up_ne _ _ (Nat.ne_of_beq_eq_false rfl)).trans hg67_21)
  have hg69_22 : g69 22 = .int 0 := (congrFun eg69 22).trans ((va_up_ne _ _ (Nat.ne_of_beq_eq_false rfl)).trans hg67_22)
  have hg69_23 : g69 23 = .int 0 := (congrFun eg69 23).trans ((va_up_ne _ _ (Nat.ne_of_beq_eq_false rfl)).trans hg67_23)
  have hg69_24 : g69 24 = .int 0 := (congrFun eg69 24).trans ((va_up_ne _ _ (Nat.ne_of_beq_eq_false rfl)).trans hg67_24)
  have hg69_25 : g69 25 = .int 0 := (congrFun eg69 25).trans ((va_up_ne _ _ (Nat.ne_of_beq_eq_false rfl)).trans hg67_25)
  have hg69_26 : g69 26 = .int 0 := (congrFun eg69 26).trans ((va_up_ne _ _ (Nat.ne_of_beq_eq_false rfl)).trans hg67_26)
  have hg69_46 : g69 46 = .int 0 := (congrFun eg69 46).trans ((va_up_ne _ _ (Nat.ne_of_beq_eq_false rfl)).trans hg67_46)
  have hg69_47 : g69 47 = .int 0 := (congrFun eg69 47).trans ((va_up_ne _ _ (Nat.ne_of_beq_eq_false rfl)).trans hg67_47)
  have hg69_48 : g69 48 = .int 0 := (congrFun eg69 48).trans ((va_up_ne _ _ (Nat.ne_of_beq_eq_false rfl)).trans hg67_48)
  have hg69_55 : g69 55 = .int 0 := (congrFun eg69 55).trans ((va_up_ne _ _ (Nat.ne_of_beq_eq_false rfl)).trans hg67_55)
  have hg69_74 : g69 74 = .int 0 := (congrFun eg69 74).trans ((va_up_ne _ _ (Nat.ne_of_beq_eq_false rfl)).trans hg67_74)
  have hg69_75 : g69 75 = .int 0 := (congrFun eg69 75).trans ((va_up_ne _ _ (Nat.ne_of_beq_eq_false rfl)).trans hg67_75)
  have hg69_86 : g69 86 = .int 0 := (congrFun eg69 86).trans ((va_up_ne _ _ (Nat.ne_of_beq_eq_false rfl)).trans hg67_86)
  have hg69_87 : g69 87 = .int 0 := (congrFun eg69 87).trans ((va_up_ne _ _ (Nat.ne_of_beq_eq_false rfl)).trans hg67_87)
  have hg69_88 : g69 88 = .int 0 := (congrFun eg69 88).trans ((va_up_ne _ _ (Nat.ne_of_beq_eq_false rfl)).trans hg67_88)
  have hg69_89 : g69 89 = .int 0 := (congrFun eg69 89).trans ((va_up_ne _ _ (Nat.ne_of_beq_eq_false rfl)).trans hg67_89)
  have hg69_95 : g69 95 = .int 0 := (congrFun eg69 95).trans ((va_up_ne _ _ (Nat.ne_of_beq_eq_false rfl)).trans hg67_95)
  have hg69_2 : g69 2 = .ref q1 := (congrFun eg69 2).trans ((va_up_ne _ _ (Nat.ne_of_beq_eq_false rfl)).trans hg67_2)
  have hg69_3 : g69 3 = .ref q3 := (congrFun eg69 3).trans ((va_up_ne _ _ (Nat.ne_of_beq_eq_false rfl)).trans hg67_3)
  have hg69_4 : g69 4 = .ref q5 := (congrFun eg69 4).trans ((va_up_ne _ _ (Nat.ne_of_beq_eq_false rfl)).trans hg67_4)
  have hg69_5 : g69 5 = .ref q7 := (congrFun eg69 5).trans ((va_up_ne _ _ (Nat.ne_of_beq_eq_false rfl)).trans hg67_5)
  have hg69_6 : g69 6 = .ref q9 := (congrFun eg69 6).trans ((va_up_ne _ _ (Nat.ne_of_beq_eq_false rfl)).trans hg67_6)
  have hg69_7 : g69 7 = .ref q11 := (congrFun eg69 7).trans ((va_up_ne _ _ (Nat.ne_of_beq_eq_false rfl)).trans hg67_7)
  have hg69_10 : g69 10 = .ref q13 := (congrFun eg69 10).trans ((va_up_ne _ _ (Nat.ne_of_beq_eq_false rfl)).trans hg67_10)
  have hg69_11 : g69 11 = .ref q15 := (congrFun eg69 11).trans ((va_up_ne _ _ (Nat.ne_of_beq_eq_false rfl)).trans hg67_11)
  have hg69_12 : g69 12 = .ref q17 := (congrFun eg69 12).trans ((va_up_ne _ _ (Nat.ne_of_beq_eq_false rfl)).trans hg67_12)
  have hg69_13 : g69 13 = .ref q19 := (congrFun eg69 13).trans ((va_up_ne _ _ (Nat.ne_of_beq_eq_false rfl)).trans hg67_13)
  have hg69_14 : g69 14 = .ref q21 := (congrFun eg69 14).trans ((va_up_ne _ _ (Nat.ne_of_beq_eq_false rfl)).trans hg67_14)
  have hg69_15 : g69 15 = .ref q23 := (congrFun eg69 15).trans ((va_up_ne _ _ (Nat.ne_of_beq_eq_false rfl)).trans hg67_15)
  have hg69_18 : g69 18 = .ref q13 := (congrFun eg69 18).trans ((va_up_ne _ _ (Nat.ne_of_beq_eq_false rfl)).trans hg67_18)
  have hg69_27 : g69 27 = .ref q26 := (congrFun eg69 27).trans ((va_up_ne _ _ (Nat.ne_of_beq_eq_false rfl)).trans hg67_27)
  have hg69_28 : g69 28 = .ref q28 := (congrFun eg69 28).trans ((va_up_ne _ _ (Nat.ne_of_beq_eq_false rfl)).trans hg67_28)
  have hg69_29 : g69 29 = .ref q30 := (congrFun eg69 29).trans ((va_up_ne _ _ (Nat.ne_of_beq_eq_false rfl)).trans hg67_29)
  have hg69_30 : g69 30 = .ref q32 := (congrFun eg69 30).trans ((va_up_ne _ _ (Nat.ne_of_beq_eq_false rfl)).trans hg67_30)
  have hg69_31 : g69 31 = .ref q34 := (congrFun eg69 31).trans ((va_up_ne _ _ (Nat.ne_of_beq_eq_false rfl)).trans hg67_31)
  have hg69_32 : g69 32 = .ref q36 := (congrFun eg69 32).trans ((va_up_ne _ _ (Nat.ne_of_beq_eq_false rfl)).trans hg67_32)
  have hg69_33 : g69 33 = .ref q38 := (congrFun eg69 33).trans ((va_up_ne _ _ (Nat.ne_of_beq_eq_false rfl)).trans hg67_33)
  have hg69_34 : g69 34 = .ref q40 := (congrFun eg69 34).trans ((va_up_ne _ _ (Nat.ne_of_beq_eq_false rfl)).trans hg67_34)
  have hg69_35 : g69 35 = .ref q42 := (congrFun eg69 35).trans ((va_up_ne _ _ (Nat.ne_of_beq_eq_false rfl)).trans hg67_35)
  have hg69_36 : g69 36 = .ref q44 := (congrFun eg69 36).trans ((va_up_ne _ _ (Nat.ne_of_beq_eq_false rfl)).trans hg67_36)
  have hg69_37 : g69 37 = .ref q46 := (congrFun eg69 37).trans ((va_up_ne _ _ (Nat.ne_of_beq_eq_false rfl)).trans hg67_37)
  have hg69_38 : g69 38 = .ref q48 := (congrFun eg69 38).trans ((va_up_ne _ _ (Nat.ne_of_beq_eq_false rfl)).trans hg67_38)
  have hg69_39 : g69 39 = .ref q50 := (congrFun eg69 39).trans ((va_up_ne _ _ (Nat.ne_of_beq_eq_false rfl)).trans hg67_39)
  have hg69_40 : g69 40 = .ref q52 := (congrFun eg69 40).trans ((va_up_ne _ _ (Nat.ne_of_beq_eq_false rfl)).trans hg67_40)
  have hg69_41 : g69 41 = .ref q54 := (congrFun eg69 41).trans ((va_up_ne _ _ (Nat.ne_of_beq_eq_false rfl)).trans hg67_41)
  have hg69_42 : g69 42 = .ref q56 := (congrFun eg69 42).trans ((va_up_ne _ _ (Nat.ne_of_beq_eq_false rfl)).trans hg67_42)
  have hg69_43 : g69 43 = .ref q58 := (congrFun eg69 43).trans ((va_up_ne _ _ (Nat.ne_of_beq_eq_false rfl)).trans hg67_43)
  have hg69_44 : g69 44 = .ref q60 := (congrFun eg69 44).trans ((va_up_ne _ _ (Nat.ne_of_beq_eq_false rfl)).trans hg67_44)
  have hg69_45 : g69 45 = .ref q62 := (congrFun eg69 45).trans ((va_up_ne _ _ (Nat.ne_of_beq_eq_false rfl)).trans hg67_45)
  have hg69_49 : g69 49 = .ref q64 := (congrFun eg69 49).trans ((va_up_ne _ _ (Nat.ne_of_beq_eq_false rfl)).trans hg67_49)
  have hg69_50 : g69 50 = .ref q66 := (congrFun eg69 50).trans ((va_up_ne _ _ (Nat.ne_of_beq_eq_false rfl)).trans hg67_50)
  clear hg67_0 hg67_1 hg67_8 hg67_9 hg67_16 hg67_17 hg67_19 hg67_20 hg67_21 hg67_22 hg67_23 hg67_24 hg67_25 hg67_26 hg67_46 hg67_47 hg67_48 hg67_55 hg67_74 hg67_75 hg67_86 hg67_87 hg67_88 hg67_89 hg67_95 hg67_2 hg67_3 hg67_4 hg67_5 hg67_6 hg67_7 hg67_10 hg67_11 hg67_12 hg67_13 hg67_14 hg67_15 hg67_18 hg67_27 hg67_28 hg67_29 hg67_30 hg67_31 hg67_32 hg67_33 hg67_34 hg67_35 hg67_36 hg67_37 hg67_38 hg67_39 hg67_40 hg67_41 hg67_42 hg67_43 hg67_44 hg67_45 hg67_49 hg67_50
  have hg69_51 : g69 51 = .ref q68 := by rw [eg69]; exact va_up_self _ _ _
  refine lv_aload_n hx hb dX13_init_296 rfl (lv_at hl 0 rfl) ?_
  refine lv_bipush (v := 20) hx hb dX13_init_297 (by decide) ?_
  refine va_newa (atype := .int) (ty := .int) (N' := 20) (a0 := (20, .inl (fun _ => (0 : Int32)))) hx hb (hts _ (vA_in _ _ (in_2 _ (List.mem_of_getElem? (i := 38) rfl)))) rfl hK hP hD hS hA (fun _ => rfl) (by decide) (by decide) (Nat.le_of_ble_eq_true rfl) (Nat.le_of_ble_eq_true rfl) (Nat.le_of_ble_eq_true rfl) dX13_init_299 (fun q70 kq70 H hK hP hD hS => ?_)
  have hK : va_K (dC, dI) vwCl [(kq1, .int), (kq13, .byte), (kq70, .int)] s := hK
  obtain ⟨wq70, ewq70⟩ : ∃ z : va_W, z = wq68 ++ [(q70, .inl (kq70, 20, .inl (fun _ => (0 : Int32))))] := ⟨_, rfl⟩
  replace hP : va_P (dC, dI) vwCl ((h, .inr (14, mL g69)) :: wq70) H := by rw [ewq70]; exact hP
  replace hD : va_D A ((h, .inr (14, mL g69)) :: wq70) := by rw [ewq70]; exact hD
  refine W.widen (k := 35) (n := 7112) (by omega) (by omega) ?_
  obtain rfl : kq1 = kq70 := ub_sa_int hK 0 2 rfl rfl
  have hK := hK.sub (tys' := [(kq1, .int), (kq13, .byte)]) [0, 1] rfl
  refine va_putF (D := (dC, dI)) (ci := 14) (v := .ref q70) (ty := .array .int) (C := RX13) (T := TX13) (N := 97) hx hb hts (fun w h => vA_in _ w (in_X13 w h)) tyX13 tyX13_ok nmX13 hown hK hP hD hS 0 rfl rfl 52 (by decide) (hts _ (vA_in _ _ (in_32 _ (List.mem_of_getElem? (i := 12) rfl)))) (fun _ h9 => h9) rfl hin rfl (by decide +kernel) rfl rfl (mL_lt (Nat.le_of_ble_eq_true rfl)) dX13_init_301 (fun H locs hP hD hS => ?_)
  replace hP : va_P (dC, dI) vwCl ((h, .inr (14, (mL g69).set 52 (.ref q70))) :: wq70) H := hP
  replace hD : va_D A ((h, .inr (14, (mL g69).set 52 (.ref q70))) :: wq70) := hD
  obtain ⟨g71, eg71⟩ : ∃ z9, z9 = va_up g69 52 (.ref q70) := ⟨_, rfl⟩
  rw [mL_upd, ← eg71] at hP hD
  have hg71_0 : g71 0 = .int 0 := (congrFun eg71 0).trans ((va_up_ne _ _ (Nat.ne_of_beq_eq_false rfl)).trans hg69_0)
  have hg71_1 : g71 1 = .int 0 := (congrFun eg71 1).trans ((va_up_ne _ _ (Nat.ne_of_beq_eq_false rfl)).trans hg69_1)
  have hg71_8 : g71 8 = .int 0 := (congrFun eg71 8).trans ((va_up_ne _ _ (Nat.ne_of_beq_eq_false rfl)).trans hg69_8)
  have hg71_9 : g71 9 = .int 0 := (congrFun eg71 9).trans ((va_up_ne _ _ (Nat.ne_of_beq_eq_false rfl)).trans hg69_9)
  have hg71_16 : g71 16 = .int 0 := (congrFun eg71 16).trans ((va_up_ne _ _ (Nat.ne_of_beq_eq_false rfl)).trans hg69_16)
  have hg71_17 : g71 17 = .int 0 := (congrFun eg71 17).trans ((va_up_ne _ _ (Nat.ne_of_beq_eq_false rfl)).trans hg69_17)
  have hg71_19 : g71 19 = .int 0 := (congrFun eg71 19).trans ((va_up_ne _ _ (Nat.ne_of_beq_eq_false rfl)).trans hg69_19)
  have hg71_20 : g71 20 = .int 0 := (congrFun eg71 20).trans ((va_up_ne _ _ (Nat.ne_of_beq_eq_false rfl)).trans hg69_20)
  have hg71_21 : g71 21 = .int 0 := (congrFun eg71 21).trans ((va_up_ne _ _ (Nat.ne_of_beq_eq_false rfl)).trans hg69_21)
  have hg71_22 : g71 22 = .int 0 := (congrFun eg71 22).trans ((va_up_ne _ _ (Nat.ne_of_beq_eq_false rfl)).trans hg69_22)
  have hg71_23 : g71 23 = .int 0 := (congrFun eg71 23).trans ((va_up_ne _ _ (Nat.ne_of_beq_eq_false rfl)).trans hg69_23)
  have hg71_24 : g71 24 = .int 0 := (congrFun eg71 24).trans ((va_up_ne _ _ (Nat.ne_of_beq_eq_false rfl)).trans hg69_24)
  have hg71_25 : g71 25 = .int 0 := (congrFun eg71 25).trans ((va_up_ne _ _ (Nat.ne_of_beq_eq_false rfl)).trans hg69_25)
  have hg71_26 : g71 26 = .int 0 := (congrFun eg71 26).trans ((va_up_ne _ _ (Nat.ne_of_beq_eq_false rfl)).trans hg69_26)
  have hg71_46 : g71 46 = .int 0 := (congrFun eg71 46).trans ((va_up_ne _ _ (Nat.ne_of_beq_eq_false rfl)).trans hg69_46)
  have hg71_47 : g71 47 = .int 0 := (congrFun eg71 47).trans ((va_up_ne _ _ (Nat.ne_of_beq_eq_false rfl)).trans hg69_47)
  have hg71_48 : g71 48 = .int 0 := (congrFun eg71 48).trans ((va_up_ne _ _ (Nat.ne_of_beq_eq_false rfl)).trans hg69_48)
  have hg71_55 : g71 55 = .int 0 := (congrFun eg71 55).trans ((va_up_ne _ _ (Nat.ne_of_beq_eq_false rfl)).trans hg69_55)
  have hg71_74 : g71 74 = .int 0 := (congrFun eg71 74).trans ((va_up_ne _ _ (Nat.ne_of_beq_eq_false rfl)).trans hg69_74)
  have hg71_75 : g71 75 = .int 0 := (congrFun eg71 75).trans ((va_up_ne _ _ (Nat.ne_of_beq_eq_false rfl)).trans hg69_75)
  have hg71_86 : g71 86 = .int 0 := (congrFun eg71 86).trans ((va_up_ne _ _ (Nat.ne_of_beq_eq_false rfl)).trans hg69_86)
  have hg71_87 : g71 87 = .int 0 := (congrFun eg71 87).trans ((va_up_ne _ _ (Nat.ne_of_beq_eq_false rfl)).trans hg69_87)
  have hg71_88 : g71 88 = .int 0 := (congrFun eg71 88).trans ((va_up_ne _ _ (Nat.ne_of_beq_eq_false rfl)).trans hg69_88)
  have hg71_89 : g71 89 = .int 0 := (congrFun eg71 89).trans ((va_up_ne _ _ (Nat.ne_of_beq_eq_false rfl)).trans hg69_89)
  have hg71_95 : g71 95 = .int 0 := (congrFun eg71 95).trans ((va_up_ne _ _ (Nat.ne_of_beq_eq_false rfl)).trans hg69_95)
  have hg71_2 : g71 2 = .ref q1 := (congrFun eg71 2).trans ((va_up_ne _ _ (Nat.ne_of_beq_eq_false rfl)).trans hg69_2)
  have hg71_3 : g71 3 = .ref q3 := (congrFun eg71 3).trans ((va_up_ne _ _ (Nat.ne_of_beq_eq_false rfl)).trans hg69_3)
  have hg71_4 : g71 4 = .ref q5 := (congrFun eg71 4).trans ((va_up_ne _ _ (Nat.ne_of_beq_eq_false rfl)).trans hg69_4)
  have hg71_5 : g71 5 = .ref q7 := (congrFun eg71 5).trans ((va_up_ne _ _ (Nat.ne_of_beq_eq_false rfl)).trans hg69_5)
  have hg71_6 : g71 6 = .ref q9 := (congrFun eg71 6).trans ((va_up_ne _ _ (Nat.ne_of_beq_eq_false rfl)).trans hg69_6)
  have hg71_7 : g71 7 = .ref q11 := (congrFun eg71 7).trans ((va_up_ne _ _ (Nat.ne_of_beq_eq_false rfl)).trans hg69_7)
  have hg71_10 : g71 10 = .ref q13 := (congrFun eg71 10).trans ((va_up_ne _ _ (Nat.ne_of_beq_eq_false rfl)).trans hg69_10)
  have hg71_11 : g71 11 = .ref q15 := (congrFun eg71 11).trans ((va_up_ne _ _ (Nat.ne_of_beq_eq_false rfl)).trans hg69_11)
  have hg71_12 : g71 12 = .ref q17 := (congrFun eg71 12).trans ((va_up_ne _ _ (Nat.ne_of_beq_eq_false rfl)).trans hg69_12)
  have hg71_13 : g71 13 = .ref q19 := (congrFun eg71 13).trans ((va_up_ne _ _ (Nat.ne_of_beq_eq_false rfl)).trans hg69_13)
  have hg71_14 : g71 14 = .ref q21 := (congrFun eg71 14).trans ((va_up_ne _ _ (Nat.ne_of_beq_eq_false rfl)).trans hg69_14)
  have hg71_15 : g71 15 = .ref q23 := (congrFun eg71 15).trans ((va_up_ne _ _ (Nat.ne_of_beq_eq_false rfl)).trans hg69_15)
  have hg71_18 : g71 18 = .ref q13 := (congrFun eg71 18).trans ((va_up_ne _ _ (Nat.ne_of_beq_eq_false rfl)).trans hg69_18)
  have hg71_27 : g71 27 = .ref q26 := (congrFun eg71 27).trans ((va_up_ne _ _ (Nat.ne_of_beq_eq_false rfl)).trans hg69_27)
  have hg71_28 : g71 28 = .ref q28 := (congrFun eg71 28).trans ((va_up_ne _ _ (Nat.ne_of_beq_eq_false rfl)).trans hg69_28)
  have hg71_29 : g71 29 = .ref q30 := (congrFun eg71 29).trans ((va_up_ne _ _ (Nat.ne_of_beq_eq_false rfl)).trans hg69_29)
  have hg71_30 : g71 30 = .ref q32 := (congrFun eg71 30).trans ((va_up_ne _ _ (Nat.ne_of_beq_eq_false rfl)).trans hg69_30)
  have hg71_31 : g71 31 = .ref q34 := (congrFun eg71 31).trans ((va_up_ne _ _ (Nat.ne_of_beq_eq_false rfl)).trans hg69_31)
  have hg71_32 : g71 32 = .ref q36 := (congrFun eg71 32).trans ((va_up_ne _ _ (Nat.ne_of_beq_eq_false rfl)).trans hg69_32)
  have hg71_33 : g71 33 = .ref q38 := (congrFun eg71 33).trans ((va_up_ne _ _ (Nat.ne_of_beq_eq_false rfl)).trans hg69_33)
  have hg71_34 : g71 34 = .ref q40 := (congrFun eg71 34).trans ((va_up_ne _ _ (Nat.ne_of_beq_eq_false rfl)).trans hg69_34)
  have hg71_35 : g71 35 = .ref q42 := (congrFun eg71 35).trans ((va_up_ne _ _ (Nat.ne_of_beq_eq_false rfl)).trans hg69_35)
  have hg71_36 : g71 36 = .ref q44 := (congrFun eg71 36).trans ((va_up_ne _ _ (Nat.ne_of_beq_eq_false rfl)).trans hg69_36)
  have hg71_37 : g71 37 = .ref q46 := (congrFun eg71 37).trans ((va_up_ne _ _ (Nat.ne_of_beq_eq_false rfl)).trans hg69_37)
  have hg71_38 : g71 38 = .ref q48 := (congrFun eg71 38).trans ((va_up_ne _ _ (Nat.ne_of_beq_eq_false rfl)).trans hg69_38)
  have hg71_39 : g71 39 = .ref q50 := (congrFun eg71 39).trans ((va_up_ne _ _ (Nat.ne_of_beq_eq_false rfl)).trans hg69_39)
  have hg71_40 : g71 40 = .ref q52 := (congrFun eg71 40).trans ((va_up_ne _ _ (Nat.ne_of_beq_eq_false rfl)).trans hg69_40)
  have hg71_41 : g71 41 = .ref q54 := (congrFun eg71 41).trans ((va_up_ne _ _ (Nat.ne_of_beq_eq_false rfl)).trans hg69_41)
  have hg71_42 : g71 42 = .ref q56 := (congrFun eg71 42).trans ((va_up_ne _ _ (Nat.ne_of_beq_eq_false rfl)).trans hg69_42)
  have hg71_43 : g71 43 = .ref q58 := (congrFun eg71 43).trans ((va_up_ne _ _ (Nat.ne_of_beq_eq_false rfl)).trans hg69_43)
  have hg71_44 : g71 44 = .ref q60 := (congrFun eg71 44).trans ((va_up_ne _ _ (Nat.ne_of_beq_eq_false rfl)).trans hg69_44)
  have hg71_45 : g71 45 = .ref q62 := (congrFun eg71 45).trans ((va_up_ne _ _ (Nat.ne_of_beq_eq_false rfl)).trans hg69_45)
  have hg71_49 : g71 49 = .ref q64 := (congrFun eg71 49).trans ((va_up_ne _ _ (Nat.ne_of_beq_eq_false rfl)).trans hg69_49)
  have hg71_50 : g71 50 = .ref q66 := (congrFun eg71 50).trans ((va_up_ne _ _ (Nat.ne_of_beq_eq_false rfl)).trans hg69_50)
  have hg71_51 : g71 51 = .ref q68 := (congrFun eg71 51).trans ((va_up_ne _ _ (Nat.ne_of_beq_eq_false rfl)).trans hg69_51)
  clear hg69_0 hg69_1 hg69_8 hg69_9 hg69_16 hg69_17 hg69_19 hg69_20 hg69_21 hg69_22 hg69_23 hg69_24 hg69_25 hg69_26 hg69_46 hg69_47 hg69_48 hg69_55 hg69_74 hg69_75 hg69_86 hg69_87 hg69_88 hg69_89 hg69_95 hg69_2 hg69_3 hg69_4 hg69_5 hg69_6 hg69_7 hg69_10 hg69_11 hg69_12 hg69_13 hg69_14 hg69_15 hg69_18 hg69_27 hg69_28 hg69_29 hg69_30 hg69_31 hg69_32 hg69_33 hg69_34 hg69_35 hg69_36 hg69_37 hg69_38 hg69_39 hg69_40 hg69_41 hg69_42 hg69_43 hg69_44 hg69_45 hg69_49 hg69_50 hg69_51
  have hg71_52 : g71 52 = .ref q70 := by rw [eg71]; exact va_up_self _ _ _
  refine lv_aload_n hx hb dX13_init_304 rfl (lv_at hl 0 rfl) ?_
  refine lv_sipush (v := 320) hx hb dX13_init_305 (by decide) ?_
  refine va_newa (atype := .boolean) (ty := .boolean) (N' := 320) (a0 := (320, .inl (fun _ => (0 : Int32)))) hx hb (hts _ (vA_in _ _ (in_19 _ (List.mem_of_getElem? (i := 10) rfl)))) rfl hK hP hD hS hA (fun _ => rfl) (by decide) (by decide) (Nat.le_of_ble_eq_true rfl) (Nat.le_of_ble_eq_true rfl) (Nat.le_of_ble_eq_true rfl) dX13_init_308 (fun q72 kq72 H hK hP hD hS => ?_)
  have hK : va_K (dC, dI) vwCl [(kq1, .int), (kq13, .byte), (kq72, .boolean)] s := hK
  obtain ⟨wq72, ewq72⟩ : ∃ z : va_W, z = wq70 ++ [(q72, .inl (kq72, 320, .inl (fun _ => (0 : Int32))))] := ⟨_, rfl⟩
  replace hP : va_P (dC, dI) vwCl ((h, .inr (14, mL g71)) :: wq72) H := by rw [ewq72]; exact hP
  replace hD : va_D A ((h, .inr (14, mL g71)) :: wq72) := by rw [ewq72]; exact hD
  refine W.widen (k := 36) (n := 7432) (by omega) (by omega) ?_
  refine va_putF (D := (dC, dI)) (ci := 14) (v := .ref q72) (ty := .array .boolean) (C := RX13) (T := TX13) (N := 97) hx hb hts (fun w h => vA_in _ w (in_X13 w h)) tyX13 tyX13_ok nmX13 hown hK hP hD hS 0 rfl rfl 53 (by decide) (hts _ (vA_in _ _ (in_32 _ (List.mem_of_getElem? (i := 13) rfl)))) (fun _ h9 => h9) rfl hin rfl (by decide +kernel) rfl rfl (mL_lt (Nat.le_of_ble_eq_true rfl)) dX13_init_310 (fun H locs hP hD hS => ?_)
  replace hP : va_P (dC, dI) vwCl ((h, .inr (14, (mL g71).set 53 (.ref q72))) :: wq72) H := hP
  replace hD : va_D A ((h, .inr (14, (mL g71).set 53 (.ref q72))) :: wq72) := hD
  obtain ⟨g73, eg73⟩ : ∃ z9, z9 = va_up g71 53 (.ref q72) := ⟨_, rfl⟩
  rw [mL_upd, ← eg73] at hP hD
  have hg73_0 : g73 0 = .int 0 := (congrFun eg73 0).trans ((va_up_ne _ _ (Nat.ne_of_beq_eq_false rfl)).trans hg71_0)
  have hg73_1 : g73 1 = .int 0 := (congrFun eg73 1).trans ((va_up_ne _ _ (Nat.ne_of_beq_eq_false rfl)).trans hg71_1)
  have hg73_8 : g73 8 = .int 0 := (congrFun eg73 8).trans ((va_up_ne _ _ (Nat.ne_of_beq_eq_false rfl)).trans hg71_8)
  have hg73_9 : g73 9 = .int 0 := (congrFun eg73 9).trans ((va_up_ne _ _ (Nat.ne_of_beq_eq_false rfl)).trans hg71_9)
  have hg73_16 : g73 16 = .int 0 := (congrFun eg73 16).trans ((va_up_ne _ _ (Nat.ne_of_beq_eq_false rfl)).trans hg71_16)
  have hg73_17 : g73 17 = .int 0 := (congrFun eg73 17).trans ((va_up_ne _ _ (Nat.ne_of_beq_eq_false rfl)).trans hg71_17)
  have hg73_19 : g73 19 = .int 0 := (congrFun eg73 19).trans ((va_up_ne _ _ (Nat.ne_of_beq_eq_false rfl)).trans hg71_19)
  have hg73_20 : g73 20 = .int 0 := (congrFun eg73 20).trans ((va_up_ne _ _ (Nat.ne_of_beq_eq_false rfl)).trans hg71_20)
  have hg73_21 : g73 21 = .int 0 := (congrFun eg73 21).trans ((va_up_ne _ _ (Nat.ne_of_beq_eq_false rfl)).trans hg71_21)
  have hg73_22 : g73 22 = .int 0 := (congrFun eg73 22).trans ((va_up_ne _ _ (Nat.ne_of_beq_eq_false rfl)).trans hg71_22)
  have hg73_23 : g73 23 = .int 0 := (congrFun eg73 23).trans ((va_up_ne _ _ (Nat.ne_of_beq_eq_false rfl)).trans hg71_23)
  have hg73_24 : g73 24 = .int 0 := (congrFun eg73 24).trans ((va_up_ne _ _ (Nat.ne_of_beq_eq_false rfl)).trans hg71_24)
  have hg73_25 : g73 25 = .int 0 := (congrFun eg73 25).trans ((va_up_ne _ _ (Nat.ne_of_beq_eq_false rfl)).trans hg71_25)
  have hg73_26 : g73 26 = .int 0 := (congrFun eg73 26).trans ((va_up_ne _ _ (Nat.ne_of_beq_eq_false rfl)).trans hg71_26)
  have hg73_46 : g73 46 = .int 0 := (congrFun eg73 46).trans ((va_up_ne _ _ (Nat.ne_of_beq_eq_false rfl)).trans hg71_46)
  have hg73_47 : g73 47 = .int 0 := (congrFun eg73 47).trans ((va_up_ne _ _ (Nat.ne_of_beq_eq_false rfl)).trans hg71_47)
  have hg73_48 : g73 48 = .int 0 := (congrFun eg73 48).trans ((va_up_ne _ _ (Nat.ne_of_beq_eq_false rfl)).trans hg71_48)
  have hg73_55 : g73 55 = .int 0 := (congrFun eg73 55).trans ((va_up_ne _ _ (Nat.ne_of_beq_eq_false rfl)).trans hg71_55)
  have hg73_74 : g73 74 = .int 0 := (congrFun eg73 74).trans ((va_up_ne _ _ (Nat.ne_of_beq_eq_false rfl)).trans hg71_74)
  have hg73_75 : g73 75 = .int 0 := (congrFun eg73 75).trans ((va_up_ne _ _ (Nat.ne_of_beq_eq_false rfl)).trans hg71_75)
  have hg73_86 : g73 86 = .int 0 := (congrFun eg73 86).trans ((va_up_ne _ _ (Nat.ne_of_beq_eq_false rfl)).trans hg71_86)
  have hg73_87 : g73 87 = .int 0 := (congrFun eg73 87).trans ((va_up_ne _ _ (Nat.ne_of_beq_eq_false rfl)).trans hg71_87)
  have hg73_88 : g73 88 = .int 0 := (congrFun eg73 88).trans ((va_up_ne _ _ (Nat.ne_of_beq_eq_false rfl)).trans hg71_88)
  have hg73_89 : g73 89 = .int 0 := (congrFun eg73 89).trans ((va_up_ne _ _ (Nat.ne_of_beq_eq_false rfl)).trans hg71_89)
  have hg73_95 : g73 95 = .int 0 := (congrFun eg73 95).trans ((va_up_ne _ _ (Nat.ne_of_beq_eq_false rfl)).trans hg71_95)
  have hg73_2 : g73 2 = .ref q1 := (congrFun eg73 2).trans ((va_up_ne _ _ (Nat.ne_of_beq_eq_false rfl)).trans hg71_2)
  have hg73_3 : g73 3 = .ref q3 := (congrFun eg73 3).trans ((va_up_ne _ _ (Nat.ne_of_beq_eq_false rfl)).trans hg71_3)
  have hg73_4 : g73 4 = .ref q5 := (congrFun eg73 4).trans ((va_up_ne _ _ (Nat.ne_of_beq_eq_false rfl)).trans hg71_4)
  have hg73_5 : g73 5 = .ref q7 := (congrFun eg73 5).trans ((va_up_ne _ _ (Nat.ne_of_beq_eq_false rfl)).trans hg71_5)
  have hg73_6 : g73 6 = .ref q9 := (congrFun eg73 6).trans ((va_up_ne _ _ (Nat.ne_of_beq_eq_false rfl)).trans hg71_6)
  have hg73_7 : g73 7 = .ref q11 := (congrFun eg73 7).trans ((va_up_ne _ _ (Nat.ne_of_beq_eq_false rfl)).trans hg71_7)
  have hg73_10 : g73 10 = .ref q13 := (congrFun eg73 10).trans ((va_up_ne _ _ (Nat.ne_of_beq_eq_false rfl)).trans hg71_10)
  have hg73_11 : g73 11 = .ref q15 := (congrFun eg73 11).trans ((va_up_ne _ _ (Nat.ne_of_beq_eq_false rfl)).trans hg71_11)
  have hg73_12 : g73 12 = .ref q17 := (congrFun eg73 12).trans ((va_up_ne _ _ (Nat.ne_of_beq_eq_false rfl)).trans hg71_12)
  have hg73_13 : g73 13 = .ref q19 := (congrFun eg73 13).trans ((va_up_ne _ _ (Nat.ne_of_beq_eq_false rfl)).trans hg71_13)
  have hg73_14 : g73 14 = .ref q21 := (congrFun eg73 14).trans ((va_up_ne _ _ (Nat.ne_of_beq_eq_false rfl)).trans hg71_14)
  have hg73_15 : g73 15 = .ref q23 := (congrFun eg73 15).trans ((va_up_ne _ _ (Nat.ne_of_beq_eq_false rfl)).trans hg71_15)
  have hg73_18 : g73 18 = .ref q13 := (congrFun eg73 18).trans ((va_up_ne _ _ (Nat.ne_of_beq_eq_false rfl)).trans hg71_18)
  have hg73_27 : g73 27 = .ref q26 := (congrFun eg73 27).trans ((va_up_ne _ _ (Nat.ne_of_beq_eq_false rfl)).trans hg71_27)
  have hg73_28 : g73 28 = .ref q28 := (congrFun eg73 28).trans ((va_up_ne _ _ (Nat.ne_of_beq_eq_false rfl)).trans hg71_28)
  have hg73_29 : g73 29 = .ref q30 := (congrFun eg73 29).trans ((va_up_ne _ _ (Nat.ne_of_beq_eq_false rfl)).trans hg71_29)
  have hg73_30 : g73 30 = .ref q32 := (congrFun eg73 30).trans ((va_up_ne _ _ (Nat.ne_of_beq_eq_false rfl)).trans hg71_30)
  have hg73_31 : g73 31 = .ref q34 := (congrFun eg73 31).trans ((va_up_ne _ _ (Nat.ne_of_beq_eq_false rfl)).trans hg71_31)
  have hg73_32 : g73 32 = .ref q36 := (congrFun eg73 32).trans ((va_up_ne _ _ (Nat.ne_of_beq_eq_false rfl)).trans hg71_32)
  have hg73_33 : g73 33 = .ref q38 := (congrFun eg73 33).trans ((va_up_ne _ _ (Nat.ne_of_beq_eq_false rfl)).trans hg71_33)
  have hg73_34 : g73 34 = .ref q40 := (congrFun eg73 34).trans ((va_up_ne _ _ (Nat.ne_of_beq_eq_false rfl)).trans hg71_34)
  have hg73_35 : g73 35 = .ref q42 := (congrFun eg73 35).trans ((va_up_ne _ _ (Nat.ne_of_beq_eq_false rfl)).trans hg71_35)
  have hg73_36 : g73 36 = .ref q44 := (congrFun eg73 36).trans ((va_up_ne _ _ (Nat.ne_of_beq_eq_false rfl)).trans hg71_36)
  have hg73_37 : g73 37 = .ref q46 := (congrFun eg73 37).trans ((va_up_ne _ _ (Nat.ne_of_beq_eq_false rfl)).trans hg71_37)
  have hg73_38 : g73 38 = .ref q48 := (congrFun eg73 38).trans ((va_up_ne _ _ (Nat.ne_of_beq_eq_false rfl)).trans hg71_38)
  have hg73_39 : g73 39 = .ref q50 := (congrFun eg73 39).trans ((va_up_ne _ _ (Nat.ne_of_beq_eq_false rfl)).trans hg71_39)
  have hg73_40 : g73 40 = .ref q52 := (congrFun eg73 40).trans ((va_up_ne _ _ (Nat.ne_of_beq_eq_false rfl)).trans hg71_40)
  have hg73_41 : g73 41 = .ref q54 := (congrFun eg73 41).trans ((va_up_ne _ _ (Nat.ne_of_beq_eq_false rfl)).trans hg71_41)
  have hg73_42 : g73 42 = .ref q56 := (congrFun eg73 42).trans ((va_up_ne _ _ (Nat.ne_of_beq_eq_false rfl)).trans hg71_42)
  have hg73_43 : g73 43 = .ref q58 := (congrFun eg73 43).trans ((va_up_ne _ _ (Nat.ne_of_beq_eq_false rfl)).trans hg71_43)
  have hg73_44 : g73 44 = .ref q60 := (congrFun eg73 44).trans ((va_up_ne _ _ (Nat.ne_of_beq_eq_false rfl)).trans hg71_44)
  have hg73_45 : g73 45 = .ref q62 := (congrFun eg73 45).trans ((va_up_ne _ _ (Nat.ne_of_beq_eq_false rfl)).trans hg71_45)
  have hg73_49 : g73 49 = .ref q64 := (congrFun eg73 49).trans ((va_up_ne _ _ (Nat.ne_of_beq_eq_false rfl)).trans hg71_49)
  have hg73_50 : g73 50 = .ref q66 := (congrFun eg73 50).trans ((va_up_ne _ _ (Nat.ne_of_beq_eq_false rfl)).trans hg71_50)
  have hg73_51 : g73 51 = .ref q68 := (congrFun eg73 51).trans ((va_up_ne _ _ (Nat.ne_of_beq_eq_false rfl)).trans hg71_51)
  have hg73_52 : g73 52 = .ref q70 := (congrFun eg73 52).trans ((va_up_ne _ _ (Nat.ne_of_beq_eq_false rfl)).trans hg71_52)
  clear hg71_0 hg71_1 hg71_8 hg71_9 hg71_16 hg71_17 hg71_19 hg71_20 hg71_21 hg71_22 hg71_23 hg71_24 hg71_25 hg71_26 hg71_46 hg71_47 hg71_48 hg71_55 hg71_74 hg71_75 hg71_86 hg71_87 hg71_88 hg71_89 hg71_95 hg71_2 hg71_3 hg71_4 hg71_5 hg71_6 hg71_7 hg71_10 hg71_11 hg71_12 hg71_13 hg71_14 hg71_15 hg71_18 hg71_27 hg71_28 hg71_29 hg71_30 hg71_31 hg71_32 hg71_33 hg71_34 hg71_35 hg71_36 hg71_37 hg71_38 hg71_39 hg71_40 hg71_41 hg71_42 hg71_43 hg71_44 hg71_45 hg71_49 hg71_50 hg71_51 hg71_52
  have hg73_53 : g73 53 = .ref q72 := by rw [eg73]; exact va_up_self _ _ _
  refine lv_aload_n hx hb dX13_init_313 rfl (lv_at hl 0 rfl) ?_
  refine lv_bipush (v := 16) hx hb dX13_init_314 (by decide) ?_
  refine va_newa (atype := .boolean) (ty := .boolean) (N' := 16) (a0 := (16, .inl (fun _ => (0 : Int32)))) hx hb (hts _ (vA_in _ _ (in_19 _ (List.mem_of_getElem? (i := 10) rfl)))) rfl hK hP hD hS hA (fun _ => rfl) (by decide) (by decide) (Nat.le_of_ble_eq_true rfl) (Nat.le_of_ble_eq_true rfl) (Nat.le_of_ble_eq_true rfl) dX13_init_316 (fun q74 kq74 H hK hP hD hS => ?_)
  have hK : va_K (dC, dI) vwCl [(kq1, .int), (kq13, .byte), (kq72, .boolean), (kq74, .boolean)] s := hK
  obtain ⟨wq74, ewq74⟩ : ∃ z : va_W, z = wq72 ++ [(q74, .inl (kq74, 16, .inl (fun _ => (0 : Int32))))] := ⟨_, rfl⟩
  replace hP : va_P (dC, dI) vwCl ((h, .inr (14, mL g73)) :: wq74) H := by rw [ewq74]; exact hP
  replace hD : va_D A ((h, .inr (14, mL g73)) :: wq74) := by rw [ewq74]; exact hD
  refine W.widen (k := 37) (n := 7448) (by omega) (by omega) ?_
  obtain rfl : kq72 = kq74 := ub_sa_boolean hK 2 3 rfl rfl
  have hK := hK.sub (tys' := [(kq1, .int), (kq13, .byte), (kq72, .boolean)]) [0, 1, 2] rfl
  refine va_putF (D := (dC, dI)) (ci := 14) (v := .ref q74) (ty := .array .boolean) (C := RX13) (T := TX13) (N := 97) hx hb hts (fun w h => vA_in _ w (in_X13 w h)) tyX13 tyX13_ok nmX13 hown hK hP hD hS 0 rfl rfl 54 (by decide) (hts _ (vA_in _ _ (in_32 _ (List.mem_of_getElem? (i := 14) rfl)))) (fun _ h9 => h9) rfl hin rfl (by decide +kernel) rfl rfl (mL_lt (Nat.le_of_ble_eq_true rfl)) dX13_init_318 (fun H locs hP hD hS => ?_)
  replace hP : va_P (dC, dI) vwCl ((h, .inr (14, (mL g73).set 54 (.ref q74))) :: wq74) H := hP
  replace hD : va_D A ((h, .inr (14, (mL g73).set 54 (.ref q74))) :: wq74) := hD
  obtain ⟨g75, eg75⟩ : ∃ z9, z9 = va_up g73 54 (.ref q74) := ⟨_, rfl⟩
  rw [mL_upd, ← eg75] at hP hD
  have hg75_0 : g75 0 = .int 0 := (congrFun eg75 0).trans ((va_up_ne _ _ (Nat.ne_of_beq_eq_false rfl)).trans hg73_0)
  have hg75_1 : g75 1 = .int 0 := (congrFun eg75 1).trans ((va_up_ne _ _ (Nat.ne_of_beq_eq_false rfl)).trans hg73_1)
  have hg75_8 : g75 8 = .int 0 := (congrFun eg75 8).trans ((va_up_ne _ _ (Nat.ne_of_beq_eq_false rfl)).trans hg73_8)
  have hg75_9 : g75 9 = .int 0 := (congrFun eg75 9).trans ((va_up_ne _ _ (Nat.ne_of_beq_eq_false rfl)).trans hg73_9)
  have hg75_16 : g75 16 = .int 0 := (congrFun eg75 16).trans ((va_up_ne _ _ (Nat.ne_of_beq_eq_false rfl)).trans hg73_16)
  have hg75_17 : g75 17 = .int 0 := (congrFun eg75 17).trans ((va_up_ne _ _ (Nat.ne_of_beq_eq_false rfl)).trans hg73_17)
  have hg75_19 : g75 19 = .int 0 := (congrFun eg75 19).trans ((va_up_ne _ _ (Nat.ne_of_beq_eq_false rfl)).trans hg73_19)
  have hg75_20 : g75 20 = .int 0 := (congrFun eg75 20).trans ((va_up_ne _ _ (Nat.ne_of_beq_eq_false rfl)).trans hg73_20)
  have hg75_21 : g75 21 = .int 0 := (congrFun eg75 21).trans ((va_up_ne _ _ (Nat.ne_of_beq_eq_false rfl)).trans hg73_21)
  have hg75_22 : g75 22 = .int 0 := (congrFun eg75 22).trans ((va_up_ne _ _ (Nat.ne_of_beq_eq_false rfl)).trans hg73_22)
  have hg75_23 : g75 23 = .int 0 := (congrFun eg75 23).trans ((va_up_ne _ _ (Nat.ne_of_beq_eq_false rfl)).trans hg73_23)
  have hg75_24 : g75 24 = .int 0 := (congrFun eg75 24).trans ((va_up_ne _ _ (Nat.ne_of_beq_eq_false rfl)).trans hg73_24)
  have hg75_25 : g75 25 = .int 0 := (congrFun eg75 25).trans ((va_up_ne _ _ (Nat.ne_of_beq_eq_false rfl)).trans hg73_25)
  have hg75_26 : g75 26 = .int 0 := (congrFun eg75 26).trans ((va_up_ne _ _ (Nat.ne_of_beq_eq_false rfl)).trans hg73_26)
  have hg75_46 : g75 46 = .int 0 := (congrFun eg75 46).trans ((va_up_ne _ _ (Nat.ne_of_beq_eq_false rfl)).trans hg73_46)
  have hg75_47 : g75 47 = .int 0 := (congrFun eg75 47).trans ((va_up_ne _ _ (Nat.ne_of_beq_eq_false rfl)).trans hg73_47)
  have hg75_48 : g75 48 = .int 0 := (congrFun eg75 48).trans ((va_up_ne _ _ (Nat.ne_of_beq_eq_false rfl)).trans hg73_48)
  have hg75_55 : g75 55 = .int 0 := (congrFun eg75 55).trans ((va_up_ne _ _ (Nat.ne_of_beq_eq_false rfl)).trans hg73_55)
  have hg75_74 : g75 74 = .int 0 := (congrFun eg75 74).trans ((va_up_ne _ _ (Nat.ne_of_beq_eq_false rfl)).trans hg73_74)
  have hg75_75 : g75 75 = .int 0 := (congrFun eg75 75).trans ((va_up_ne _ _ (Nat.ne_of_beq_eq_false rfl)).trans hg73_75)
  have hg75_86 : g75 86 = .int 0 := (congrFun eg75 86).trans ((va_up_ne _ _ (Nat.ne_of_beq_eq_false rfl)).trans hg73_86)
  have hg75_87 : g75 87 = .int 0 := (congrFun eg75 87).trans ((va_up_ne _ _ (Nat.ne_of_beq_eq_false rfl)).trans hg73_87)
  have hg75_88 : g75 88 = .int 0 := (congrFun eg75 88).trans ((va_up_ne _ _ (Nat.ne_of_beq_eq_false rfl)).trans hg73_88)
  have hg75_89 : g75 89 = .int 0 := (congrFun eg75 89).trans ((va_up_ne _ _ (Nat.ne_of_beq_eq_false rfl)).trans hg73_89)
  have hg75_95 : g75 95 = .int 0 := (congrFun eg75 95).trans ((va_up_ne _ _ (Nat.ne_of_beq_eq_false rfl)).trans hg73_95)
  have hg75_2 : g75 2 = .ref q1 := (congrFun eg75 2).trans ((va_up_ne _ _ (Nat.ne_of_beq_eq_false rfl)).trans hg73_2)
  have hg75_3 : g75 3 = .ref q3 := (congrFun eg75 3).trans ((va_up_ne _ _ (Nat.ne_of_beq_eq_false rfl)).trans hg73_3)
  have hg75_4 : g75 4 = .ref q5 := (congrFun eg75 4).trans ((va_up_ne _ _ (Nat.ne_of_beq_eq_false rfl)).trans hg73_4)
  have hg75_5 : g75 5 = .ref q7 := (congrFun eg75 5).trans ((va_up_ne _ _ (Nat.ne_of_beq_eq_false rfl)).trans hg73_5)
  have hg75_6 : g75 6 = .ref q9 := (congrFun eg75 6).trans ((va_up_ne _ _ (Nat.ne_of_beq_eq_false rfl)).trans hg73_6)
  have hg75_7 : g75 7 = .ref q11 := (congrFun eg75 7).trans ((va_up_ne _ _ (Nat.ne_of_beq_eq_false rfl)).trans hg73_7)
  have hg75_10 : g75 10 = .ref q13 := (congrFun eg75 10).trans ((va_up_ne _ _ (Nat.ne_of_beq_eq_false rfl)).trans hg73_10)
  have hg75_11 : g75 11 = .ref q15 := (congrFun eg75 11).trans ((va_up_ne _ _ (Nat.ne_of_beq_eq_false rfl)).trans hg73_11)
  have hg75_12 : g75 12 = .ref q17 := (congrFun eg75 12).trans ((va_up_ne _ _ (Nat.ne_of_beq_eq_false rfl)).trans hg73_12)
  have hg75_13 : g75 13 = .ref q19 := (congrFun eg75 13).trans ((va_up_ne _ _ (Nat.ne_of_beq_eq_false rfl)).trans hg73_13)
  have hg75_14 : g75 14 = .ref q21 := (congrFun eg75 14).trans ((va_up_ne _ _ (Nat.ne_of_beq_eq_false rfl)).trans hg73_14)
  have hg75_15 : g75 15 = .ref q23 := (congrFun eg75 15).trans ((va_up_ne _ _ (Nat.ne_of_beq_eq_false rfl)).trans hg73_15)
  have hg75_18 : g75 18 = .ref q13 := (congrFun eg75 18).trans ((va_up_ne _ _ (Nat.ne_of_beq_eq_false rfl)).trans hg73_18)
  have hg75_27 : g75 27 = .ref q26 := (congrFun eg75 27).trans ((va_up_ne _ _ (Nat.ne_of_beq_eq_false rfl)).trans hg73_27)
  have hg75_28 : g75 28 = .ref q28 := (congrFun eg75 28).trans ((va_up_ne _ _ (Nat.ne_of_beq_eq_false rfl)).trans hg73_28)
  have hg75_29 : g75 29 = .ref q30 := (congrFun eg75 29).trans ((va_up_ne _ _ (Nat.ne_of_beq_eq_false rfl)).trans hg73_29)
  have hg75_30 : g75 30 = .ref q32 := (congrFun eg75 30).trans ((va_up_ne _ _ (Nat.ne_of_beq_eq_false rfl)).trans hg73_30)
  have hg75_31 : g75 31 = .ref q34 := (congrFun eg75 31).trans ((va_up_ne _ _ (Nat.ne_of_beq_eq_false rfl)).trans hg73_31)
  have hg75_32 : g75 32 = .ref q36 := (congrFun eg75 32).trans ((va_up_ne _ _ (Nat.ne_of_beq_eq_false rfl)).trans hg73_32)
  have hg75_33 : g75 33 = .ref q38 := (congrFun eg75 33).trans ((va_up_ne _ _ (Nat.ne_of_beq_eq_false rfl)).trans hg73_33)
  have hg75_34 : g75 34 = .ref q40 := (congrFun eg75 34).trans ((va_up_ne _ _ (Nat.ne_of_beq_eq_false rfl)).trans hg73_34)
  have hg75_35 : g75 35 = .ref q42 := (congrFun eg75 35).trans ((va_up_ne _ _ (Nat.ne_of_beq_eq_false rfl)).trans hg73_35)
  have hg75_36 : g75 36 = .ref q44 := (congrFun eg75 36).trans ((va_up_ne _ _ (Nat.ne_of_beq_eq_false rfl)).trans hg73_36)
  have hg75_37 : g75 37 = .ref q46 := (congrFun eg75 37).trans ((va_up_ne _ _ (Nat.ne_of_beq_eq_false rfl)).trans hg73_37)
  have hg75_38 : g75 38 = .ref q48 := (congrFun eg75 38).trans ((va_up_ne _ _ (Nat.ne_of_beq_eq_false rfl)).trans hg73_38)
  have hg75_39 : g75 39 = .ref q50 := (congrFun eg75 39).trans ((va_up_ne _ _ (Nat.ne_of_beq_eq_false rfl)).trans hg73_39)
  have hg75_40 : g75 40 = .ref q52 := (congrFun eg75 40).trans ((va_up_ne _ _ (Nat.ne_of_beq_eq_false rfl)).trans hg73_40)
  have hg75_41 : g75 41 = .ref q54 := (congrFun eg75 41).trans ((va_up_ne _ _ (Nat.ne_of_beq_eq_false rfl)).trans hg73_41)
  have hg75_42 : g75 42 = .ref q56 := (congrFun eg75 42).trans ((va_up_ne _ _ (Nat.ne_of_beq_eq_false rfl)).trans hg73_42)
  have hg75_43 : g75 43 = .ref q58 := (congrFun eg75 43).trans ((va_up_ne _ _ (Nat.ne_of_beq_eq_false rfl)).trans hg73_43)
  have hg75_44 : g75 44 = .ref q60 := (congrFun eg75 44).trans ((va_up_ne _ _ (Nat.ne_of_beq_eq_false rfl)).trans hg73_44)
  have hg75_45 : g75 45 = .ref q62 := (congrFun eg75 45).trans ((va_up_ne _ _ (Nat.ne_of_beq_eq_false rfl)).trans hg73_45)
  have hg75_49 : g75 49 = .ref q64 := (congrFun eg75 49).trans ((va_up_ne _ _ (Nat.ne_of_beq_eq_false rfl)).trans hg73_49)
  have hg75_50 : g75 50 = .ref q66 := (congrFun eg75 50).trans ((va_up_ne _ _ (Nat.ne_of_beq_eq_false rfl)).trans hg73_50)
  have hg75_51 : g75 51 = .ref q68 := (congrFun eg75 51).trans ((va_up_ne _ _ (Nat.ne_of_beq_eq_false rfl)).trans hg73_51)
  have hg75_52 : g75 52 = .ref q70 := (congrFun eg75 52).trans ((va_up_ne _ _ (Nat.ne_of_beq_eq_false rfl)).trans hg73_52)
  have hg75_53 : g75 53 = .ref q72 := (congrFun eg75 53).trans ((va_up_ne _ _ (Nat.ne_of_beq_eq_false rfl)).trans hg73_53)
  clear hg73_0 hg73_1 hg73_8 hg73_9 hg73_16 hg73_17 hg73_19 hg73_20 hg73_21 hg73_22 hg73_23 hg73_24 hg73_25 hg73_26 hg73_46 hg73_47 hg73_48 hg73_55 hg73_74 hg73_75 hg73_86 hg73_87 hg73_88 hg73_89 hg73_95 hg73_2 hg73_3 hg73_4 hg73_5 hg73_6 hg73_7 hg73_10 hg73_11 hg73_12 hg73_13 hg73_14 hg73_15 hg73_18 hg73_27 hg73_28 hg73_29 hg73_30 hg73_31 hg73_32 hg73_33 hg73_34 hg73_35 hg73_36 hg73_37 hg73_38 hg73_39 hg73_40 hg73_41 hg73_42 hg73_43 hg73_44 hg73_45 hg73_49 hg73_50 hg73_51 hg73_52 hg73_53
  have hg75_54 : g75 54 = .ref q74 := by rw [eg75]; exact va_up_self _ _ _
  refine lv_aload_n hx hb dX13_init_321 rfl (lv_at hl 0 rfl) ?_
  refine lv_sipush (v := 200) hx hb dX13_init_322 (by decide) ?_
  refine va_newa (atype := .int) (ty := .int) (N' := 200) (a0 := (200, .inl (fun _ => (0 : Int32)))) hx hb (hts _ (vA_in _ _ (in_2 _ (List.mem_of_getElem? (i := 38) rfl)))) rfl hK hP hD hS hA (fun _ => rfl) (by decide) (by decide) (Nat.le_of_ble_eq_true rfl) (Nat.le_of_ble_eq_true rfl) (Nat.le_of_ble_eq_true rfl) dX13_init_325 (fun q76 kq76 H hK hP hD hS => ?_)
  have hK : va_K (dC, dI) vwCl [(kq1, .int), (kq13, .byte), (kq72, .boolean), (kq76, .int)] s := hK
  obtain ⟨wq76, ewq76⟩ : ∃ z : va_W, z = wq74 ++ [(q76, .inl (kq76, 200, .inl (fun _ => (0 : Int32))))] := ⟨_, rfl⟩
  replace hP : va_P (dC, dI) vwCl ((h, .inr (14, mL g75)) :: wq76) H := by rw [ewq76]; exact hP
  replace hD : va_D A ((h, .inr (14, mL g75)) :: wq76) := by rw [ewq76]; exact hD
  refine W.widen (k := 38) (n := 7648) (by omega) (by omega) ?_
  obtain rfl : kq1 = kq76 := ub_sa_int hK 0 3 rfl rfl
  have hK := hK.sub (tys' := [(kq1, .int), (kq13, .byte), (kq72, .boolean)]) [0, 1, 2] rfl
  refine va_putF (D := (dC, dI)) (ci := 14) (v := .ref q76) (ty := .array .int) (C := RX13) (T := TX13) (N := 97) hx hb hts (fun w h => vA_in _ w (in_X13 w h)) tyX13 tyX13_ok nmX13 hown hK hP hD hS 0 rfl rfl 56 (by decide) (hts _ (vA_in _ _ (in_25 _ (List.mem_of_getElem? (i := 12) rfl)))) (fun _ h9 => h9) rfl hin rfl (by decide +kernel) rfl rfl (mL_lt (Nat.le_of_ble_eq_true rfl)) dX13_init_327 (fun H locs hP hD hS => ?_)
  replace hP : va_P (dC, dI) vwCl ((h, .inr (14, (mL g75).set 56 (.ref q76))) :: wq76) H := hP
  replace hD : va_D A ((h, .inr (14, (mL g75).set 56 (.ref q76))) :: wq76) := hD
  obtain ⟨g77, eg77⟩ : ∃ z9, z9 = va_up g75 56 (.ref q76) := ⟨_, rfl⟩
  rw [mL_upd, ← eg77] at hP hD
  have hg77_0 : g77 0 = .int 0 := (congrFun eg77 0).trans ((va_up_ne _ _ (Nat.ne_of_beq_eq_false rfl)).trans hg75_0)
  have hg77_1 : g77 1 = .int 0 := (congrFun eg77 1).trans ((va_up_ne _ _ (Nat.ne_of_beq_eq_false rfl)).trans hg75_1)
  have hg77_8 : g77 8 = .int 0 := (congrFun eg77 8).trans ((va_up_ne _ _ (Nat.ne_of_beq_eq_false rfl)).trans hg75_8)
  have hg77_9 : g77 9 = .int 0 := (congrFun eg77 9).trans ((va_up_ne _ _ (Nat.ne_of_beq_eq_false rfl)).trans hg75_9)
  have hg77_16 : g77 16 = .int 0 := (congrFun eg77 16).trans ((va_up_ne _ _ (Nat.ne_of_beq_eq_false rfl)).trans hg75_16)
  have hg77_17 : g77 17 = .int 0 := (congrFun eg77 17).trans ((va_up_ne _ _ (Nat.ne_of_beq_eq_false rfl)).trans hg75_17)
  have hg77_19 : g77 19 = .int 0 := (congrFun eg77 19).trans ((va_up_ne _ _ (Nat.ne_of_beq_eq_false rfl)).trans hg75_19)
  have hg77_20 : g77 20 = .int 0 := (congrFun eg77 20).trans ((va_up_ne _ _ (Nat.ne_of_beq_eq_false rfl)).trans hg75_20)
  have hg77_21 : g77 21 = .int 0 := (congrFun eg77 21).trans ((va_up_ne _ _ (Nat.ne_of_beq_eq_false rfl)).trans hg75_21)
  have hg77_22 : g77 22 = .int 0 := (congrFun eg77 22).trans ((va_up_ne _ _ (Nat.ne_of_beq_eq_false rfl)).trans hg75_22)
  have hg77_23 : g77 23 = .int 0 := (congrFun eg77 23).trans ((va_up_ne _ _ (Nat.ne_of_beq_eq_false rfl)).trans hg75_23)
  have hg77_24 : g77 24 = .int 0 := (congrFun eg77 24).trans ((va_up_ne _ _ (Nat.ne_of_beq_eq_false rfl)).trans hg75_24)
  have hg77_25 : g77 25 = .int 0 := (congrFun eg77 25).trans ((va_up_ne _ _ (Nat.ne_of_beq_eq_false rfl)).trans hg75_25)
  have hg77_26 : g77 26 = .int 0 := (congrFun eg77 26).trans ((va_up_ne _ _ (Nat.ne_of_beq_eq_false rfl)).trans hg75_26)
  have hg77_46 : g77 46 = .int 0 := (congrFun eg77 46).trans ((va_up_ne _ _ (Nat.ne_of_beq_eq_false rfl)).trans hg75_46)
  have hg77_47 : g77 47 = .int 0 := (congrFun eg77 47).trans ((va_up_ne _ _ (Nat.ne_of_beq_eq_false rfl)).trans hg75_47)
  have hg77_48 : g77 48 = .int 0 := (congrFun eg77 48).trans ((va_up_ne _ _ (Nat.ne_of_beq_eq_false rfl)).trans hg75_48)
  have hg77_55 : g77 55 = .int 0 := (congrFun eg77 55).trans ((va_up_ne _ _ (Nat.ne_of_beq_eq_false rfl)).trans hg75_55)
  have hg77_74 : g77 74 = .int 0 := (congrFun eg77 74).trans ((va_up_ne _ _ (Nat.ne_of_beq_eq_false rfl)).trans hg75_74)
  have hg77_75 : g77 75 = .int 0 := (congrFun eg77 75).trans ((va_up_ne _ _ (Nat.ne_of_beq_eq_false rfl)).trans hg75_75)
  have hg77_86 : g77 86 = .int 0 := (congrFun eg77 86).trans ((va_up_ne _ _ (Nat.ne_of_beq_eq_false rfl)).trans hg75_86)
  have hg77_87 : g77 87 = .int 0 := (congrFun eg77 87).trans ((va_up_ne _ _ (Nat.ne_of_beq_eq_false rfl)).trans hg75_87)
  have hg77_88 : g77 88 = .int 0 := (congrFun eg77 88).trans ((va_up_ne _ _ (Nat.ne_of_beq_eq_false rfl)).trans hg75_88)
  have hg77_89 : g77 89 = .int 0 := (congrFun eg77 89).trans ((va_up_ne _ _ (Nat.ne_of_beq_eq_false rfl)).trans hg75_89)
  have hg77_95 : g77 95 = .int 0 := (congrFun eg77 95).trans ((va_up_ne _ _ (Nat.ne_of_beq_eq_false rfl)).trans hg75_95)
  have hg77_2 : g77 2 = .ref q1 := (congrFun eg77 2).trans ((va_up_ne _ _ (Nat.ne_of_beq_eq_false rfl)).trans hg75_2)
  have hg77_3 : g77 3 = .ref q3 := (congrFun eg77 3).trans ((va_up_ne _ _ (Nat.ne_of_beq_eq_false rfl)).trans hg75_3)
  have hg77_4 : g77 4 = .ref q5 := (congrFun eg77 4).trans ((va_up_ne _ _ (Nat.ne_of_beq_eq_false rfl)).trans hg75_4)
  have hg77_5 : g77 5 = .ref q7 := (congrFun eg77 5).trans ((va_up_ne _ _ (Nat.ne_of_beq_eq_false rfl)).trans hg75_5)
  have hg77_6 : g77 6 = .ref q9 := (congrFun eg77 6).trans ((va_up_ne _ _ (Nat.ne_of_beq_eq_false rfl)).trans hg75_6)
  have hg77_7 : g77 7 = .ref q11 := (congrFun eg77 7).trans ((va_up_ne _ _ (Nat.ne_of_beq_eq_false rfl)).trans hg75_7)
  have hg77_10 : g77 10 = .ref q13 := (congrFun eg77 10).trans ((va_up_ne _ _ (Nat.ne_of_beq_eq_false rfl)).trans hg75_10)
  have hg77_11 : g77 11 = .ref q15 := (congrFun eg77 11).trans ((va_up_ne _ _ (Nat.ne_of_beq_eq_false rfl)).trans hg75_11)
  have hg77_12 : g77 12 = .ref q17 := (congrFun eg77 12).trans ((va_up_ne _ _ (Nat.ne_of_beq_eq_false rfl)).trans hg75_12)
  have hg77_13 : g77 13 = .ref q19 := (congrFun eg77 13).trans ((va_up_ne _ _ (Nat.ne_of_beq_eq_false rfl)).trans hg75_13)
  have hg77_14 : g77 14 = .ref q21 := (congrFun eg77 14).trans ((va_up_ne _ _ (Nat.ne_of_beq_eq_false rfl)).trans hg75_14)
  have hg77_15 : g77 15 = .ref q23 := (congrFun eg77 15).trans ((va_up_ne _ _ (Nat.ne_of_beq_eq_false rfl)).trans hg75_15)
  have hg77_18 : g77 18 = .ref q13 := (congrFun eg77 18).trans ((va_up_ne _ _ (Nat.ne_of_beq_eq_false rfl)).trans hg75_18)
  have hg77_27 : g77 27 = .ref q26 := (congrFun eg77 27).trans ((va_up_ne _ _ (Nat.ne_of_beq_eq_false rfl)).trans hg75_27)
  have hg77_28 : g77 28 = .ref q28 := (congrFun eg77 28).trans ((va_up_ne _ _ (Nat.ne_of_beq_eq_false rfl)).trans hg75_28)
  have hg77_29 : g77 29 = .ref q30 := (congrFun eg77 29).trans ((va_up_ne _ _ (Nat.ne_of_beq_eq_false rfl)).trans hg75_29)
  have hg77_30 : g77 30 = .ref q32 := (congrFun eg77 30).trans ((va_up_ne _ _ (Nat.ne_of_beq_eq_false rfl)).trans hg75_30)
  have hg77_31 : g77 31 = .ref q34 := (congrFun eg77 31).trans ((va_up_ne _ _ (Nat.ne_of_beq_eq_false rfl)).trans hg75_31)
  have hg77_32 : g77 32 = .ref q36 := (congrFun eg77 32).trans ((va_up_ne _ _ (Nat.ne_of_beq_eq_false rfl)).trans hg75_32)
  have hg77_33 : g77 33 = .ref q38 := (congrFun eg77 33).trans ((va_up_ne _ _ (Nat.ne_of_beq_eq_false rfl)).trans hg75_33)
  have hg77_34 : g77 34 = .ref q40 := (congrFun eg77 34).trans ((va_up_ne _ _ (Nat.ne_of_beq_eq_false rfl)).trans hg75_34)
  have hg77_35 : g77 35 = .ref q42 := (congrFun eg77 35).trans ((va_up_ne _ _ (Nat.ne_of_beq_eq_false rfl)).trans hg75_35)
  have hg77_36 : g77 36 = .ref q44 := (congrFun eg77 36).trans ((va_up_ne _ _ (Nat.ne_of_beq_eq_false rfl)).trans hg75_36)
  have hg77_37 : g77 37 = .ref q46 := (congrFun eg77 37).trans ((va_up_ne _ _ (Nat.ne_of_beq_eq_false rfl)).trans hg75_37)
  have hg77_38 : g77 38 = .ref q48 := (congrFun eg77 38).trans ((va_up_ne _ _ (Nat.ne_of_beq_eq_false rfl)).trans hg75_38)
  have hg77_39 : g77 39 = .ref q50 := (congrFun eg77 39).trans ((va_up_ne _ _ (Nat.ne_of_beq_eq_false rfl)).trans hg75_39)
  have hg77_40 : g77 40 = .ref q52 := (congrFun eg77 40).trans ((va_up_ne _ _ (Nat.ne_of_beq_eq_false rfl)).trans hg75_40)
  have hg77_41 : g77 41 = .ref q54 := (congrFun eg77 41).trans ((va_up_ne _ _ (Nat.ne_of_beq_eq_false rfl)).trans hg75_41)
  have hg77_42 : g77 42 = .ref q56 := (congrFun eg77 42).trans ((va_up_ne _ _ (Nat.ne_of_beq_eq_false rfl)).trans hg75_42)
  have hg77_43 : g77 43 = .ref q58 := (congrFun eg77 43).trans ((va_up_ne _ _ (Nat.ne_of_beq_eq_false rfl)).trans hg75_43)
  have hg77_44 : g77 44 = .ref q60 := (congrFun eg77 44).trans ((va_up_ne _ _ (Nat.ne_of_beq_eq_false rfl)).trans hg75_44)
  have hg77_45 : g77 45 = .ref q62 := (congrFun eg77 45).trans ((va_up_ne _ _ (Nat.ne_of_beq_eq_false rfl)).trans hg75_45)
  have hg77_49 : g77 49 = .ref q64 := (congrFun eg77 49).trans ((va_up_ne _ _ (Nat.ne_of_beq_eq_false rfl)).trans hg75_49)
  have hg77_50 : g77 50 = .ref q66 := (congrFun eg77 50).trans ((va_up_ne _ _ (Nat.ne_of_beq_eq_false rfl)).trans hg75_50)
  have hg77_51 : g77 51 = .ref q68 := (congrFun eg77 51).trans ((va_up_ne _ _ (Nat.ne_of_beq_eq_false rfl)).trans hg75_51)
  have hg77_52 : g77 52 = .ref q70 := (congrFun eg77 52).trans ((va_up_ne _ _ (Nat.ne_of_beq_eq_false rfl)).trans hg75_52)
  have hg77_53 : g77 53 = .ref q72 := (congrFun eg77 53).trans ((va_up_ne _ _ (Nat.ne_of_beq_eq_false rfl)).trans hg75_53)
  have hg77_54 : g77 54 = .ref q74 := (congrFun eg77 54).trans ((va_up_ne _ _ (Nat.ne_of_beq_eq_false rfl)).trans hg75_54)
  clear hg75_0 hg75_1 hg75_8 hg75_9 hg75_16 hg75_17 hg75_19 hg75_20 hg75_21 hg75_22 hg75_23 hg75_24 hg75_25 hg75_26 hg75_46 hg75_47 hg75_48 hg75_55 hg75_74 hg75_75 hg75_86 hg75_87 hg75_88 hg75_89 hg75_95 hg75_2 hg75_3 hg75_4 hg75_5 hg75_6 hg75_7 hg75_10 hg75_11 hg75_12 hg75_13 hg75_14 hg75_15 hg75_18 hg75_27 hg75_28 hg75_29 hg75_30 hg75_31 hg75_32 hg75_33 hg75_34 hg75_35 hg75_36 hg75_37 hg75_38 hg75_39 hg75_40 hg75_41 hg75_42 hg75_43 hg75_44 hg75_45 hg75_49 hg75_50 hg75_51 hg75_52 hg75_53 hg75_54
  have hg77_56 : g77 56 = .ref q76 := by rw [eg77]; exact va_up_self _ _ _
  refine lv_aload_n hx hb dX13_init_330 rfl (lv_at hl 0 rfl) ?_
  refine lv_sipush (v := 200) hx hb dX13_init_331 (by decide) ?_
  refine va_newa (atype := .int) (ty := .int) (N' := 200) (a0 := (200, .inl (fun _ => (0 : Int32)))) hx hb (hts _ (vA_in _ _ (in_2 _ (List.mem_of_getElem? (i := 38) rfl)))) rfl hK hP hD hS hA (fun _ => rfl) (by decide) (by decide) (Nat.le_of_ble_eq_true rfl) (Nat.le_of_ble_eq_true rfl) (Nat.le_of_ble_eq_true rfl) dX13_init_334 (fun q78 kq78 H hK hP hD hS => ?_)
  have hK : va_K (dC, dI) vwCl [(kq1, .int), (kq13, .byte), (kq72, .boolean), (kq78, .int)] s := hK
  obtain ⟨wq78, ewq78⟩ : ∃ z : va_W, z = wq76 ++ [(q78, .inl (kq78, 200, .inl (fun _ => (0 : Int32))))] := ⟨_, rfl⟩
  replace hP : va_P (dC, dI) vwCl ((h, .inr (14, mL g77)) :: wq78) H := by rw [ewq78]; exact hP
  replace hD : va_D A ((h, .inr (14, mL g77)) :: wq78) := by rw [ewq78]; exact hD
  refine W.widen (k := 39) (n := 7848) (by omega) (by omega) ?_
  obtain rfl : kq1 = kq78 := ub_sa_int hK 0 3 rfl rfl
  have hK := hK.sub (tys' := [(kq1, .int), (kq13, .byte), (kq72, .boolean)]) [0, 1, 2] rfl
  refine va_putF (D := (dC, dI)) (ci := 14) (v := .ref q78) (ty := .array .int) (C := RX13) (T := TX13) (N := 97) hx hb hts (fun w h => vA_in _ w (in_X13 w h)) tyX13 tyX13_ok nmX13 hown hK hP hD hS 0 rfl rfl 57 (by decide) (hts _ (vA_in _ _ (in_25 _ (List.mem_of_getElem? (i := 13) rfl)))) (fun _ h9 => h9) rfl hin rfl (by decide +kernel) rfl rfl (mL_lt (Nat.le_of_ble_eq_true rfl)) dX13_init_336 (fun H locs hP hD hS => ?_)
  replace hP : va_P (dC, dI) vwCl ((h, .inr (14, (mL g77).set 57 (.ref q78))) :: wq78) H := hP
  replace hD : va_D A ((h, .inr (14, (mL g77).set 57 (.ref q78))) :: wq78) := hD
  obtain ⟨g79, eg79⟩ : ∃ z9, z9 = va_up g77 57 (.ref q78) := ⟨_, rfl⟩
  rw [mL_upd, ← eg79] at hP hD
  have hg79_0 : g79 0 = .int 0 := (congrFun eg79 0).trans ((va_up_ne _ _ (Nat.ne_of_beq_eq_false rfl)).trans hg77_0)
  have hg79_1 : g79 1 = .int 0 := (congrFun eg79 1).trans ((va_up_ne _ _ (Nat.ne_of_beq_eq_false rfl)).trans hg77_1)
  have hg79_8 : g79 8 = .int 0 := (congrFun eg79 8).trans ((va_up_ne _ _ (Nat.ne_of_beq_eq_false rfl)).trans hg77_8)
  have hg79_9 : g79 9 = .int 0 := (congrFun eg79 9).trans ((va_up_ne _ _ (Nat.ne_of_beq_eq_false rfl)).trans hg77_9)
  have hg79_16 : g79 16 = .int 0 := (congrFun eg79 16).trans ((va_up_ne _ _ (Nat.ne_of_beq_eq_false rfl)).trans hg77_16)
  have hg79_17 : g79 17 = .int 0 := (congrFun eg79 17).trans ((va_up_ne _ _ (Nat.ne_of_beq_eq_false rfl)).trans hg77_17)
  have hg79_19 : g79 19 = .int 0 := (congrFun eg79 19).trans ((va_up_ne _ _ (Nat.ne_of_beq_eq_false rfl)).trans hg77_19)
  have hg79_20 : g79 20 = .int 0 := (congrFun eg79 20).trans ((va_up_ne _ _ (Nat.ne_of_beq_eq_false rfl)).trans hg77_20)
  have hg79_21 : g79 21 = .int 0 := (congrFun eg79 21).trans ((va_up_ne _ _ (Nat.ne_of_beq_eq_false rfl)).trans hg77_21)
  have hg79_22 : g79 22 = .int 0 := (congrFun eg79 22).trans ((va_up_ne _ _ (Nat.ne_of_beq_eq_false rfl)).trans hg77_22)
  have hg79_23 : g79 23 = .int 0 := (congrFun eg79 23).trans ((va_up_ne _ _ (Nat.ne_of_beq_eq_false rfl)).trans hg77_23)
  have hg79_24 : g79 24 = .int 0 := (congrFun eg79 24).trans ((va_up_ne _ _ (Nat.ne_of_beq_eq_false rfl)).trans hg77_24)
  have hg79_25 : g79 25 = .int 0 := (congrFun eg79 25).trans ((va_up_ne _ _ (Nat.ne_of_beq_eq_false rfl)).trans hg77_25)
  have hg79_26 : g79 26 = .int 0 := (congrFun eg79 26).trans ((va_up_ne _ _ (Nat.ne_of_beq_eq_false rfl)).trans hg77_26)
  have hg79_46 : g79 46 = .int 0 := (congrFun eg79 46).trans ((va_up_ne _ _ (Nat.ne_of_beq_eq_false rfl)).trans hg77_46)
  have hg79_47 : g79 47 = .int 0 := (congrFun eg79 47).trans ((va_up_ne _ _ (Nat.ne_of_beq_eq_false rfl)).trans hg77_47)
  have hg79_48 : g79 48 = .int 0 := (congrFun eg79 48).trans ((va_up_ne _ _ (Nat.ne_of_beq_eq_false rfl)).trans hg77_48)
  have hg79_55 : g79 55 = .int 0 := (congrFun eg79 55).trans ((va_up_ne _ _ (Nat.ne_of_beq_eq_false rfl)).trans hg77_55)
  have hg79_74 : g79 74 = .int 0 := (congrFun eg79 74).trans ((va_up_ne _ _ (Nat.ne_of_beq_eq_false rfl)).trans hg77_74)
  have hg79_75 : g79 75 = .int 0 := (congrFun eg79 75).trans ((va_up_ne _ _ (Nat.ne_of_beq_eq_false rfl)).trans hg77_75)
  have hg79_86 : g79 86 = .int 0 := (congrFun eg79 86).trans ((va_up_ne _ _ (Nat.ne_of_beq_eq_false rfl)).trans hg77_86)
  have hg79_87 : g79 87 = .int 0 := (congrFun eg79 87).trans ((va_up_ne _ _ (Nat.ne_of_beq_eq_false rfl)).trans hg77_87)
  have hg79_88 : g79 88 = .int 0 := (congrFun eg79 88).trans ((va_up_ne _ _ (Nat.ne_of_beq_eq_false rfl)).trans hg77_88)
  have hg79_89 : g79 89 = .int 0 := (congrFun eg79 89).trans ((va_up_ne _ _ (Nat.ne_of_beq_eq_false rfl)).trans hg77_89)
  have hg79_95 : g79 95 = .int 0 := (congrFun eg79 95).trans ((va_up_ne _ _ (Nat.ne_of_beq_eq_false rfl)).trans hg77_95)
  have hg79_2 : g79 2 = .ref q1 := (congrFun eg79 2).trans ((va_up_ne _ _ (Nat.ne_of_beq_eq_false rfl)).trans hg77_2)
  have hg79_3 : g79 3 = .ref q3 := (congrFun eg79 3).trans ((va_up_ne _ _ (Nat.ne_of_beq_eq_false rfl)).trans hg77_3)
  have hg79_4 : g79 4 = .ref q5 := (congrFun eg79 4).trans ((va_up_ne _ _ (Nat.ne_of_beq_eq_false rfl)).trans hg77_4)
  have hg79_5 : g79 5 = .ref q7 := (congrFun eg79 5).trans ((va_up_ne _ _ (Nat.ne_of_beq_eq_false rfl)).trans hg77_5)
  have hg79_6 : g79 6 = .ref q9 := (congrFun eg79 6).trans ((va_up_ne _ _ (Nat.ne_of_beq_eq_false rfl)).trans hg77_6)
  have hg79_7 : g79 7 = .ref q11 := (congrFun eg79 7).trans ((va_up_ne _ _ (Nat.ne_of_beq_eq_false rfl)).trans hg77_7)
  have hg79_10 : g79 10 = .ref q13 := (congrFun eg79 10).trans ((va_up_ne _ _ (Nat.ne_of_beq_eq_false rfl)).trans hg77_10)
  have hg79_11 : g79 11 = .ref q15 := (congrFun eg79 11).trans ((va_up_ne _ _ (Nat.ne_of_beq_eq_false rfl)).trans hg77_11)
  have hg79_12 : g79 12 = .ref q17 := (congrFun eg79 12).trans ((va_up_ne _ _ (Nat.ne_of_beq_eq_false rfl)).trans hg77_12)
  have hg79_13 : g79 13 = .ref q19 := (congrFun eg79 13).trans ((va_up_ne _ _ (Nat.ne_of_beq_eq_false rfl)).trans hg77_13)
  have hg79_14 : g79 14 = .ref q21 := (congrFun eg79 14).trans ((va_up_ne _ _ (Nat.ne_of_beq_eq_false rfl)).trans hg77_14)
  have hg79_15 : g79 15 = .ref q23 := (congrFun eg79 15).trans ((va_up_ne _ _ (Nat.ne_of_beq_eq_false rfl)).trans hg77_15)
  have hg79_18 : g79 18 = .ref q13 := (congrFun eg79 18).trans ((va_up_ne _ _ (Nat.ne_of_beq_eq_false rfl)).trans hg77_18)
  have hg79_27 : g79 27 = .ref q26 := (congrFun eg79 27).trans ((va_up_ne _ _ (Nat.ne_of_beq_eq_false rfl)).trans hg77_27)
  have hg79_28 : g79 28 = .ref q28 := (congrFun eg79 28).trans ((va_up_ne _ _ (Nat.ne_of_beq_eq_false rfl)).trans hg77_28)
  have hg79_29 : g79 29 = .ref q30 := (congrFun eg79 29).trans ((va_up_ne _ _ (Nat.ne_of_beq_eq_false rfl)).trans hg77_29)
  have hg79_30 : g79 30 = .ref q32 := (congrFun eg79 30).trans ((va_up_ne _ _ (Nat.ne_of_beq_eq_false rfl)).trans hg77_30)
  have hg79_31 : g79 31 = .ref q34 := (congrFun eg79 31).trans ((va_up_ne _ _ (Nat.ne_of_beq_eq_false rfl)).trans hg77_31)
  have hg79_32 : g79 32 = .ref q36 := (congrFun eg79 32).trans ((va_up_ne _ _ (Nat.ne_of_beq_eq_false rfl)).trans hg77_32)
  have hg79_33 : g79 33 = .ref q38 := (congrFun eg79 33).trans ((va_up_ne _ _ (Nat.ne_of_beq_eq_false rfl)).trans hg77_33)
  have hg79_34 : g79 34 = .ref q40 := (congrFun eg79 34).trans ((va_up_ne _ _ (Nat.ne_of_beq_eq_false rfl)).trans hg77_34)
  have hg79_35 : g79 35 = .ref q42 := (congrFun eg79 35).trans ((va_up_ne _ _ (Nat.ne_of_beq_eq_false rfl)).trans hg77_35)
  have hg79_36 : g79 36 = .ref q44 := (congrFun eg79 36).trans ((va_up_ne _ _ (Nat.ne_of_beq_eq_false rfl)).trans hg77_36)
  have hg79_37 : g79 37 = .ref q46 := (congrFun eg79 37).trans ((va_up_ne _ _ (Nat.ne_of_beq_eq_false rfl)).trans hg77_37)
  have hg79_38 : g79 38 = .ref q48 := (congrFun eg79 38).trans ((va_up_ne _ _ (Nat.ne_of_beq_eq_false rfl)).trans hg77_38)
  have hg79_39 : g79 39 = .ref q50 := (congrFun eg79 39).trans ((va_up_ne _ _ (Nat.ne_of_beq_eq_false rfl)).trans hg77_39)
  have hg79_40 : g79 40 = .ref q52 := (congrFun eg79 40).trans ((va_up_ne _ _ (Nat.ne_of_beq_eq_false rfl)).trans hg77_40)
  have hg79_41 : g79 41 = .ref q54 := (congrFun eg79 41).trans ((va_up_ne _ _ (Nat.ne_of_beq_eq_false rfl)).trans hg77_41)
  have hg79_42 : g79 42 = .ref q56 := (congrFun eg79 42).trans ((va_up_ne _ _ (Nat.ne_of_beq_eq_false rfl)).trans hg77_42)
  have hg79_43 : g79 43 = .ref q58 := (congrFun eg79 43).trans ((va_up_ne _ _ (Nat.ne_of_beq_eq_false rfl)).trans hg77_43)
  have hg79_44 : g79 44 = .ref q60 := (congrFun eg79 44).trans ((va_up_ne _ _ (Nat.ne_of_beq_eq_false rfl)).trans hg77_44)
  have hg79_45 : g79 45 = .ref q62 := (congrFun eg79 45).trans ((va_up_ne _ _ (Nat.ne_of_beq_eq_false rfl)).trans hg77_45)
  have hg79_49 : g79 49 = .ref q64 := (congrFun eg79 49).trans ((va_up_ne _ _ (Nat.ne_of_beq_eq_false rfl)).trans hg77_49)
  have hg79_50 : g79 50 = .ref q66 := (congrFun eg79 50).trans ((va_up_ne _ _ (Nat.ne_of_beq_eq_false rfl)).trans hg77_50)
  have hg79_51 : g79 51 = .ref q68 := (congrFun eg79 51).trans ((va_up_ne _ _ (Nat.ne_of_beq_eq_false rfl)).trans hg77_51)
  have hg79_52 : g79 52 = .ref q70 := (congrFun eg79 52).trans ((va_up_ne _ _ (Nat.ne_of_beq_eq_false rfl)).trans hg77_52)
  have hg79_53 : g79 53 = .ref q72 := (congrFun eg79 53).trans ((va_up_ne _ _ (Nat.ne_of_beq_eq_false rfl)).trans hg77_53)
  have hg79_54 : g79 54 = .ref q74 := (congrFun eg79 54).trans ((va_up_ne _ _ (Nat.ne_of_beq_eq_false rfl)).trans hg77_54)
  have hg79_56 : g79 56 = .ref q76 := (congrFun eg79 56).trans ((va_up_ne _ _ (Nat.ne_of_beq_eq_false rfl)).trans hg77_56)
  clear hg77_0 hg77_1 hg77_8 hg77_9 hg77_16 hg77_17 hg77_19 hg77_20 hg77_21 hg77_22 hg77_23 hg77_24 hg77_25 hg77_26 hg77_46 hg77_47 hg77_48 hg77_55 hg77_74 hg77_75 hg77_86 hg77_87 hg77_88 hg77_89 hg77_95 hg77_2 hg77_3 hg77_4 hg77_5 hg77_6 hg77_7 hg77_10 hg77_11 hg77_12 hg77_13 hg77_14 hg77_15 hg77_18 hg77_27 hg77_28 hg77_29 hg77_30 hg77_31 hg77_32 hg77_33 hg77_34 hg77_35 hg77_36 hg77_37 hg77_38 hg77_39 hg77_40 hg77_41 hg77_42 hg77_43 hg77_44 hg77_45 hg77_49 hg77_50 hg77_51 hg77_52 hg77_53 hg77_54 hg77_56
  have hg79_57 : g79 57 = .ref q78 := by rw [eg79]; exact va_up_self _ _ _
  refine lv_aload_n hx hb dX13_init_339 rfl (lv_at hl 0 rfl) ?_
  refine lv_sipush (v := 200) hx hb dX13_init_340 (by decide) ?_
  refine va_newa (atype := .int) (ty := .int) (N' := 200) (a0 := (200, .inl (fun _ => (0 : Int32)))) hx hb (hts _ (vA_in _ _ (in_2 _ (List.mem_of_getElem? (i := 38) rfl)))) rfl hK hP hD hS hA (fun _ => rfl) (by decide) (by decide) (Nat.le_of_ble_eq_true rfl) (Nat.le_of_ble_eq_true rfl) (Nat.le_of_ble_eq_true rfl) dX13_init_343 (fun q80 kq80 H hK hP hD hS => ?_)
  have hK : va_K (dC, dI) vwCl [(kq1, .int), (kq13, .byte), (kq72, .boolean), (kq80, .int)] s := hK
  obtain ⟨wq80, ewq80⟩ : ∃ z : va_W, z = wq78 ++ [(q80, .inl (kq80, 200, .inl (fun _ => (0 : Int32))))] := ⟨_, rfl⟩
  replace hP : va_P (dC, dI) vwCl ((h, .inr (14, mL g79)) :: wq80) H := by rw [ewq80]; exact hP
  replace hD : va_D A ((h, .inr (14, mL g79)) :: wq80) := by rw [ewq80]; exact hD
  refine W.widen (k := 40) (n := 8048) (by omega) (by omega) ?_
  obtain rfl : kq1 = kq80 := ub_sa_int hK 0 3 rfl rfl
  have hK := hK.sub (tys' := [(kq1, .int), (kq13, .byte), (kq72, .boolean)]) [0, 1, 2] rfl
  refine va_putF (D := (dC, dI)) (ci := 14) (v := .ref q80) (ty := .array .int) (C := RX13) (T := TX13) (N := 97) hx hb hts (fun w h => vA_in _ w (in_X13 w h)) tyX13 tyX13_ok nmX13 hown hK hP hD hS 0 rfl rfl 58 (by decide) (hts _ (vA_in _ _ (in_25 _ (List.mem_of_getElem? (i := 15) rfl)))) (fun _ h9 => h9) rfl hin rfl (by decide +kernel) rfl rfl (mL_lt (Nat.le_of_ble_eq_true rfl)) dX13_init_345 (fun H locs hP hD hS => ?_)
  replace hP : va_P (dC, dI) vwCl ((h, .inr (14, (mL g79).set 58 (.ref q80))) :: wq80) H := hP
  replace hD : va_D A ((h, .inr (14, (mL g79).set 58 (.ref q80))) :: wq80) := hD
  obtain ⟨g81, eg81⟩ : ∃ z9, z9 = va_up g79 58 (.ref q80) := ⟨_, rfl⟩
  rw [mL_upd, ← eg81] at hP hD
  have hg81_0 : g81 0 = .int 0 := (congrFun eg81 0).trans ((va_up_ne _ _ (Nat.ne_of_beq_eq_false rfl)).trans hg79_0)
  have hg81_1 : g81 1 = .int 0 := (congrFun eg81 1).trans ((va_up_ne _ _ (Nat.ne_of_beq_eq_false rfl)).trans hg79_1)
  have hg81_8 : g81 8 = .int 0 := (congrFun eg81 8).trans ((va_up_ne _ _ (Nat.ne_of_beq_eq_false rfl)).trans hg79_8)
  have hg81_9 : g81 9 = .int 0 := (congrFun eg81 9).trans ((va_up_ne _ _ (Nat.ne_of_beq_eq_false rfl)).trans hg79_9)
  have hg81_16 : g81 16 = .int 0 := (congrFun eg81 16).trans ((va_up_ne _ _ (Nat.ne_of_beq_eq_false rfl)).trans hg79_16)
  have hg81_17 : g81 17 = .int 0 := (congrFun eg81 17).trans ((va_up_ne _ _ (Nat.ne_of_beq_eq_false rfl)).trans hg79_17)
  have hg81_19 : g81 19 = .int 0 := (congrFun eg81 19).trans ((va_up_ne _ _ (Nat.ne_of_beq_eq_false rfl)).trans hg79_19)
  have hg81_20 : g81 20 = .int 0 := (congrFun eg81 20).trans ((va_up_ne _ _ (Nat.ne_of_beq_eq_false rfl)).trans hg79_20)
  have hg81_21 : g81 21 = .int 0 := (congrFun eg81 21).trans ((va_up_ne _ _ (Nat.ne_of_beq_eq_false rfl)).trans hg79_21)
  have hg81_22 : g81 22 = .int 0 := (congrFun eg81 22).trans ((va_up_ne _ _ (Nat.ne_of_beq_eq_false rfl)).trans hg79_22)
  have hg81_23 : g81 23 = .int 0 := (congrFun eg81 23).trans ((va_up_ne _ _ (Nat.ne_of_beq_eq_false rfl)).trans hg79_23)
  have hg81_24 : g81 24 = .int 0 := (congrFun eg81 24).trans ((va_up_ne _ _ (Nat.ne_of_beq_eq_false rfl)).trans hg79_24)
  have hg81_25 : g81 25 = .int 0 := (congrFun eg81 25).trans ((va_up_ne _ _ (Nat.ne_of_beq_eq_false rfl)).trans hg79_25)
  have hg81_26 : g81 26 = .int 0 := (congrFun eg81 26).trans ((va_up_ne _ _ (Nat.ne_of_beq_eq_false rfl)).trans hg79_26)
  have hg81_46 : g81 46 = .int 0 := (congrFun eg81 46).trans ((va_up_ne _ _ (Nat.ne_of_beq_eq_false rfl)).trans hg79_46)
  have hg81_47 : g81 47 = .int 0 := (congrFun eg81 47).trans ((va_up_ne _ _ (Nat.ne_of_beq_eq_false rfl)).trans hg79_47)
  have hg81_48 : g81 48 = .int 0 := (congrFun eg81 48).trans ((va_up_ne _ _ (Nat.ne_of_beq_eq_false rfl)).trans hg79_48)
  have hg81_55 : g81 55 = .int 0 := (congrFun eg81 55).trans ((va_up_ne _ _ (Nat.ne_of_beq_eq_false rfl)).trans hg79_55)
  have hg81_74 : g81 74 = .int 0 := (congrFun eg81 74).trans ((va_up_ne _ _ (Nat.ne_of_beq_eq_false rfl)).trans hg79_74)
  have hg81_75 : g81 75 = .int 0 := (congrFun eg81 75).trans ((va_up_ne _ _ (Nat.ne_of_beq_eq_false rfl)).trans hg79_75)
  have hg81_86 : g81 86 = .int 0 := (congrFun eg81 86).trans ((va_up_ne _ _ (Nat.ne_of_beq_eq_false rfl)).trans hg79_86)
  have hg81_87 : g81 87 = .int 0 := (congrFun eg81 87).trans ((va_up_ne _ _ (Nat.ne_of_beq_eq_false rfl)).trans hg79_87)
  have hg81_88 : g81 88 = .int 0 := (congrFun eg81 88).trans ((va_up_ne _ _ (Nat.ne_of_beq_eq_false rfl)).trans hg79_88)
  have hg81_89 : g81 89 = .int 0 := (congrFun eg81 89).trans ((va_up_ne _ _ (Nat.ne_of_beq_eq_false rfl)).trans hg79_89)
  have hg81_95 : g81 95 = .int 0 := (congrFun eg81 95).trans ((va_up_ne _ _ (Nat.ne_of_beq_eq_false rfl)).trans hg79_95)
  have hg81_2 : g81 2 = .ref q1 := (congrFun eg81 2).trans ((va_up_ne _ _ (Nat.ne_of_beq_eq_false rfl)).trans hg79_2)
  have hg81_3 : g81 3 = .ref q3 := (congrFun eg81 3).trans ((va_up_ne _ _ (Nat.ne_of_beq_eq_false rfl)).trans hg79_3)
  have hg81_4 : g81 4 = .ref q5 := (congrFun eg81 4).trans ((va_up_ne _ _ (Nat.ne_of_beq_eq_false rfl)).trans hg79_4)
  have hg81_5 : g81 5 = .ref q7 := (congrFun eg81 5).trans ((va_up_ne _ _ (Nat.ne_of_beq_eq_false rfl)).trans hg79_5)
  have hg81_6 : g81 6 = .ref q9 := (congrFun eg81 6).trans ((va_up_ne _ _ (Nat.ne_of_beq_eq_false rfl)).trans hg79_6)
  have hg81_7 : g81 7 = .ref q11 := (congrFun eg81 7).trans ((va_up_ne _ _ (Nat.ne_of_beq_eq_false rfl)).trans hg79_7)
  have hg81_10 : g81 10 = .ref q13 := (congrFun eg81 10).trans ((va_up_ne _ _ (Nat.ne_of_beq_eq_false rfl)).trans hg79_10)
  have hg81_11 : g81 11 = .ref q15 := (congrFun eg81 11).trans ((va_up_ne _ _ (Nat.ne_of_beq_eq_false rfl)).trans hg79_11)
  have hg81_12 : g81 12 = .ref q17 := (congrFun eg81 12).trans ((va_up_ne _ _ (Nat.ne_of_beq_eq_false rfl)).trans hg79_12)
  have hg81_13 : g81 13 = .ref q19 := (congrFun eg81 13).trans ((va_up_ne _ _ (Nat.ne_of_beq_eq_false rfl)).trans hg79_13)
  have hg81_14 : g81 14 = .ref q21 := (congrFun eg81 14).trans ((va_up_ne _ _ (Nat.ne_of_beq_eq_false rfl)).trans hg79_14)
  have hg81_15 : g81 15 = .ref q23 := (congrFun eg81 15).trans ((va_up_ne _ _ (Nat.ne_of_beq_eq_false rfl)).trans hg79_15)
  have hg81_18 : g81 18 = .ref q13 := (congrFun eg81 18).trans ((va_up_ne _ _ (Nat.ne_of_beq_eq_false rfl)).trans hg79_18)
  have hg81_27 : g81 27 = .ref q26 := (congrFun eg81 27).trans ((va_up_ne _ _ (Nat.ne_of_beq_eq_false rfl)).trans hg79_27)
  have hg81_28 : g81 28 = .ref q28 := (congrFun eg81 28).trans ((va_up_ne _ _ (Nat.ne_of_beq_eq_false rfl)).trans hg79_28)
  have hg81_29 : g81 29 = .ref q30 := (congrFun eg81 29).trans ((va_up_ne _ _ (Nat.ne_of_beq_eq_false rfl)).trans hg79_29)
  have hg81_30 : g81 30 = .ref q32 := (congrFun eg81 30).trans ((va_up_ne _ _ (Nat.ne_of_beq_eq_false rfl)).trans hg79_30)
  have hg81_31 : g81 31 = .ref q34 := (congrFun eg81 31).trans ((va_up_ne _ _ (Nat.ne_of_beq_eq_false rfl)).trans hg79_31)
  have hg81_32 : g81 32 = .ref q36 := (congrFun eg81 32).trans ((va_up_ne _ _ (Nat.ne_of_beq_eq_false rfl)).trans hg79_32)
  have hg81_33 : g81 33 = .ref q38 := (congrFun eg81 33).trans ((va_up_ne _ _ (Nat.ne_of_beq_eq_false rfl)).trans hg79_33)
  have hg81_34 : g81 34 = .ref q40 := (congrFun eg81 34).trans ((va_up_ne _ _ (Nat.ne_of_beq_eq_false rfl)).trans hg79_34)
  have hg81_35 : g81 35 = .ref q42 := (congrFun eg81 35).trans ((va_up_ne _ _ (Nat.ne_of_beq_eq_false rfl)).trans hg79_35)
  have hg81_36 : g81 36 = .ref q44 := (congrFun eg81 36).trans ((va_up_ne _ _ (Nat.ne_of_beq_eq_false rfl)).trans hg79_36)
  have hg81_37 : g81 37 = .ref q46 := (congrFun eg81 37).trans ((va_up_ne _ _ (Nat.ne_of_beq_eq_false rfl)).trans hg79_37)
  have hg81_38 : g81 38 = .ref q48 := (congrFun eg81 38).trans ((va_up_ne _ _ (Nat.ne_of_beq_eq_false rfl)).trans hg79_38)
  have hg81_39 : g81 39 = .ref q50 := (congrFun eg81 39).trans ((va_up_ne _ _ (Nat.ne_of_beq_eq_false rfl)).trans hg79_39)
  have hg81_40 : g81 40 = .ref q52 := (congrFun eg81 40).trans ((va_up_ne _ _ (Nat.ne_of_beq_eq_false rfl)).trans hg79_40)
  have hg81_41 : g81 41 = .ref q54 := (congrFun eg81 41).trans ((va_up_ne _ _ (Nat.ne_of_beq_eq_false rfl)).trans hg79_41)
  have hg81_42 : g81 42 = .ref q56 := (congrFun eg81 42).trans ((va_up_ne _ _ (Nat.ne_of_beq_eq_false rfl)).trans hg79_42)
  have hg81_43 : g81 43 = .ref q58 := (congrFun eg81 43).trans ((va_up_ne _ _ (Nat.ne_of_beq_eq_false rfl)).trans hg79_43)
  have hg81_44 : g81 44 = .ref q60 := (congrFun eg81 44).trans ((va_up_ne _ _ (Nat.ne_of_beq_eq_false rfl)).trans hg79_44)
  have hg81_45 : g81 45 = .ref q62 := (congrFun eg81 45).trans ((va_up_ne _ _ (Nat.ne_of_beq_eq_false rfl)).trans hg79_45)
  have hg81_49 : g81 49 = .ref q64 := (congrFun eg81 49).trans ((va_up_ne _ _ (Nat.ne_of_beq_eq_false rfl)).trans hg79_49)
  have hg81_50 : g81 50 = .ref q66 := (congrFun eg81 50).trans ((va_up_ne _ _ (Nat.ne_of_beq_eq_false rfl)).trans hg79_50)
  have hg81_51 : g81 51 = .ref q68 := (congrFun eg81 51).trans ((va_up_ne _ _ (Nat.ne_of_beq_eq_false rfl)).trans hg79_51)
  have hg81_52 : g81 52 = .ref q70 := (congrFun eg81 52).trans ((va_up_ne _ _ (Nat.ne_of_beq_eq_false rfl)).trans hg79_52)
  have hg81_53 : g81 53 = .ref q72 := (congrFun eg81 53).trans ((va_up_ne _ _ (Nat.ne_of_beq_eq_false rfl)).trans hg79_53)
  have hg81_54 : g81 54 = .ref q74 := (congrFun eg81 54).trans ((va_up_ne _ _ (Nat.ne_of_beq_eq_false rfl)).trans hg79_54)
  have hg81_56 : g81 56 = .ref q76 := (congrFun eg81 56).trans ((va_up_ne _ _ (Nat.ne_of_beq_eq_false rfl)).trans hg79_56)
  have hg81_57 : g81 57 = .ref q78 := (congrFun eg81 57).trans ((va_up_ne _ _ (Nat.ne_of_beq_eq_false rfl)).trans hg79_57)
  clear hg79_0 hg79_1 hg79_8 hg79_9 hg79_16 hg79_17 hg79_19 hg79_20 hg79_21 hg79_22 hg79_23 hg79_24 hg79_25 hg79_26 hg79_46 hg79_47 hg79_48 hg79_55 hg79_74 hg79_75 hg79_86 hg79_87 hg79_88 hg79_89 hg79_95 hg79_2 hg79_3 hg79_4 hg79_5 hg79_6 hg79_7 hg79_10 hg79_11 hg79_12 hg79_13 hg79_14 hg79_15 hg79_18 hg79_27 hg79_28 hg79_29 hg79_30 hg79_31 hg79_32 hg79_33 hg79_34 hg79_35 hg79_36 hg79_37 hg79_38 hg79_39 hg79_40 hg79_41 hg79_42 hg79_43 hg79_44 hg79_45 hg79_49 hg79_50 hg79_51 hg79_52 hg79_53 hg79_54 hg79_56 hg79_57
  have hg81_58 : g81 58 = .ref q80 := by rw [eg81]; exact va_up_self _ _ _
  refine lv_aload_n hx hb dX13_init_348 rfl (lv_at hl 0 rfl) ?_
  refine lv_sipush (v := 200) hx hb dX13_init_349 (by decide) ?_
  refine va_newa (atype := .int) (ty := .int) (N' := 200) (a0 := (200, .inl (fun _ => (0 : Int32)))) hx hb (hts _ (vA_in _ _ (in_2 _ (List.mem_of_getElem? (i := 38) rfl)))) rfl hK hP hD hS hA (fun _ => rfl) (by decide) (by decide) (Nat.le_of_ble_eq_true rfl) (Nat.le_of_ble_eq_true rfl) (Nat.le_of_ble_eq_true rfl) dX13_init_352 (fun q82 kq82 H hK hP hD hS => ?_)
  have hK : va_K (dC, dI) vwCl [(kq1, .int), (kq13, .byte), (kq72, .boolean), (kq82, .int)] s := hK
  obtain ⟨wq82, ewq82⟩ : ∃ z : va_W, z = wq80 ++ [(q82, .inl (kq82, 200, .inl (fun _ => (0 : Int32))))] := ⟨_, rfl⟩
  replace hP : va_P (dC, dI) vwCl ((h, .inr (14, mL g81)) :: wq82) H := by rw [ewq82]; exact hP
  replace hD : va_D A ((h, .inr (14, mL g81)) :: wq82) := by rw [ewq82]; exact hD
  refine W.widen (k := 41) (n := 8248) (by omega) (by omega) ?_
  obtain rfl : kq1 = kq82 := ub_sa_int hK 0 3 rfl rfl
  have hK := hK.sub (tys' := [(kq1, .int), (kq13, .byte), (kq72, .boolean)]) [0, 1, 2] rfl
  refine va_putF (D := (dC, dI)) (ci := 14) (v := .ref q82) (ty := .array .int) (C := RX13) (T := TX13) (N := 97) hx hb hts (fun w h => vA_in _ w (in_X13 w h)) tyX13 tyX13_ok nmX13 hown hK hP hD hS 0 rfl rfl 59 (by decide) (hts _ (vA_in _ _ (in_25 _ (List.mem_of_getElem? (i := 25) rfl)))) (fun _ h9 => h9) rfl hin rfl (by decide +kernel) rfl rfl (mL_lt (Nat.le_of_ble_eq_true rfl)) dX13_init_354 (fun H locs hP hD hS => ?_)
  replace hP : va_P (dC, dI) vwCl ((h, .inr (14, (mL g81).set 59 (.ref q82))) :: wq82) H := hP
  replace hD : va_D A ((h, .inr (14, (mL g81).set 59 (.ref q82))) :: wq82) := hD
  obtain ⟨g83, eg83⟩ : ∃ z9, z9 = va_up g81 59 (.ref q82) := ⟨_, rfl⟩
  rw [mL_upd, ← eg83] at hP hD
  have hg83_0 : g83 0 = .int 0 := (congrFun eg83 0).trans ((va_up_ne _ _ (Nat.ne_of_beq_eq_false rfl)).trans hg81_0)
  have hg83_1 : g83 1 = .int 0 := (congrFun eg83 1).trans ((va_up_ne _ _ (Nat.ne_of_beq_eq_false rfl)).trans hg81_1)
  have hg83_8 : g83 8 = .int 0 := (congrFun eg83 8).trans ((va_up_ne _ _ (Nat.ne_of_beq_eq_false rfl)).trans hg81_8)
  have hg83_9 : g83 9 = .int 0 := (congrFun eg83 9).trans ((va_up_ne _ _ (Nat.ne_of_beq_eq_false rfl)).trans hg81_9)
  have hg83_16 : g83 16 = .int 0 := (congrFun eg83 16).trans ((va_up_ne _ _ (Nat.ne_of_beq_eq_false rfl)).trans hg81_16)
  have hg83_17 : g83 17 = .int 0 := (congrFun eg83 17).trans ((va_up_ne _ _ (Nat.ne_of_beq_eq_false rfl)).trans hg81_17)
  have hg83_19 : g83 19 = .int 0 := (congrFun eg83 19).trans ((va_up_ne _ _ (Nat.ne_of_beq_eq_false rfl)).trans hg81_19)
  have hg83_20 : g83 20 = .int 0 := (congrFun eg83 20).trans ((va_up_ne _ _ (Nat.ne_of_beq_eq_false rfl)).trans hg81_20)
  have hg83_21 : g83 21 = .int 0 := (congrFun eg83 21).trans ((va_up_ne _ _ (Nat.ne_of_beq_eq_false rfl)).trans hg81_21)
  have hg83_22 : g83 22 = .int 0 := (congrFun eg83 22).trans ((va_up_ne _ _ (Nat.ne_of_beq_eq_false rfl)).trans hg81_22)
  have hg83_23 : g83 23 = .int 0 := (congrFun eg83 23).trans ((va_up_ne _ _ (Nat.ne_of_beq_eq_false rfl)).trans hg81_23)
  have hg83_24 : g83 24 = .int 0 := (congrFun eg83 24).trans ((va_up_ne _ _ (Nat.ne_of_beq_eq_false rfl)).trans hg81_24)
  have hg83_25 : g83 25 = .int 0 := (congrFun eg83 25).trans ((va_up_ne _ _ (Nat.ne_of_beq_eq_false rfl)).trans hg81_25)
  have hg83_26 : g83 26 = .int 0 := (congrFun eg83 26).trans ((va_up_ne _ _ (Nat.ne_of_beq_eq_false rfl)).trans hg81_26)
  have hg83_46 : g83 46 = .int 0 := (congrFun eg83 46).trans ((va_up_ne _ _ (Nat.ne_of_beq_eq_false rfl)).trans hg81_46)
  have hg83_47 : g83 47 = .int 0 := (congrFun eg83 47).trans ((va_up_ne _ _ (Nat.ne_of_beq_eq_false rfl)).trans hg81_47)
  have hg83_48 : g83 48 = .int 0 := (congrFun eg83 48).trans ((va_up_ne _ _ (Nat.ne_of_beq_eq_false rfl)).trans hg81_48)
  have hg83_55 : g83 55 = .int 0 := (congrFun eg83 55).trans ((va_up_ne _ _ (Nat.ne_of_beq_eq_false rfl)).trans hg81_55)
  have hg83_74 : g83 74 = .int 0 := (congrFun eg83 74).trans ((va_up_ne _ _ (Nat.ne_of_beq_eq_false rfl)).trans hg81_74)
  have hg83_75 : g83 75 = .int 0 := (congrFun eg83 75).trans ((va_up_ne _ _ (Nat.ne_of_beq_eq_false rfl)).trans hg81_75)
  have hg83_86 : g83 86 = .int 0 := (congrFun eg83 86).trans ((va_up_ne _ _ (Nat.ne_of_beq_eq_false rfl)).trans hg81_86)
  have hg83_87 : g83 87 = .int 0 := (congrFun eg83 87).trans ((va_up_ne _ _ (Nat.ne_of_beq_eq_false rfl)).trans hg81_87)
  have hg83_88 : g83 88 = .int 0 := (congrFun eg83 88).trans ((va_up_ne _ _ (Nat.ne_of_beq_eq_false rfl)).trans hg81_88)
  have hg83_89 : g83 89 = .int 0 := (congrFun eg83 89).trans ((va_up_ne _ _ (Nat.ne_of_beq_eq_false rfl)).trans hg81_89)
  have hg83_95 : g83 95 = .int 0 := (congrFun eg83 95).trans ((va_up_ne _ _ (Nat.ne_of_beq_eq_false rfl)).trans hg81_95)
  have hg83_2 : g83 2 = .ref q1 := (congrFun eg83 2).trans ((va_up_ne _ _ (Nat.ne_of_beq_eq_false rfl)).trans hg81_2)
  have hg83_3 : g83 3 = .ref q3 := (congrFun eg83 3).trans ((va_up_ne _ _ (Nat.ne_of_beq_eq_false rfl)).trans hg81_3)
  have hg83_4 : g83 4 = .ref q5 := (congrFun eg83 4).trans ((va_up_ne _ _ (Nat.ne_of_beq_eq_false rfl)).trans hg81_4)
  have hg83_5 : g83 5 = .ref q7 := (congrFun eg83 5).trans ((va_up_ne _ _ (Nat.ne_of_beq_eq_false rfl)).trans hg81_5)
  have hg83_6 : g83 6 = .ref q9 := (congrFun eg83 6).trans ((va_up_ne _ _ (Nat.ne_of_beq_eq_false rfl)).trans hg81_6)
  have hg83_7 : g83 7 = .ref q11 := (congrFun eg83 7).trans ((va_up_ne _ _ (Nat.ne_of_beq_eq_false rfl)).trans hg81_7)
  have hg83_10 : g83 10 = .ref q13 := (congrFun eg83 10).trans ((va_up_ne _ _ (Nat.ne_of_beq_eq_false rfl)).trans hg81_10)
  have hg83_11 : g83 11 = .ref q15 := (congrFun eg83 11).trans ((va_up_ne _ _ (Nat.ne_of_beq_eq_false rfl)).trans hg81_11)
  have hg83_12 : g83 12 = .ref q17 := (congrFun eg83 12).trans ((va_up_ne _ _ (Nat.ne_of_beq_eq_false rfl)).trans hg81_12)
  have hg83_13 : g83 13 = .ref q19 := (congrFun eg83 13).trans ((va_up_ne _ _ (Nat.ne_of_beq_eq_false rfl)).trans hg81_13)
  have hg83_14 : g83 14 = .ref q21 := (congrFun eg83 14).trans ((va_up_ne _ _ (Nat.ne_of_beq_eq_false rfl)).trans hg81_14)
  have hg83_15 : g83 15 = .ref q23 := (congrFun eg83 15).trans ((va_up_ne _ _ (Nat.ne_of_beq_eq_false rfl)).trans hg81_15)
  have hg83_18 : g83 18 = .ref q13 := (congrFun eg83 18).trans ((va_up_ne _ _ (Nat.ne_of_beq_eq_false rfl)).trans hg81_18)
  have hg83_27 : g83 27 = .ref q26 := (congrFun eg83 27).trans ((va_up_ne _ _ (Nat.ne_of_beq_eq_false rfl)).trans hg81_27)
  have hg83_28 : g83 28 = .ref q28 := (congrFun eg83 28).trans ((va_up_ne _ _ (Nat.ne_of_beq_eq_false rfl)).trans hg81_28)
  have hg83_29 : g83 29 = .ref q30 := (congrFun eg83 29).trans ((va_up_ne _ _ (Nat.ne_of_beq_eq_false rfl)).trans hg81_29)
  have hg83_30 : g83 30 = .ref q32 := (congrFun eg83 30).trans ((va_up_ne _ _ (Nat.ne_of_beq_eq_false rfl)).trans hg81_30)
  have hg83_31 : g83 31 = .ref q34 := (congrFun eg83 31).trans ((va_up_ne _ _ (Nat.ne_of_beq_eq_false rfl)).trans hg81_31)
  have hg83_32 : g83 32 = .ref q36 := (congrFun eg83 32).trans ((va_up_ne _ _ (Nat.ne_of_beq_eq_false rfl)).trans hg81_32)
  have hg83_33 : g83 33 = .ref q38 := (congrFun eg83 33).trans ((va_up_ne _ _ (Nat.ne_of_beq_eq_false rfl)).trans hg81_33)
  have hg83_34 : g83 34 = .ref q40 := (congrFun eg83 34).trans ((va_up_ne _ _ (Nat.ne_of_beq_eq_false rfl)).trans hg81_34)
  have hg83_35 : g83 35 = .ref q42 := (congrFun eg83 35).trans ((va_up_ne _ _ (Nat.ne_of_beq_eq_false rfl)).trans hg81_35)
  have hg83_36 : g83 36 = .ref q44 := (congrFun eg83 36).trans ((va_up_ne _ _ (Nat.ne_of_beq_eq_false rfl)).trans hg81_36)
  have hg83_37 : g83 37 = .ref q46 := (congrFun eg83 37).trans ((va_up_ne _ _ (Nat.ne_of_beq_eq_false rfl)).trans hg81_37)
  have hg83_38 : g83 38 = .ref q48 := (congrFun eg83 38).trans ((va_up_ne _ _ (Nat.ne_of_beq_eq_false rfl)).trans hg81_38)
  have hg83_39 : g83 39 = .ref q50 := (congrFun eg83 39).trans ((va_up_ne _ _ (Nat.ne_of_beq_eq_false rfl)).trans hg81_39)
  have hg83_40 : g83 40 = .ref q52 := (congrFun eg83 40).trans ((va_up_ne _ _ (Nat.ne_of_beq_eq_false rfl)).trans hg81_40)
  have hg83_41 : g83 41 = .ref q54 := (congrFun eg83 41).trans ((va_up_ne _ _ (Nat.ne_of_beq_eq_false rfl)).trans hg81_41)
  have hg83_42 : g83 42 = .ref q56 := (congrFun eg83 42).trans ((va_up_ne _ _ (Nat.ne_of_beq_eq_false rfl)).trans hg81_42)
  have hg83_43 : g83 43 = .ref q58 := (congrFun eg83 43).trans ((va_up_ne _ _ (Nat.ne_of_beq_eq_false rfl)).trans hg81_43)
  have hg83_44 : g83 44 = .ref q60 := (congrFun eg83 44).trans ((va_up_ne _ _ (Nat.ne_of_beq_eq_false rfl)).trans hg81_44)
  have hg83_45 : g83 45 = .ref q62 := (congrFun eg83 45).trans ((va_up_ne _ _ (Nat.ne_of_beq_eq_false rfl)).trans hg81_45)
  have hg83_49 : g83 49 = .ref q64 := (congrFun eg83 49).trans ((va_up_ne _ _ (Nat.ne_of_beq_eq_false rfl)).trans hg81_49)
  have hg83_50 : g83 50 = .ref q66 := (congrFun eg83 50).trans ((va_up_ne _ _ (Nat.ne_of_beq_eq_false rfl)).trans hg81_50)
  have hg83_51 : g83 51 = .ref q68 := (congrFun eg83 51).trans ((va_up_ne _ _ (Nat.ne_of_beq_eq_false rfl)).trans hg81_51)
  have hg83_52 : g83 52 = .ref q70 := (congrFun eg83 52).trans ((va_up_ne _ _ (Nat.ne_of_beq_eq_false rfl)).trans hg81_52)
  have hg83_53 : g83 53 = .ref q72 := (congrFun eg83 53).trans ((va_up_ne _ _ (Nat.ne_of_beq_eq_false rfl)).trans hg81_53)
  have hg83_54 : g83 54 = .ref q74 := (congrFun eg83 54).trans ((va_up_ne _ _ (Nat.ne_of_beq_eq_false rfl)).trans hg81_54)
  have hg83_56 : g83 56 = .ref q76 := (congrFun eg83 56).trans ((va_up_ne _ _ (Nat.ne_of_beq_eq_false rfl)).trans hg81_56)
  have hg83_57 : g83 57 = .ref q78 := (congrFun eg83 57).trans ((va_up_ne _ _ (Nat.ne_of_beq_eq_false rfl)).trans hg81_57)
  have hg83_58 : g83 58 = .ref q80 := (congrFun eg83 58).trans ((va_up_ne _ _ (Nat.ne_of_beq_eq_false rfl)).trans hg81_58)
  clear hg81_0 hg81_1 hg81_8 hg81_9 hg81_16 hg81_17 hg81_19 hg81_20 hg81_21 hg81_22 hg81_23 hg81_24 hg81_25 hg81_26 hg81_46 hg81_47 hg81_48 hg81_55 hg81_74 hg81_75 hg81_86 hg81_87 hg81_88 hg81_89 hg81_95 hg81_2 hg81_3 hg81_4 hg81_5 hg81_6 hg81_7 hg81_10 hg81_11 hg81_12 hg81_13 hg81_14 hg81_15 hg81_18 hg81_27 hg81_28 hg81_29 hg81_30 hg81_31 hg81_32 hg81_33 hg81_34 hg81_35 hg81_36 hg81_37 hg81_38 hg81_39 hg81_40 hg81_41 hg81_42 hg81_43 hg81_44 hg81_45 hg81_49 hg81_50 hg81_51 hg81_52 hg81_53 hg81_54 hg81_56 hg81_57 hg81_58
  have hg83_59 : g83 59 = .ref q82 := by rw [eg83]; exact va_up_self _ _ _
  refine lv_aload_n hx hb dX13_init_357 rfl (lv_at hl 0 rfl) ?_
  refine lv_sipush (v := 200) hx hb dX13_init_358 (by decide) ?_
  refine va_newa (atype := .int) (ty := .int) (N' := 200) (a0 := (200, .inl (fun _ => (0 : Int32)))) hx hb (hts _ (vA_in _ _ (in_2 _ (List.mem_of_getElem? (i := 38) rfl)))) rfl hK hP hD hS hA (fun _ => rfl) (by decide) (by decide) (Nat.le_of_ble_eq_true rfl) (Nat.le_of_ble_eq_true rfl) (Nat.le_of_ble_eq_true rfl) dX13_init_361 (fun q84 kq84 H hK hP hD hS => ?_)
  have hK : va_K (dC, dI) vwCl [(kq1, .int), (kq13, .byte), (kq72, .boolean), (kq84, .int)] s := hK
  obtain ⟨wq84, ewq84⟩ : ∃ z : va_W, z = wq82 ++ [(q84, .inl (kq84, 200, .inl (fun _ => (0 : Int32))))] := ⟨_, rfl⟩
  replace hP : va_P (dC, dI) vwCl ((h, .inr (14, mL g83)) :: wq84) H := by rw [ewq84]; exact hP
  replace hD : va_D A ((h, .inr (14, mL g83)) :: wq84) := by rw [ewq84]; exact hD
  refine W.widen (k := 42) (n := 8448) (by omega) (by omega) ?_
  obtain rfl : kq1 = kq84 := ub_sa_int hK 0 3 rfl rfl
  have hK := hK.sub (tys' := [(kq1, .int), (kq13, .byte), (kq72, .boolean)]) [0, 1, 2] rfl
  refine va_putF (D := (dC, dI)) (ci := 14) (v := .ref q84) (ty := .array .int) (C := RX13) (T := TX13) (N := 97) hx hb hts (fun w h => vA_in _ w (in_X13 w h)) tyX13 tyX13_ok nmX13 hown hK hP hD hS 0 rfl rfl 60 (by decide) (hts _ (vA_in _ _ (in_25 _ (List.mem_of_getElem? (i := 28) rfl)))) (fun _ h9 => h9) rfl hin rfl (by decide +kernel) rfl rfl (mL_lt (Nat.le_of_ble_eq_true rfl)) dX13_init_363 (fun H locs hP hD hS => ?_)
  replace hP : va_P (dC, dI) vwCl ((h, .inr (14, (mL g83).set 60 (.ref q84))) :: wq84) H := hP
  replace hD : va_D A ((h, .inr (14, (mL g83).set 60 (.ref q84))) :: wq84) := hD
  obtain ⟨g85, eg85⟩ : ∃ z9, z9 = va_up g83 60 (.ref q84) := ⟨_, rfl⟩
  rw [mL_upd, ← eg85] at hP hD
  have hg85_0 : g85 0 = .int 0 := (congrFun eg85 0).trans ((va_up_ne _ _ (Nat.ne_of_beq_eq_false rfl)).trans hg83_0)
  have hg85_1 : g85 1 = .int 0 := (congrFun eg85 1).trans ((va_up_ne _ _ (Nat.ne_of_beq_eq_false rfl)).trans hg83_1)
  have hg85_8 : g85 8 = .int 0 := (congrFun eg85 8).trans ((va_up_ne _ _ (Nat.ne_of_beq_eq_false rfl)).trans hg83_8)
  have hg85_9 : g85 9 = .int 0 := (congrFun eg85 9).trans ((va_up_ne _ _ (Nat.ne_of_beq_eq_false rfl)).trans hg83_9)
  have hg85_16 : g85 16 = .int 0 := (congrFun eg85 16).trans ((va_up_ne _ _ (Nat.ne_of_beq_eq_false rfl)).trans hg83_16)
  have hg85_17 : g85 17 = .int 0 := (congrFun eg85 17).trans ((va_up_ne _ _ (Nat.ne_of_beq_eq_false rfl)).trans hg83_17)
  have hg85_19 : g85 19 = .int 0 := (congrFun eg85 19).trans ((va_up_ne _ _ (Nat.ne_of_beq_eq_false rfl)).trans hg83_19)
  have hg85_20 : g85 20 = .int 0 := (congrFun eg85 20).trans ((va_up_ne _ _ (Nat.ne_of_beq_eq_false rfl)).trans hg83_20)
  have hg85_21 : g85 21 = .int 0 := (congrFun eg85 21).trans ((va_up_ne _ _ (Nat.ne_of_beq_eq_false rfl)).trans hg83_21)
  have hg85_22 : g85 22 = .int 0 := (congrFun eg85 22).trans ((va_up_ne _ _ (Nat.ne_of_beq_eq_false rfl)).trans hg83_22)
  have hg85_23 : g85 23 = .int 0 := (congrFun eg85 23).trans ((va_up_ne _ _ (Nat.ne_of_beq_eq_false rfl)).trans hg83_23)
  have hg85_24 : g85 24 = .int 0 := (congrFun eg85 24).trans ((va_up_ne _ _ (Nat.ne_of_beq_eq_false rfl)).trans hg83_24)
  have hg85_25 : g85 25 = .int 0 := (congrFun eg85 25).trans ((va_up_ne _ _ (Nat.ne_of_beq_eq_false rfl)).trans hg83_25)
  have hg85_26 : g85 26 = .int 0 := (congrFun eg85 26).trans ((va_up_ne _ _ (Nat.ne_of_beq_eq_false rfl)).trans hg83_26)
  have hg85_46 : g85 46 = .int 0 := (congrFun eg85 46).trans ((va_up_ne _ _ (Nat.ne_of_beq_eq_false rfl)).trans hg83_46)
  have hg85_47 : g85 47 = .int 0 := (congrFun eg85 47).trans ((va_up_ne _ _ (Nat.ne_of_beq_eq_false rfl)).trans hg83_47)
  have hg85_48 : g85 48 = .int 0 := (congrFun eg85 48).trans ((va_up_ne _ _ (Nat.ne_of_beq_eq_false rfl)).trans hg83_48)
  have hg85_55 : g85 55 = .int 0 := (congrFun eg85 55).trans ((va_up_ne _ _ (Nat.ne_of_beq_eq_false rfl)).trans hg83_55)
  have hg85_74 : g85 74 = .int 0 := (congrFun eg85 74).trans ((va_up_ne _ _ (Nat.ne_of_beq_eq_false rfl)).trans hg83_74)
  have hg85_75 : g85 75 = .int 0 := (congrFun eg85 75).trans ((va_up_ne _ _ (Nat.ne_of_beq_eq_false rfl)).trans hg83_75)
  have hg85_86 : g85 86 = .int 0 := (congrFun eg85 86).trans ((va_up_ne _ _ (Nat.ne_of_beq_eq_false rfl)).trans hg83_86)
  have hg85_87 : g85 87 = .int 0 := (congrFun eg85 87).trans ((va_up_ne _ _ (Nat.ne_of_beq_eq_false rfl)).trans hg83_87)
  have hg85_88 : g85 88 = .int 0 := (congrFun eg85 88).trans ((va_up_ne _ _ (Nat.ne_of_beq_eq_false rfl)).trans hg83_88)
  have hg85_89 : g85 89 = .int 0 := (congrFun eg85 89).trans ((va_up_ne _ _ (Nat.ne_of_beq_eq_false rfl)).trans hg83_89)
  have hg85_95 : g85 95 = .int 0 := (congrFun eg85 95).trans ((va_up_ne _ _ (Nat.ne_of_beq_eq_false rfl)).trans hg83_95)
  have hg85_2 : g85 2 = .ref q1 := (congrFun eg85 2).trans ((va_up_ne _ _ (Nat.ne_of_beq_eq_false rfl)).trans hg83_2)
  have hg85_3 : g85 3 = .ref q3 := (congrFun eg85 3).trans ((va_up_ne _ _ (Nat.ne_of_beq_eq_false rfl)).trans hg83_3)
  have hg85_4 : g85 4 = .ref q5 := (congrFun eg85 4).trans ((va_up_ne _ _ (Nat.ne_of_beq_eq_false rfl)).trans hg83_4)
  have hg85_5 : g85 5 = .ref q7 := (congrFun eg85 5).trans ((va_up_ne _ _ (Nat.ne_of_beq_eq_false rfl)).trans hg83_5)
  have hg85_6 : g85 6 = .ref q9 := (congrFun eg85 6).trans ((va_up_ne _ _ (Nat.ne_of_beq_eq_false rfl)).trans hg83_6)
  have hg85_7 : g85 7 = .ref q11 := (congrFun eg85 7).trans ((va_up_ne _ _ (Nat.ne_of_beq_eq_false rfl)).trans hg83_7)
  have hg85_10 : g85 10 = .ref q13 := (congrFun eg85 10).trans ((va_up_ne _ _ (Nat.ne_of_beq_eq_false rfl)).trans hg83_10)
  have hg85_11 : g85 11 = .ref q15 := (congrFun eg85 11).trans ((va_up_ne _ _ (Nat.ne_of_beq_eq_false rfl)).trans hg83_11)
  have hg85_12 : g85 12 = .ref q17 := (congrFun eg85 12).trans ((va_up_ne _ _ (Nat.ne_of_beq_eq_false rfl)).trans hg83_12)
  have hg85_13 : g85 13 = .ref q19 := (congrFun eg85 13).trans ((va_up_ne _ _ (Nat.ne_of_beq_eq_false rfl)).trans hg83_13)
  have hg85_14 : g85 14 = .ref q21 := (congrFun eg85 14).trans ((va_up_ne _ _ (Nat.ne_of_beq_eq_false rfl)).trans hg83_14)
  have hg85_15 : g85 15 = .ref q23 := (congrFun eg85 15).trans ((va_up_ne _ _ (Nat.ne_of_beq_eq_false rfl)).trans hg83_15)
  have hg85_18 : g85 18 = .ref q13 := (congrFun eg85 18).trans ((va_up_ne _ _ (Nat.ne_of_beq_eq_false rfl)).trans hg83_18)
  have hg85_27 : g85 27 = .ref q26 := (congrFun eg85 27).trans ((va_up_ne _ _ (Nat.ne_of_beq_eq_false rfl)).trans hg83_27)
  have hg85_28 : g85 28 = .ref q28 := (congrFun eg85 28).trans ((va_up_ne _ _ (Nat.ne_of_beq_eq_false rfl)).trans hg83_28)
  have hg85_29 : g85 29 = .ref q30 := (congrFun eg85 29).trans ((va_up_ne _ _ (Nat.ne_of_beq_eq_false rfl)).trans hg83_29)
  have hg85_30 : g85 30 = .ref q32 := (congrFun eg85 30).trans ((va_up_ne _ _ (Nat.ne_of_beq_eq_false rfl)).trans hg83_30)
  have hg85_31 : g85 31 = .ref q34 := (congrFun eg85 31).trans ((va_up_ne _ _ (Nat.ne_of_beq_eq_false rfl)).trans hg83_31)
  have hg85_32 : g85 32 = .ref q36 := (congrFun eg85 32).trans ((va_up_ne _ _ (Nat.ne_of_beq_eq_false rfl)).trans hg83_32)
  have hg85_33 : g85 33 = .ref q38 := (congrFun eg85 33).trans ((va_up_ne _ _ (Nat.ne_of_beq_eq_false rfl)).trans hg83_33)
  have hg85_34 : g85 34 = .ref q40 := (congrFun eg85 34).trans ((va_up_ne _ _ (Nat.ne_of_beq_eq_false rfl)).trans hg83_34)
  have hg85_35 : g85 35 = .ref q42 := (congrFun eg85 35).trans ((va_up_ne _ _ (Nat.ne_of_beq_eq_false rfl)).trans hg83_35)
  have hg85_36 : g85 36 = .ref q44 := (congrFun eg85 36).trans ((va_up_ne _ _ (Nat.ne_of_beq_eq_false rfl)).trans hg83_36)
  have hg85_37 : g85 37 = .ref q46 := (congrFun eg85 37).trans ((va_up_ne _ _ (Nat.ne_of_beq_eq_false rfl)).trans hg83_37)
  have hg85_38 : g85 38 = .ref q48 := (congrFun eg85 38).trans ((va_up_ne _ _ (Nat.ne_of_beq_eq_false rfl)).trans hg83_38)
  have hg85_39 : g85 39 = .ref q50 := (congrFun eg85 39).trans ((va_up_ne _ _ (Nat.ne_of_beq_eq_false rfl)).trans hg83_39)
  have hg85_40 : g85 40 = .ref q52 := (congrFun eg85 40).trans ((va_up_ne _ _ (Nat.ne_of_beq_eq_false rfl)).trans hg83_40)
  have hg85_41 : g85 41 = .ref q54 := (congrFun eg85 41).trans ((va_up_ne _ _ (Nat.ne_of_beq_eq_false rfl)).trans hg83_41)
  have hg85_42 : g85 42 = .ref q56 := (congrFun eg85 42).trans ((va_up_ne _ _ (Nat.ne_of_beq_eq_false rfl)).trans hg83_42)
  have hg85_43 : g85 43 = .ref q58 := (congrFun eg85 43).trans ((va_up_ne _ _ (Nat.ne_of_beq_eq_false rfl)).trans hg83_43)
  have hg85_44 : g85 44 = .ref q60 := (congrFun eg85 44).trans ((va_up_ne _ _ (Nat.ne_of_beq_eq_false rfl)).trans hg83_44)
  have hg85_45 : g85 45 = .ref q62 := (congrFun eg85 45).trans ((va_up_ne _ _ (Nat.ne_of_beq_eq_false rfl)).trans hg83_45)
  have hg85_49 : g85 49 = .ref q64 := (congrFun eg85 49).trans ((va_up_ne _ _ (Nat.ne_of_beq_eq_false rfl)).trans hg83_49)
  have hg85_50 : g85 50 = .ref q66 := (congrFun eg85 50).trans ((va_up_ne _ _ (Nat.ne_of_beq_eq_false rfl)).trans hg83_50)
  have hg85_51 : g85 51 = .ref q68 := (congrFun eg85 51).trans ((va_up_ne _ _ (Nat.ne_of_beq_eq_false rfl)).trans hg83_51)
  have hg85_52 : g85 52 = .ref q70 := (congrFun eg85 52).trans ((va_up_ne _ _ (Nat.ne_of_beq_eq_false rfl)).trans hg83_52)
  have hg85_53 : g85 53 = .ref q72 := (congrFun eg85 53).trans ((va_up_ne _ _ (Nat.ne_of_beq_eq_false rfl)).trans hg83_53)
  have hg85_54 : g85 54 = .ref q74 := (congrFun eg85 54).trans ((va_up_ne _ _ (Nat.ne_of_beq_eq_false rfl)).trans hg83_54)
  have hg85_56 : g85 56 = .ref q76 := (congrFun eg85 56).trans ((va_up_ne _ _ (Nat.ne_of_beq_eq_false rfl)).trans hg83_56)
  have hg85_57 : g85 57 = .ref q78 := (congrFun eg85 57).trans ((va_up_ne _ _ (Nat.ne_of_beq_eq_false rfl)).trans hg83_57)
  have hg85_58 : g85 58 = .ref q80 := (congrFun eg85 58).trans ((va_up_ne _ _ (Nat.ne_of_beq_eq_false rfl)).trans hg83_58)
  have hg85_59 : g85 59 = .ref q82 := (congrFun eg85 59).trans ((va_up_ne _ _ (Nat.ne_of_beq_eq_false rfl)).trans hg83_59)
  clear hg83_0 hg83_1 hg83_8 hg83_9 hg83_16 hg83_17 hg83_19 hg83_20 hg83_21 hg83_22 hg83_23 hg83_24 hg83_25 hg83_26 hg83_46 hg83_47 hg83_48 hg83_55 hg83_74 hg83_75 hg83_86 hg83_87 hg83_88 hg83_89 hg83_95 hg83_2 hg83_3 hg83_4 hg83_5 hg83_6 hg83_7 hg83_10 hg83_11 hg83_12 hg83_13 hg83_14 hg83_15 hg83_18 hg83_27 hg83_28 hg83_29 hg83_30 hg83_31 hg83_32 hg83_33 hg83_34 hg83_35 hg83_36 hg83_37 hg83_38 hg83_39 hg83_40 hg83_41 hg83_42 hg83_43 hg83_44 hg83_45 hg83_49 hg83_50 hg83_51 hg83_52 hg83_53 hg83_54 hg83_56 hg83_57 hg83_58 hg83_59
  have hg85_60 : g85 60 = .ref q84 := by rw [eg85]; exact va_up_self _ _ _
  refine lv_aload_n hx hb dX13_init_366 rfl (lv_at hl 0 rfl) ?_
  refine lv_sipush (v := 200) hx hb dX13_init_367 (by decide) ?_
  refine va_newa (atype := .int) (ty := .int) (N' := 200) (a0 := (200, .inl (fun _ => (0 : Int32)))) hx hb (hts _ (vA_in _ _ (in_2 _ (List.mem_of_getElem? (i := 38) rfl)))) rfl hK hP hD hS hA (fun _ => rfl) (by decide) (by decide) (Nat.le_of_ble_eq_true rfl) (Nat.le_of_ble_eq_true rfl) (Nat.le_of_ble_eq_true rfl) dX13_init_370 (fun q86 kq86 H hK hP hD hS => ?_)
  have hK : va_K (dC, dI) vwCl [(kq1, .int), (kq13, .byte), (kq72, .boolean), (kq86, .int)] s := hK
  obtain ⟨wq86, ewq86⟩ : ∃ z : va_W, z = wq84 ++ [(q86, .inl (kq86, 200, .inl (fun _ => (0 : Int32))))] := ⟨_, rfl⟩
  replace hP : va_P (dC, dI) vwCl ((h, .inr (14, mL g85)) :: wq86) H := by rw [ewq86]; exact hP
  replace hD : va_D A ((h, .inr (14, mL g85)) :: wq86) := by rw [ewq86]; exact hD
  refine W.widen (k := 43) (n := 8648) (by omega) (by omega) ?_
  obtain rfl : kq1 = kq86 := ub_sa_int hK 0 3 rfl rfl
  have hK := hK.sub (tys' := [(kq1, .int), (kq13, .byte), (kq72, .boolean)]) [0, 1, 2] rfl
  refine va_putF (D := (dC, dI)) (ci := 14) (v := .ref q86) (ty := .array .int) (C := RX13) (T := TX13) (N := 97) hx hb hts (fun w h => vA_in _ w (in_X13 w h)) tyX13 tyX13_ok nmX13 hown hK hP hD hS 0 rfl rfl 61 (by decide) (hts _ (vA_in _ _ (in_25 _ (List.mem_of_getElem? (i := 26) rfl)))) (fun _ h9 => h9) rfl hin rfl (by decide +kernel) rfl rfl (mL_lt (Nat.le_of_ble_eq_true rfl)) dX13_init_372 (fun H locs hP hD hS => ?_)
  replace hP : va_P (dC, dI) vwCl ((h, .inr (14, (mL g85).set 61 (.ref q86))) :: wq86) H := hP
  replace hD : va_D A ((h, .inr (14, (mL g85).set 61 (.ref q86))) :: wq86) := hD
  obtain ⟨g87, eg87⟩ : ∃ z9, z9 = va_up g85 61 (.ref q86) := ⟨_, rfl⟩
  rw [mL_upd, ← eg87] at hP hD
  have hg87_0 : g87 0 = .int 0 := (congrFun eg87 0).trans ((va_up_ne _ _ (Nat.ne_of_beq_eq_false rfl)).trans hg85_0)
  have hg87_1 : g87 1 = .int 0 := (congrFun eg87 1).trans ((va_up_ne _ _ (Nat.ne_of_beq_eq_false rfl)).trans hg85_1)
  have hg87_8 : g87 8 = .int 0 := (congrFun eg87 8).trans ((va_up_ne _ _ (Nat.ne_of_beq_eq_false rfl)).trans hg85_8)
  have hg87_9 : g87 9 = .int 0 := (congrFun eg87 9).trans ((va_up_ne _ _ (Nat.ne_of_beq_eq_false rfl)).trans hg85_9)
  have hg87_16 : g87 16 = .int 0 := (congrFun eg87 16).trans ((va_up_ne _ _ (Nat.ne_of_beq_eq_false rfl)).trans hg85_16)
  have hg87_17 : g87 17 = .int 0 := (congrFun eg87 17).trans ((va_up_ne _ _ (Nat.ne_of_beq_eq_false rfl)).trans hg85_17)
  have hg87_19 : g87 19 = .int 0 := (congrFun eg87 19).trans ((va_up_ne _ _ (Nat.ne_of_beq_eq_false rfl)).trans hg85_19)
  have hg87_20 : g87 20 = .int 0 := (congrFun eg87 20).trans ((va_up_ne _ _ (Nat.ne_of_beq_eq_false rfl)).trans hg85_20)
  have hg87_21 : g87 21 = .int 0 := (congrFun eg87 21).trans ((va_up_ne _ _ (Nat.ne_of_beq_eq_false rfl)).trans hg85_21)
  have hg87_22 : g87 22 = .int 0 := (congrFun eg87 22).trans ((va_up_ne _ _ (Nat.ne_of_beq_eq_false rfl)).trans hg85_22)
  have hg87_23 : g87 23 = .int 0 := (congrFun eg87 23).trans ((va_up_ne _ _ (Nat.ne_of_beq_eq_false rfl)).trans hg85_23)
  have hg87_24 : g87 24 = .int 0 := (congrFun eg87 24).trans ((va_up_ne _ _ (Nat.ne_of_beq_eq_false rfl)).trans hg85_24)
  have hg87_25 : g87 25 = .int 0 := (congrFun eg87 25).trans ((va_up_ne _ _ (Nat.ne_of_beq_eq_false rfl)).trans hg85_25)
  have hg87_26 : g87 26 = .int 0 := (congrFun eg87 26).trans ((va_up_ne _ _ (Nat.ne_of_beq_eq_false rfl)).trans hg85_26)
  have hg87_46 : g87 46 = .int 0 := (congrFun eg87 46).trans ((va_up_ne _ _ (Nat.ne_of_beq_eq_false rfl)).trans hg85_46)
  have hg87_47 : g87 47 = .int 0 := (congrFun eg87 47).trans ((va_up_ne _ _ (Nat.ne_of_beq_eq_false rfl)).trans hg85_47)
  have hg87_48 : g87 48 = .int 0 := (congrFun eg87 48).trans ((va_up_ne _ _ (Nat.ne_of_beq_eq_false rfl)).trans hg85_48)
  have hg87_55 : g87 55 = .int 0 := (congrFun eg87 55).trans ((va_up_ne _ _ (Nat.ne_of_beq_eq_false rfl)).trans hg85_55)
  have hg87_74 : g87 74 = .int 0 := (congrFun eg87 74).trans ((va_up_ne _ _ (Nat.ne_of_beq_eq_false rfl)).trans hg85_74)
  have hg87_75 : g87 75 = .int 0 := (congrFun eg87 75).trans ((va_up_ne _ _ (Nat.ne_of_beq_eq_false rfl)).trans hg85_75)
  have hg87_86 : g87 86 = .int 0 := (congrFun eg87 86).trans ((va_up_ne _ _ (Nat.ne_of_beq_eq_false rfl)).trans hg85_86)
  have hg87_87 : g87 87 = .int 0 := (congrFun eg87 87).trans ((va_up_ne _ _ (Nat.ne_of_beq_eq_false rfl)).trans hg85_87)
  have hg87_88 : g87 88 = .int 0 := (congrFun eg87 88).trans ((va_up_ne _ _ (Nat.ne_of_beq_eq_false rfl)).trans hg85_88)
  have hg87_89 : g87 89 = .int 0 := (congrFun eg87 89).trans ((va_up_ne _ _ (Nat.ne_of_beq_eq_false rfl)).trans hg85_89)
  have hg87_95 : g87 95 = .int 0 := (congrFun eg87 95).trans ((va_up_ne _ _ (Nat.ne_of_beq_eq_false rfl)).trans hg85_95)
  have hg87_2 : g87 2 = .ref q1 := (congrFun eg87 2).trans ((va_up_ne _ _ (Nat.ne_of_beq_eq_false rfl)).trans hg85_2)
  have hg87_3 : g87 3 = .ref q3 := (congrFun eg87 3).trans ((va_up_ne _ _ (Nat.ne_of_beq_eq_false rfl)).trans hg85_3)
  have hg87_4 : g87 4 = .ref q5 := (congrFun eg87 4).trans ((va_up_ne _ _ (Nat.ne_of_beq_eq_false rfl)).trans hg85_4)
  have hg87_5 : g87 5 = .ref q7 := (congrFun eg87 5).trans ((va_up_ne _ _ (Nat.ne_of_beq_eq_false rfl)).trans hg85_5)
  have hg87_6 : g87 6 = .ref q9 := (congrFun eg87 6).trans ((va_up_ne _ _ (Nat.ne_of_beq_eq_false rfl)).trans hg85_6)
  have hg87_7 : g87 7 = .ref q11 := (congrFun eg87 7).trans ((va_up_ne _ _ (Nat.ne_of_beq_eq_false rfl)).trans hg85_7)
  have hg87_10 : g87 10 = .ref q13 := (congrFun eg87 10).trans ((va_up_ne _ _ (Nat.ne_of_beq_eq_false rfl)).trans hg85_10)
  have hg87_11 : g87 11 = .ref q15 := (congrFun eg87 11).trans ((va_up_ne _ _ (Nat.ne_of_beq_eq_false rfl)).trans hg85_11)
  have hg87_12 : g87 12 = .ref q17 := (congrFun eg87 12).trans ((va_up_ne _ _ (Nat.ne_of_beq_eq_false rfl)).trans hg85_12)
  have hg87_13 : g87 13 = .ref q19 := (congrFun eg87 13).trans ((va_up_ne _ _ (Nat.ne_of_beq_eq_false rfl)).trans hg85_13)
  have hg87_14 : g87 14 = .ref q21 := (congrFun eg87 14).trans ((va_up_ne _ _ (Nat.ne_of_beq_eq_false rfl)).trans hg85_14)
  have hg87_15 : g87 15 = .ref q23 := (congrFun eg87 15).trans ((va_up_ne _ _ (Nat.ne_of_beq_eq_false rfl)).trans hg85_15)
  have hg87_18 : g87 18 = .ref q13 := (congrFun eg87 18).trans ((va_up_ne _ _ (Nat.ne_of_beq_eq_false rfl)).trans hg85_18)
  have hg87_27 : g87 27 = .ref q26 := (congrFun eg87 27).trans ((va_up_ne _ _ (Nat.ne_of_beq_eq_false rfl)).trans hg85_27)
  have hg87_28 : g87 28 = .ref q28 := (congrFun eg87 28).trans ((va_up_ne _ _ (Nat.ne_of_beq_eq_false rfl)).trans hg85_28)
  have hg87_29 : g87 29 = .ref q30 := (congrFun eg87 29).trans ((va_up_ne _ _ (Nat.ne_of_beq_eq_false rfl)).trans hg85_29)
  have hg87_30 : g87 30 = .ref q32 := (congrFun eg87 30).trans ((va_up_ne _ _ (Nat.ne_of_beq_eq_false rfl)).trans hg85_30)
  have hg87_31 : g87 31 = .ref q34 := (congrFun eg87 31).trans ((va_up_ne _ _ (Nat.ne_of_beq_eq_false rfl)).trans hg85_31)
  have hg87_32 : g87 32 = .ref q36 := (congrFun eg87 32).trans ((va_up_ne _ _ (Nat.ne_of_beq_eq_false rfl)).trans hg85_32)
  have hg87_33 : g87 33 = .ref q38 := (congrFun eg87 33).trans ((va_up_ne _ _ (Nat.ne_of_beq_eq_false rfl)).trans hg85_33)
  have hg87_34 : g87 34 = .ref q40 := (congrFun eg87 34).trans ((va_up_ne _ _ (Nat.ne_of_beq_eq_false rfl)).trans hg85_34)
  have hg87_35 : g87 35 = .ref q42 := (congrFun eg87 35).trans ((va_up_ne _ _ (Nat.ne_of_beq_eq_false rfl)).trans hg85_35)
  have hg87_36 : g87 36 = .ref q44 := (congrFun eg87 36).trans ((va_up_ne _ _ (Nat.ne_of_beq_eq_false rfl)).trans hg85_36)
  have hg87_37 : g87 37 = .ref q46 := (congrFun eg87 37).trans ((va_up_ne _ _ (Nat.ne_of_beq_eq_false rfl)).trans hg85_37)
  have hg87_38 : g87 38 = .ref q48 := (congrFun eg87 38).trans ((va_up_ne _ _ (Nat.ne_of_beq_eq_false rfl)).trans hg85_38)
  have hg87_39 : g87 39 = .ref q50 := (congrFun eg87 39).trans ((va_up_ne _ _ (Nat.ne_of_beq_eq_false rfl)).trans hg85_39)
  have hg87_40 : g87 40 = .ref q52 := (congrFun eg87 40).trans ((va_up_ne _ _ (Nat.ne_of_beq_eq_false rfl)).trans hg85_40)
  have hg87_41 : g87 41 = .ref q54 := (congrFun eg87 41).trans ((va_up_ne _ _ (Nat.ne_of_beq_eq_false rfl)).trans hg85_41)
  have hg87_42 : g87 42 = .ref q56 := (congrFun eg87 42).trans ((va_up_ne _ _ (Nat.ne_of_beq_eq_false rfl)).trans hg85_42)
  have hg87_43 : g87 43 = .ref q58 := (congrFun eg87 43).trans ((va_up_ne _ _ (Nat.ne_of_beq_eq_false rfl)).trans hg85_43)
  have hg87_44 : g87 44 = .ref q60 := (congrFun eg87 44).trans ((va_up_ne _ _ (Nat.ne_of_beq_eq_false rfl)).trans hg85_44)
  have hg87_45 : g87 45 = .ref q62 := (congrFun eg87 45).trans ((va_up_ne _ _ (Nat.ne_of_beq_eq_false rfl)).trans hg85_45)
  have hg87_49 : g87 49 = .ref q64 := (congrFun eg87 49).trans ((va_up_ne _ _ (Nat.ne_of_beq_eq_false rfl)).trans hg85_49)
  have hg87_50 : g87 50 = .ref q66 := (congrFun eg87 50).trans ((va_up_ne _ _ (Nat.ne_of_beq_eq_false rfl)).trans hg85_50)
  have hg87_51 : g87 51 = .ref q68 := (congrFun eg87 51).trans ((va_up_ne _ _ (Nat.ne_of_beq_eq_false rfl)).trans hg85_51)
  have hg87_52 : g87 52 = .ref q70 := (congrFun eg87 52).trans ((va_up_ne _ _ (Nat.ne_of_beq_eq_false rfl)).trans hg85_52)
  have hg87_53 : g87 53 = .ref q72 := (congrFun eg87 53).trans ((va_up_ne _ _ (Nat.ne_of_beq_eq_false rfl)).trans hg85_53)
  have hg87_54 : g87 54 = .ref q74 := (congrFun eg87 54).trans ((va_up_ne _ _ (Nat.ne_of_beq_eq_false rfl)).trans hg85_54)
  have hg87_56 : g87 56 = .ref q76 := (congrFun eg87 56).trans ((va_up_ne _ _ (Nat.ne_of_beq_eq_false rfl)).trans hg85_56)
  have hg87_57 : g87 57 = .ref q78 := (congrFun eg87 57).trans ((va_up_ne _ _ (Nat.ne_of_beq_eq_false rfl)).trans hg85_57)
  have hg87_58 : g87 58 = .ref q80 := (congrFun eg87 58).trans ((va_up_ne _ _ (Nat.ne_of_beq_eq_false rfl)).trans hg85_58)
  have hg87_59 : g87 59 = .ref q82 := (congrFun eg87 59).trans ((va_up_ne _ _ (Nat.ne_of_beq_eq_false rfl)).trans hg85_59)
  have hg87_60 : g87 60 = .ref q84 := (congrFun eg87 60).trans ((va_up_ne _ _ (Nat.ne_of_beq_eq_false rfl)).trans hg85_60)
  clear hg85_0 hg85_1 hg85_8 hg85_9 hg85_16 hg85_17 hg85_19 hg85_20 hg85_21 hg85_22 hg85_23 hg85_24 hg85_25 hg85_26 hg85_46 hg85_47 hg85_48 hg85_55 hg85_74 hg85_75 hg85_86 hg85_87 hg85_88 hg85_89 hg85_95 hg85_2 hg85_3 hg85_4 hg85_5 hg85_6 hg85_7 hg85_10 hg85_11 hg85_12 hg85_13 hg85_14 hg85_15 hg85_18 hg85_27 hg85_28 hg85_29 hg85_30 hg85_31 hg85_32 hg85_33 hg85_34 hg85_35 hg85_36 hg85_37 hg85_38 hg85_39 hg85_40 hg85_41 hg85_42 hg85_43 hg85_44 hg85_45 hg85_49 hg85_50 hg85_51 hg85_52 hg85_53 hg85_54 hg85_56 hg85_57 hg85_58 hg85_59 hg85_60
  have hg87_61 : g87 61 = .ref q86 := by rw [eg87]; exact va_up_self _ _ _
  refine lv_aload_n hx hb dX13_init_375 rfl (lv_at hl 0 rfl) ?_
  refine lv_sipush (v := 200) hx hb dX13_init_376 (by decide) ?_
  refine va_newa (atype := .int) (ty := .int) (N' := 200) (a0 := (200, .inl (fun _ => (0 : Int32)))) hx hb (hts _ (vA_in _ _ (in_2 _ (List.mem_of_getElem? (i := 38) rfl)))) rfl hK hP hD hS hA (fun _ => rfl) (by decide) (by decide) (Nat.le_of_ble_eq_true rfl) (Nat.le_of_ble_eq_true rfl) (Nat.le_of_ble_eq_true rfl) dX13_init_379 (fun q88 kq88 H hK hP hD hS => ?_)
  have hK : va_K (dC, dI) vwCl [(kq1, .int), (kq13, .byte), (kq72, .boolean), (kq88, .int)] s := hK
  obtain ⟨wq88, ewq88⟩ : ∃ z : va_W, z = wq86 ++ [(q88, .inl (kq88, 200, .inl (fun _ => (0 : Int32))))] := ⟨_, rfl⟩
  replace hP : va_P (dC, dI) vwCl ((h, .inr (14, mL g87)) :: wq88) H := by rw [ewq88]; exact hP
  replace hD : va_D A ((h, .inr (14, mL g87)) :: wq88) := by rw [ewq88]; exact hD
  refine W.widen (k := 44) (n := 8848) (by omega) (by omega) ?_
  obtain rfl : kq1 = kq88 := ub_sa_int hK 0 3 rfl rfl
  have hK := hK.sub (tys' := [(kq1, .int), (kq13, .byte), (kq72, .boolean)]) [0, 1, 2] rfl
  refine va_putF (D := (dC, dI)) (ci := 14) (v := .ref q88) (ty := .array .int) (C := RX13) (T := TX13) (N := 97) hx hb hts (fun w h => vA_in _ w (in_X13 w h)) tyX13 tyX13_ok nmX13 hown hK hP hD hS 0 rfl rfl 62 (by decide) (hts _ (vA_in _ _ (in_25 _ (List.mem_of_getElem? (i := 16) rfl)))) (fun _ h9 => h9) rfl hin rfl (by decide +kernel) rfl rfl (mL_lt (Nat.le_of_ble_eq_true rfl)) dX13_init_381 (fun H locs hP hD hS => ?_)
  replace hP : va_P (dC, dI) vwCl ((h, .inr (14, (mL g87).set 62 (.ref q88))) :: wq88) H := hP
  replace hD : va_D A ((h, .inr (14, (mL g87).set 62 (.ref q88))) :: wq88) := hD
  obtain ⟨g89, eg89⟩ : ∃ z9, z9 = va_up g87 62 (.ref q88) := ⟨_, rfl⟩
  rw [mL_upd, ← eg89] at hP hD
  have hg89_0 : g89 0 = .int 0 := (congrFun eg89 0).trans ((va_up_ne _ _ (Nat.ne_of_beq_eq_false rfl)).trans hg87_0)
  have hg89_1 : g89 1 = .int 0 := (congrFun eg89 1).trans ((va_up_ne _ _ (Nat.ne_of_beq_eq_false rfl)).trans hg87_1)
  have hg89_8 : g89 8 = .int 0 := (congrFun eg89 8).trans ((va_up_ne _ _ (Nat.ne_of_beq_eq_false rfl)).trans hg87_8)
  have hg89_9 : g89 9 = .int 0 := (congrFun eg89 9).trans ((va_up_ne _ _ (Nat.ne_of_beq_eq_false rfl)).trans hg87_9)
  have hg89_16 : g89 16 = .int 0 := (congrFun eg89 16).trans ((va_up_ne _ _ (Nat.ne_of_beq_eq_false rfl)).trans hg87_16)
  have hg89_17 : g89 17 = .int 0 := (congrFun eg89 17).trans ((va_up_ne _ _ (Nat.ne_of_beq_eq_false rfl)).trans hg87_17)
  have hg89_19 : g89 19 = .int 0 := (congrFun eg89 19).trans ((va_up_ne _ _ (Nat.ne_of_beq_eq_false rfl)).trans hg87_19)
  have hg89_20 : g89 20 = .int 0 := (congrFun eg89 20).trans ((va_up_ne _ _ (Nat.ne_of_beq_eq_false rfl)).trans hg87_20)
  have hg89_21 : g89 21 = .int 0 := (congrFun eg89 21).trans ((va_up_ne _ _ (Nat.ne_of_beq_eq_false rfl)).trans hg87_21)
  have hg89_22 : g89 22 = .int 0 := (congrFun eg89 22).trans ((va_up_ne _ _ (Nat.ne_of_beq_eq_false rfl)).trans hg87_22)
  have hg89_23 : g89 23 = .int 0 := (congrFun eg89 23).trans ((va_up_ne _ _ (Nat.ne_of_beq_eq_false rfl)).trans hg87_23)
  have hg89_24 : g89 24 = .int 0 := (congrFun eg89 24).trans ((va_up_ne _ _ (Nat.ne_of_beq_eq_false rfl)).trans hg87_24)
  have hg89_25 : g89 25 = .int 0 := (congrFun eg89 25).trans ((va_up_ne _ _ (Nat.ne_of_beq_eq_false rfl)).trans hg87_25)
  have hg89_26 : g89 26 = .int 0 := (congrFun eg89 26).trans ((va_up_ne _ _ (Nat.ne_of_beq_eq_false rfl)).trans hg87_26)
  have hg89_46 : g89 46 = .int 0 := (congrFun eg89 46).trans ((va_up_ne _ _ (Nat.ne_of_beq_eq_false rfl)).trans hg87_46)
  have hg89_47 : g89 47 = .int 0 := (congrFun eg89 47).trans ((va_up_ne _ _ (Nat.ne_of_beq_eq_false rfl)).trans hg87_47)
  have hg89_48 : g89 48 = .int 0 := (congrFun eg89 48).trans ((va_up_ne _ _ (Nat.ne_of_beq_eq_false rfl)).trans hg87_48)
  have hg89_55 : g89 55 = .int 0 := (congrFun eg89 55).trans ((va_up_ne _ _ (Nat.ne_of_beq_eq_false rfl)).trans hg87_55)
  have hg89_74 : g89 74 = .int 0 := (congrFun eg89 74).trans ((va_up_ne _ _ (Nat.ne_of_beq_eq_false rfl)).trans hg87_74)
  have hg89_75 : g89 75 = .int 0 := (congrFun eg89 75).trans ((va_up_ne _ _ (Nat.ne_of_beq_eq_false rfl)).trans hg87_75)
  have hg89_86 : g89 86 = .int 0 := (congrFun eg89 86).trans ((va_up_ne _ _ (Nat.ne_of_beq_eq_false rfl)).trans hg87_86)
  have hg89_87 : g89 87 = .int 0 := (congrFun eg89 87).trans ((va_up_ne _ _ (Nat.ne_of_beq_eq_false rfl)).trans hg87_87)
  have hg89_88 : g89 88 = .int 0 := (congrFun eg89 88).trans ((va_up_ne _ _ (Nat.ne_of_beq_eq_false rfl)).trans hg87_88)
  have hg89_89 : g89 89 = .int 0 := (congrFun eg89 89).trans ((va_up_ne _ _ (Nat.ne_of_beq_eq_false rfl)).trans hg87_89)
  have hg89_95 : g89 95 = .int 0 := (congrFun eg89 95).trans ((va_up_ne _ _ (Nat.ne_of_beq_eq_false rfl)).trans hg87_95)
  have hg89_2 : g89 2 = .ref q1 := (congrFun eg89 2).trans ((va_up_ne _ _ (Nat.ne_of_beq_eq_false rfl)).trans hg87_2)
  have hg89_3 : g89 3 = .ref q3 := (congrFun eg89 3).trans ((va_up_ne _ _ (Nat.ne_of_beq_eq_false rfl)).trans hg87_3)
  have hg89_4 : g89 4 = .ref q5 := (congrFun eg89 4).trans ((va_up_ne _ _ (Nat.ne_of_beq_eq_false rfl)).trans hg87_4)
  have hg89_5 : g89 5 = .ref q7 := (congrFun eg89 5).trans ((va_up_ne _ _ (Nat.ne_of_beq_eq_false rfl)).trans hg87_5)
  have hg89_6 : g89 6 = .ref q9 := (congrFun eg89 6).trans ((va_up_ne _ _ (Nat.ne_of_beq_eq_false rfl)).trans hg87_6)
  have hg89_7 : g89 7 = .ref q11 := (congrFun eg89 7).trans ((va_up_ne _ _ (Nat.ne_of_beq_eq_false rfl)).trans hg87_7)
  have hg89_10 : g89 10 = .ref q13 := (congrFun eg89 10).trans ((va_up_ne _ _ (Nat.ne_of_beq_eq_false rfl)).trans hg87_10)
  have hg89_11 : g89 11 = .ref q15 := (congrFun eg89 11).trans ((va_up_ne _ _ (Nat.ne_of_beq_eq_false rfl)).trans hg87_11)
  have hg89_12 : g89 12 = .ref q17 := (congrFun eg89 12).trans ((va_up_ne _ _ (Nat.ne_of_beq_eq_false rfl)).trans hg87_12)
  have hg89_13 : g89 13 = .ref q19 := (congrFun eg89 13).trans ((va_up_ne _ _ (Nat.ne_of_beq_eq_false rfl)).trans hg87_13)
  have hg89_14 : g89 14 = .ref q21 := (congrFun eg89 14).trans ((va_up_ne _ _ (Nat.ne_of_beq_eq_false rfl)).trans hg87_14)
  have hg89_15 : g89 15 = .ref q23 := (congrFun eg89 15).trans ((va_up_ne _ _ (Nat.ne_of_beq_eq_false rfl)).trans hg87_15)
  have hg89_18 : g89 18 = .ref q13 := (congrFun eg89 18).trans ((va_up_ne _ _ (Nat.ne_of_beq_eq_false rfl)).trans hg87_18)
  have hg89_27 : g89 27 = .ref q26 := (congrFun eg89 27).trans ((va_up_ne _ _ (Nat.ne_of_beq_eq_false rfl)).trans hg87_27)
  have hg89_28 : g89 28 = .ref q28 := (congrFun eg89 28).trans ((va_up_ne _ _ (Nat.ne_of_beq_eq_false rfl)).trans hg87_28)
  have hg89_29 : g89 29 = .ref q30 := (congrFun eg89 29).trans ((va_up_ne _ _ (Nat.ne_of_beq_eq_false rfl)).trans hg87_29)
  have hg89_30 : g89 30 = .ref q32 := (congrFun eg89 30).trans ((va_up_ne _ _ (Nat.ne_of_beq_eq_false rfl)).trans hg87_30)
  have hg89_31 : g89 31 = .ref q34 := (congrFun eg89 31).trans ((va_up_ne _ _ (Nat.ne_of_beq_eq_false rfl)).trans hg87_31)
  have hg89_32 : g89 32 = .ref q36 := (congrFun eg89 32).trans ((va_up_ne _ _ (Nat.ne_of_beq_eq_false rfl)).trans hg87_32)
  have hg89_33 : g89 33 = .ref q38 := (congrFun eg89 33).trans ((va_up_ne _ _ (Nat.ne_of_beq_eq_false rfl)).trans hg87_33)
  have hg89_34 : g89 34 = .ref q40 := (congrFun eg89 34).trans ((va_up_ne _ _ (Nat.ne_of_beq_eq_false rfl)).trans hg87_34)
  have hg89_35 : g89 35 = .ref q42 := (congrFun eg89 35).trans ((va_up_ne _ _ (Nat.ne_of_beq_eq_false rfl)).trans hg87_35)
  have hg89_36 : g89 36 = .ref q44 := (congrFun eg89 36).trans ((va_up_ne _ _ (Nat.ne_of_beq_eq_false rfl)).trans hg87_36)
  have hg89_37 : g89 37 = .ref q46 := (congrFun eg89 37).trans ((va_up_ne _ _ (Nat.ne_of_beq_eq_false rfl)).trans hg87_37)
  have hg89_38 : g89 38 = .ref q48 := (congrFun eg89 38).trans ((va_up_ne _ _ (Nat.ne_of_beq_eq_false rfl)).trans hg87_38)
  have hg89_39 : g89 39 = .ref q50 := (congrFun eg89 39).trans ((va_up_ne _ _ (Nat.ne_of_beq_eq_false rfl)).trans hg87_39)
  have hg89_40 : g89 40 = .ref q52 := (congrFun eg89 40).trans ((va_up_ne _ _ (Nat.ne_of_beq_eq_false rfl)).trans hg87_40)
  have hg89_41 : g89 41 = .ref q54 := (congrFun eg89 41).trans ((va_up_ne _ _ (Nat.ne_of_beq_eq_false rfl)).trans hg87_41)
  have hg89_42 : g89 42 = .ref q56 := (congrFun eg89 42).trans ((va_up_ne _ _ (Nat.ne_of_beq_eq_false rfl)).trans hg87_42)
  have hg89_43 : g89 43 = .ref q58 := (congrFun eg89 43).trans ((va_up_ne _ _ (Nat.ne_of_beq_eq_false rfl)).trans hg87_43)
  have hg89_44 : g89 44 = .ref q60 := (congrFun eg89 44).trans ((va_up_ne _ _ (Nat.ne_of_beq_eq_false rfl)).trans hg87_44)
  have hg89_45 : g89 45 = .ref q62 := (congrFun eg89 45).trans ((va_up_ne _ _ (Nat.ne_of_beq_eq_false rfl)).trans hg87_45)
  have hg89_49 : g89 49 = .ref q64 := (congrFun eg89 49).trans ((va_up_ne _ _ (Nat.ne_of_beq_eq_false rfl)).trans hg87_49)
  have hg89_50 : g89 50 = .ref q66 := (congrFun eg89 50).trans ((va_up_ne _ _ (Nat.ne_of_beq_eq_false rfl)).trans hg87_50)
  have hg89_51 : g89 51 = .ref q68 := (congrFun eg89 51).trans ((va_up_ne _ _ (Nat.ne_of_beq_eq_false rfl)).trans hg87_51)
  have hg89_52 : g89 52 = .ref q70 := (congrFun eg89 52).trans ((va_up_ne _ _ (Nat.ne_of_beq_eq_false rfl)).trans hg87_52)
  have hg89_53 : g89 53 = .ref q72 := (congrFun eg89 53).trans ((va_up_ne _ _ (Nat.ne_of_beq_eq_false rfl)).trans hg87_53)
  have hg89_54 : g89 54 = .ref q74 := (congrFun eg89 54).trans ((va_up_ne _ _ (Nat.ne_of_beq_eq_false rfl)).trans hg87_54)
  have hg89_56 : g89 56 = .ref q76 := (congrFun eg89 56).trans ((va_up_ne _ _ (Nat.ne_of_beq_eq_false rfl)).trans hg87_56)
  have hg89_57 : g89 57 = .ref q78 := (congrFun eg89 57).trans ((va_up_ne _ _ (Nat.ne_of_beq_eq_false rfl)).trans hg87_57)
  have hg89_58 : g89 58 = .ref q80 := (congrFun eg89 58).trans ((va_up_ne _ _ (Nat.ne_of_beq_eq_false rfl)).trans hg87_58)
  have hg89_59 : g89 59 = .ref q82 := (congrFun eg89 59).trans ((va_up_ne _ _ (Nat.ne_of_beq_eq_false rfl)).trans hg87_59)
  have hg89_60 : g89 60 = .ref q84 := (congrFun eg89 60).trans ((va_up_ne _ _ (Nat.ne_of_beq_eq_false rfl)).trans hg87_60)
  have hg89_61 : g89 61 = .ref q86 := (congrFun eg89 61).trans ((va_up_ne _ _ (Nat.ne_of_beq_eq_false rfl)).trans hg87_61)
  clear hg87_0 hg87_1 hg87_8 hg87_9 hg87_16 hg87_17 hg87_19 hg87_20 hg87_21 hg87_22 hg87_23 hg87_24 hg87_25 hg87_26 hg87_46 hg87_47 hg87_48 hg87_55 hg87_74 hg87_75 hg87_86 hg87_87 hg87_88 hg87_89 hg87_95 hg87_2 hg87_3 hg87_4 hg87_5 hg87_6 hg87_7 hg87_10 hg87_11 hg87_12 hg87_13 hg87_14 hg87_15 hg87_18 hg87_27 hg87_28 hg87_29 hg87_30 hg87_31 hg87_32 hg87_33 hg87_34 hg87_35 hg87_36 hg87_37 hg87_38 hg87_39 hg87_40 hg87_41 hg87_42 hg87_43 hg87_44 hg87_45 hg87_49 hg87_50 hg87_51 hg87_52 hg87_53 hg87_54 hg87_56 hg87_57 hg87_58 hg87_59 hg87_60 hg87_61
  have hg89_62 : g89 62 = .ref q88 := by rw [eg89]; exact va_up_self _ _ _
  refine lv_aload_n hx hb dX13_init_384 rfl (lv_at hl 0 rfl) ?_
  refine lv_sipush (v := 200) hx hb dX13_init_385 (by decide) ?_
  refine va_newa (atype := .int) (ty := .int) (N' := 200) (a0 := (200, .inl (fun _ => (0 : Int32)))) hx hb (hts _ (vA_in _ _ (in_2 _ (List.mem_of_getElem? (i := 38) rfl)))) rfl hK hP hD hS hA (fun _ => rfl) (by decide) (by decide) (Nat.le_of_ble_eq_true rfl) (Nat.le_of_ble_eq_true rfl) (Nat.le_of_ble_eq_true rfl) dX13_init_388 (fun q90 kq90 H hK hP hD hS => ?_)
  have hK : va_K (dC, dI) vwCl [(kq1, .int), (kq13, .byte), (kq72, .boolean), (kq90, .int)] s := hK
  obtain ⟨wq90, ewq90⟩ : ∃ z : va_W, z = wq88 ++ [(q90, .inl (kq90, 200, .inl (fun _ => (0 : Int32))))] := ⟨_, rfl⟩
  replace hP : va_P (dC, dI) vwCl ((h, .inr (14, mL g89)) :: wq90) H := by rw [ewq90]; exact hP
  replace hD : va_D A ((h, .inr (14, mL g89)) :: wq90) := by rw [ewq90]; exact hD
  refine W.widen (k := 45) (n := 9048) (by omega) (by omega) ?_
  obtain rfl : kq1 = kq90 := ub_sa_int hK 0 3 rfl rfl
  have hK := hK.sub (tys' := [(kq1, .int), (kq13, .byte), (kq72, .boolean)]) [0, 1, 2] rfl
  refine va_putF (D := (dC, dI)) (ci := 14) (v := .ref q90) (ty := .array .int) (C := RX13) (T := TX13) (N := 97) hx hb hts (fun w h => vA_in _ w (in_X13 w h)) tyX13 tyX13_ok nmX13 hown hK hP hD hS 0 rfl rfl 63 (by decide) (hts _ (vA_in _ _ (in_25 _ (List.mem_of_getElem? (i := 14) rfl)))) (fun _ h9 => h9) rfl hin rfl (by decide +kernel) rfl rfl (mL_lt (Nat.le_of_ble_eq_true rfl)) dX13_init_390 (fun H locs hP hD hS => ?_)
  replace hP : va_P (dC, dI) vwCl ((h, .inr (14, (mL g89).set 63 (.ref q90))) :: wq90) H := hP
  replace hD : va_D A ((h, .inr (14, (mL g89).set 63 (.ref q90))) :: wq90) := hD
  obtain ⟨g91, eg91⟩ : ∃ z9, z9 = va_up g89 63 (.ref q90) := ⟨_, rfl⟩
  rw [mL_upd, ← eg91] at hP hD
  have hg91_0 : g91 0 = .int 0 := (congrFun eg91 0).trans ((va_up_ne _ _ (Nat.ne_of_beq_eq_false rfl)).trans hg89_0)
  have hg91_1 : g91 1 = .int 0 := (congrFun eg91 1).trans ((va_up_ne _ _ (Nat.ne_of_beq_eq_false rfl)).trans hg89_1)
  have hg91_8 : g91 8 = .int 0 := (congrFun eg91 8).trans ((va_up_ne _ _ (Nat.ne_of_beq_eq_false rfl)).trans hg89_8)
  have hg91_9 : g91 9 = .int 0 := (congrFun eg91 9).trans ((va_up_ne _ _ (Nat.ne_of_beq_eq_false rfl)).trans hg89_9)
  have hg91_16 : g91 16 = .int 0 := (congrFun eg91 16).trans ((va_up_ne _ _ (Nat.ne_of_beq_eq_false rfl)).trans hg89_16)
  have hg91_17 : g91 17 = .int 0 := (congrFun eg91 17).trans ((va_up_ne _ _ (Nat.ne_of_beq_eq_false rfl)).trans hg89_17)
  have hg91_19 : g91 19 = .int 0 := (congrFun eg91 19).trans ((va_up_ne _ _ (Nat.ne_of_beq_eq_false rfl)).trans hg89_19)
  have hg91_20 : g91 20 = .int 0 := (congrFun eg91 20).trans ((va_up_ne _ _ (Nat.ne_of_beq_eq_false rfl)).trans hg89_20)
  have hg91_21 : g91 21 = .int 0 := (congrFun eg91 21).trans ((va_up_ne _ _ (Nat.ne_of_beq_eq_false rfl)).trans hg89_21)
  have hg91_22 : g91 22 = .int 0 := (congrFun eg91 22).trans ((va_up_ne _ _ (Nat.ne_of_beq_eq_false rfl)).trans hg89_22)
  have hg91_23 : g91 23 = .int 0 := (congrFun eg91 23).trans ((va_up_ne _ _ (Nat.ne_of_beq_eq_false rfl)).trans hg89_23)
  have hg91_24 : g91 24 = .int 0 := (congrFun eg91 24).trans ((va_up_ne _ _ (Nat.ne_of_beq_eq_false rfl)).trans hg89_24)
  have hg91_25 : g91 25 = .int 0 := (congrFun eg91 25).trans ((va_up_ne _ _ (Nat.ne_of_beq_eq_false rfl)).trans hg89_25)
  have hg91_26 : g91 26 = .int 0 := (congrFun eg91 26).trans ((va_up_ne _ _ (Nat.ne_of_beq_eq_false rfl)).trans hg89_26)
  have hg91_46 : g91 46 = .int 0 := (congrFun eg91 46).trans ((va_up_ne _ _ (Nat.ne_of_beq_eq_false rfl)).trans hg89_46)
  have hg91_47 : g91 47 = .int 0 := (congrFun eg91 47).trans ((va_up_ne _ _ (Nat.ne_of_beq_eq_false rfl)).trans hg89_47)
  have hg91_48 : g91 48 = .int 0 := (congrFun eg91 48).trans ((va_up_ne _ _ (Nat.ne_of_beq_eq_false rfl)).trans hg89_48)
  have hg91_55 : g91 55 = .int 0 := (congrFun eg91 55).trans ((va_up_ne _ _ (Nat.ne_of_beq_eq_false rfl)).trans hg89_55)
  have hg91_74 : g91 74 = .int 0 := (congrFun eg91 74).trans ((va_up_ne _ _ (Nat.ne_of_beq_eq_false rfl)).trans hg89_74)
  have hg91_75 : g91 75 = .int 0 := (congrFun eg91 75).trans ((va_up_ne _ _ (Nat.ne_of_beq_eq_false rfl)).trans hg89_75)
  have hg91_86 : g91 86 = .int 0 := (congrFun eg91 86).trans ((va_up_ne _ _ (Nat.ne_of_beq_eq_false rfl)).trans hg89_86)
  have hg91_87 : g91 87 = .int 0 := (congrFun eg91 87).trans ((va_up_ne _ _ (Nat.ne_of_beq_eq_false rfl)).trans hg89_87)
  have hg91_88 : g91 88 = .int 0 := (congrFun eg91 88).trans ((va_up_ne _ _ (Nat.ne_of_beq_eq_false rfl)).trans hg89_88)
  have hg91_89 : g91 89 = .int 0 := (congrFun eg91 89).trans ((va_up_ne _ _ (Nat.ne_of_beq_eq_false rfl)).trans hg89_89)
  have hg91_95 : g91 95 = .int 0 := (congrFun eg91 95).trans ((va_up_ne _ _ (Nat.ne_of_beq_eq_false rfl)).trans hg89_95)
  have hg91_2 : g91 2 = .ref q1 := (congrFun eg91 2).trans ((va_up_ne _ _ (Nat.ne_of_beq_eq_false rfl)).trans hg89_2)
  have hg91_3 : g91 3 = .ref q3 := (congrFun eg91 3).trans ((va_up_ne _ _ (Nat.ne_of_beq_eq_false rfl)).trans hg89_3)
  have hg91_4 : g91 4 = .ref q5 := (congrFun eg91 4).trans ((va_up_ne _ _ (Nat.ne_of_beq_eq_false rfl)).trans hg89_4)
  have hg91_5 : g91 5 = .ref q7 := (congrFun eg91 5).trans ((va_up_ne _ _ (Nat.ne_of_beq_eq_false rfl)).trans hg89_5)
  have hg91_6 : g91 6 = .ref q9 := (congrFun eg91 6).trans ((va_up_ne _ _ (Nat.ne_of_beq_eq_false rfl)).trans hg89_6)
  have hg91_7 : g91 7 = .ref q11 := (congrFun eg91 7).trans ((va_up_ne _ _ (Nat.ne_of_beq_eq_false rfl)).trans hg89_7)
  have hg91_10 : g91 10 = .ref q13 := (congrFun eg91 10).trans ((va_up_ne _ _ (Nat.ne_of_beq_eq_false rfl)).trans hg89_10)
  have hg91_11 : g91 11 = .ref q15 := (congrFun eg91 11).trans ((va_up_ne _ _ (Nat.ne_of_beq_eq_false rfl)).trans hg89_11)
  have hg91_12 : g91 12 = .ref q17 := (congrFun eg91 12).trans ((va_up_ne _ _ (Nat.ne_of_beq_eq_false rfl)).trans hg89_12)
  have hg91_13 : g91 13 = .ref q19 := (congrFun eg91 13).trans ((va_up_ne _ _ (Nat.ne_of_beq_eq_false rfl)).trans hg89_13)
  have hg91_14 : g91 14 = .ref q21 := (congrFun eg91 14).trans ((va_up_ne _ _ (Nat.ne_of_beq_eq_false rfl)).trans hg89_14)
  have hg91_15 : g91 15 = .ref q23 := (congrFun eg91 15).trans ((va_up_ne _ _ (Nat.ne_of_beq_eq_false rfl)).trans hg89_15)
  have hg91_18 : g91 18 = .ref q13 := (congrFun eg91 18).trans ((va_up_ne _ _ (Nat.ne_of_beq_eq_false rfl)).trans hg89_18)
  have hg91_27 : g91 27 = .ref q26 := (congrFun eg91 27).trans ((va_up_ne _ _ (Nat.ne_of_beq_eq_false rfl)).trans hg89_27)
  have hg91_28 : g91 28 = .ref q28 := (congrFun eg91 28).trans ((va_up_ne _ _ (Nat.ne_of_beq_eq_false rfl)).trans hg89_28)
  have hg91_29 : g91 29 = .ref q30 := (congrFun eg91 29).trans ((va_up_ne _ _ (Nat.ne_of_beq_eq_false rfl)).trans hg89_29)
  have hg91_30 : g91 30 = .ref q32 := (congrFun eg91 30).trans ((va_up_ne _ _ (Nat.ne_of_beq_eq_false rfl)).trans hg89_30)
  have hg91_31 : g91 31 = .ref q34 := (congrFun eg91 31).trans ((va_up_ne _ _ (Nat.ne_of_beq_eq_false rfl)).trans hg89_31)
  have hg91_32 : g91 32 = .ref q36 := (congrFun eg91 32).trans ((va_up_ne _ _ (Nat.ne_of_beq_eq_false rfl)).trans hg89_32)
  have hg91_33 : g91 33 = .ref q38 := (congrFun eg91 33).trans ((va_up_ne _ _ (Nat.ne_of_beq_eq_false rfl)).trans hg89_33)
  have hg91_34 : g91 34 = .ref q40 := (congrFun eg91 34).trans ((va_up_ne _ _ (Nat.ne_of_beq_eq_false rfl)).trans hg89_34)
  have hg91_35 : g91 35 = .ref q42 := (congrFun eg91 35).trans ((va_up_ne _ _ (Nat.ne_of_beq_eq_false rfl)).trans hg89_35)
  have hg91_36 : g91 36 = .ref q44 := (congrFun eg91 36).trans ((va_up_ne _ _ (Nat.ne_of_beq_eq_false rfl)).trans hg89_36)
  have hg91_37 : g91 37 = .ref q46 := (congrFun eg91 37).trans ((va_up_ne _ _ (Nat.ne_of_beq_eq_false rfl)).trans hg89_37)
  have hg91_38 : g91 38 = .ref q48 := (congrFun eg91 38).trans ((va_up_ne _ _ (Nat.ne_of_beq_eq_false rfl)).trans hg89_38)
  have hg91_39 : g91 39 = .ref q50 := (congrFun eg91 39).trans ((va_up_ne _ _ (Nat.ne_of_beq_eq_false rfl)).trans hg89_39)
  have hg91_40 : g91 40 = .ref q52 := (congrFun eg91 40).trans ((va_up_ne _ _ (Nat.ne_of_beq_eq_false rfl)).trans hg89_40)
  have hg91_41 : g91 41 = .ref q54 := (congrFun eg91 41).trans ((va_up_ne _ _ (Nat.ne_of_beq_eq_false rfl)).trans hg89_41)
  have hg91_42 : g91 42 = .ref q56 := (congrFun eg91 42).trans ((va_up_ne _ _ (Nat.ne_of_beq_eq_false rfl)).trans hg89_42)
  have hg91_43 : g91 43 = .ref q58 := (congrFun eg91 43).trans ((va_up_ne _ _ (Nat.ne_of_beq_eq_false rfl)).trans hg89_43)
  have hg91_44 : g91 44 = .ref q60 := (congrFun eg91 44).trans ((va_up_ne _ _ (Nat.ne_of_beq_eq_false rfl)).trans hg89_44)
  have hg91_45 : g91 45 = .ref q62 := (congrFun eg91 45).trans ((va_up_ne _ _ (Nat.ne_of_beq_eq_false rfl)).trans hg89_45)
  have hg91_49 : g91 49 = .ref q64 := (congrFun eg91 49).trans ((va_up_ne _ _ (Nat.ne_of_beq_eq_false rfl)).trans hg89_49)
  have hg91_50 : g91 50 = .ref q66 := (congrFun eg91 50).trans ((va_up_ne _ _ (Nat.ne_of_beq_eq_false rfl)).trans hg89_50)
  have hg91_51 : g91 51 = .ref q68 := (congrFun eg91 51).trans ((va_up_ne _ _ (Nat.ne_of_beq_eq_false rfl)).trans hg89_51)
  have hg91_52 : g91 52 = .ref q70 := (congrFun eg91 52).trans ((va_up_ne _ _ (Nat.ne_of_beq_eq_false rfl)).trans hg89_52)
  have hg91_53 : g91 53 = .ref q72 := (congrFun eg91 53).trans ((va_up_ne _ _ (Nat.ne_of_beq_eq_false rfl)).trans hg89_53)
  have hg91_54 : g91 54 = .ref q74 := (congrFun eg91 54).trans ((va_up_ne _ _ (Nat.ne_of_beq_eq_false rfl)).trans hg89_54)
  have hg91_56 : g91 56 = .ref q76 := (congrFun eg91 56).trans ((va_up_ne _ _ (Nat.ne_of_beq_eq_false rfl)).trans hg89_56)
  have hg91_57 : g91 57 = .ref q78 := (congrFun eg91 57).trans ((va_up_ne _ _ (Nat.ne_of_beq_eq_false rfl)).trans hg89_57)
  have hg91_58 : g91 58 = .ref q80 := (congrFun eg91 58).trans ((va_up_ne _ _ (Nat.ne_of_beq_eq_false rfl)).trans hg89_58)
  have hg91_59 : g91 59 = .ref q82 := (congrFun eg91 59).trans ((va_up_ne _ _ (Nat.ne_of_beq_eq_false rfl)).trans hg89_59)
  have hg91_60 : g91 60 = .ref q84 := (congrFun eg91 60).trans ((va_up_ne _ _ (Nat.ne_of_beq_eq_false rfl)).trans hg89_60)
  have hg91_61 : g91 61 = .ref q86 := (congrFun eg91 61).trans ((va_up_ne _ _ (Nat.ne_of_beq_eq_false rfl)).trans hg89_61)
  have hg91_62 : g91 62 = .ref q88 := (congrFun eg91 62).trans ((va_up_ne _ _ (Nat.ne_of_beq_eq_false rfl)).trans hg89_62)
  clear hg89_0 hg89_1 hg89_8 hg89_9 hg89_16 hg89_17 hg89_19 hg89_20 hg89_21 hg89_22 hg89_23 hg89_24 hg89_25 hg89_26 hg89_46 hg89_47 hg89_48 hg89_55 hg89_74 hg89_75 hg89_86 hg89_87 hg89_88 hg89_89 hg89_95 hg89_2 hg89_3 hg89_4 hg89_5 hg89_6 hg89_7 hg89_10 hg89_11 hg89_12 hg89_13 hg89_14 hg89_15 hg89_18 hg89_27 hg89_28 hg89_29 hg89_30 hg89_31 hg89_32 hg89_33 hg89_34 hg89_35 hg89_36 hg89_37 hg89_38 hg89_39 hg89_40 hg89_41 hg89_42 hg89_43 hg89_44 hg89_45 hg89_49 hg89_50 hg89_51 hg89_52 hg89_53 hg89_54 hg89_56 hg89_57 hg89_58 hg89_59 hg89_60 hg89_61 hg89_62
  have hg91_63 : g91 63 = .ref q90 := by rw [eg91]; exact va_up_self _ _ _
  refine lv_aload_n hx hb dX13_init_393 rfl (lv_at hl 0 rfl) ?_
  refine lv_bipush (v := 30) hx hb dX13_init_394 (by decide) ?_
  refine va_newa (atype := .int) (ty := .int) (N' := 30) (a0 := (30, .inl (fun _ => (0 : Int32)))) hx hb (hts _ (vA_in _ _ (in_2 _ (List.mem_of_getElem? (i := 38) rfl)))) rfl hK hP hD hS hA (fun _ => rfl) (by decide) (by decide) (Nat.le_of_ble_eq_true rfl) (Nat.le_of_ble_eq_true rfl) (Nat.le_of_ble_eq_true rfl) dX13_init_396 (fun q92 kq92 H hK hP hD hS => ?_)
  have hK : va_K (dC, dI) vwCl [(kq1, .int), (kq13, .byte), (kq72, .boolean), (kq92, .int)] s := hK
  obtain ⟨wq92, ewq92⟩ : ∃ z : va_W, z = wq90 ++ [(q92, .inl (kq92, 30, .inl (fun _ => (0 : Int32))))] := ⟨_, rfl⟩
  replace hP : va_P (dC, dI) vwCl ((h, .inr (14, mL g91)) :: wq92) H := by rw [ewq92]; exact hP
  replace hD : va_D A ((h, .inr (14, mL g91)) :: wq92) := by rw [ewq92]; exact hD
  refine W.widen (k := 46) (n := 9078) (by omega) (by omega) ?_
  obtain rfl : kq1 = kq92 := ub_sa_int hK 0 3 rfl rfl
  have hK := hK.sub (tys' := [(kq1, .int), (kq13, .byte), (kq72, .boolean)]) [0, 1, 2] rfl
  refine va_putF (D := (dC, dI)) (ci := 14) (v := .ref q92) (ty := .array .int) (C := RX13) (T := TX13) (N := 97) hx hb hts (fun w h => vA_in _ w (in_X13 w h)) tyX13 tyX13_ok nmX13 hown hK hP hD hS 0 rfl rfl 64 (by decide) (hts _ (vA_in _ _ (in_25 _ (List.mem_of_getElem? (i := 3) rfl)))) (fun _ h9 => h9) rfl hin rfl (by decide +kernel) rfl rfl (mL_lt (Nat.le_of_ble_eq_true rfl)) dX13_init_398 (fun H locs hP hD hS => ?_)
  replace hP : va_P (dC, dI) vwCl ((h, .inr (14, (mL g91).set 64 (.ref q92))) :: wq92) H := hP
  replace hD : va_D A ((h, .inr (14, (mL g91).set 64 (.ref q92))) :: wq92) := hD
  obtain ⟨g93, eg93⟩ : ∃ z9, z9 = va_up g91 64 (.ref q92) := ⟨_, rfl⟩
  rw [mL_upd, ← eg93] at hP hD
  have hg93_0 : g93 0 = .int 0 := (congrFun eg93 0).trans ((va_up_ne _ _ (Nat.ne_of_beq_eq_false rfl)).trans hg91_0)
  have hg93_1 : g93 1 = .int 0 := (congrFun eg93 1).trans ((va_up_ne _ _ (Nat.ne_of_beq_eq_false rfl)).trans hg91_1)
  have hg93_8 : g93 8 = .int 0 := (congrFun eg93 8).trans ((va_up_ne _ _ (Nat.ne_of_beq_eq_false rfl)).trans hg91_8)
  have hg93_9 : g93 9 = .int 0 := (congrFun eg93 9).trans ((va_up_ne _ _ (Nat.ne_of_beq_eq_false rfl)).trans hg91_9)
  have hg93_16 : g93 16 = .int 0 := (congrFun eg93 16).trans ((va_up_ne _ _ (Nat.ne_of_beq_eq_false rfl)).trans hg91_16)
  have hg93_17 : g93 17 = .int 0 := (congrFun eg93 17).trans ((va_up_ne _ _ (Nat.ne_of_beq_eq_false rfl)).trans hg91_17)
  have hg93_19 : g93 19 = .int 0 := (congrFun eg93 19).trans ((va_up_ne _ _ (Nat.ne_of_beq_eq_false rfl)).trans hg91_19)
  have hg93_20 : g93 20 = .int 0 := (congrFun eg93 20).trans ((va_up_ne _ _ (Nat.ne_of_beq_eq_false rfl)).trans hg91_20)
  have hg93_21 : g93 21 = .int 0 := (congrFun eg93 21).trans ((va_up_ne _ _ (Nat.ne_of_beq_eq_false rfl)).trans hg91_21)
  have hg93_22 : g93 22 = .int 0 := (congrFun eg93 22).trans ((va_up_ne _ _ (Nat.ne_of_beq_eq_false rfl)).trans hg91_22)
  have hg93_23 : g93 23 = .int 0 := (congrFun eg93 23).trans ((va_up_ne _ _ (Nat.ne_of_beq_eq_false rfl)).trans hg91_23)
  have hg93_24 : g93 24 = .int 0 := (congrFun eg93 24).trans ((va_up_ne _ _ (Nat.ne_of_beq_eq_false rfl)).trans hg91_24)
  have hg93_25 : g93 25 = .int 0 := (congrFun eg93 25).trans ((va_up_ne _ _ (Nat.ne_of_beq_eq_false rfl)).trans hg91_25)
  have hg93_26 : g93 26 = .int 0 := (congrFun eg93 26).trans ((va_up_ne _ _ (Nat.ne_of_beq_eq_false rfl)).trans hg91_26)
  have hg93_46 : g93 46 = .int 0 := (congrFun eg93 46).trans ((va_up_ne _ _ (Nat.ne_of_beq_eq_false rfl)).trans hg91_46)
  have hg93_47 : g93 47 = .int 0 := (congrFun eg93 47).trans ((va_up_ne _ _ (Nat.ne_of_beq_eq_false rfl)).trans hg91_47)
  have hg93_48 : g93 48 = .int 0 := (congrFun eg93 48).trans ((va_up_ne _ _ (Nat.ne_of_beq_eq_false rfl)).trans hg91_48)
  have hg93_55 : g93 55 = .int 0 := (congrFun eg93 55).trans ((va_up_ne _ _ (Nat.ne_of_beq_eq_false rfl)).trans hg91_55)
  have hg93_74 : g93 74 = .int 0 := (congrFun eg93 74).trans ((va_up_ne _ _ (Nat.ne_of_beq_eq_false rfl)).trans hg91_74)
  have hg93_75 : g93 75 = .int 0 := (congrFun eg93 75).trans ((va_up_ne _ _ (Nat.ne_of_beq_eq_false rfl)).trans hg91_75)
  have hg93_86 : g93 86 = .int 0 := (congrFun eg93 86).trans ((va_up_ne _ _ (Nat.ne_of_beq_eq_false rfl)).trans hg91_86)
  have hg93_87 : g93 87 = .int 0 := (congrFun eg93 87).trans ((va_up_ne _ _ (Nat.ne_of_beq_eq_false rfl)).trans hg91_87)
  have hg93_88 : g93 88 = .int 0 := (congrFun eg93 88).trans ((va_up_ne _ _ (Nat.ne_of_beq_eq_false rfl)).trans hg91_88)
  have hg93_89 : g93 89 = .int 0 := (congrFun eg93 89).trans ((va_up_ne _ _ (Nat.ne_of_beq_eq_false rfl)).trans hg91_89)
  have hg93_95 : g93 95 = .int 0 := (congrFun eg93 95).trans ((va_up_ne _ _ (Nat.ne_of_beq_eq_false rfl)).trans hg91_95)
  have hg93_2 : g93 2 = .ref q1 := (congrFun eg93 2).trans ((va_up_ne _ _ (Nat.ne_of_beq_eq_false rfl)).trans hg91_2)
  have hg93_3 : g93 3 = .ref q3 := (congrFun eg93 3).trans ((va_up_ne _ _ (Nat.ne_of_beq_eq_false rfl)).trans hg91_3)
  have hg93_4 : g93 4 = .ref q5 := (congrFun eg93 4).trans ((va_up_ne _ _ (Nat.ne_of_beq_eq_false rfl)).trans hg91_4)
  have hg93_5 : g93 5 = .ref q7 := (congrFun eg93 5).trans ((va_up_ne _ _ (Nat.ne_of_beq_eq_false rfl)).trans hg91_5)
  have hg93_6 : g93 6 = .ref q9 := (congrFun eg93 6).trans ((va_up_ne _ _ (Nat.ne_of_beq_eq_false rfl)).trans hg91_6)
  have hg93_7 : g93 7 = .ref q11 := (congrFun eg93 7).trans ((va_up_ne _ _ (Nat.ne_of_beq_eq_false rfl)).trans hg91_7)
  have hg93_10 : g93 10 = .ref q13 := (congrFun eg93 10).trans ((va_up_ne _ _ (Nat.ne_of_beq_eq_false rfl)).trans hg91_10)
  have hg93_11 : g93 11 = .ref q15 := (congrFun eg93 11).trans ((va_up_ne _ _ (Nat.ne_of_beq_eq_false rfl)).trans hg91_11)
  have hg93_12 : g93 12 = .ref q17 := (congrFun eg93 12).trans ((va_up_ne _ _ (Nat.ne_of_beq_eq_false rfl)).trans hg91_12)
  have hg93_13 : g93 13 = .ref q19 := (congrFun eg93 13).trans ((va_up_ne _ _ (Nat.ne_of_beq_eq_false rfl)).trans hg91_13)
  have hg93_14 : g93 14 = .ref q21 := (congrFun eg93 14).trans ((va_up_ne _ _ (Nat.ne_of_beq_eq_false rfl)).trans hg91_14)
  have hg93_15 : g93 15 = .ref q23 := (congrFun eg93 15).trans ((va_up_ne _ _ (Nat.ne_of_beq_eq_false rfl)).trans hg91_15)
  have hg93_18 : g93 18 = .ref q13 := (congrFun eg93 18).trans ((va_up_ne _ _ (Nat.ne_of_beq_eq_false rfl)).trans hg91_18)
  have hg93_27 : g93 27 = .ref q26 := (congrFun eg93 27).trans ((va_up_ne _ _ (Nat.ne_of_beq_eq_false rfl)).trans hg91_27)
  have hg93_28 : g93 28 = .ref q28 := (congrFun eg93 28).trans ((va_up_ne _ _ (Nat.ne_of_beq_eq_false rfl)).trans hg91_28)
  have hg93_29 : g93 29 = .ref q30 := (congrFun eg93 29).trans ((va_up_ne _ _ (Nat.ne_of_beq_eq_false rfl)).trans hg91_29)
  have hg93_30 : g93 30 = .ref q32 := (congrFun eg93 30).trans ((va_up_ne _ _ (Nat.ne_of_beq_eq_false rfl)).trans hg91_30)
  have hg93_31 : g93 31 = .ref q34 := (congrFun eg93 31).trans ((va_up_ne _ _ (Nat.ne_of_beq_eq_false rfl)).trans hg91_31)
  have hg93_32 : g93 32 = .ref q36 := (congrFun eg93 32).trans ((va_up_ne _ _ (Nat.ne_of_beq_eq_false rfl)).trans hg91_32)
  have hg93_33 : g93 33 = .ref q38 := (congrFun eg93 33).trans ((va_up_ne _ _ (Nat.ne_of_beq_eq_false rfl)).trans hg91_33)
  have hg93_34 : g93 34 = .ref q40 := (congrFun eg93 34).trans ((va_up_ne _ _ (Nat.ne_of_beq_eq_false rfl)).trans hg91_34)
  have hg93_35 : g93 35 = .ref q42 := (congrFun eg93 35).trans ((va_up_ne _ _ (Nat.ne_of_beq_eq_false rfl)).trans hg91_35)
  have hg93_36 : g93 36 = .ref q44 := (congrFun eg93 36).trans ((va_up_ne _ _ (Nat.ne_of_beq_eq_false rfl)).trans hg91_36)
  have hg93_37 : g93 37 = .ref q46 := (congrFun eg93 37).trans ((va_up_ne _ _ (Nat.ne_of_beq_eq_false rfl)).trans hg91_37)
  have hg93_38 : g93 38 = .ref q48 := (congrFun eg93 38).trans ((va_up_ne _ _ (Nat.ne_of_beq_eq_false rfl)).trans hg91_38)
  have hg93_39 : g93 39 = .ref q50 := (congrFun eg93 39).trans ((va_up_ne _ _ (Nat.ne_of_beq_eq_false rfl)).trans hg91_39)
  have hg93_40 : g93 40 = .ref q52 := (congrFun eg93 40).trans ((va_up_ne _ _ (Nat.ne_of_beq_eq_false rfl)).trans hg91_40)
  have hg93_41 : g93 41 = .ref q54 := (congrFun eg93 41).trans ((va_up_ne _ _ (Nat.ne_of_beq_eq_false rfl)).trans hg91_41)
  have hg93_42 : g93 42 = .ref q56 := (congrFun eg93 42).trans ((va_up_ne _ _ (Nat.ne_of_beq_eq_false rfl)).trans hg91_42)
  have hg93_43 : g93 43 = .ref q58 := (congrFun eg93 43).trans ((va_up_ne _ _ (Nat.ne_of_beq_eq_false rfl)).trans hg91_43)
  have hg93_44 : g93 44 = .ref q60 := (congrFun eg93 44).trans ((va_up_ne _ _ (Nat.ne_of_beq_eq_false rfl)).trans hg91_44)
  have hg93_45 : g93 45 = .ref q62 := (congrFun eg93 45).trans ((va_up_ne _ _ (Nat.ne_of_beq_eq_false rfl)).trans hg91_45)
  have hg93_49 : g93 49 = .ref q64 := (congrFun eg93 49).trans ((va_up_ne _ _ (Nat.ne_of_beq_eq_false rfl)).trans hg91_49)
  have hg93_50 : g93 50 = .ref q66 := (congrFun eg93 50).trans ((va_up_ne _ _ (Nat.ne_of_beq_eq_false rfl)).trans hg91_50)
  have hg93_51 : g93 51 = .ref q68 := (congrFun eg93 51).trans ((va_up_ne _ _ (Nat.ne_of_beq_eq_false rfl)).trans hg91_51)
  have hg93_52 : g93 52 = .ref q70 := (congrFun eg93 52).trans ((va_up_ne _ _ (Nat.ne_of_beq_eq_false rfl)).trans hg91_52)
  have hg93_53 : g93 53 = .ref q72 := (congrFun eg93 53).trans ((va_up_ne _ _ (Nat.ne_of_beq_eq_false rfl)).trans hg91_53)
  have hg93_54 : g93 54 = .ref q74 := (congrFun eg93 54).trans ((va_up_ne _ _ (Nat.ne_of_beq_eq_false rfl)).trans hg91_54)
  have hg93_56 : g93 56 = .ref q76 := (congrFun eg93 56).trans ((va_up_ne _ _ (Nat.ne_of_beq_eq_false rfl)).trans hg91_56)
  have hg93_57 : g93 57 = .ref q78 := (congrFun eg93 57).trans ((va_up_ne _ _ (Nat.ne_of_beq_eq_false rfl)).trans hg91_57)
  have hg93_58 : g93 58 = .ref q80 := (congrFun eg93 58).trans ((va_up_ne _ _ (Nat.ne_of_beq_eq_false rfl)).trans hg91_58)
  have hg93_59 : g93 59 = .ref q82 := (congrFun eg93 59).trans ((va_up_ne _ _ (Nat.ne_of_beq_eq_false rfl)).trans hg91_59)
  have hg93_60 : g93 60 = .ref q84 := (congrFun eg93 60).trans ((va_up_ne _ _ (Nat.ne_of_beq_eq_false rfl)).trans hg91_60)
  have hg93_61 : g93 61 = .ref q86 := (congrFun eg93 61).trans ((va_up_ne _ _ (Nat.ne_of_beq_eq_false rfl)).trans hg91_61)
  have hg93_62 : g93 62 = .ref q88 := (congrFun eg93 62).trans ((va_up_ne _ _ (Nat.ne_of_beq_eq_false rfl)).trans hg91_62)
  have hg93_63 : g93 63 = .ref q90 := (congrFun eg93 63).trans ((va_up_ne _ _ (Nat.ne_of_beq_eq_false rfl)).trans hg91_63)
  clear hg91_0 hg91_1 hg91_8 hg91_9 hg91_16 hg91_17 hg91_19 hg91_20 hg91_21 hg91_22 hg91_23 hg91_24 hg91_25 hg91_26 hg91_46 hg91_47 hg91_48 hg91_55 hg91_74 hg91_75 hg91_86 hg91_87 hg91_88 hg91_89 hg91_95 hg91_2 hg91_3 hg91_4 hg91_5 hg91_6 hg91_7 hg91_10 hg91_11 hg91_12 hg91_13 hg91_14 hg91_15 hg91_18 hg91_27 hg91_28 hg91_29 hg91_30 hg91_31 hg91_32 hg91_33 hg91_34 hg91_35 hg91_36 hg91_37 hg91_38 hg91_39 hg91_40 hg91_41 hg91_42 hg91_43 hg91_44 hg91_45 hg91_49 hg91_50 hg91_51 hg91_52 hg91_53 hg91_54 hg91_56 hg91_57 hg91_58 hg91_59 hg91_60 hg91_61 hg91_62 hg91_63
  have hg93_64 : g93 64 = .ref q92 := by rw [eg93]; exact va_up_self _ _ _
  refine lv_aload_n hx hb dX13_init_401 rfl (lv_at hl 0 rfl) ?_
  refine lv_bipush (v := 30) hx hb dX13_init_402 (by decide) ?_
  refine va_newa (atype := .int) (ty := .int) (N' := 30) (a0 := (30, .inl (fun _ => (0 : Int32)))) hx hb (hts _ (vA_in _ _ (in_2 _ (List.mem_of_getElem? (i := 38) rfl)))) rfl hK hP hD hS hA (fun _ => rfl) (by decide) (by decide) (Nat.le_of_ble_eq_true rfl) (Nat.le_of_ble_eq_true rfl) (Nat.le_of_ble_eq_true rfl) dX13_init_404 (fun q94 kq94 H hK hP hD hS => ?_)
  have hK : va_K (dC, dI) vwCl [(kq1, .int), (kq13, .byte), (kq72, .boolean), (kq94, .int)] s := hK
  obtain ⟨wq94, ewq94⟩ : ∃ z : va_W, z = wq92 ++ [(q94, .inl (kq94, 30, .inl (fun _ => (0 : Int32))))] := ⟨_, rfl⟩
  replace hP : va_P (dC, dI) vwCl ((h, .inr (14, mL g93)) :: wq94) H := by rw [ewq94]; exact hP
  replace hD : va_D A ((h, .inr (14, mL g93)) :: wq94) := by rw [ewq94]; exact hD
  refine W.widen (k := 47) (n := 9108) (by omega) (by omega) ?_
  obtain rfl : kq1 = kq94 := ub_sa_int hK 0 3 rfl rfl
  have hK := hK.sub (tys' := [(kq1, .int), (kq13, .byte), (kq72, .boolean)]) [0, 1, 2] rfl
  refine va_putF (D := (dC, dI)) (ci := 14) (v := .ref q94) (ty := .array .int) (C := RX13) (T := TX13) (N := 97) hx hb hts (fun w h => vA_in _ w (in_X13 w h)) tyX13 tyX13_ok nmX13 hown hK hP hD hS 0 rfl rfl 65 (by decide) (hts _ (vA_in _ _ (in_25 _ (List.mem_of_getElem? (i := 4) rfl)))) (fun _ h9 => h9) rfl hin rfl (by decide +kernel) rfl rfl (mL_lt (Nat.le_of_ble_eq_true rfl)) dX13_init_406 (fun H locs hP hD hS => ?_)
  replace hP : va_P (dC, dI) vwCl ((h, .inr (14, (mL g93).set 65 (.ref q94))) :: wq94) H := hP
  replace hD : va_D A ((h, .inr (14, (mL g93).set 65 (.ref q94))) :: wq94) := hD
  obtain ⟨g95, eg95⟩ : ∃ z9, z9 = va_up g93 65 (.ref q94) := ⟨_, rfl⟩
  rw [mL_upd, ← eg95] at hP hD
  have hg95_0 : g95 0 = .int 0 := (congrFun eg95 0).trans ((va_up_ne _ _ (Nat.ne_of_beq_eq_false rfl)).trans hg93_0)
  have hg95_1 : g95 1 = .int 0 := (congrFun eg95 1).trans ((va_up_ne _ _ (Nat.ne_of_beq_eq_false rfl)).trans hg93_1)
  have hg95_8 : g95 8 = .int 0 := (congrFun eg95 8).trans ((va_up_ne _ _ (Nat.ne_of_beq_eq_false rfl)).trans hg93_8)
  have hg95_9 : g95 9 = .int 0 := (congrFun eg95 9).trans ((va_up_ne _ _ (Nat.ne_of_beq_eq_false rfl)).trans hg93_9)
  have hg95_16 : g95 16 = .int 0 := (congrFun eg95 16).trans ((va_up_ne _ _ (Nat.ne_of_beq_eq_false rfl)).trans hg93_16)
  have hg95_17 : g95 17 = .int 0 := (congrFun eg95 17).trans ((va_up_ne _ _ (Nat.ne_of_beq_eq_false rfl)).trans hg93_17)
  have hg95_19 : g95 19 = .int 0 := (congrFun eg95 19).trans ((va_up_ne _ _ (Nat.ne_of_beq_eq_false rfl)).trans hg93_19)
  have hg95_20 : g95 20 = .int 0 := (congrFun eg95 20).trans ((va_up_ne _ _ (Nat.ne_of_beq_eq_false rfl)).trans hg93_20)
  have hg95_21 : g95 21 = .int 0 := (congrFun eg95 21).trans ((va_up_ne _ _ (Nat.ne_of_beq_eq_false rfl)).trans hg93_21)
  have hg95_22 : g95 22 = .int 0 := (congrFun eg95 22).trans ((va_up_ne _ _ (Nat.ne_of_beq_eq_false rfl)).trans hg93_22)
  have hg95_23 : g95 23 = .int 0 := (congrFun eg95 23).trans ((va_up_ne _ _ (Nat.ne_of_beq_eq_false rfl)).trans hg93_23)
  have hg95_24 : g95 24 = .int 0 := (congrFun eg95 24).trans ((va_up_ne _ _ (Nat.ne_of_beq_eq_false rfl)).trans hg93_24)
  have hg95_25 : g95 25 = .int 0 := (congrFun eg95 25).trans ((va_up_ne _ _ (Nat.ne_of_beq_eq_false rfl)).trans hg93_25)
  have hg95_26 : g95 26 = .int 0 := (congrFun eg95 26).trans ((va_up_ne _ _ (Nat.ne_of_beq_eq_false rfl)).trans hg93_26)
  have hg95_46 : g95 46 = .int 0 := (congrFun eg95 46).trans ((va_up_ne _ _ (Nat.ne_of_beq_eq_false rfl)).trans hg93_46)
  have hg95_47 : g95 47 = .int 0 := (congrFun eg95 47).trans ((va_up_ne _ _ (Nat.ne_of_beq_eq_false rfl)).trans hg93_47)
  have hg95_48 : g95 48 = .int 0 := (congrFun eg95 48).trans ((va_up_ne _ _ (Nat.ne_of_beq_eq_false rfl)).trans hg93_48)
  have hg95_55 : g95 55 = .int 0 := (congrFun eg95 55).trans ((va_up_ne _ _ (Nat.ne_of_beq_eq_false rfl)).trans hg93_55)
  have hg95_74 : g95 74 = .int 0 := (congrFun eg95 74).trans ((va_up_ne _ _ (Nat.ne_of_beq_eq_false rfl)).trans hg93_74)
  have hg95_75 : g95 75 = .int 0 := (congrFun eg95 75).trans ((va_up_ne _ _ (Nat.ne_of_beq_eq_false rfl)).trans hg93_75)
  have hg95_86 : g95 86 = .int 0 := (congrFun eg95 86).trans ((va_up_ne _ _ (Nat.ne_of_beq_eq_false rfl)).trans hg93_86)
  have hg95_87 : g95 87 = .int 0 := (congrFun eg95 87).trans ((va_up_ne _ _ (Nat.ne_of_beq_eq_false rfl)).trans hg93_87)
  have hg95_88 : g95 88 = .int 0 := (congrFun eg95 88).trans ((va_up_ne _ _ (Nat.ne_of_beq_eq_false rfl)).trans hg93_88)
  have hg95_89 : g95 89 = .int 0 := (congrFun eg95 89).trans ((va_up_ne _ _ (Nat.ne_of_beq_eq_false rfl)).trans hg93_89)
  have hg95_95 : g95 95 = .int 0 := (congrFun eg95 95).trans ((va_up_ne _ _ (Nat.ne_of_beq_eq_false rfl)).trans hg93_95)
  have hg95_2 : g95 2 = .ref q1 := (congrFun eg95 2).trans ((va_up_ne _ _ (Nat.ne_of_beq_eq_false rfl)).trans hg93_2)
  have hg95_3 : g95 3 = .ref q3 := (congrFun eg95 3).trans ((va_up_ne _ _ (Nat.ne_of_beq_eq_false rfl)).trans hg93_3)
  have hg95_4 : g95 4 = .ref q5 := (congrFun eg95 4).trans ((va_up_ne _ _ (Nat.ne_of_beq_eq_false rfl)).trans hg93_4)
  have hg95_5 : g95 5 = .ref q7 := (congrFun eg95 5).trans ((va_up_ne _ _ (Nat.ne_of_beq_eq_false rfl)).trans hg93_5)
  have hg95_6 : g95 6 = .ref q9 := (congrFun eg95 6).trans ((va_up_ne _ _ (Nat.ne_of_beq_eq_false rfl)).trans hg93_6)
  have hg95_7 : g95 7 = .ref q11 := (congrFun eg95 7).trans ((va_up_ne _ _ (Nat.ne_of_beq_eq_false rfl)).trans hg93_7)
  have hg95_10 : g95 10 = .ref q13 := (congrFun eg95 10).trans ((va_up_ne _ _ (Nat.ne_of_beq_eq_false rfl)).trans hg93_10)
  have hg95_11 : g95 11 = .ref q15 := (congrFun eg95 11).trans ((va_up_ne _ _ (Nat.ne_of_beq_eq_false rfl)).trans hg93_11)
  have hg95_12 : g95 12 = .ref q17 := (congrFun eg95 12).trans ((va_up_ne _ _ (Nat.ne_of_beq_eq_false rfl)).trans hg93_12)
  have hg95_13 : g95 13 = .ref q19 := (congrFun eg95 13).trans ((va_up_ne _ _ (Nat.ne_of_beq_eq_false rfl)).trans hg93_13)
  have hg95_14 : g95 14 = .ref q21 := (congrFun eg95 14).trans ((va_up_ne _ _ (Nat.ne_of_beq_eq_false rfl)).trans hg93_14)
  have hg95_15 : g95 15 = .ref q23 := (congrFun eg95 15).trans ((va_up_ne _ _ (Nat.ne_of_beq_eq_false rfl)).trans hg93_15)
  have hg95_18 : g95 18 = .ref q13 := (congrFun eg95 18).trans ((va_up_ne _ _ (Nat.ne_of_beq_eq_false rfl)).trans hg93_18)
  have hg95_27 : g95 27 = .ref q26 := (congrFun eg95 27).trans ((va_up_ne _ _ (Nat.ne_of_beq_eq_false rfl)).trans hg93_27)
  have hg95_28 : g95 28 = .ref q28 := (congrFun eg95 28).trans ((va_up_ne _ _ (Nat.ne_of_beq_eq_false rfl)).trans hg93_28)
  have hg95_29 : g95 29 = .ref q30 := (congrFun eg95 29).trans ((va_up_ne _ _ (Nat.ne_of_beq_eq_false rfl)).trans hg93_29)
  have hg95_30 : g95 30 = .ref q32 := (congrFun eg95 30).trans ((va_up_ne _ _ (Nat.ne_of_beq_eq_false rfl)).trans hg93_30)
  have hg95_31 : g95 31 = .ref q34 := (congrFun eg95 31).trans ((va_up_ne _ _ (Nat.ne_of_beq_eq_false rfl)).trans hg93_31)
  have hg95_32 : g95 32 = .ref q36 := (congrFun eg95 32).trans ((va_up_ne _ _ (Nat.ne_of_beq_eq_false rfl)).trans hg93_32)
  have hg95_33 : g95 33 = .ref q38 := (congrFun eg95 33).trans ((va_up_ne _ _ (Nat.ne_of_beq_eq_false rfl)).trans hg93_33)
  have hg95_34 : g95 34 = .ref q40 := (congrFun eg95 34).trans ((va_up_ne _ _ (Nat.ne_of_beq_eq_false rfl)).trans hg93_34)
  have hg95_35 : g95 35 = .ref q42 := (congrFun eg95 35).trans ((va_up_ne _ _ (Nat.ne_of_beq_eq_false rfl)).trans hg93_35)
  have hg95_36 : g95 36 = .ref q44 := (congrFun eg95 36).trans ((va_up_ne _ _ (Nat.ne_of_beq_eq_false rfl)).trans hg93_36)
  have hg95_37 : g95 37 = .ref q46 := (congrFun eg95 37).trans ((va_up_ne _ _ (Nat.ne_of_beq_eq_false rfl)).trans hg93_37)
  have hg95_38 : g95 38 = .ref q48 := (congrFun eg95 38).trans ((va_up_ne _ _ (Nat.ne_of_beq_eq_false rfl)).trans hg93_38)
  have hg95_39 : g95 39 = .ref q50 := (congrFun eg95 39).trans ((va_up_ne _ _ (Nat.ne_of_beq_eq_false rfl)).trans hg93_39)
  have hg95_40 : g95 40 = .ref q52 := (congrFun eg95 40).trans ((va_up_ne _ _ (Nat.ne_of_beq_eq_false rfl)).trans hg93_40)
  have hg95_41 : g95 41 = .ref q54 := (congrFun eg95 41).trans ((va_up_ne _ _ (Nat.ne_of_beq_eq_false rfl)).trans hg93_41)
  have hg95_42 : g95 42 = .ref q56 := (congrFun eg95 42).trans ((va_up_ne _ _ (Nat.ne_of_beq_eq_false rfl)).trans hg93_42)
  have hg95_43 : g95 43 = .ref q58 := (congrFun eg95 43).trans ((va_up_ne _ _ (Nat.ne_of_beq_eq_false rfl)).trans hg93_43)
  have hg95_44 : g95 44 = .ref q60 := (congrFun eg95 44).trans ((va_up_ne _ _ (Nat.ne_of_beq_eq_false rfl)).trans hg93_44)
  have hg95_45 : g95 45 = .ref q62 := (congrFun eg95 45).trans ((va_up_ne _ _ (Nat.ne_of_beq_eq_false rfl)).trans hg93_45)
  have hg95_49 : g95 49 = .ref q64 := (congrFun eg95 49).trans ((va_up_ne _ _ (Nat.ne_of_beq_eq_false rfl)).trans hg93_49)
  have hg95_50 : g95 50 = .ref q66 := (congrFun eg95 50).trans ((va_up_ne _ _ (Nat.ne_of_beq_eq_false rfl)).trans hg93_50)
  have hg95_51 : g95 51 = .ref q68 := (congrFun eg95 51).trans ((va_up_ne _ _ (Nat.ne_of_beq_eq_false rfl)).trans hg93_51)
  have hg95_52 : g95 52 = .ref q70 := (congrFun eg95 52).trans ((va_up_ne _ _ (Nat.ne_of_beq_eq_false rfl)).trans hg93_52)
  have hg95_53 : g95 53 = .ref q72 := (congrFun eg95 53).trans ((va_up_ne _ _ (Nat.ne_of_beq_eq_false rfl)).trans hg93_53)
  have hg95_54 : g95 54 = .ref q74 := (congrFun eg95 54).trans ((va_up_ne _ _ (Nat.ne_of_beq_eq_false rfl)).trans hg93_54)
  have hg95_56 : g95 56 = .ref q76 := (congrFun eg95 56).trans ((va_up_ne _ _ (Nat.ne_of_beq_eq_false rfl)).trans hg93_56)
  have hg95_57 : g95 57 = .ref q78 := (congrFun eg95 57).trans ((va_up_ne _ _ (Nat.ne_of_beq_eq_false rfl)).trans hg93_57)
  have hg95_58 : g95 58 = .ref q80 := (congrFun eg95 58).trans ((va_up_ne _ _ (Nat.ne_of_beq_eq_false rfl)).trans hg93_58)
  have hg95_59 : g95 59 = .ref q82 := (congrFun eg95 59).trans ((va_up_ne _ _ (Nat.ne_of_beq_eq_false rfl)).trans hg93_59)
  have hg95_60 : g95 60 = .ref q84 := (congrFun eg95 60).trans ((va_up_ne _ _ (Nat.ne_of_beq_eq_false rfl)).trans hg93_60)
  have hg95_61 : g95 61 = .ref q86 := (congrFun eg95 61).trans ((va_up_ne _ _ (Nat.ne_of_beq_eq_false rfl)).trans hg93_61)
  have hg95_62 : g95 62 = .ref q88 := (congrFun eg95 62).trans ((va_up_ne _ _ (Nat.ne_of_beq_eq_false rfl)).trans hg93_62)
  have hg95_63 : g95 63 = .ref q90 := (congrFun eg95 63).trans ((va_up_ne _ _ (Nat.ne_of_beq_eq_false rfl)).trans hg93_63)
  have hg95_64 : g95 64 = .ref q92 := (congrFun eg95 64).trans ((va_up_ne _ _ (Nat.ne_of_beq_eq_false rfl)).trans hg93_64)
  clear hg93_0 hg93_1 hg93_8 hg93_9 hg93_16 hg93_17 hg93_19 hg93_20 hg93_21 hg93_22 hg93_23 hg93_24 hg93_25 hg93_26 hg93_46 hg93_47 hg93_48 hg93_55 hg93_74 hg93_75 hg93_86 hg93_87 hg93_88 hg93_89 hg93_95 hg93_2 hg93_3 hg93_4 hg93_5 hg93_6 hg93_7 hg93_10 hg93_11 hg93_12 hg93_13 hg93_14 hg93_15 hg93_18 hg93_27 hg93_28 hg93_29 hg93_30 hg93_31 hg93_32 hg93_33 hg93_34 hg93_35 hg93_36 hg93_37 hg93_38 hg93_39 hg93_40 hg93_41 hg93_42 hg93_43 hg93_44 hg93_45 hg93_49 hg93_50 hg93_51 hg93_52 hg93_53 hg93_54 hg93_56 hg93_57 hg93_58 hg93_59 hg93_60 hg93_61 hg93_62 hg93_63 hg93_64
  have hg95_65 : g95 65 = .ref q94 := by rw [eg95]; exact va_up_self _ _ _
  refine lv_aload_n hx hb dX13_init_409 rfl (lv_at hl 0 rfl) ?_
  refine lv_bipush (v := 30) hx hb dX13_init_410 (by decide) ?_
  refine va_newa (atype := .int) (ty := .int) (N' := 30) (a0 := (30, .inl (fun _ => (0 : Int32)))) hx hb (hts _ (vA_in _ _ (in_2 _ (List.mem_of_getElem? (i := 38) rfl)))) rfl hK hP hD hS hA (fun _ => rfl) (by decide) (by decide) (Nat.le_of_ble_eq_true rfl) (Nat.le_of_ble_eq_true rfl) (Nat.le_of_ble_eq_true rfl) dX13_init_412 (fun q96 kq96 H hK hP hD hS => ?_)
  have hK : va_K (dC, dI) vwCl [(kq1, .int), (kq13, .byte), (kq72, .boolean), (kq96, .int)] s := hK
  obtain ⟨wq96, ewq96⟩ : ∃ z : va_W, z = wq94 ++ [(q96, .inl (kq96, 30, .inl (fun _ => (0 : Int32))))] := ⟨_, rfl⟩
  replace hP : va_P (dC, dI) vwCl ((h, .inr (14, mL g95)) :: wq96) H := by rw [ewq96]; exact hP
  replace hD : va_D A ((h, .inr (14, mL g95)) :: wq96) := by rw [ewq96]; exact hD
  refine W.widen (k := 48) (n := 9138) (by omega) (by omega) ?_
  obtain rfl : kq1 = kq96 := ub_sa_int hK 0 3 rfl rfl
  have hK := hK.sub (tys' := [(kq1, .int), (kq13, .byte), (kq72, .boolean)]) [0, 1, 2] rfl
  refine va_putF (D := (dC, dI)) (ci := 14) (v := .ref q96) (ty := .array .int) (C := RX13) (T := TX13) (N := 97) hx hb hts (fun w h => vA_in _ w (in_X13 w h)) tyX13 tyX13_ok nmX13 hown hK hP hD hS 0 rfl rfl 66 (by decide) (hts _ (vA_in _ _ (in_25 _ (List.mem_of_getElem? (i := 6) rfl)))) (fun _ h9 => h9) rfl hin rfl (by decide +kernel) rfl rfl (mL_lt (Nat.le_of_ble_eq_true rfl)) dX13_init_414 (fun H locs hP hD hS => ?_)
  replace hP : va_P (dC, dI) vwCl ((h, .inr (14, (mL g95).set 66 (.ref q96))) :: wq96) H := hP
  replace hD : va_D A ((h, .inr (14, (mL g95).set 66 (.ref q96))) :: wq96) := hD
  obtain ⟨g97, eg97⟩ : ∃ z9, z9 = va_up g95 66 (.ref q96) := ⟨_, rfl⟩
  rw [mL_upd, ← eg97] at hP hD
  have hg97_0 : g97 0 = .int 0 := (congrFun eg97 0).trans ((va_up_ne _ _ (Nat.ne_of_beq_eq_false rfl)).trans hg95_0)
  have hg97_1 : g97 1 = .int 0 := (congrFun eg97 1).trans ((va_up_ne _ _ (Nat.ne_of_beq_eq_false rfl)).trans hg95_1)
  have hg97_8 : g97 8 = .int 0 := (congrFun eg97 8).trans ((va_up_ne _ _ (Nat.ne_of_beq_eq_false rfl)).trans hg95_8)
  have hg97_9 : g97 9 = .int 0 := (congrFun eg97 9).trans ((va_up_ne _ _ (Nat.ne_of_beq_eq_false rfl)).trans hg95_9)
  have hg97_16 : g97 16 = .int 0 := (congrFun eg97 16).trans ((va_up_ne _ _ (Nat.ne_of_beq_eq_false rfl)).trans hg95_16)
  have hg97_17 : g97 17 = .int 0 := (congrFun eg97 17).trans ((va_up_ne _ _ (Nat.ne_of_beq_eq_false rfl)).trans hg95_17)
  have hg97_19 : g97 19 = .int 0 := (congrFun eg97 19).trans ((va_up_ne _ _ (Nat.ne_of_beq_eq_false rfl)).trans hg95_19)
  have hg97_20 : g97 20 = .int 0 := (congrFun eg97 20).trans ((va_up_ne _ _ (Nat.ne_of_beq_eq_false rfl)).trans hg95_20)
  have hg97_21 : g97 21 = .int 0 := (congrFun eg97 21).trans ((va_up_ne _ _ (Nat.ne_of_beq_eq_false rfl)).trans hg95_21)
  have hg97_22 : g97 22 = .int 0 := (congrFun eg97 22).trans ((va_up_ne _ _ (Nat.ne_of_beq_eq_false rfl)).trans hg95_22)
  have hg97_23 : g97 23 = .int 0 := (congrFun eg97 23).trans ((va_up_ne _ _ (Nat.ne_of_beq_eq_false rfl)).trans hg95_23)
  have hg97_24 : g97 24 = .int 0 := (congrFun eg97 24).trans ((va_up_ne _ _ (Nat.ne_of_beq_eq_false rfl)).trans hg95_24)
  have hg97_25 : g97 25 = .int 0 := (congrFun eg97 25).trans ((va_up_ne _ _ (Nat.ne_of_beq_eq_false rfl)).trans hg95_25)
  have hg97_26 : g97 26 = .int 0 := (congrFun eg97 26).trans ((va_up_ne _ _ (Nat.ne_of_beq_eq_false rfl)).trans hg95_26)
  have hg97_46 : g97 46 = .int 0 := (congrFun eg97 46).trans ((va_up_ne _ _ (Nat.ne_of_beq_eq_false rfl)).trans hg95_46)
  have hg97_47 : g97 47 = .int 0 := (congrFun eg97 47).trans ((va_up_ne _ _ (Nat.ne_of_beq_eq_false rfl)).trans hg95_47)
  have hg97_48 : g97 48 = .int 0 := (congrFun eg97 48).trans ((va_up_ne _ _ (Nat.ne_of_beq_eq_false rfl)).trans hg95_48)
  have hg97_55 : g97 55 = .int 0 := (congrFun eg97 55).trans ((va_up_ne _ _ (Nat.ne_of_beq_eq_false rfl)).trans hg95_55)
  have hg97_74 : g97 74 = .int 0 := (congrFun eg97 74).trans ((va_up_ne _ _ (Nat.ne_of_beq_eq_false rfl)).trans hg95_74)
  have hg97_75 : g97 75 = .int 0 := (congrFun eg97 75).trans ((va_up_ne _ _ (Nat.ne_of_beq_eq_false rfl)).trans hg95_75)
  have hg97_86 : g97 86 = .int 0 := (congrFun eg97 86).trans ((va_up_ne _ _ (Nat.ne_of_beq_eq_false rfl)).trans hg95_86)
  have hg97_87 : g97 87 = .int 0 := (congrFun eg97 87).trans ((va_up_ne _ _ (Nat.ne_of_beq_eq_false rfl)).trans hg95_87)
  have hg97_88 : g97 88 = .int 0 := (congrFun eg97 88).trans ((va_up_ne _ _ (Nat.ne_of_beq_eq_false rfl)).trans hg95_88)
  have hg97_89 : g97 89 = .int 0 := (congrFun eg97 89).trans ((va_up_ne _ _ (Nat.ne_of_beq_eq_false rfl)).trans hg95_89)
  have hg97_95 : g97 95 = .int 0 := (congrFun eg97 95).trans ((va_up_ne _ _ (Nat.ne_of_beq_eq_false rfl)).trans hg95_95)
  have hg97_2 : g97 2 = .ref q1 := (congrFun eg97 2).trans ((va_up_ne _ _ (Nat.ne_of_beq_eq_false rfl)).trans hg95_2)
  have hg97_3 : g97 3 = .ref q3 := (congrFun eg97 3).trans ((va_up_ne _ _ (Nat.ne_of_beq_eq_false rfl)).trans hg95_3)
  have hg97_4 : g97 4 = .ref q5 := (congrFun eg97 4).trans ((va_up_ne _ _ (Nat.ne_of_beq_eq_false rfl)).trans hg95_4)
  have hg97_5 : g97 5 = .ref q7 := (congrFun eg97 5).trans ((va_up_ne _ _ (Nat.ne_of_beq_eq_false rfl)).trans hg95_5)
  have hg97_6 : g97 6 = .ref q9 := (congrFun eg97 6).trans ((va_up_ne _ _ (Nat.ne_of_beq_eq_false rfl)).trans hg95_6)
  have hg97_7 : g97 7 = .ref q11 := (congrFun eg97 7).trans ((va_up_ne _ _ (Nat.ne_of_beq_eq_false rfl)).trans hg95_7)
  have hg97_10 : g97 10 = .ref q13 := (congrFun eg97 10).trans ((va_up_ne _ _ (Nat.ne_of_beq_eq_false rfl)).trans hg95_10)
  have hg97_11 : g97 11 = .ref q15 := (congrFun eg97 11).trans ((va_up_ne _ _ (Nat.ne_of_beq_eq_false rfl)).trans hg95_11)
  have hg97_12 : g97 12 = .ref q17 := (congrFun eg97 12).trans ((va_up_ne _ _ (Nat.ne_of_beq_eq_false rfl)).trans hg95_12)
  have hg97_13 : g97 13 = .ref q19 := (congrFun eg97 13).trans ((va_up_ne _ _ (Nat.ne_of_beq_eq_false rfl)).trans hg95_13)
  have hg97_14 : g97 14 = .ref q21 := (congrFun eg97 14).trans ((va_up_ne _ _ (Nat.ne_of_beq_eq_false rfl)).trans hg95_14)
  have hg97_15 : g97 15 = .ref q23 := (congrFun eg97 15).trans ((va_up_ne _ _ (Nat.ne_of_beq_eq_false rfl)).trans hg95_15)
  have hg97_18 : g97 18 = .ref q13 := (congrFun eg97 18).trans ((va_up_ne _ _ (Nat.ne_of_beq_eq_false rfl)).trans hg95_18)
  have hg97_27 : g97 27 = .ref q26 := (congrFun eg97 27).trans ((va_up_ne _ _ (Nat.ne_of_beq_eq_false rfl)).trans hg95_27)
  have hg97_28 : g97 28 = .ref q28 := (congrFun eg97 28).trans ((va_up_ne _ _ (Nat.ne_of_beq_eq_false rfl)).trans hg95_28)
  have hg97_29 : g97 29 = .ref q30 := (congrFun eg97 29).trans ((va_up_ne _ _ (Nat.ne_of_beq_eq_false rfl)).trans hg95_29)
  have hg97_30 : g97 30 = .ref q32 := (congrFun eg97 30).trans ((va_up_ne _ _ (Nat.ne_of_beq_eq_false rfl)).trans hg95_30)
  have hg97_31 : g97 31 = .ref q34 := (congrFun eg97 31).trans ((va_up_ne _ _ (Nat.ne_of_beq_eq_false rfl)).trans hg95_31)
  have hg97_32 : g97 32 = .ref q36 := (congrFun eg97 32).trans ((va_up_ne _ _ (Nat.ne_of_beq_eq_false rfl)).trans hg95_32)
  have hg97_33 : g97 33 = .ref q38 := (congrFun eg97 33).trans ((va_up_ne _ _ (Nat.ne_of_beq_eq_false rfl)).trans hg95_33)
  have hg97_34 : g97 34 = .ref q40 := (congrFun eg97 34).trans ((va_up_ne _ _ (Nat.ne_of_beq_eq_false rfl)).trans hg95_34)
  have hg97_35 : g97 35 = .ref q42 := (congrFun eg97 35).trans ((va_up_ne _ _ (Nat.ne_of_beq_eq_false rfl)).trans hg95_35)
  have hg97_36 : g97 36 = .ref q44 := (congrFun eg97 36).trans ((va_up_ne _ _ (Nat.ne_of_beq_eq_false rfl)).trans hg95_36)
  have hg97_37 : g97 37 = .ref q46 := (congrFun eg97 37).trans ((va_up_ne _ _ (Nat.ne_of_beq_eq_false rfl)).trans hg95_37)
  have hg97_38 : g97 38 = .ref q48 := (congrFun eg97 38).trans ((va_up_ne _ _ (Nat.ne_of_beq_eq_false rfl)).trans hg95_38)
  have hg97_39 : g97 39 = .ref q50 := (congrFun eg97 39).trans ((va_up_ne _ _ (Nat.ne_of_beq_eq_false rfl)).trans hg95_39)
  have hg97_40 : g97 40 = .ref q52 := (congrFun eg97 40).trans ((va_up_ne _ _ (Nat.ne_of_beq_eq_false rfl)).trans hg95_40)
  have hg97_41 : g97 41 = .ref q54 := (congrFun eg97 41).trans ((va_up_ne _ _ (Nat.ne_of_beq_eq_false rfl)).trans hg95_41)
  have hg97_42 : g97 42 = .ref q56 := (congrFun eg97 42).trans ((va_up_ne _ _ (Nat.ne_of_beq_eq_false rfl)).trans hg95_42)
  have hg97_43 : g97 43 = .ref q58 := (congrFun eg97 43).trans ((va_up_ne _ _ (Nat.ne_of_beq_eq_false rfl)).trans hg95_43)
  have hg97_44 : g97 44 = .ref q60 := (congrFun eg97 44).trans ((va_up_ne _ _ (Nat.ne_of_beq_eq_false rfl)).trans hg95_44)
  have hg97_45 : g97 45 = .ref q62 := (congrFun eg97 45).trans ((va_up_ne _ _ (Nat.ne_of_beq_eq_false rfl)).trans hg95_45)
  have hg97_49 : g97 49 = .ref q64 := (congrFun eg97 49).trans ((va_up_ne _ _ (Nat.ne_of_beq_eq_false rfl)).trans hg95_49)
  have hg97_50 : g97 50 = .ref q66 := (congrFun eg97 50).trans ((va_up_ne _ _ (Nat.ne_of_beq_eq_false rfl)).trans hg95_50)
  have hg97_51 : g97 51 = .ref q68 := (congrFun eg97 51).trans ((va_up_ne _ _ (Nat.ne_of_beq_eq_false rfl)).trans hg95_51)
  have hg97_52 : g97 52 = .ref q70 := (congrFun eg97 52).trans ((va_up_ne _ _ (Nat.ne_of_beq_eq_false rfl)).trans hg95_52)
  have hg97_53 : g97 53 = .ref q72 := (congrFun eg97 53).trans ((va_up_ne _ _ (Nat.ne_of_beq_eq_false rfl)).trans hg95_53)
  have hg97_54 : g97 54 = .ref q74 := (congrFun eg97 54).trans ((va_up_ne _ _ (Nat.ne_of_beq_eq_false rfl)).trans hg95_54)
  have hg97_56 : g97 56 = .ref q76 := (congrFun eg97 56).trans ((va_up_ne _ _ (Nat.ne_of_beq_eq_false rfl)).trans hg95_56)
  have hg97_57 : g97 57 = .ref q78 := (congrFun eg97 57).trans ((va_up_ne _ _ (Nat.ne_of_beq_eq_false rfl)).trans hg95_57)
  have hg97_58 : g97 58 = .ref q80 := (congrFun eg97 58).trans ((va_up_ne _ _ (Nat.ne_of_beq_eq_false rfl)).trans hg95_58)
  have hg97_59 : g97 59 = .ref q82 := (congrFun eg97 59).trans ((va_up_ne _ _ (Nat.ne_of_beq_eq_false rfl)).trans hg95_59)
  have hg97_60 : g97 60 = .ref q84 := (congrFun eg97 60).trans ((va_up_ne _ _ (Nat.ne_of_beq_eq_false rfl)).trans hg95_60)
  have hg97_61 : g97 61 = .ref q86 := (congrFun eg97 61).trans ((va_up_ne _ _ (Nat.ne_of_beq_eq_false rfl)).trans hg95_61)
  have hg97_62 : g97 62 = .ref q88 := (congrFun eg97 62).trans ((va_up_ne _ _ (Nat.ne_of_beq_eq_false rfl)).trans hg95_62)
  have hg97_63 : g97 63 = .ref q90 := (congrFun eg97 63).trans ((va_up_ne _ _ (Nat.ne_of_beq_eq_false rfl)).trans hg95_63)
  have hg97_64 : g97 64 = .ref q92 := (congrFun eg97 64).trans ((va_up_ne _ _ (Nat.ne_of_beq_eq_false rfl)).trans hg95_64)
  have hg97_65 : g97 65 = .ref q94 := (congrFun eg97 65).trans ((va_up_ne _ _ (Nat.ne_of_beq_eq_false rfl)).trans hg95_65)
  clear hg95_0 hg95_1 hg95_8 hg95_9 hg95_16 hg95_17 hg95_19 hg95_20 hg95_21 hg95_22 hg95_23 hg95_24 hg95_25 hg95_26 hg95_46 hg95_47 hg95_48 hg95_55 hg95_74 hg95_75 hg95_86 hg95_87 hg95_88 hg95_89 hg95_95 hg95_2 hg95_3 hg95_4 hg95_5 hg95_6 hg95_7 hg95_10 hg95_11 hg95_12 hg95_13 hg95_14 hg95_15 hg95_18 hg95_27 hg95_28 hg95_29 hg95_30 hg95_31 hg95_32 hg95_33 hg95_34 hg95_35 hg95_36 hg95_37 hg95_38 hg95_39 hg95_40 hg95_41 hg95_42 hg95_43 hg95_44 hg95_45 hg95_49 hg95_50 hg95_51 hg95_52 hg95_53 hg95_54 hg95_56 hg95_57 hg95_58 hg95_59 hg95_60 hg95_61 hg95_62 hg95_63 hg95_64 hg95_65
  have hg97_66 : g97 66 = .ref q96 := by rw [eg97]; exact va_up_self _ _ _
  refine lv_aload_n hx hb dX13_init_417 rfl (lv_at hl 0 rfl) ?_
  refine lv_bipush (v := 30) hx hb dX13_init_418 (by decide) ?_
  refine va_newa (atype := .int) (ty := .int) (N' := 30) (a0 := (30, .inl (fun _ => (0 : Int32)))) hx hb (hts _ (vA_in _ _ (in_2 _ (List.mem_of_getElem? (i := 38) rfl)))) rfl hK hP hD hS hA (fun _ => rfl) (by decide) (by decide) (Nat.le_of_ble_eq_true rfl) (Nat.le_of_ble_eq_true rfl) (Nat.le_of_ble_eq_true rfl) dX13_init_420 (fun q98 kq98 H hK hP hD hS => ?_)
  have hK : va_K (dC, dI) vwCl [(kq1, .int), (kq13, .byte), (kq72, .boolean), (kq98, .int)] s := hK
  obtain ⟨wq98, ewq98⟩ : ∃ z : va_W, z = wq96 ++ [(q98, .inl (kq98, 30, .inl (fun _ => (0 : Int32))))] := ⟨_, rfl⟩
  replace hP : va_P (dC, dI) vwCl ((h, .inr (14, mL g97)) :: wq98) H := by rw [ewq98]; exact hP
  replace hD : va_D A ((h, .inr (14, mL g97)) :: wq98) := by rw [ewq98]; exact hD
  refine W.widen (k := 49) (n := 9168) (by omega) (by omega) ?_
  obtain rfl : kq1 = kq98 := ub_sa_int hK 0 3 rfl rfl
  have hK := hK.sub (tys' := [(kq1, .int), (kq13, .byte), (kq72, .boolean)]) [0, 1, 2] rfl
  refine va_putF (D := (dC, dI)) (ci := 14) (v := .ref q98) (ty := .array .int) (C := RX13) (T := TX13) (N := 97) hx hb hts (fun w h => vA_in _ w (in_X13 w h)) tyX13 tyX13_ok nmX13 hown hK hP hD hS 0 rfl rfl 67 (by decide) (hts _ (vA_in _ _ (in_25 _ (List.mem_of_getElem? (i := 5) rfl)))) (fun _ h9 => h9) rfl hin rfl (by decide +kernel) rfl rfl (mL_lt (Nat.le_of_ble_eq_true rfl)) dX13_init_422 (fun H locs hP hD hS => ?_)
  replace hP : va_P (dC, dI) vwCl ((h, .inr (14, (mL g97).set 67 (.ref q98))) :: wq98) H := hP
  replace hD : va_D A ((h, .inr (14, (mL g97).set 67 (.ref q98))) :: wq98) := hD
  obtain ⟨g99, eg99⟩ : ∃ z9, z9 = va_up g97 67 (.ref q98) := ⟨_, rfl⟩
  rw [mL_upd, ← eg99] at hP hD
  have hg99_0 : g99 0 = .int 0 := (congrFun eg99 0).trans ((va_up_ne _ _ (Nat.ne_of_beq_eq_false rfl)).trans hg97_0)
  have hg99_1 : g99 1 = .int 0 := (congrFun eg99 1).trans ((va_up_ne _ _ (Nat.ne_of_beq_eq_false rfl)).trans hg97_1)
  have hg99_8 : g99 8 = .int 0 := (congrFun eg99 8).trans ((va_up_ne _ _ (Nat.ne_of_beq_eq_false rfl)).trans hg97_8)
  have hg99_9 : g99 9 = .int 0 := (congrFun eg99 9).trans ((va_up_ne _ _ (Nat.ne_of_beq_eq_false rfl)).trans hg97_9)
  have hg99_16 : g99 16 = .int 0 := (congrFun eg99 16).trans ((va_up_ne _ _ (Nat.ne_of_beq_eq_false rfl)).trans hg97_16)
  have hg99_17 : g99 17 = .int 0 := (congrFun eg99 17).trans ((va_up_ne _ _ (Nat.ne_of_beq_eq_false rfl)).trans hg97_17)
  have hg99_19 : g99 19 = .int 0 := (congrFun eg99 19).trans ((va_up_ne _ _ (Nat.ne_of_beq_eq_false rfl)).trans hg97_19)
  have hg99_20 : g99 20 = .int 0 := (congrFun eg99 20).trans ((va_up_ne _ _ (Nat.ne_of_beq_eq_false rfl)).trans hg97_20)
  have hg99_21 : g99 21 = .int 0 := (congrFun eg99 21).trans ((va_up_ne _ _ (Nat.ne_of_beq_eq_false rfl)).trans hg97_21)
  have hg99_22 : g99 22 = .int 0 := (congrFun eg99 22).trans ((va_up_ne _ _ (Nat.ne_of_beq_eq_false rfl)).trans hg97_22)
  have hg99_23 : g99 23 = .int 0 := (congrFun eg99 23).trans ((va_up_ne _ _ (Nat.ne_of_beq_eq_false rfl)).trans hg97_23)
  have hg99_24 : g99 24 = .int 0 := (congrFun eg99 24).trans ((va_up_ne _ _ (Nat.ne_of_beq_eq_false rfl)).trans hg97_24)
  have hg99_25 : g99 25 = .int 0 := (congrFun eg99 25).trans ((va_up_ne _ _ (Nat.ne_of_beq_eq_false rfl)).trans hg97_25)
  have hg99_26 : g99 26 = .int 0 := (congrFun eg99 26).trans ((va_up_ne _ _ (Nat.ne_of_beq_eq_false rfl)).trans hg97_26)
  have hg99_46 : g99 46 = .int 0 := (congrFun eg99 46).trans ((va_up_ne _ _ (Nat.ne_of_beq_eq_false rfl)).trans hg97_46)
  have hg99_47 : g99 47 = .int 0 := (congrFun eg99 47).trans ((va_up_ne _ _ (Nat.ne_of_beq_eq_false rfl)).trans hg97_47)
  have hg99_48 : g99 48 = .int 0 := (congrFun eg99 48).trans ((va_up_ne _ _ (Nat.ne_of_beq_eq_false rfl)).trans hg97_48)
  have hg99_55 : g99 55 = .int 0 := (congrFun eg99 55).trans ((va_up_ne _ _ (Nat.ne_of_beq_eq_false rfl)).trans hg97_55)
  have hg99_74 : g99 74 = .int 0 := (congrFun eg99 74).trans ((va_up_ne _ _ (Nat.ne_of_beq_eq_false rfl)).trans hg97_74)
  have hg99_75 : g99 75 = .int 0 := (congrFun eg99 75).trans ((va_up_ne _ _ (Nat.ne_of_beq_eq_false rfl)).trans hg97_75)
  have hg99_86 : g99 86 = .int 0 := (congrFun eg99 86).trans ((va_up_ne _ _ (Nat.ne_of_beq_eq_false rfl)).trans hg97_86)
  have hg99_87 : g99 87 = .int 0 := (congrFun eg99 87).trans ((va_up_ne _ _ (Nat.ne_of_beq_eq_false rfl)).trans hg97_87)
  have hg99_88 : g99 88 = .int 0 := (congrFun eg99 88).trans ((va_up_ne _ _ (Nat.ne_of_beq_eq_false rfl)).trans hg97_88)
  have hg99_89 : g99 89 = .int 0 := (congrFun eg99 89).trans ((va_up_ne _ _ (Nat.ne_of_beq_eq_false rfl)).trans hg97_89)
  have hg99_95 : g99 95 = .int 0 := (congrFun eg99 95).trans ((va_up_ne _ _ (Nat.ne_of_beq_eq_false rfl)).trans hg97_95)
  have hg99_2 : g99 2 = .ref q1 := (congrFun eg99 2).trans ((va_up_ne _ _ (Nat.ne_of_beq_eq_false rfl)).trans hg97_2)
  have hg99_3 : g99 3 = .ref q3 := (congrFun eg99 3).trans ((va_up_ne _ _ (Nat.ne_of_beq_eq_false rfl)).trans hg97_3)
  have hg99_4 : g99 4 = .ref q5 := (congrFun eg99 4).trans ((va_up_ne _ _ (Nat.ne_of_beq_eq_false rfl)).trans hg97_4)
  have hg99_5 : g99 5 = .ref q7 := (congrFun eg99 5).trans ((va_up_ne _ _ (Nat.ne_of_beq_eq_false rfl)).trans hg97_5)
  have hg99_6 : g99 6 = .ref q9 := (congrFun eg99 6).trans ((va_up_ne _ _ (Nat.ne_of_beq_eq_false rfl)).trans hg97_6)
  have hg99_7 : g99 7 = .ref q11 := (congrFun eg99 7).trans ((va_up_ne _ _ (Nat.ne_of_beq_eq_false rfl)).trans hg97_7)
  have hg99_10 : g99 10 = .ref q13 := (congrFun eg99 10).trans ((va_up_ne _ _ (Nat.ne_of_beq_eq_false rfl)).trans hg97_10)
  have hg99_11 : g99 11 = .ref q15 := (congrFun eg99 11).trans ((va_up_ne _ _ (Nat.ne_of_beq_eq_false rfl)).trans hg97_11)
  have hg99_12 : g99 12 = .ref q17 := (congrFun eg99 12).trans ((va_up_ne _ _ (Nat.ne_of_beq_eq_false rfl)).trans hg97_12)
  have hg99_13 : g99 13 = .ref q19 := (congrFun eg99 13).trans ((va_up_ne _ _ (Nat.ne_of_beq_eq_false rfl)).trans hg97_13)
  have hg99_14 : g99 14 = .ref q21 := (congrFun eg99 14).trans ((va_up_ne _ _ (Nat.ne_of_beq_eq_false rfl)).trans hg97_14)
  have hg99_15 : g99 15 = .ref q23 := (congrFun eg99 15).trans ((va_up_ne _ _ (Nat.ne_of_beq_eq_false rfl)).trans hg97_15)
  have hg99_18 : g99 18 = .ref q13 := (congrFun eg99 18).trans ((va_up_ne _ _ (Nat.ne_of_beq_eq_false rfl)).trans hg97_18)
  have hg99_27 : g99 27 = .ref q26 := (congrFun eg99 27).trans ((va_up_ne _ _ (Nat.ne_of_beq_eq_false rfl)).trans hg97_27)
  have hg99_28 : g99 28 = .ref q28 := (congrFun eg99 28).trans ((va_up_ne _ _ (Nat.ne_of_beq_eq_false rfl)).trans hg97_28)
  have hg99_29 : g99 29 = .ref q30 := (congrFun eg99 29).trans ((va_up_ne _ _ (Nat.ne_of_beq_eq_false rfl)).trans hg97_29)
  have hg99_30 : g99 30 = .ref q32 := (congrFun eg99 30).trans ((va_up_ne _ _ (Nat.ne_of_beq_eq_false rfl)).trans hg97_30)
  have hg99_31 : g99 31 = .ref q34 := (congrFun eg99 31).trans ((va_up_ne _ _ (Nat.ne_of_beq_eq_false rfl)).trans hg97_31)
  have hg99_32 : g99 32 = .ref q36 := (congrFun eg99 32).trans ((va_up_ne _ _ (Nat.ne_of_beq_eq_false rfl)).trans hg97_32)
  have hg99_33 : g99 33 = .ref q38 := (congrFun eg99 33).trans ((va_up_ne _ _ (Nat.ne_of_beq_eq_false rfl)).trans hg97_33)
  have hg99_34 : g99 34 = .ref q40 := (congrFun eg99 34).trans ((va_up_ne _ _ (Nat.ne_of_beq_eq_false rfl)).trans hg97_34)
  have hg99_35 : g99 35 = .ref q42 := (congrFun eg99 35).trans ((va_up_ne _ _ (Nat.ne_of_beq_eq_false rfl)).trans hg97_35)
  have hg99_36 : g99 36 = .ref q44 := (congrFun eg99 36).trans ((va_up_ne _ _ (Nat.ne_of_beq_eq_false rfl)).trans hg97_36)
  have hg99_37 : g99 37 = .ref q46 := (congrFun eg99 37).trans ((va_up_ne _ _ (Nat.ne_of_beq_eq_false rfl)).trans hg97_37)
  have hg99_38 : g99 38 = .ref q48 := (congrFun eg99 38).trans ((va_up_ne _ _ (Nat.ne_of_beq_eq_false rfl)).trans hg97_38)
  have hg99_39 : g99 39 = .ref q50 := (congrFun eg99 39).trans ((va_up_ne _ _ (Nat.ne_of_beq_eq_false rfl)).trans hg97_39)
  have hg99_40 : g99 40 = .ref q52 := (congrFun eg99 40).trans ((va_up_ne _ _ (Nat.ne_of_beq_eq_false rfl)).trans hg97_40)
  have hg99_41 : g99 41 = .ref q54 := (congrFun eg99 41).trans ((va_up_ne _ _ (Nat.ne_of_beq_eq_false rfl)).trans hg97_41)
  have hg99_42 : g99 42 = .ref q56 := (congrFun eg99 42).trans ((va_up_ne _ _ (Nat.ne_of_beq_eq_false rfl)).trans hg97_42)
  have hg99_43 : g99 43 = .ref q58 := (congrFun eg99 43).trans ((va_up_ne _ _ (Nat.ne_of_beq_eq_false rfl)).trans hg97_43)
  have hg99_44 : g99 44 = .ref q60 := (congrFun eg99 44).trans ((va_up_ne _ _ (Nat.ne_of_beq_eq_false rfl)).trans hg97_44)
  have hg99_45 : g99 45 = .ref q62 := (congrFun eg99 45).trans ((va_up_ne _ _ (Nat.ne_of_beq_eq_false rfl)).trans hg97_45)
  have hg99_49 : g99 49 = .ref q64 := (congrFun eg99 49).trans ((va_up_ne _ _ (Nat.ne_of_beq_eq_false rfl)).trans hg97_49)
  have hg99_50 : g99 50 = .ref q66 := (congrFun eg99 50).trans ((va_up_ne _ _ (Nat.ne_of_beq_eq_false rfl)).trans hg97_50)
  have hg99_51 : g99 51 = .ref q68 := (congrFun eg99 51).trans ((va_up_ne _ _ (Nat.ne_of_beq_eq_false rfl)).trans hg97_51)
  have hg99_52 : g99 52 = .ref q70 := (congrFun eg99 52).trans ((va_up_ne _ _ (Nat.ne_of_beq_eq_false rfl)).trans hg97_52)
  have hg99_53 : g99 53 = .ref q72 := (congrFun eg99 53).trans ((va_up_ne _ _ (Nat.ne_of_beq_eq_false rfl)).trans hg97_53)
  have hg99_54 : g99 54 = .ref q74 := (congrFun eg99 54).trans ((va_up_ne _ _ (Nat.ne_of_beq_eq_false rfl)).trans hg97_54)
  have hg99_56 : g99 56 = .ref q76 := (congrFun eg99 56).trans ((va_up_ne _ _ (Nat.ne_of_beq_eq_false rfl)).trans hg97_56)
  have hg99_57 : g99 57 = .ref q78 := (congrFun eg99 57).trans ((va_up_ne _ _ (Nat.ne_of_beq_eq_false rfl)).trans hg97_57)
  have hg99_58 : g99 58 = .ref q80 := (congrFun eg99 58).trans ((va_up_ne _ _ (Nat.ne_of_beq_eq_false rfl)).trans hg97_58)
  have hg99_59 : g99 59 = .ref q82 := (congrFun eg99 59).trans ((va_up_ne _ _ (Nat.ne_of_beq_eq_false rfl)).trans hg97_59)
  have hg99_60 : g99 60 = .ref q84 := (congrFun eg99 60).trans ((va_up_ne _ _ (Nat.ne_of_beq_eq_false rfl)).trans hg97_60)
  have hg99_61 : g99 61 = .ref q86 := (congrFun eg99 61).trans ((va_up_ne _ _ (Nat.ne_of_beq_eq_false rfl)).trans hg97_61)
  have hg99_62 : g99 62 = .ref q88 := (congrFun eg99 62).trans ((va_up_ne _ _ (Nat.ne_of_beq_eq_false rfl)).trans hg97_62)
  have hg99_63 : g99 63 = .ref q90 := (congrFun eg99 63).trans ((va_up_ne _ _ (Nat.ne_of_beq_eq_false rfl)).trans hg97_63)
  have hg99_64 : g99 64 = .ref q92 := (congrFun eg99 64).trans ((va_up_ne _ _ (Nat.ne_of_beq_eq_false rfl)).trans hg97_64)
  have hg99_65 : g99 65 = .ref q94 := (congrFun eg99 65).trans ((va_up_ne _ _ (Nat.ne_of_beq_eq_false rfl)).trans hg97_65)
  have hg99_66 : g99 66 = .ref q96 := (congrFun eg99 66).trans ((va_up_ne _ _ (Nat.ne_of_beq_eq_false rfl)).trans hg97_66)
  clear hg97_0 hg97_1 hg97_8 hg97_9 hg97_16 hg97_17 hg97_19 hg97_20 hg97_21 hg97_22 hg97_23 hg97_24 hg97_25 hg97_26 hg97_46 hg97_47 hg97_48 hg97_55 hg97_74 hg97_75 hg97_86 hg97_87 hg97_88 hg97_89 hg97_95 hg97_2 hg97_3 hg97_4 hg97_5 hg97_6 hg97_7 hg97_10 hg97_11 hg97_12 hg97_13 hg97_14 hg97_15 hg97_18 hg97_27 hg97_28 hg97_29 hg97_30 hg97_31 hg97_32 hg97_33 hg97_34 hg97_35 hg97_36 hg97_37 hg97_38 hg97_39 hg97_40 hg97_41 hg97_42 hg97_43 hg97_44 hg97_45 hg97_49 hg97_50 hg97_51 hg97_52 hg97_53 hg97_54 hg97_56 hg97_57 hg97_58 hg97_59 hg97_60 hg97_61 hg97_62 hg97_63 hg97_64 hg97_65 hg97_66
  have hg99_67 : g99 67 = .ref q98 := by rw [eg99]; exact va_up_self _ _ _
  refine lv_aload_n hx hb dX13_init_425 rfl (lv_at hl 0 rfl) ?_
  refine lv_bipush (v := 30) hx hb dX13_init_426 (by decide) ?_
  refine va_newa (atype := .int) (ty := .int) (N' := 30) (a0 := (30, .inl (fun _ => (0 : Int32)))) hx hb (hts _ (vA_in _ _ (in_2 _ (List.mem_of_getElem? (i := 38) rfl)))) rfl hK hP hD hS hA (fun _ => rfl) (by decide) (by decide) (Nat.le_of_ble_eq_true rfl) (Nat.le_of_ble_eq_true rfl) (Nat.le_of_ble_eq_true rfl) dX13_init_428 (fun q100 kq100 H hK hP hD hS => ?_)
  have hK : va_K (dC, dI) vwCl [(kq1, .int), (kq13, .byte), (kq72, .boolean), (kq100, .int)] s := hK
  obtain ⟨wq100, ewq100⟩ : ∃ z : va_W, z = wq98 ++ [(q100, .inl (kq100, 30, .inl (fun _ => (0 : Int32))))] := ⟨_, rfl⟩
  replace hP : va_P (dC, dI) vwCl ((h, .inr (14, mL g99)) :: wq100) H := by rw [ewq100]; exact hP
  replace hD : va_D A ((h, .inr (14, mL g99)) :: wq100) := by rw [ewq100]; exact hD
  refine W.widen (k := 50) (n := 9198) (by omega) (by omega) ?_
  obtain rfl : kq1 = kq100 := ub_sa_int hK 0 3 rfl rfl
  have hK := hK.sub (tys' := [(kq1, .int), (kq13, .byte), (kq72, .boolean)]) [0, 1, 2] rfl
  refine va_putF (D := (dC, dI)) (ci := 14) (v := .ref q100) (ty := .array .int) (C := RX13) (T := TX13) (N := 97) hx hb hts (fun w h => vA_in _ w (in_X13 w h)) tyX13 tyX13_ok nmX13 hown hK hP hD hS 0 rfl rfl 68 (by decide) (hts _ (vA_in _ _ (in_25 _ (List.mem_of_getElem? (i := 2) rfl)))) (fun _ h9 => h9) rfl hin rfl (by decide +kernel) rfl rfl (mL_lt (Nat.le_of_ble_eq_true rfl)) dX13_init_430 (fun H locs hP hD hS => ?_)
  replace hP : va_P (dC, dI) vwCl ((h, .inr (14, (mL g99).set 68 (.ref q100))) :: wq100) H := hP
  replace hD : va_D A ((h, .inr (14, (mL g99).set 68 (.ref q100))) :: wq100) := hD
  obtain ⟨g101, eg101⟩ : ∃ z9, z9 = va_up g99 68 (.ref q100) := ⟨_, rfl⟩
  rw [mL_upd, ← eg101] at hP hD
  have hg101_0 : g101 0 = .int 0 := (congrFun eg101 0).trans ((va_up_ne _ _ (Nat.ne_of_beq_eq_false rfl)).trans hg99_0)
  have hg101_1 : g101 1 = .int 0 := (congrFun eg101 1).trans ((va_up_ne _ _ (Nat.ne_of_beq_eq_false rfl)).trans hg99_1)
  have hg101_8 : g101 8 = .int 0 := (congrFun eg101 8).trans ((va_up_ne _ _ (Nat.ne_of_beq_eq_false rfl)).trans hg99_8)
  have hg101_9 : g101 9 = .int 0 := (congrFun eg101 9).trans ((va_up_ne _ _ (Nat.ne_of_beq_eq_false rfl)).trans hg99_9)
  have hg101_16 : g101 16 = .int 0 := (congrFun eg101 16).trans ((va_up_ne _ _ (Nat.ne_of_beq_eq_false rfl)).trans hg99_16)
  have hg101_17 : g101 17 = .int 0 := (congrFun eg101 17).trans ((va_up_ne _ _ (Nat.ne_of_beq_eq_false rfl)).trans hg99_17)
  have hg101_19 : g101 19 = .int 0 := (congrFun eg101 19).trans ((va_up_ne _ _ (Nat.ne_of_beq_eq_false rfl)).trans hg99_19)
  have hg101_20 : g101 20 = .int 0 := (congrFun eg101 20).trans ((va_up_ne _ _ (Nat.ne_of_beq_eq_false rfl)).trans hg99_20)
  have hg101_21 : g101 21 = .int 0 := (congrFun eg101 21).trans ((va_up_ne _ _ (Nat.ne_of_beq_eq_false rfl)).trans hg99_21)
  have hg101_22 : g101 22 = .int 0 := (congrFun eg101 22).trans ((va_up_ne _ _ (Nat.ne_of_beq_eq_false rfl)).trans hg99_22)
  have hg101_23 : g101 23 = .int 0 := (congrFun eg101 23).trans ((va_up_ne _ _ (Nat.ne_of_beq_eq_false rfl)).trans hg99_23)
  have hg101_24 : g101 24 = .int 0 := (congrFun eg101 24).trans ((va_up_ne _ _ (Nat.ne_of_beq_eq_false rfl)).trans hg99_24)
  have hg101_25 : g101 25 = .int 0 := (congrFun eg101 25).trans ((va_up_ne _ _ (Nat.ne_of_beq_eq_false rfl)).trans hg99_25)
  have hg101_26 : g101 26 = .int 0 := (congrFun eg101 26).trans ((va_up_ne _ _ (Nat.ne_of_beq_eq_false rfl)).trans hg99_26)
  have hg101_46 : g101 46 = .int 0 := (congrFun eg101 46).trans ((va_up_ne _ _ (Nat.ne_of_beq_eq_false rfl)).trans hg99_46)
  have hg101_47 : g101 47 = .int 0 := (congrFun eg101 47).trans ((va_up_ne _ _ (Nat.ne_of_beq_eq_false rfl)).trans hg99_47)
  have hg101_48 : g101 48 = .int 0 := (congrFun eg101 48).trans ((va_up_ne _ _ (Nat.ne_of_beq_eq_false rfl)).trans hg99_48)
  have hg101_55 : g101 55 = .int 0 := (congrFun eg101 55).trans ((va_up_ne _ _ (Nat.ne_of_beq_eq_false rfl)).trans hg99_55)
  have hg101_74 : g101 74 = .int 0 := (congrFun eg101 74).trans ((va_up_ne _ _ (Nat.ne_of_beq_eq_false rfl)).trans hg99_74)
  have hg101_75 : g101 75 = .int 0 := (congrFun eg101 75).trans ((va_up_ne _ _ (Nat.ne_of_beq_eq_false rfl)).trans hg99_75)
  have hg101_86 : g101 86 = .int 0 := (congrFun eg101 86).trans ((va_up_ne _ _ (Nat.ne_of_beq_eq_false rfl)).trans hg99_86)
  have hg101_87 : g101 87 = .int 0 := (congrFun eg101 87).trans ((va_up_ne _ _ (Nat.ne_of_beq_eq_false rfl)).trans hg99_87)
  have hg101_88 : g101 88 = .int 0 := (congrFun eg101 88).trans ((va_up_ne _ _ (Nat.ne_of_beq_eq_false rfl)).trans hg99_88)
  have hg101_89 : g101 89 = .int 0 := (congrFun eg101 89).trans ((va_up_ne _ _ (Nat.ne_of_beq_eq_false rfl)).trans hg99_89)
  have hg101_95 : g101 95 = .int 0 := (congrFun eg101 95).trans ((va_up_ne _ _ (Nat.ne_of_beq_eq_false rfl)).trans hg99_95)
  have hg101_2 : g101 2 = .ref q1 := (congrFun eg101 2).trans ((va_up_ne _ _ (Nat.ne_of_beq_eq_false rfl)).trans hg99_2)
  have hg101_3 : g101 3 = .ref q3 := (congrFun eg101 3).trans ((va_up_ne _ _ (Nat.ne_of_beq_eq_false rfl)).trans hg99_3)
  have hg101_4 : g101 4 = .ref q5 := (congrFun eg101 4).trans ((va_up_ne _ _ (Nat.ne_of_beq_eq_false rfl)).trans hg99_4)
  have hg101_5 : g101 5 = .ref q7 := (congrFun eg101 5).trans ((va_up_ne _ _ (Nat.ne_of_beq_eq_false rfl)).trans hg99_5)
  have hg101_6 : g101 6 = .ref q9 := (congrFun eg101 6).trans ((va_up_ne _ _ (Nat.ne_of_beq_eq_false rfl)).trans hg99_6)
  have hg101_7 : g101 7 = .ref q11 := (congrFun eg101 7).trans ((va_up_ne _ _ (Nat.ne_of_beq_eq_false rfl)).trans hg99_7)
  have hg101_10 : g101 10 = .ref q13 := (congrFun eg101 10).trans ((va_up_ne _ _ (Nat.ne_of_beq_eq_false rfl)).trans hg99_10)
  have hg101_11 : g101 11 = .ref q15 := (congrFun eg101 11).trans ((va_up_ne _ _ (Nat.ne_of_beq_eq_false rfl)).trans hg99_11)
  have hg101_12 : g101 12 = .ref q17 := (congrFun eg101 12).trans ((va_up_ne _ _ (Nat.ne_of_beq_eq_false rfl)).trans hg99_12)
  have hg101_13 : g101 13 = .ref q19 := (congrFun eg101 13).trans ((va_up_ne _ _ (Nat.ne_of_beq_eq_false rfl)).trans hg99_13)
  have hg101_14 : g101 14 = .ref q21 := (congrFun eg101 14).trans ((va_up_ne _ _ (Nat.ne_of_beq_eq_false rfl)).trans hg99_14)
  have hg101_15 : g101 15 = .ref q23 := (congrFun eg101 15).trans ((va_up_ne _ _ (Nat.ne_of_beq_eq_false rfl)).trans hg99_15)
  have hg101_18 : g101 18 = .ref q13 := (congrFun eg101 18).trans ((va_up_ne _ _ (Nat.ne_of_beq_eq_false rfl)).trans hg99_18)
  have hg101_27 : g101 27 = .ref q26 := (congrFun eg101 27).trans ((va_up_ne _ _ (Nat.ne_of_beq_eq_false rfl)).trans hg99_27)
  have hg101_28 : g101 28 = .ref q28 := (congrFun eg101 28).trans ((va_up_ne _ _ (Nat.ne_of_beq_eq_false rfl)).trans hg99_28)
  have hg101_29 : g101 29 = .ref q30 := (congrFun eg101 29).trans ((va_up_ne _ _ (Nat.ne_of_beq_eq_false rfl)).trans hg99_29)
  have hg101_30 : g101 30 = .ref q32 := (congrFun eg101 30).trans ((va_up_ne _ _ (Nat.ne_of_beq_eq_false rfl)).trans hg99_30)
  have hg101_31 : g101 31 = .ref q34 := (congrFun eg101 31).trans ((va_up_ne _ _ (Nat.ne_of_beq_eq_false rfl)).trans hg99_31)
  have hg101_32 : g101 32 = .ref q36 := (congrFun eg101 32).trans ((va_up_ne _ _ (Nat.ne_of_beq_eq_false rfl)).trans hg99_32)
  have hg101_33 : g101 33 = .ref q38 := (congrFun eg101 33).trans ((va_up_ne _ _ (Nat.ne_of_beq_eq_false rfl)).trans hg99_33)
  have hg101_34 : g101 34 = .ref q40 := (congrFun eg101 34).trans ((va_up_ne _ _ (Nat.ne_of_beq_eq_false rfl)).trans hg99_34)
  have hg101_35 : g101 35 = .ref q42 := (congrFun eg101 35).trans ((va_up_ne _ _ (Nat.ne_of_beq_eq_false rfl)).trans hg99_35)
  have hg101_36 : g101 36 = .ref q44 := (congrFun eg101 36).trans ((va_up_ne _ _ (Nat.ne_of_beq_eq_false rfl)).trans hg99_36)
  have hg101_37 : g101 37 = .ref q46 := (congrFun eg101 37).trans ((va_up_ne _ _ (Nat.ne_of_beq_eq_false rfl)).trans hg99_37)
  have hg101_38 : g101 38 = .ref q48 := (congrFun eg101 38).trans ((va_up_ne _ _ (Nat.ne_of_beq_eq_false rfl)).trans hg99_38)
  have hg101_39 : g101 39 = .ref q50 := (congrFun eg101 39).trans ((va_up_ne _ _ (Nat.ne_of_beq_eq_false rfl)).trans hg99_39)
  have hg101_40 : g101 40 = .ref q52 := (congrFun eg101 40).trans ((va_up_ne _ _ (Nat.ne_of_beq_eq_false rfl)).trans hg99_40)
  have hg101_41 : g101 41 = .ref q54 := (congrFun eg101 41).trans ((va_up_ne _ _ (Nat.ne_of_beq_eq_false rfl)).trans hg99_41)
  have hg101_42 : g101 42 = .ref q56 := (congrFun eg101 42).trans ((va_up_ne _ _ (Nat.ne_of_beq_eq_false rfl)).trans hg99_42)
  have hg101_43 : g101 43 = .ref q58 := (congrFun eg101 43).trans ((va_up_ne _ _ (Nat.ne_of_beq_eq_false rfl)).trans hg99_43)
  have hg101_44 : g101 44 = .ref q60 := (congrFun eg101 44).trans ((va_up_ne _ _ (Nat.ne_of_beq_eq_false rfl)).trans hg99_44)
  have hg101_45 : g101 45 = .ref q62 := (congrFun eg101 45).trans ((va_up_ne _ _ (Nat.ne_of_beq_eq_false rfl)).trans hg99_45)
  have hg101_49 : g101 49 = .ref q64 := (congrFun eg101 49).trans ((va_up_ne _ _ (Nat.ne_of_beq_eq_false rfl)).trans hg99_49)
  have hg101_50 : g101 50 = .ref q66 := (congrFun eg101 50).trans ((va_up_ne _ _ (Nat.ne_of_beq_eq_false rfl)).trans hg99_50)
  have hg101_51 : g101 51 = .ref q68 := (congrFun eg101 51).trans ((va_up_ne _ _ (Nat.ne_of_beq_eq_false rfl)).trans hg99_51)
  have hg101_52 : g101 52 = .ref q70 := (congrFun eg101 52).trans ((va_up_ne _ _ (Nat.ne_of_beq_eq_false rfl)).trans hg99_52)
  have hg101_53 : g101 53 = .ref q72 := (congrFun eg101 53).trans ((va_up_ne _ _ (Nat.ne_of_beq_eq_false rfl)).trans hg99_53)
  have hg101_54 : g101 54 = .ref q74 := (congrFun eg101 54).trans ((va_up_ne _ _ (Nat.ne_of_beq_eq_false rfl)).trans hg99_54)
  have hg101_56 : g101 56 = .ref q76 := (congrFun eg101 56).trans ((va_up_ne _ _ (Nat.ne_of_beq_eq_false rfl)).trans hg99_56)
  have hg101_57 : g101 57 = .ref q78 := (congrFun eg101 57).trans ((va_up_ne _ _ (Nat.ne_of_beq_eq_false rfl)).trans hg99_57)
  have hg101_58 : g101 58 = .ref q80 := (congrFun eg101 58).trans ((va_up_ne _ _ (Nat.ne_of_beq_eq_false rfl)).trans hg99_58)
  have hg101_59 : g101 59 = .ref q82 := (congrFun eg101 59).trans ((va_up_ne _ _ (Nat.ne_of_beq_eq_false rfl)).trans hg99_59)
  have hg101_60 : g101 60 = .ref q84 := (congrFun eg101 60).trans ((va_up_ne _ _ (Nat.ne_of_beq_eq_false rfl)).trans hg99_60)
  have hg101_61 : g101 61 = .ref q86 := (congrFun eg101 61).trans ((va_up_ne _ _ (Nat.ne_of_beq_eq_false rfl)).trans hg99_61)
  have hg101_62 : g101 62 = .ref q88 := (congrFun eg101 62).trans ((va_up_ne _ _ (Nat.ne_of_beq_eq_false rfl)).trans hg99_62)
  have hg101_63 : g101 63 = .ref q90 := (congrFun eg101 63).trans ((va_up_ne _ _ (Nat.ne_of_beq_eq_false rfl)).trans hg99_63)
  have hg101_64 : g101 64 = .ref q92 := (congrFun eg101 64).trans ((va_up_ne _ _ (Nat.ne_of_beq_eq_false rfl)).trans hg99_64)
  have hg101_65 : g101 65 = .ref q94 := (congrFun eg101 65).trans ((va_up_ne _ _ (Nat.ne_of_beq_eq_false rfl)).trans hg99_65)
  have hg101_66 : g101 66 = .ref q96 := (congrFun eg101 66).trans ((va_up_ne _ _ (Nat.ne_of_beq_eq_false rfl)).trans hg99_66)
  have hg101_67 : g101 67 = .ref q98 := (congrFun eg101 67).trans ((va_up_ne _ _ (Nat.ne_of_beq_eq_false rfl)).trans hg99_67)
  clear hg99_0 hg99_1 hg99_8 hg99_9 hg99_16 hg99_17 hg99_19 hg99_20 hg99_21 hg99_22 hg99_23 hg99_24 hg99_25 hg99_26 hg99_46 hg99_47 hg99_48 hg99_55 hg99_74 hg99_75 hg99_86 hg99_87 hg99_88 hg99_89 hg99_95 hg99_2 hg99_3 hg99_4 hg99_5 hg99_6 hg99_7 hg99_10 hg99_11 hg99_12 hg99_13 hg99_14 hg99_15 hg99_18 hg99_27 hg99_28 hg99_29 hg99_30 hg99_31 hg99_32 hg99_33 hg99_34 hg99_35 hg99_36 hg99_37 hg99_38 hg99_39 hg99_40 hg99_41 hg99_42 hg99_43 hg99_44 hg99_45 hg99_49 hg99_50 hg99_51 hg99_52 hg99_53 hg99_54 hg99_56 hg99_57 hg99_58 hg99_59 hg99_60 hg99_61 hg99_62 hg99_63 hg99_64 hg99_65 hg99_66 hg99_67
  have hg101_68 : g101 68 = .ref q100 := by rw [eg101]; exact va_up_self _ _ _
  refine lv_aload_n hx hb dX13_init_433 rfl (lv_at hl 0 rfl) ?_
  refine lv_bipush (v := 60) hx hb dX13_init_434 (by decide) ?_
  refine va_newa (atype := .int) (ty := .int) (N' := 60) (a0 := (60, .inl (fun _ => (0 : Int32)))) hx hb (hts _ (vA_in _ _ (in_2 _ (List.mem_of_getElem? (i := 38) rfl)))) rfl hK hP hD hS hA (fun _ => rfl) (by decide) (by decide) (Nat.le_of_ble_eq_true rfl) (Nat.le_of_ble_eq_true rfl) (Nat.le_of_ble_eq_true rfl) dX13_init_436 (fun q102 kq102 H hK hP hD hS => ?_)
  have hK : va_K (dC, dI) vwCl [(kq1, .int), (kq13, .byte), (kq72, .boolean), (kq102, .int)] s := hK
  obtain ⟨wq102, ewq102⟩ : ∃ z : va_W, z = wq100 ++ [(q102, .inl (kq102, 60, .inl (fun _ => (0 : Int32))))] := ⟨_, rfl⟩
  replace hP : va_P (dC, dI) vwCl ((h, .inr (14, mL g101)) :: wq102) H := by rw [ewq102]; exact hP
  replace hD : va_D A ((h, .inr (14, mL g101)) :: wq102) := by rw [ewq102]; exact hD
  refine W.widen (k := 51) (n := 9258) (by omega) (by omega) ?_
  obtain rfl : kq1 = kq102 := ub_sa_int hK 0 3 rfl rfl
  have hK := hK.sub (tys' := [(kq1, .int), (kq13, .byte), (kq72, .boolean)]) [0, 1, 2] rfl
  refine va_putF (D := (dC, dI)) (ci := 14) (v := .ref q102) (ty := .array .int) (C := RX13) (T := TX13) (N := 97) hx hb hts (fun w h => vA_in _ w (in_X13 w h)) tyX13 tyX13_ok nmX13 hown hK hP hD hS 0 rfl rfl 69 (by decide) (hts _ (vA_in _ _ (in_28 _ (List.mem_of_getElem? (i := 6) rfl)))) (fun _ h9 => h9) rfl hin rfl (by decide +kernel) rfl rfl (mL_lt (Nat.le_of_ble_eq_true rfl)) dX13_init_438 (fun H locs hP hD hS => ?_)
  replace hP : va_P (dC, dI) vwCl ((h, .inr (14, (mL g101).set 69 (.ref q102))) :: wq102) H := hP
  replace hD : va_D A ((h, .inr (14, (mL g101).set 69 (.ref q102))) :: wq102) := hD
  obtain ⟨g103, eg103⟩ : ∃ z9, z9 = va_up g101 69 (.ref q102) := ⟨_, rfl⟩
  rw [mL_upd, ← eg103] at hP hD
  have hg103_0 : g103 0 = .int 0 := (congrFun eg103 0).trans ((va_up_ne _ _ (Nat.ne_of_beq_eq_false rfl)).trans hg101_0)
  have hg103_1 : g103 1 = .int 0 := (congrFun eg103 1).trans ((va_up_ne _ _ (Nat.ne_of_beq_eq_false rfl)).trans hg101_1)
  have hg103_8 : g103 8 = .int 0 := (congrFun eg103 8).trans ((va_up_ne _ _ (Nat.ne_of_beq_eq_false rfl)).trans hg101_8)
  have hg103_9 : g103 9 = .int 0 := (congrFun eg103 9).trans ((va_up_ne _ _ (Nat.ne_of_beq_eq_false rfl)).trans hg101_9)
  have hg103_16 : g103 16 = .int 0 := (congrFun eg103 16).trans ((va_up_ne _ _ (Nat.ne_of_beq_eq_false rfl)).trans hg101_16)
  have hg103_17 : g103 17 = .int 0 := (congrFun eg103 17).trans ((va_up_ne _ _ (Nat.ne_of_beq_eq_false rfl)).trans hg101_17)
  have hg103_19 : g103 19 = .int 0 := (congrFun eg103 19).trans ((va_up_ne _ _ (Nat.ne_of_beq_eq_false rfl)).trans hg101_19)
  have hg103_20 : g103 20 = .int 0 := (congrFun eg103 20).trans ((va_up_ne _ _ (Nat.ne_of_beq_eq_false rfl)).trans hg101_20)
  have hg103_21 : g103 21 = .int 0 := (congrFun eg103 21).trans ((va_up_ne _ _ (Nat.ne_of_beq_eq_false rfl)).trans hg101_21)
  have hg103_22 : g103 22 = .int 0 := (congrFun eg103 22).trans ((va_up_ne _ _ (Nat.ne_of_beq_eq_false rfl)).trans hg101_22)
  have hg103_23 : g103 23 = .int 0 := (congrFun eg103 23).trans ((va_up_ne _ _ (Nat.ne_of_beq_eq_false rfl)).trans hg101_23)
  have hg103_24 : g103 24 = .int 0 := (congrFun eg103 24).trans ((va_up_ne _ _ (Nat.ne_of_beq_eq_false rfl)).trans hg101_24)
  have hg103_25 : g103 25 = .int 0 := (congrFun eg103 25).trans ((va_up_ne _ _ (Nat.ne_of_beq_eq_false rfl)).trans hg101_25)
  have hg103_26 : g103 26 = .int 0 := (congrFun eg103 26).trans ((va_up_ne _ _ (Nat.ne_of_beq_eq_false rfl)).trans hg101_26)
  have hg103_46 : g103 46 = .int 0 := (congrFun eg103 46).trans ((va_up_ne _ _ (Nat.ne_of_beq_eq_false rfl)).trans hg101_46)
  have hg103_47 : g103 47 = .int 0 := (congrFun eg103 47).trans ((va_up_ne _ _ (Nat.ne_of_beq_eq_false rfl)).trans hg101_47)
  have hg103_48 : g103 48 = .int 0 := (congrFun eg103 48).trans ((va_up_ne _ _ (Nat.ne_of_beq_eq_false rfl)).trans hg101_48)
  have hg103_55 : g103 55 = .int 0 := (congrFun eg103 55).trans ((va_up_ne _ _ (Nat.ne_of_beq_eq_false rfl)).trans hg101_55)
  have hg103_74 : g103 74 = .int 0 := (congrFun eg103 74).trans ((va_up_ne _ _ (Nat.ne_of_beq_eq_false rfl)).trans hg101_74)
  have hg103_75 : g103 75 = .int 0 := (congrFun eg103 75).trans ((va_up_ne _ _ (Nat.ne_of_beq_eq_false rfl)).trans hg101_75)
  have hg103_86 : g103 86 = .int 0 := (congrFun eg103 86).trans ((va_up_ne _ _ (Nat.ne_of_beq_eq_false rfl)).trans hg101_86)
  have hg103_87 : g103 87 = .int 0 := (congrFun eg103 87).trans ((va_up_ne _ _ (Nat.ne_of_beq_eq_false rfl)).trans hg101_87)
  have hg103_88 : g103 88 = .int 0 := (congrFun eg103 88).trans ((va_up_ne _ _ (Nat.ne_of_beq_eq_false rfl)).trans hg101_88)
  have hg103_89 : g103 89 = .int 0 := (congrFun eg103 89).trans ((va_up_ne _ _ (Nat.ne_of_beq_eq_false rfl)).trans hg101_89)
  have hg103_95 : g103 95 = .int 0 := (congrFun eg103 95).trans ((va_up_ne _ _ (Nat.ne_of_beq_eq_false rfl)).trans hg101_95)
  have hg103_2 : g103 2 = .ref q1 := (congrFun eg103 2).trans ((va_up_ne _ _ (Nat.ne_of_beq_eq_false rfl)).trans hg101_2)
  have hg103_3 : g103 3 = .ref q3 := (congrFun eg103 3).trans ((va_up_ne _ _ (Nat.ne_of_beq_eq_false rfl)).trans hg101_3)
  have hg103_4 : g103 4 = .ref q5 := (congrFun eg103 4).trans ((va_up_ne _ _ (Nat.ne_of_beq_eq_false rfl)).trans hg101_4)
  have hg103_5 : g103 5 = .ref q7 := (congrFun eg103 5).trans ((va_up_ne _ _ (Nat.ne_of_beq_eq_false rfl)).trans hg101_5)
  have hg103_6 : g103 6 = .ref q9 := (congrFun eg103 6).trans ((va_up_ne _ _ (Nat.ne_of_beq_eq_false rfl)).trans hg101_6)
  have hg103_7 : g103 7 = .ref q11 := (congrFun eg103 7).trans ((va_up_ne _ _ (Nat.ne_of_beq_eq_false rfl)).trans hg101_7)
  have hg103_10 : g103 10 = .ref q13 := (congrFun eg103 10).trans ((va_up_ne _ _ (Nat.ne_of_beq_eq_false rfl)).trans hg101_10)
  have hg103_11 : g103 11 = .ref q15 := (congrFun eg103 11).trans ((va_up_ne _ _ (Nat.ne_of_beq_eq_false rfl)).trans hg101_11)
  have hg103_12 : g103 12 = .ref q17 := (congrFun eg103 12).trans ((va_up_ne _ _ (Nat.ne_of_beq_eq_false rfl)).trans hg101_12)
  have hg103_13 : g103 13 = .ref q19 := (congrFun eg103 13).trans ((va_up_ne _ _ (Nat.ne_of_beq_eq_false rfl)).trans hg101_13)
  have hg103_14 : g103 14 = .ref q21 := (congrFun eg103 14).trans ((va_up_ne _ _ (Nat.ne_of_beq_eq_false rfl)).trans hg101_14)
  have hg103_15 : g103 15 = .ref q23 := (congrFun eg103 15).trans ((va_up_ne _ _ (Nat.ne_of_beq_eq_false rfl)).trans hg101_15)
  have hg103_18 : g103 18 = .ref q13 := (congrFun eg103 18).trans ((va_up_ne _ _ (Nat.ne_of_beq_eq_false rfl)).trans hg101_18)
  have hg103_27 : g103 27 = .ref q26 := (congrFun eg103 27).trans ((va_up_ne _ _ (Nat.ne_of_beq_eq_false rfl)).trans hg101_27)
  have hg103_28 : g103 28 = .ref q28 := (congrFun eg103 28).trans ((va_up_ne _ _ (Nat.ne_of_beq_eq_false rfl)).trans hg101_28)
  have hg103_29 : g103 29 = .ref q30 := (congrFun eg103 29).trans ((va_up_ne _ _ (Nat.ne_of_beq_eq_false rfl)).trans hg101_29)
  have hg103_30 : g103 30 = .ref q32 := (congrFun eg103 30).trans ((va_up_ne _ _ (Nat.ne_of_beq_eq_false rfl)).trans hg101_30)
  have hg103_31 : g103 31 = .ref q34 := (congrFun eg103 31).trans ((va_up_ne _ _ (Nat.ne_of_beq_eq_false rfl)).trans hg101_31)
  have hg103_32 : g103 32 = .ref q36 := (congrFun eg103 32).trans ((va_up_ne _ _ (Nat.ne_of_beq_eq_false rfl)).trans hg101_32)
  have hg103_33 : g103 33 = .ref q38 := (congrFun eg103 33).trans ((va_up_ne _ _ (Nat.ne_of_beq_eq_false rfl)).trans hg101_33)
  have hg103_34 : g103 34 = .ref q40 := (congrFun eg103 34).trans ((va_up_ne _ _ (Nat.ne_of_beq_eq_false rfl)).trans hg101_34)
  have hg103_35 : g103 35 = .ref q42 := (congrFun eg103 35).trans ((va_up_ne _ _ (Nat.ne_of_beq_eq_false rfl)).trans hg101_35)
  have hg103_36 : g103 36 = .ref q44 := (congrFun eg103 36).trans ((va_up_ne _ _ (Nat.ne_of_beq_eq_false rfl)).trans hg101_36)
  have hg103_37 : g103 37 = .ref q46 := (congrFun eg103 37).trans ((va_up_ne _ _ (Nat.ne_of_beq_eq_false rfl)).trans hg101_37)
  have hg103_38 : g103 38 = .ref q48 := (congrFun eg103 38).trans ((va_up_ne _ _ (Nat.ne_of_beq_eq_false rfl)).trans hg101_38)
  have hg103_39 : g103 39 = .ref q50 := (congrFun eg103 39).trans ((va_up_ne _ _ (Nat.ne_of_beq_eq_false rfl)).trans hg101_39)
  have hg103_40 : g103 40 = .ref q52 := (congrFun eg103 40).trans ((va_up_ne _ _ (Nat.ne_of_beq_eq_false rfl)).trans hg101_40)
  have hg103_41 : g103 41 = .ref q54 := (congrFun eg103 41).trans ((va_up_ne _ _ (Nat.ne_of_beq_eq_false rfl)).trans hg101_41)
  have hg103_42 : g103 42 = .ref q56 := (congrFun eg103 42).trans ((va_up_ne _ _ (Nat.ne_of_beq_eq_false rfl)).trans hg101_42)
  have hg103_43 : g103 43 = .ref q58 := (congrFun eg103 43).trans ((va_up_ne _ _ (Nat.ne_of_beq_eq_false rfl)).trans hg101_43)
  have hg103_44 : g103 44 = .ref q60 := (congrFun eg103 44).trans ((va_up_ne _ _ (Nat.ne_of_beq_eq_false rfl)).trans hg101_44)
  have hg103_45 : g103 45 = .ref q62 := (congrFun eg103 45).trans ((va_up_ne _ _ (Nat.ne_of_beq_eq_false rfl)).trans hg101_45)
  have hg103_49 : g103 49 = .ref q64 := (congrFun eg103 49).trans ((va_up_ne _ _ (Nat.ne_of_beq_eq_false rfl)).trans hg101_49)
  have hg103_50 : g103 50 = .ref q66 := (congrFun eg103 50).trans ((va_up_ne _ _ (Nat.ne_of_beq_eq_false rfl)).trans hg101_50)
  have hg103_51 : g103 51 = .ref q68 := (congrFun eg103 51).trans ((va_up_ne _ _ (Nat.ne_of_beq_eq_false rfl)).trans hg101_51)
  have hg103_52 : g103 52 = .ref q70 := (congrFun eg103 52).trans ((va_up_ne _ _ (Nat.ne_of_beq_eq_false rfl)).trans hg101_52)
  have hg103_53 : g103 53 = .ref q72 := (congrFun eg103 53).trans ((va_up_ne _ _ (Nat.ne_of_beq_eq_false rfl)).trans hg101_53)
  have hg103_54 : g103 54 = .ref q74 := (congrFun eg103 54).trans ((va_up_ne _ _ (Nat.ne_of_beq_eq_false rfl)).trans hg101_54)
  have hg103_56 : g103 56 = .ref q76 := (congrFun eg103 56).trans ((va_up_ne _ _ (Nat.ne_of_beq_eq_false rfl)).trans hg101_56)
  have hg103_57 : g103 57 = .ref q78 := (congrFun eg103 57).trans ((va_up_ne _ _ (Nat.ne_of_beq_eq_false rfl)).trans hg101_57)
  have hg103_58 : g103 58 = .ref q80 := (congrFun eg103 58).trans ((va_up_ne _ _ (Nat.ne_of_beq_eq_false rfl)).trans hg101_58)
  have hg103_59 : g103 59 = .ref q82 := (congrFun eg103 59).trans ((va_up_ne _ _ (Nat.ne_of_beq_eq_false rfl)).trans hg101_59)
  have hg103_60 : g103 60 = .ref q84 := (congrFun eg103 60).trans ((va_up_ne _ _ (Nat.ne_of_beq_eq_false rfl)).trans hg101_60)
  have hg103_61 : g103 61 = .ref q86 := (congrFun eg103 61).trans ((va_up_ne _ _ (Nat.ne_of_beq_eq_false rfl)).trans hg101_61)
  have hg103_62 : g103 62 = .ref q88 := (congrFun eg103 62).trans ((va_up_ne _ _ (Nat.ne_of_beq_eq_false rfl)).trans hg101_62)
  have hg103_63 : g103 63 = .ref q90 := (congrFun eg103 63).trans ((va_up_ne _ _ (Nat.ne_of_beq_eq_false rfl)).trans hg101_63)
  have hg103_64 : g103 64 = .ref q92 := (congrFun eg103 64).trans ((va_up_ne _ _ (Nat.ne_of_beq_eq_false rfl)).trans hg101_64)
  have hg103_65 : g103 65 = .ref q94 := (congrFun eg103 65).trans ((va_up_ne _ _ (Nat.ne_of_beq_eq_false rfl)).trans hg101_65)
  have hg103_66 : g103 66 = .ref q96 := (congrFun eg103 66).trans ((va_up_ne _ _ (Nat.ne_of_beq_eq_false rfl)).trans hg101_66)
  have hg103_67 : g103 67 = .ref q98 := (congrFun eg103 67).trans ((va_up_ne _ _ (Nat.ne_of_beq_eq_false rfl)).trans hg101_67)
  have hg103_68 : g103 68 = .ref q100 := (congrFun eg103 68).trans ((va_up_ne _ _ (Nat.ne_of_beq_eq_false rfl)).trans hg101_68)
  clear hg101_0 hg101_1 hg101_8 hg101_9 hg101_16 hg101_17 hg101_19 hg101_20 hg101_21 hg101_22 hg101_23 hg101_24 hg101_25 hg101_26 hg101_46 hg101_47 hg101_48 hg101_55 hg101_74 hg101_75 hg101_86 hg101_87 hg101_88 hg101_89 hg101_95 hg101_2 hg101_3 hg101_4 hg101_5 hg101_6 hg101_7 hg101_10 hg101_11 hg101_12 hg101_13 hg101_14 hg101_15 hg101_18 hg101_27 hg101_28 hg101_29 hg101_30 hg101_31 hg101_32 hg101_33 hg101_34 hg101_35 hg101_36 hg101_37 hg101_38 hg101_39 hg101_40 hg101_41 hg101_42 hg101_43 hg101_44 hg101_45 hg101_49 hg101_50 hg101_51 hg101_52 hg101_53 hg101_54 hg101_56 hg101_57 hg101_58 hg101_59 hg101_60 hg101_61 hg101_62 hg101_63 hg101_64 hg101_65 hg101_66 hg101_67 hg101_68
  have hg103_69 : g103 69 = .ref q102 := by rw [eg103]; exact va_up_self _ _ _
  refine lv_aload_n hx hb dX13_init_441 rfl (lv_at hl 0 rfl) ?_
  refine lv_bipush (v := 60) hx hb dX13_init_442 (by decide) ?_
  refine va_newa (atype := .int) (ty := .int) (N' := 60) (a0 := (60, .inl (fun _ => (0 : Int32)))) hx hb (hts _ (vA_in _ _ (in_2 _ (List.mem_of_getElem? (i := 38) rfl)))) rfl hK hP hD hS hA (fun _ => rfl) (by decide) (by decide) (Nat.le_of_ble_eq_true rfl) (Nat.le_of_ble_eq_true rfl) (Nat.le_of_ble_eq_true rfl) dX13_init_444 (fun q104 kq104 H hK hP hD hS => ?_)
  have hK : va_K (dC, dI) vwCl [(kq1, .int), (kq13, .byte), (kq72, .boolean), (kq104, .int)] s := hK
  obtain ⟨wq104, ewq104⟩ : ∃ z : va_W, z = wq102 ++ [(q104, .inl (kq104, 60, .inl (fun _ => (0 : Int32))))] := ⟨_, rfl⟩
  replace hP : va_P (dC, dI) vwCl ((h, .inr (14, mL g103)) :: wq104) H := by rw [ewq104]; exact hP
  replace hD : va_D A ((h, .inr (14, mL g103)) :: wq104) := by rw [ewq104]; exact hD
  refine W.widen (k := 52) (n := 9318) (by omega) (by omega) ?_
  obtain rfl : kq1 = kq104 := ub_sa_int hK 0 3 rfl rfl
  have hK := hK.sub (tys' := [(kq1, .int), (kq13, .byte), (kq72, .boolean)]) [0, 1, 2] rfl
  refine va_putF (D := (dC, dI)) (ci := 14) (v := .ref q104) (ty := .array .int) (C := RX13) (T := TX13) (N := 97) hx hb hts (fun w h => vA_in _ w (in_X13 w h)) tyX13 tyX13_ok nmX13 hown hK hP hD hS 0 rfl rfl 70 (by decide) (hts _ (vA_in _ _ (in_28 _ (List.mem_of_getElem? (i := 7) rfl)))) (fun _ h9 => h9) rfl hin rfl (by decide +kernel) rfl rfl (mL_lt (Nat.le_of_ble_eq_true rfl)) dX13_init_446 (fun H locs hP hD hS => ?_)
  replace hP : va_P (dC, dI) vwCl ((h, .inr (14, (mL g103).set 70 (.ref q104))) :: wq104) H := hP
  replace hD : va_D A ((h, .inr (14, (mL g103).set 70 (.ref q104))) :: wq104) := hD
  obtain ⟨g105, eg105⟩ : ∃ z9, z9 = va_up g103 70 (.ref q104) := ⟨_, rfl⟩
  rw [mL_upd, ← eg105] at hP hD
  have hg105_0 : g105 0 = .int 0 := (congrFun eg105 0).trans ((va_up_ne _ _ (Nat.ne_of_beq_eq_false rfl)).trans hg103_0)
  have hg105_1 : g105 1 = .int 0 := (congrFun eg105 1).trans ((va_up_ne _ _ (Nat.ne_of_beq_eq_false rfl)).trans hg103_1)
  have hg105_8 : g105 8 = .int 0 := (congrFun eg105 8).trans ((va_up_ne _ _ (Nat.ne_of_beq_eq_false rfl)).trans hg103_8)
  have hg105_9 : g105 9 = .int 0 := (congrFun eg105 9).trans ((va_up_ne _ _ (Nat.ne_of_beq_eq_false rfl)).trans hg103_9)
  have hg105_16 : g105 16 = .int 0 := (congrFun eg105 16).trans ((va_up_ne _ _ (Nat.ne_of_beq_eq_false rfl)).trans hg103_16)
  have hg105_17 : g105 17 = .int 0 := (congrFun eg105 17).trans ((va_up_ne _ _ (Nat.ne_of_beq_eq_false rfl)).trans hg103_17)
  have hg105_19 : g105 19 = .int 0 := (congrFun eg105 19).trans ((va_up_ne _ _ (Nat.ne_of_beq_eq_false rfl)).trans hg103_19)
  have hg105_20 : g105 20 = .int 0 := (congrFun eg105 20).trans ((va_up_ne _ _ (Nat.ne_of_beq_eq_false rfl)).trans hg103_20)
  have hg105_21 : g105 21 = .int 0 := (congrFun eg105 21).trans ((va_up_ne _ _ (Nat.ne_of_beq_eq_false rfl)).trans hg103_21)
  have hg105_22 : g105 22 = .int 0 := (congrFun eg105 22).trans ((va_up_ne _ _ (Nat.ne_of_beq_eq_false rfl)).trans hg103_22)
  have hg105_23 : g105 23 = .int 0 := (congrFun eg105 23).trans ((va_up_ne _ _ (Nat.ne_of_beq_eq_false rfl)).trans hg103_23)
  have hg105_24 : g105 24 = .int 0 := (congrFun eg105 24).trans ((va_up_ne _ _ (Nat.ne_of_beq_eq_false rfl)).trans hg103_24)
  have hg105_25 : g105 25 = .int 0 := (congrFun eg105 25).trans ((va_up_ne _ _ (Nat.ne_of_beq_eq_false rfl)).trans hg103_25)
  have hg105_26 : g105 26 = .int 0 := (congrFun eg105 26).trans ((va_up_ne _ _ (Nat.ne_of_beq_eq_false rfl)).trans hg103_26)
  have hg105_46 : g105 46 = .int 0 := (congrFun eg105 46).trans ((va_up_ne _ _ (Nat.ne_of_beq_eq_false rfl)).trans hg103_46)
  have hg105_47 : g105 47 = .int 0 := (congrFun eg105 47).trans ((va_up_ne _ _ (Nat.ne_of_beq_eq_false rfl)).trans hg103_47)
  have hg105_48 : g105 48 = .int 0 := (congrFun eg105 48).trans ((va_up_ne _ _ (Nat.ne_of_beq_eq_false rfl)).trans hg103_48)
  have hg105_55 : g105 55 = .int 0 := (congrFun eg105 55).trans ((va_up_ne _ _ (Nat.ne_of_beq_eq_false rfl)).trans hg103_55)
  have hg105_74 : g105 74 = .int 0 := (congrFun eg105 74).trans ((va_up_ne _ _ (Nat.ne_of_beq_eq_false rfl)).trans hg103_74)
  have hg105_75 : g105 75 = .int 0 := (congrFun eg105 75).trans ((va_up_ne _ _ (Nat.ne_of_beq_eq_false rfl)).trans hg103_75)
  have hg105_86 : g105 86 = .int 0 := (congrFun eg105 86).trans ((va_up_ne _ _ (Nat.ne_of_beq_eq_false rfl)).trans hg103_86)
  have hg105_87 : g105 87 = .int 0 := (congrFun eg105 87).trans ((va_up_ne _ _ (Nat.ne_of_beq_eq_false rfl)).trans hg103_87)
  have hg105_88 : g105 88 = .int 0 := (congrFun eg105 88).trans ((va_up_ne _ _ (Nat.ne_of_beq_eq_false rfl)).trans hg103_88)
  have hg105_89 : g105 89 = .int 0 := (congrFun eg105 89).trans ((va_up_ne _ _ (Nat.ne_of_beq_eq_false rfl)).trans hg103_89)
  have hg105_95 : g105 95 = .int 0 := (congrFun eg105 95).trans ((va_up_ne _ _ (Nat.ne_of_beq_eq_false rfl)).trans hg103_95)
  have hg105_2 : g105 2 = .ref q1 := (congrFun eg105 2).trans ((va_up_ne _ _ (Nat.ne_of_beq_eq_false rfl)).trans hg103_2)
  have hg105_3 : g105 3 = .ref q3 := (congrFun eg105 3).trans ((va_up_ne _ _ (Nat.ne_of_beq_eq_false rfl)).trans hg103_3)
  have hg105_4 : g105 4 = .ref q5 := (congrFun eg105 4).trans ((va_up_ne _ _ (Nat.ne_of_beq_eq_false rfl)).trans hg103_4)
  have hg105_5 : g105 5 = .ref q7 := (congrFun eg105 5).trans ((va_up_ne _ _ (Nat.ne_of_beq_eq_false rfl)).trans hg103_5)
  have hg105_6 : g105 6 = .ref q9 := (congrFun eg105 6).trans ((va_up_ne _ _ (Nat.ne_of_beq_eq_false rfl)).trans hg103_6)
  have hg105_7 : g105 7 = .ref q11 := (congrFun eg105 7).trans ((va_up_ne _ _ (Nat.ne_of_beq_eq_false rfl)).trans hg103_7)
  have hg105_10 : g105 10 = .ref q13 := (congrFun eg105 10).trans ((va_up_ne _ _ (Nat.ne_of_beq_eq_false rfl)).trans hg103_10)
  have hg105_11 : g105 11 = .ref q15 := (congrFun eg105 11).trans ((va_up_ne _ _ (Nat.ne_of_beq_eq_false rfl)).trans hg103_11)
  have hg105_12 : g105 12 = .ref q17 := (congrFun eg105 12).trans ((va_up_ne _ _ (Nat.ne_of_beq_eq_false rfl)).trans hg103_12)
  have hg105_13 : g105 13 = .ref q19 := (congrFun eg105 13).trans ((va_up_ne _ _ (Nat.ne_of_beq_eq_false rfl)).trans hg103_13)
  have hg105_14 : g105 14 = .ref q21 := (congrFun eg105 14).trans ((va_up_ne _ _ (Nat.ne_of_beq_eq_false rfl)).trans hg103_14)
  have hg105_15 : g105 15 = .ref q23 := (congrFun eg105 15).trans ((va_up_ne _ _ (Nat.ne_of_beq_eq_false rfl)).trans hg103_15)
  have hg105_18 : g105 18 = .ref q13 := (congrFun eg105 18).trans ((va_up_ne _ _ (Nat.ne_of_beq_eq_false rfl)).trans hg103_18)
  have hg105_27 : g105 27 = .ref q26 := (congrFun eg105 27).trans ((va_up_ne _ _ (Nat.ne_of_beq_eq_false rfl)).trans hg103_27)
  have hg105_28 : g105 28 = .ref q28 := (congrFun eg105 28).trans ((va_up_ne _ _ (Nat.ne_of_beq_eq_false rfl)).trans hg103_28)
  have hg105_29 : g105 29 = .ref q30 := (congrFun eg105 29).trans ((va_up_ne _ _ (Nat.ne_of_beq_eq_false rfl)).trans hg103_29)
  have hg105_30 : g105 30 = .ref q32 := (congrFun eg105 30).trans ((va_up_ne _ _ (Nat.ne_of_beq_eq_false rfl)).trans hg103_30)
  have hg105_31 : g105 31 = .ref q34 := (congrFun eg105 31).trans ((va_up_ne _ _ (Nat.ne_of_beq_eq_false rfl)).trans hg103_31)
  have hg105_32 : g105 32 = .ref q36 := (congrFun eg105 32).trans ((va_up_ne _ _ (Nat.ne_of_beq_eq_false rfl)).trans hg103_32)
  have hg105_33 : g105 33 = .ref q38 := (congrFun eg105 33).trans ((va_up_ne _ _ (Nat.ne_of_beq_eq_false rfl)).trans hg103_33)
  have hg105_34 : g105 34 = .ref q40 := (congrFun eg105 34).trans ((va_up_ne _ _ (Nat.ne_of_beq_eq_false rfl)).trans hg103_34)
  have hg105_35 : g105 35 = .ref q42 := (congrFun eg105 35).trans ((va_up_ne _ _ (Nat.ne_of_beq_eq_false rfl)).trans hg103_35)
  have hg105_36 : g105 36 = .ref q44 := (congrFun eg105 36).trans ((va_up_ne _ _ (Nat.ne_of_beq_eq_false rfl)).trans hg103_36)
  have hg105_37 : g105 37 = .ref q46 := (congrFun eg105 37).trans ((va_up_ne _ _ (Nat.ne_of_beq_eq_false rfl)).trans hg103_37)
  have hg105_38 : g105 38 = .ref q48 := (congrFun eg105 38).trans ((va_up_ne _ _ (Nat.ne_of_beq_eq_false rfl)).trans hg103_38)
  have hg105_39 : g105 39 = .ref q50 := (congrFun eg105 39).trans ((va_up_ne _ _ (Nat.ne_of_beq_eq_false rfl)).trans hg103_39)
  have hg105_40 : g105 40 = .ref q52 := (congrFun eg105 40).trans ((va_up_ne _ _ (Nat.ne_of_beq_eq_false rfl)).trans hg103_40)
  have hg105_41 : g105 41 = .ref q54 := (congrFun eg105 41).trans ((va_up_ne _ _ (Nat.ne_of_beq_eq_false rfl)).trans hg103_41)
  have hg105_42 : g105 42 = .ref q56 := (congrFun eg105 42).trans ((va_up_ne _ _ (Nat.ne_of_beq_eq_false rfl)).trans hg103_42)
  have hg105_43 : g105 43 = .ref q58 := (congrFun eg105 43).trans ((va_up_ne _ _ (Nat.ne_of_beq_eq_false rfl)).trans hg103_43)
  have hg105_44 : g105 44 = .ref q60 := (congrFun eg105 44).trans ((va_up_ne _ _ (Nat.ne_of_beq_eq_false rfl)).trans hg103_44)
  have hg105_45 : g105 45 = .ref q62 := (congrFun eg105 45).trans ((va_up_ne _ _ (Nat.ne_of_beq_eq_false rfl)).trans hg103_45)
  have hg105_49 : g105 49 = .ref q64 := (congrFun eg105 49).trans ((va_up_ne _ _ (Nat.ne_of_beq_eq_false rfl)).trans hg103_49)
  have hg105_50 : g105 50 = .ref q66 := (congrFun eg105 50).trans ((va_up_ne _ _ (Nat.ne_of_beq_eq_false rfl)).trans hg103_50)
  have hg105_51 : g105 51 = .ref q68 := (congrFun eg105 51).trans ((va_up_ne _ _ (Nat.ne_of_beq_eq_false rfl)).trans hg103_51)
  have hg105_52 : g105 52 = .ref q70 := (congrFun eg105 52).trans ((va_up_ne _ _ (Nat.ne_of_beq_eq_false rfl)).trans hg103_52)
  have hg105_53 : g105 53 = .ref q72 := (congrFun eg105 53).trans ((va_up_ne _ _ (Nat.ne_of_beq_eq_false rfl)).trans hg103_53)
  have hg105_54 : g105 54 = .ref q74 := (congrFun eg105 54).trans ((va_up_ne _ _ (Nat.ne_of_beq_eq_false rfl)).trans hg103_54)
  have hg105_56 : g105 56 = .ref q76 := (congrFun eg105 56).trans ((va_up_ne _ _ (Nat.ne_of_beq_eq_false rfl)).trans hg103_56)
  have hg105_57 : g105 57 = .ref q78 := (congrFun eg105 57).trans ((va_up_ne _ _ (Nat.ne_of_beq_eq_false rfl)).trans hg103_57)
  have hg105_58 : g105 58 = .ref q80 := (congrFun eg105 58).trans ((va_up_ne _ _ (Nat.ne_of_beq_eq_false rfl)).trans hg103_58)
  have hg105_59 : g105 59 = .ref q82 := (congrFun eg105 59).trans ((va_up_ne _ _ (Nat.ne_of_beq_eq_false rfl)).trans hg103_59)
  have hg105_60 : g105 60 = .ref q84 := (congrFun eg105 60).trans ((va_up_ne _ _ (Nat.ne_of_beq_eq_false rfl)).trans hg103_60)
  have hg105_61 : g105 61 = .ref q86 := (congrFun eg105 61).trans ((va_up_ne _ _ (Nat.ne_of_beq_eq_false rfl)).trans hg103_61)
  have hg105_62 : g105 62 = .ref q88 := (congrFun eg105 62).trans ((va_up_ne _ _ (Nat.ne_of_beq_eq_false rfl)).trans hg103_62)
  have hg105_63 : g105 63 = .ref q90 := (congrFun eg105 63).trans ((va_up_ne _ _ (Nat.ne_of_beq_eq_false rfl)).trans hg103_63)
  have hg105_64 : g105 64 = .ref q92 := (congrFun eg105 64).trans ((va_up_ne _ _ (Nat.ne_of_beq_eq_false rfl)).trans hg103_64)
  have hg105_65 : g105 65 = .ref q94 := (congrFun eg105 65).trans ((va_up_ne _ _ (Nat.ne_of_beq_eq_false rfl)).trans hg103_65)
  have hg105_66 : g105 66 = .ref q96 := (congrFun eg105 66).trans ((va_up_ne _ _ (Nat.ne_of_beq_eq_false rfl)).trans hg103_66)
  have hg105_67 : g105 67 = .ref q98 := (congrFun eg105 67).trans ((va_up_ne _ _ (Nat.ne_of_beq_eq_false rfl)).trans hg103_67)
  have hg105_68 : g105 68 = .ref q100 := (congrFun eg105 68).trans ((va_up_ne _ _ (Nat.ne_of_beq_eq_false rfl)).trans hg103_68)
  have hg105_69 : g105 69 = .ref q102 := (congrFun eg105 69).trans ((va_up_ne _ _ (Nat.ne_of_beq_eq_false rfl)).trans hg103_69)
  clear hg103_0 hg103_1 hg103_8 hg103_9 hg103_16 hg103_17 hg103_19 hg103_20 hg103_21 hg103_22 hg103_23 hg103_24 hg103_25 hg103_26 hg103_46 hg103_47 hg103_48 hg103_55 hg103_74 hg103_75 hg103_86 hg103_87 hg103_88 hg103_89 hg103_95 hg103_2 hg103_3 hg103_4 hg103_5 hg103_6 hg103_7 hg103_10 hg103_11 hg103_12 hg103_13 hg103_14 hg103_15 hg103_18 hg103_27 hg103_28 hg103_29 hg103_30 hg103_31 hg103_32 hg103_33 hg103_34 hg103_35 hg103_36 hg103_37 hg103_38 hg103_39 hg103_40 hg103_41 hg103_42 hg103_43 hg103_44 hg103_45 hg103_49 hg103_50 hg103_51 hg103_52 hg103_53 hg103_54 hg103_56 hg103_57 hg103_58 hg103_59 hg103_60 hg103_61 hg103_62 hg103_63 hg103_64 hg103_65 hg103_66 hg103_67 hg103_68 hg103_69
  have hg105_70 : g105 70 = .ref q104 := by rw [eg105]; exact va_up_self _ _ _
  refine lv_aload_n hx hb dX13_init_449 rfl (lv_at hl 0 rfl) ?_
  refine lv_bipush (v := 60) hx hb dX13_init_450 (by decide) ?_
  refine va_newa (atype := .int) (ty := .int) (N' := 60) (a0 := (60, .inl (fun _ => (0 : Int32)))) hx hb (hts _ (vA_in _ _ (in_2 _ (List.mem_of_getElem? (i := 38) rfl)))) rfl hK hP hD hS hA (fun _ => rfl) (by decide) (by decide) (Nat.le_of_ble_eq_true rfl) (Nat.le_of_ble_eq_true rfl) (Nat.le_of_ble_eq_true rfl) dX13_init_452 (fun q106 kq106 H hK hP hD hS => ?_)
  have hK : va_K (dC, dI) vwCl [(kq1, .int), (kq13, .byte), (kq72, .boolean), (kq106, .int)] s := hK
  obtain ⟨wq106, ewq106⟩ : ∃ z : va_W, z = wq104 ++ [(q106, .inl (kq106, 60, .inl (fun _ => (0 : Int32))))] := ⟨_, rfl⟩
  replace hP : va_P (dC, dI) vwCl ((h, .inr (14, mL g105)) :: wq106) H := by rw [ewq106]; exact hP
  replace hD : va_D A ((h, .inr (14, mL g105)) :: wq106) := by rw [ewq106]; exact hD
  refine W.widen (k := 53) (n := 9378) (by omega) (by omega) ?_
  obtain rfl : kq1 = kq106 := ub_sa_int hK 0 3 rfl rfl
  have hK := hK.sub (tys' := [(kq1, .int), (kq13, .byte), (kq72, .boolean)]) [0, 1, 2] rfl
  refine va_putF (D := (dC, dI)) (ci := 14) (v := .ref q106) (ty := .array .int) (C := RX13) (T := TX13) (N := 97) hx hb hts (fun w h => vA_in _ w (in_X13 w h)) tyX13 tyX13_ok nmX13 hown hK hP hD hS 0 rfl rfl 71 (by decide) (hts _ (vA_in _ _ (in_28 _ (List.mem_of_getElem? (i := 8) rfl)))) (fun _ h9 => h9) rfl hin rfl (by decide +kernel) rfl rfl (mL_lt (Nat.le_of_ble_eq_true rfl)) dX13_init_454 (fun H locs hP hD hS => ?_)
  replace hP : va_P (dC, dI) vwCl ((h, .inr (14, (mL g105).set 71 (.ref q106))) :: wq106) H := hP
  replace hD : va_D A ((h, .inr (14, (mL g105).set 71 (.ref q106))) :: wq106) := hD
  obtain ⟨g107, eg107⟩ : ∃ z9, z9 = va_up g105 71 (.ref q106) := ⟨_, rfl⟩
  rw [mL_upd, ← eg107] at hP hD
  have hg107_0 : g107 0 = .int 0 := (congrFun eg107 0).trans ((va_up_ne _ _ (Nat.ne_of_beq_eq_false rfl)).trans hg105_0)
  have hg107_1 : g107 1 = .int 0 := (congrFun eg107 1).trans ((va_up_ne _ _ (Nat.ne_of_beq_eq_false rfl)).trans hg105_1)
  have hg107_8 : g107 8 = .int 0 := (congrFun eg107 8).trans ((va_up_ne _ _ (Nat.ne_of_beq_eq_false rfl)).trans hg105_8)
  have hg107_9 : g107 9 = .int 0 := (congrFun eg107 9).trans ((va_up_ne _ _ (Nat.ne_of_beq_eq_false rfl)).trans hg105_9)
  have hg107_16 : g107 16 = .int 0 := (congrFun eg107 16).trans ((va_up_ne _ _ (Nat.ne_of_beq_eq_false rfl)).trans hg105_16)
  have hg107_17 : g107 17 = .int 0 := (congrFun eg107 17).trans ((va_up_ne _ _ (Nat.ne_of_beq_eq_false rfl)).trans hg105_17)
  have hg107_19 : g107 19 = .int 0 := (congrFun eg107 19).trans ((va_up_ne _ _ (Nat.ne_of_beq_eq_false rfl)).trans hg105_19)
  have hg107_20 : g107 20 = .int 0 := (congrFun eg107 20).trans ((va_up_ne _ _ (Nat.ne_of_beq_eq_false rfl)).trans hg105_20)
  have hg107_21 : g107 21 = .int 0 := (congrFun eg107 21).trans ((va_up_ne _ _ (Nat.ne_of_beq_eq_false rfl)).trans hg105_21)
  have hg107_22 : g107 22 = .int 0 := (congrFun eg107 22).trans ((va_up_ne _ _ (Nat.ne_of_beq_eq_false rfl)).trans hg105_22)
  have hg107_23 : g107 23 = .int 0 := (congrFun eg107 23).trans ((va_up_ne _ _ (Nat.ne_of_beq_eq_false rfl)).trans hg105_23)
  have hg107_24 : g107 24 = .int 0 := (congrFun eg107 24).trans ((va_up_ne _ _ (Nat.ne_of_beq_eq_false rfl)).trans hg105_24)
  have hg107_25 : g107 25 = .int 0 := (congrFun eg107 25).trans ((va_up_ne _ _ (Nat.ne_of_beq_eq_false rfl)).trans hg105_25)
  have hg107_26 : g107 26 = .int 0 := (congrFun eg107 26).trans ((va_up_ne _ _ (Nat.ne_of_beq_eq_false rfl)).trans hg105_26)
  have hg107_46 : g107 46 = .int 0 := (congrFun eg107 46).trans ((va_up_ne _ _ (Nat.ne_of_beq_eq_false rfl)).trans hg105_46)
  have hg107_47 : g107 47 = .int 0 := (congrFun eg107 47).trans ((va_up_ne _ _ (Nat.ne_of_beq_eq_false rfl)).trans hg105_47)
  have hg107_48 : g107 48 = .int 0 := (congrFun eg107 48).trans ((va_up_ne _ _ (Nat.ne_of_beq_eq_false rfl)).trans hg105_48)
  have hg107_55 : g107 55 = .int 0 := (congrFun eg107 55).trans ((va_up_ne _ _ (Nat.ne_of_beq_eq_false rfl)).trans hg105_55)
  have hg107_74 : g107 74 = .int 0 := (congrFun eg107 74).trans ((va_up_ne _ _ (Nat.ne_of_beq_eq_false rfl)).trans hg105_74)
  have hg107_75 : g107 75 = .int 0 := (congrFun eg107 75).trans ((va_up_ne _ _ (Nat.ne_of_beq_eq_false rfl)).trans hg105_75)
  have hg107_86 : g107 86 = .int 0 := (congrFun eg107 86).trans ((va_up_ne _ _ (Nat.ne_of_beq_eq_false rfl)).trans hg105_86)
  have hg107_87 : g107 87 = .int 0 := (congrFun eg107 87).trans ((va_up_ne _ _ (Nat.ne_of_beq_eq_false rfl)).trans hg105_87)
  have hg107_88 : g107 88 = .int 0 := (congrFun eg107 88).trans ((va_up_ne _ _ (Nat.ne_of_beq_eq_false rfl)).trans hg105_88)
  have hg107_89 : g107 89 = .int 0 := (congrFun eg107 89).trans ((va_up_ne _ _ (Nat.ne_of_beq_eq_false rfl)).trans hg105_89)
  have hg107_95 : g107 95 = .int 0 := (congrFun eg107 95).trans ((va_up_ne _ _ (Nat.ne_of_beq_eq_false rfl)).trans hg105_95)
  have hg107_2 : g107 2 = .ref q1 := (congrFun eg107 2).trans ((va_up_ne _ _ (Nat.ne_of_beq_eq_false rfl)).trans hg105_2)
  have hg107_3 : g107 3 = .ref q3 := (congrFun eg107 3).trans ((va_up_ne _ _ (Nat.ne_of_beq_eq_false rfl)).trans hg105_3)
  have hg107_4 : g107 4 = .ref q5 := (congrFun eg107 4).trans ((va_up_ne _ _ (Nat.ne_of_beq_eq_false rfl)).trans hg105_4)
  have hg107_5 : g107 5 = .ref q7 := (congrFun eg107 5).trans ((va_up_ne _ _ (Nat.ne_of_beq_eq_false rfl)).trans hg105_5)
  have hg107_6 : g107 6 = .ref q9 := (congrFun eg107 6).trans ((va_up_ne _ _ (Nat.ne_of_beq_eq_false rfl)).trans hg105_6)
  have hg107_7 : g107 7 = .ref q11 := (congrFun eg107 7).trans ((va_up_ne _ _ (Nat.ne_of_beq_eq_false rfl)).trans hg105_7)
  have hg107_10 : g107 10 = .ref q13 := (congrFun eg107 10).trans ((va_up_ne _ _ (Nat.ne_of_beq_eq_false rfl)).trans hg105_10)
  have hg107_11 : g107 11 = .ref q15 := (congrFun eg107 11).trans ((va_up_ne _ _ (Nat.ne_of_beq_eq_false rfl)).trans hg105_11)
  have hg107_12 : g107 12 = .ref q17 := (congrFun eg107 12).trans ((va_up_ne _ _ (Nat.ne_of_beq_eq_false rfl)).trans hg105_12)
  have hg107_13 : g107 13 = .ref q19 := (congrFun eg107 13).trans ((va_up_ne _ _ (Nat.ne_of_beq_eq_false rfl)).trans hg105_13)
  have hg107_14 : g107 14 = .ref q21 := (congrFun eg107 14).trans ((va_up_ne _ _ (Nat.ne_of_beq_eq_false rfl)).trans hg105_14)
  have hg107_15 : g107 15 = .ref q23 := (congrFun eg107 15).trans ((va_up_ne _ _ (Nat.ne_of_beq_eq_false rfl)).trans hg105_15)
  have hg107_18 : g107 18 = .ref q13 := (congrFun eg107 18).trans ((va_up_ne _ _ (Nat.ne_of_beq_eq_false rfl)).trans hg105_18)
  have hg107_27 : g107 27 = .ref q26 := (congrFun eg107 27).trans ((va_up_ne _ _ (Nat.ne_of_beq_eq_false rfl)).trans hg105_27)
  have hg107_28 : g107 28 = .ref q28 := (congrFun eg107 28).trans ((va_up_ne _ _ (Nat.ne_of_beq_eq_false rfl)).trans hg105_28)
  have hg107_29 : g107 29 = .ref q30 := (congrFun eg107 29).trans ((va_up_ne _ _ (Nat.ne_of_beq_eq_false rfl)).trans hg105_29)
  have hg107_30 : g107 30 = .ref q32 := (congrFun eg107 30).trans ((va_up_ne _ _ (Nat.ne_of_beq_eq_false rfl)).trans hg105_30)
  have hg107_31 : g107 31 = .ref q34 := (congrFun eg107 31).trans ((va_up_ne _ _ (Nat.ne_of_beq_eq_false rfl)).trans hg105_31)
  have hg107_32 : g107 32 = .ref q36 := (congrFun eg107 32).trans ((va_up_ne _ _ (Nat.ne_of_beq_eq_false rfl)).trans hg105_32)
  have hg107_33 : g107 33 = .ref q38 := (congrFun eg107 33).trans ((va_up_ne _ _ (Nat.ne_of_beq_eq_false rfl)).trans hg105_33)
  have hg107_34 : g107 34 = .ref q40 := (congrFun eg107 34).trans ((va_up_ne _ _ (Nat.ne_of_beq_eq_false rfl)).trans hg105_34)
  have hg107_35 : g107 35 = .ref q42 := (congrFun eg107 35).trans ((va_up_ne _ _ (Nat.ne_of_beq_eq_false rfl)).trans hg105_35)
  have hg107_36 : g107 36 = .ref q44 := (congrFun eg107 36).trans ((va_up_ne _ _ (Nat.ne_of_beq_eq_false rfl)).trans hg105_36)
  have hg107_37 : g107 37 = .ref q46 := (congrFun eg107 37).trans ((va_up_ne _ _ (Nat.ne_of_beq_eq_false rfl)).trans hg105_37)
  have hg107_38 : g107 38 = .ref q48 := (congrFun eg107 38).trans ((va_up_ne _ _ (Nat.ne_of_beq_eq_false rfl)).trans hg105_38)
  have hg107_39 : g107 39 = .ref q50 := (congrFun eg107 39).trans ((va_up_ne _ _ (Nat.ne_of_beq_eq_false rfl)).trans hg105_39)
  have hg107_40 : g107 40 = .ref q52 := (congrFun eg107 40).trans ((va_up_ne _ _ (Nat.ne_of_beq_eq_false rfl)).trans hg105_40)
  have hg107_41 : g107 41 = .ref q54 := (congrFun eg107 41).trans ((va_up_ne _ _ (Nat.ne_of_beq_eq_false rfl)).trans hg105_41)
  have hg107_42 : g107 42 = .ref q56 := (congrFun eg107 42).trans ((va_up_ne _ _ (Nat.ne_of_beq_eq_false rfl)).trans hg105_42)
  have hg107_43 : g107 43 = .ref q58 := (congrFun eg107 43).trans ((va_up_ne _ _ (Nat.ne_of_beq_eq_false rfl)).trans hg105_43)
  have hg107_44 : g107 44 = .ref q60 := (congrFun eg107 44).trans ((va_up_ne _ _ (Nat.ne_of_beq_eq_false rfl)).trans hg105_44)
  have hg107_45 : g107 45 = .ref q62 := (congrFun eg107 45).trans ((va_up_ne _ _ (Nat.ne_of_beq_eq_false rfl)).trans hg105_45)
  have hg107_49 : g107 49 = .ref q64 := (congrFun eg107 49).trans ((va_up_ne _ _ (Nat.ne_of_beq_eq_false rfl)).trans hg105_49)
  have hg107_50 : g107 50 = .ref q66 := (congrFun eg107 50).trans ((va_up_ne _ _ (Nat.ne_of_beq_eq_false rfl)).trans hg105_50)
  have hg107_51 : g107 51 = .ref q68 := (congrFun eg107 51).trans ((va_up_ne _ _ (Nat.ne_of_beq_eq_false rfl)).trans hg105_51)
  have hg107_52 : g107 52 = .ref q70 := (congrFun eg107 52).trans ((va_up_ne _ _ (Nat.ne_of_beq_eq_false rfl)).trans hg105_52)
  have hg107_53 : g107 53 = .ref q72 := (congrFun eg107 53).trans ((va_up_ne _ _ (Nat.ne_of_beq_eq_false rfl)).trans hg105_53)
  have hg107_54 : g107 54 = .ref q74 := (congrFun eg107 54).trans ((va_up_ne _ _ (Nat.ne_of_beq_eq_false rfl)).trans hg105_54)
  have hg107_56 : g107 56 = .ref q76 := (congrFun eg107 56).trans ((va_up_ne _ _ (Nat.ne_of_beq_eq_false rfl)).trans hg105_56)
  have hg107_57 : g107 57 = .ref q78 := (congrFun eg107 57).trans ((va_up_ne _ _ (Nat.ne_of_beq_eq_false rfl)).trans hg105_57)
  have hg107_58 : g107 58 = .ref q80 := (congrFun eg107 58).trans ((va_up_ne _ _ (Nat.ne_of_beq_eq_false rfl)).trans hg105_58)
  have hg107_59 : g107 59 = .ref q82 := (congrFun eg107 59).trans ((va_up_ne _ _ (Nat.ne_of_beq_eq_false rfl)).trans hg105_59)
  have hg107_60 : g107 60 = .ref q84 := (congrFun eg107 60).trans ((va_up_ne _ _ (Nat.ne_of_beq_eq_false rfl)).trans hg105_60)
  have hg107_61 : g107 61 = .ref q86 := (congrFun eg107 61).trans ((va_up_ne _ _ (Nat.ne_of_beq_eq_false rfl)).trans hg105_61)
  have hg107_62 : g107 62 = .ref q88 := (congrFun eg107 62).trans ((va_up_ne _ _ (Nat.ne_of_beq_eq_false rfl)).trans hg105_62)
  have hg107_63 : g107 63 = .ref q90 := (congrFun eg107 63).trans ((va_up_ne _ _ (Nat.ne_of_beq_eq_false rfl)).trans hg105_63)
  have hg107_64 : g107 64 = .ref q92 := (congrFun eg107 64).trans ((va_up_ne _ _ (Nat.ne_of_beq_eq_false rfl)).trans hg105_64)
  have hg107_65 : g107 65 = .ref q94 := (congrFun eg107 65).trans ((va_up_ne _ _ (Nat.ne_of_beq_eq_false rfl)).trans hg105_65)
  have hg107_66 : g107 66 = .ref q96 := (congrFun eg107 66).trans ((va_up_ne _ _ (Nat.ne_of_beq_eq_false rfl)).trans hg105_66)
  have hg107_67 : g107 67 = .ref q98 := (congrFun eg107 67).trans ((va_up_ne _ _ (Nat.ne_of_beq_eq_false rfl)).trans hg105_67)
  have hg107_68 : g107 68 = .ref q100 := (congrFun eg107 68).trans ((va_up_ne _ _ (Nat.ne_of_beq_eq_false rfl)).trans hg105_68)
  have hg107_69 : g107 69 = .ref q102 := (congrFun eg107 69).trans ((va_up_ne _ _ (Nat.ne_of_beq_eq_false rfl)).trans hg105_69)
  have hg107_70 : g107 70 = .ref q104 := (congrFun eg107 70).trans ((va_up_ne _ _ (Nat.ne_of_beq_eq_false rfl)).trans hg105_70)
  clear hg105_0 hg105_1 hg105_8 hg105_9 hg105_16 hg105_17 hg105_19 hg105_20 hg105_21 hg105_22 hg105_23 hg105_24 hg105_25 hg105_26 hg105_46 hg105_47 hg105_48 hg105_55 hg105_74 hg105_75 hg105_86 hg105_87 hg105_88 hg105_89 hg105_95 hg105_2 hg105_3 hg105_4 hg105_5 hg105_6 hg105_7 hg105_10 hg105_11 hg105_12 hg105_13 hg105_14 hg105_15 hg105_18 hg105_27 hg105_28 hg105_29 hg105_30 hg105_31 hg105_32 hg105_33 hg105_34 hg105_35 hg105_36 hg105_37 hg105_38 hg105_39 hg105_40 hg105_41 hg105_42 hg105_43 hg105_44 hg105_45 hg105_49 hg105_50 hg105_51 hg105_52 hg105_53 hg105_54 hg105_56 hg105_57 hg105_58 hg105_59 hg105_60 hg105_61 hg105_62 hg105_63 hg105_64 hg105_65 hg105_66 hg105_67 hg105_68 hg105_69 hg105_70
  have hg107_71 : g107 71 = .ref q106 := by rw [eg107]; exact va_up_self _ _ _
  refine lv_aload_n hx hb dX13_init_457 rfl (lv_at hl 0 rfl) ?_
  refine lv_bipush (v := 30) hx hb dX13_init_458 (by decide) ?_
  refine va_newa (atype := .int) (ty := .int) (N' := 30) (a0 := (30, .inl (fun _ => (0 : Int32)))) hx hb (hts _ (vA_in _ _ (in_2 _ (List.mem_of_getElem? (i := 38) rfl)))) rfl hK hP hD hS hA (fun _ => rfl) (by decide) (by decide) (Nat.le_of_ble_eq_true rfl) (Nat.le_of_ble_eq_true rfl) (Nat.le_of_ble_eq_true rfl) dX13_init_460 (fun q108 kq108 H hK hP hD hS => ?_)
  have hK : va_K (dC, dI) vwCl [(kq1, .int), (kq13, .byte), (kq72, .boolean), (kq108, .int)] s := hK
  obtain ⟨wq108, ewq108⟩ : ∃ z : va_W, z = wq106 ++ [(q108, .inl (kq108, 30, .inl (fun _ => (0 : Int32))))] := ⟨_, rfl⟩
  replace hP : va_P (dC, dI) vwCl ((h, .inr (14, mL g107)) :: wq108) H := by rw [ewq108]; exact hP
  replace hD : va_D A ((h, .inr (14, mL g107)) :: wq108) := by rw [ewq108]; exact hD
  refine W.widen (k := 54) (n := 9408) (by omega) (by omega) ?_
  obtain rfl : kq1 = kq108 := ub_sa_int hK 0 3 rfl rfl
  have hK := hK.sub (tys' := [(kq1, .int), (kq13, .byte), (kq72, .boolean)]) [0, 1, 2] rfl
  refine va_putF (D := (dC, dI)) (ci := 14) (v := .ref q108) (ty := .array .int) (C := RX13) (T := TX13) (N := 97) hx hb hts (fun w h => vA_in _ w (in_X13 w h)) tyX13 tyX13_ok nmX13 hown hK hP hD hS 0 rfl rfl 72 (by decide) (hts _ (vA_in _ _ (in_28 _ (List.mem_of_getElem? (i := 5) rfl)))) (fun _ h9 => h9) rfl hin rfl (by decide +kernel) rfl rfl (mL_lt (Nat.le_of_ble_eq_true rfl)) dX13_init_462 (fun H locs hP hD hS => ?_)
  replace hP : va_P (dC, dI) vwCl ((h, .inr (14, (mL g107).set 72 (.ref q108))) :: wq108) H := hP
  replace hD : va_D A ((h, .inr (14, (mL g107).set 72 (.ref q108))) :: wq108) := hD
  obtain ⟨g109, eg109⟩ : ∃ z9, z9 = va_up g107 72 (.ref q108) := ⟨_, rfl⟩
  rw [mL_upd, ← eg109] at hP hD
  have hg109_0 : g109 0 = .int 0 := (congrFun eg109 0).trans ((va_up_ne _ _ (Nat.ne_of_beq_eq_false rfl)).trans hg107_0)
  have hg109_1 : g109 1 = .int 0 := (congrFun eg109 1).trans ((va_up_ne _ _ (Nat.ne_of_beq_eq_false rfl)).trans hg107_1)
  have hg109_8 : g109 8 = .int 0 := (congrFun eg109 8).trans ((va_up_ne _ _ (Nat.ne_of_beq_eq_false rfl)).trans hg107_8)
  have hg109_9 : g109 9 = .int 0 := (congrFun eg109 9).trans ((va_up_ne _ _ (Nat.ne_of_beq_eq_false rfl)).trans hg107_9)
  have hg109_16 : g109 16 = .int 0 := (congrFun eg109 16).trans ((va_up_ne _ _ (Nat.ne_of_beq_eq_false rfl)).trans hg107_16)
  have hg109_17 : g109 17 = .int 0 := (congrFun eg109 17).trans ((va_up_ne _ _ (Nat.ne_of_beq_eq_false rfl)).trans hg107_17)
  have hg109_19 : g109 19 = .int 0 := (congrFun eg109 19).trans ((va_up_ne _ _ (Nat.ne_of_beq_eq_false rfl)).trans hg107_19)
  have hg109_20 : g109 20 = .int 0 := (congrFun eg109 20).trans ((va_up_ne _ _ (Nat.ne_of_beq_eq_false rfl)).trans hg107_20)
  have hg109_21 : g109 21 = .int 0 := (congrFun eg109 21).trans ((va_up_ne _ _ (Nat.ne_of_beq_eq_false rfl)).trans hg107_21)
  have hg109_22 : g109 22 = .int 0 := (congrFun eg109 22).trans ((va_up_ne _ _ (Nat.ne_of_beq_eq_false rfl)).trans hg107_22)
  have hg109_23 : g109 23 = .int 0 := (congrFun eg109 23).trans ((va_up_ne _ _ (Nat.ne_of_beq_eq_false rfl)).trans hg107_23)
  have hg109_24 : g109 24 = .int 0 := (congrFun eg109 24).trans ((va_up_ne _ _ (Nat.ne_of_beq_eq_false rfl)).trans hg107_24)
  have hg109_25 : g109 25 = .int 0 := (congrFun eg109 25).trans ((va_up_ne _ _ (Nat.ne_of_beq_eq_false rfl)).trans hg107_25)
  have hg109_26 : g109 26 = .int 0 := (congrFun eg109 26).trans ((va_up_ne _ _ (Nat.ne_of_beq_eq_false rfl)).trans hg107_26)
  have hg109_46 : g109 46 = .int 0 := (congrFun eg109 46).trans ((va_up_ne _ _ (Nat.ne_of_beq_eq_false rfl)).trans hg107_46)
  have hg109_47 : g109 47 = .int 0 := (congrFun eg109 47).trans ((va_up_ne _ _ (Nat.ne_of_beq_eq_false rfl)).trans hg107_47)
  have hg109_48 : g109 48 = .int 0 := (congrFun eg109 48).trans ((va_up_ne _ _ (Nat.ne_of_beq_eq_false rfl)).trans hg107_48)
  have hg109_55 : g109 55 = .int 0 := (congrFun eg109 55).trans ((va_up_ne _ _ (Nat.ne_of_beq_eq_false rfl)).trans hg107_55)
  have hg109_74 : g109 74 = .int 0 := (congrFun eg109 74).trans ((va_up_ne _ _ (Nat.ne_of_beq_eq_false rfl)).trans hg107_74)
  have hg109_75 : g109 75 = .int 0 := (congrFun eg109 75).trans ((va_up_ne _ _ (Nat.ne_of_beq_eq_false rfl)).trans hg107_75)
  have hg109_86 : g109 86 = .int 0 := (congrFun eg109 86).trans ((va_up_ne _ _ (Nat.ne_of_beq_eq_false rfl)).trans hg107_86)
  have hg109_87 : g109 87 = .int 0 := (congrFun eg109 87).trans ((va_up_ne _ _ (Nat.ne_of_beq_eq_false rfl)).trans hg107_87)
  have hg109_88 : g109 88 = .int 0 := (congrFun eg109 88).trans ((va_up_ne _ _ (Nat.ne_of_beq_eq_false rfl)).trans hg107_88)
  have hg109_89 : g109 89 = .int 0 := (congrFun eg109 89).trans ((va_up_ne _ _ (Nat.ne_of_beq_eq_false rfl)).trans hg107_89)
  have hg109_95 : g109 95 = .int 0 := (congrFun eg109 95).trans ((va_up_ne _ _ (Nat.ne_of_beq_eq_false rfl)).trans hg107_95)
  have hg109_2 : g109 2 = .ref q1 := (congrFun eg109 2).trans ((va_up_ne _ _ (Nat.ne_of_beq_eq_false rfl)).trans hg107_2)
  have hg109_3 : g109 3 = .ref q3 := (congrFun eg109 3).trans ((va_up_ne _ _ (Nat.ne_of_beq_eq_false rfl)).trans hg107_3)
  have hg109_4 : g109 4 = .ref q5 := (congrFun eg109 4).trans ((va_up_ne _ _ (Nat.ne_of_beq_eq_false rfl)).trans hg107_4)
  have hg109_5 : g109 5 = .ref q7 := (congrFun eg109 5).trans ((va_up_ne _ _ (Nat.ne_of_beq_eq_false rfl)).trans hg107_5)
  have hg109_6 : g109 6 = .ref q9 := (congrFun eg109 6).trans ((va_up_ne _ _ (Nat.ne_of_beq_eq_false rfl)).trans hg107_6)
  have hg109_7 : g109 7 = .ref q11 := (congrFun eg109 7).trans ((va_up_ne _ _ (Nat.ne_of_beq_eq_false rfl)).trans hg107_7)
  have hg109_10 : g109 10 = .ref q13 := (congrFun eg109 10).trans ((va_up_ne _ _ (Nat.ne_of_beq_eq_false rfl)).trans hg107_10)
  have hg109_11 : g109 11 = .ref q15 := (congrFun eg109 11).trans ((va_up_ne _ _ (Nat.ne_of_beq_eq_false rfl)).trans hg107_11)
  have hg109_12 : g109 12 = .ref q17 := (congrFun eg109 12).trans ((va_up_ne _ _ (Nat.ne_of_beq_eq_false rfl)).trans hg107_12)
  have hg109_13 : g109 13 = .ref q19 := (congrFun eg109 13).trans ((va_up_ne _ _ (Nat.ne_of_beq_eq_false rfl)).trans hg107_13)
  have hg109_14 : g109 14 = .ref q21 := (congrFun eg109 14).trans ((va_up_ne _ _ (Nat.ne_of_beq_eq_false rfl)).trans hg107_14)
  have hg109_15 : g109 15 = .ref q23 := (congrFun eg109 15).trans ((va_up_ne _ _ (Nat.ne_of_beq_eq_false rfl)).trans hg107_15)
  have hg109_18 : g109 18 = .ref q13 := (congrFun eg109 18).trans ((va_up_ne _ _ (Nat.ne_of_beq_eq_false rfl)).trans hg107_18)
  have hg109_27 : g109 27 = .ref q26 := (congrFun eg109 27).trans ((va_up_ne _ _ (Nat.ne_of_beq_eq_false rfl)).trans hg107_27)
  have hg109_28 : g109 28 = .ref q28 := (congrFun eg109 28).trans ((va_up_ne _ _ (Nat.ne_of_beq_eq_false rfl)).trans hg107_28)
  have hg109_29 : g109 29 = .ref q30 := (congrFun eg109 29).trans ((va_up_ne _ _ (Nat.ne_of_beq_eq_false rfl)).trans hg107_29)
  have hg109_30 : g109 30 = .ref q32 := (congrFun eg109 30).trans ((va_up_ne _ _ (Nat.ne_of_beq_eq_false rfl)).trans hg107_30)
  have hg109_31 : g109 31 = .ref q34 := (congrFun eg109 31).trans ((va_up_ne _ _ (Nat.ne_of_beq_eq_false rfl)).trans hg107_31)
  have hg109_32 : g109 32 = .ref q36 := (congrFun eg109 32).trans ((va_up_ne _ _ (Nat.ne_of_beq_eq_false rfl)).trans hg107_32)
  have hg109_33 : g109 33 = .ref q38 := (congrFun eg109 33).trans ((va_up_ne _ _ (Nat.ne_of_beq_eq_false rfl)).trans hg107_33)
  have hg109_34 : g109 34 = .ref q40 := (congrFun eg109 34).trans ((va_up_ne _ _ (Nat.ne_of_beq_eq_false rfl)).trans hg107_34)
  have hg109_35 : g109 35 = .ref q42 := (congrFun eg109 35).trans ((va_up_ne _ _ (Nat.ne_of_beq_eq_false rfl)).trans hg107_35)
  have hg109_36 : g109 36 = .ref q44 := (congrFun eg109 36).trans ((va_up_ne _ _ (Nat.ne_of_beq_eq_false rfl)).trans hg107_36)
  have hg109_37 : g109 37 = .ref q46 := (congrFun eg109 37).trans ((va_up_ne _ _ (Nat.ne_of_beq_eq_false rfl)).trans hg107_37)
  have hg109_38 : g109 38 = .ref q48 := (congrFun eg109 38).trans ((va_up_ne _ _ (Nat.ne_of_beq_eq_false rfl)).trans hg107_38)
  have hg109_39 : g109 39 = .ref q50 := (congrFun eg109 39).trans ((va_up_ne _ _ (Nat.ne_of_beq_eq_false rfl)).trans hg107_39)
  have hg109_40 : g109 40 = .ref q52 := (congrFun eg109 40).trans ((va_up_ne _ _ (Nat.ne_of_beq_eq_false rfl)).trans hg107_40)
  have hg109_41 : g109 41 = .ref q54 := (congrFun eg109 41).trans ((va_up_ne _ _ (Nat.ne_of_beq_eq_false rfl)).trans hg107_41)
  have hg109_42 : g109 42 = .ref q56 := (congrFun eg109 42).trans ((va_up_ne _ _ (Nat.ne_of_beq_eq_false rfl)).trans hg107_42)
  have hg109_43 : g109 43 = .ref q58 := (congrFun eg109 43).trans ((va_up_ne _ _ (Nat.ne_of_beq_eq_false rfl)).trans hg107_43)
  have hg109_44 : g109 44 = .ref q60 := (congrFun eg109 44).trans ((va_up_ne _ _ (Nat.ne_of_beq_eq_false rfl)).trans hg107_44)
  have hg109_45 : g109 45 = .ref q62 := (congrFun eg109 45).trans ((va_up_ne _ _ (Nat.ne_of_beq_eq_false rfl)).trans hg107_45)
  have hg109_49 : g109 49 = .ref q64 := (congrFun eg109 49).trans ((va_up_ne _ _ (Nat.ne_of_beq_eq_false rfl)).trans hg107_49)
  have hg109_50 : g109 50 = .ref q66 := (congrFun eg109 50).trans ((va_up_ne _ _ (Nat.ne_of_beq_eq_false rfl)).trans hg107_50)
  have hg109_51 : g109 51 = .ref q68 := (congrFun eg109 51).trans ((va_up_ne _ _ (Nat.ne_of_beq_eq_false rfl)).trans hg107_51)
  have hg109_52 : g109 52 = .ref q70 := (congrFun eg109 52).trans ((va_up_ne _ _ (Nat.ne_of_beq_eq_false rfl)).trans hg107_52)
  have hg109_53 : g109 53 = .ref q72 := (congrFun eg109 53).trans ((va_up_ne _ _ (Nat.ne_of_beq_eq_false rfl)).trans hg107_53)
  have hg109_54 : g109 54 = .ref q74 := (congrFun eg109 54).trans ((va_up_ne _ _ (Nat.ne_of_beq_eq_false rfl)).trans hg107_54)
  have hg109_56 : g109 56 = .ref q76 := (congrFun eg109 56).trans ((va_up_ne _ _ (Nat.ne_of_beq_eq_false rfl)).trans hg107_56)
  have hg109_57 : g109 57 = .ref q78 := (congrFun eg109 57).trans ((va_up_ne _ _ (Nat.ne_of_beq_eq_false rfl)).trans hg107_57)
  have hg109_58 : g109 58 = .ref q80 := (congrFun eg109 58).trans ((va_up_ne _ _ (Nat.ne_of_beq_eq_false rfl)).trans hg107_58)
  have hg109_59 : g109 59 = .ref q82 := (congrFun eg109 59).trans ((va_up_ne _ _ (Nat.ne_of_beq_eq_false rfl)).trans hg107_59)
  have hg109_60 : g109 60 = .ref q84 := (congrFun eg109 60).trans ((va_up_ne _ _ (Nat.ne_of_beq_eq_false rfl)).trans hg107_60)
  have hg109_61 : g109 61 = .ref q86 := (congrFun eg109 61).trans ((va_up_ne _ _ (Nat.ne_of_beq_eq_false rfl)).trans hg107_61)
  have hg109_62 : g109 62 = .ref q88 := (congrFun eg109 62).trans ((va_up_ne _ _ (Nat.ne_of_beq_eq_false rfl)).trans hg107_62)
  have hg109_63 : g109 63 = .ref q90 := (congrFun eg109 63).trans ((va_up_ne _ _ (Nat.ne_of_beq_eq_false rfl)).trans hg107_63)
  have hg109_64 : g109 64 = .ref q92 := (congrFun eg109 64).trans ((va_up_ne _ _ (Nat.ne_of_beq_eq_false rfl)).trans hg107_64)
  have hg109_65 : g109 65 = .ref q94 := (congrFun eg109 65).trans ((va_up_ne _ _ (Nat.ne_of_beq_eq_false rfl)).trans hg107_65)
  have hg109_66 : g109 66 = .ref q96 := (congrFun eg109 66).trans ((va_up_ne _ _ (Nat.ne_of_beq_eq_false rfl)).trans hg107_66)
  have hg109_67 : g109 67 = .ref q98 := (congrFun eg109 67).trans ((va_up_ne _ _ (Nat.ne_of_beq_eq_false rfl)).trans hg107_67)
  have hg109_68 : g109 68 = .ref q100 := (congrFun eg109 68).trans ((va_up_ne _ _ (Nat.ne_of_beq_eq_false rfl)).trans hg107_68)
  have hg109_69 : g109 69 = .ref q102 := (congrFun eg109 69).trans ((va_up_ne _ _ (Nat.ne_of_beq_eq_false rfl)).trans hg107_69)
  have hg109_70 : g109 70 = .ref q104 := (congrFun eg109 70).trans ((va_up_ne _ _ (Nat.ne_of_beq_eq_false rfl)).trans hg107_70)
  have hg109_71 : g109 71 = .ref q106 := (congrFun eg109 71).trans ((va_up_ne _ _ (Nat.ne_of_beq_eq_false rfl)).trans hg107_71)
  clear hg107_0 hg107_1 hg107_8 hg107_9 hg107_16 hg107_17 hg107_19 hg107_20 hg107_21 hg107_22 hg107_23 hg107_24 hg107_25 hg107_26 hg107_46 hg107_47 hg107_48 hg107_55 hg107_74 hg107_75 hg107_86 hg107_87 hg107_88 hg107_89 hg107_95 hg107_2 hg107_3 hg107_4 hg107_5 hg107_6 hg107_7 hg107_10 hg107_11 hg107_12 hg107_13 hg107_14 hg107_15 hg107_18 hg107_27 hg107_28 hg107_29 hg107_30 hg107_31 hg107_32 hg107_33 hg107_34 hg107_35 hg107_36 hg107_37 hg107_38 hg107_39 hg107_40 hg107_41 hg107_42 hg107_43 hg107_44 hg107_45 hg107_49 hg107_50 hg107_51 hg107_52 hg107_53 hg107_54 hg107_56 hg107_57 hg107_58 hg107_59 hg107_60 hg107_61 hg107_62 hg107_63 hg107_64 hg107_65 hg107_66 hg107_67 hg107_68 hg107_69 hg107_70 hg107_71
  have hg109_72 : g109 72 = .ref q108 := by rw [eg109]; exact va_up_self _ _ _
  refine lv_aload_n hx hb dX13_init_465 rfl (lv_at hl 0 rfl) ?_
  refine lv_bipush (v := 30) hx hb dX13_init_466 (by decide) ?_
  refine va_newa (atype := .boolean) (ty := .boolean) (N' := 30) (a0 := (30, .inl (fun _ => (0 : Int32)))) hx hb (hts _ (vA_in _ _ (in_19 _ (List.mem_of_getElem? (i := 10) rfl)))) rfl hK hP hD hS hA (fun _ => rfl) (by decide) (by decide) (Nat.le_of_ble_eq_true rfl) (Nat.le_of_ble_eq_true rfl) (Nat.le_of_ble_eq_true rfl) dX13_init_468 (fun q110 kq110 H hK hP hD hS => ?_)
  have hK : va_K (dC, dI) vwCl [(kq1, .int), (kq13, .byte), (kq72, .boolean), (kq110, .boolean)] s := hK
  obtain ⟨wq110, ewq110⟩ : ∃ z : va_W, z = wq108 ++ [(q110, .inl (kq110, 30, .inl (fun _ => (0 : Int32))))] := ⟨_, rfl⟩
  replace hP : va_P (dC, dI) vwCl ((h, .inr (14, mL g109)) :: wq110) H := by rw [ewq110]; exact hP
  replace hD : va_D A ((h, .inr (14, mL g109)) :: wq110) := by rw [ewq110]; exact hD
  refine W.widen (k := 55) (n := 9438) (by omega) (by omega) ?_
  obtain rfl : kq72 = kq110 := ub_sa_boolean hK 2 3 rfl rfl
  have hK := hK.sub (tys' := [(kq1, .int), (kq13, .byte), (kq72, .boolean)]) [0, 1, 2] rfl
  refine va_putF (D := (dC, dI)) (ci := 14) (v := .ref q110) (ty := .array .boolean) (C := RX13) (T := TX13) (N := 97) hx hb hts (fun w h => vA_in _ w (in_X13 w h)) tyX13 tyX13_ok nmX13 hown hK hP hD hS 0 rfl rfl 73 (by decide) (hts _ (vA_in _ _ (in_30 _ (List.mem_of_getElem? (i := 24) rfl)))) (fun _ h9 => h9) rfl hin rfl (by decide +kernel) rfl rfl (mL_lt (Nat.le_of_ble_eq_true rfl)) dX13_init_470 (fun H locs hP hD hS => ?_)
  replace hP : va_P (dC, dI) vwCl ((h, .inr (14, (mL g109).set 73 (.ref q110))) :: wq110) H := hP
  replace hD : va_D A ((h, .inr (14, (mL g109).set 73 (.ref q110))) :: wq110) := hD
  obtain ⟨g111, eg111⟩ : ∃ z9, z9 = va_up g109 73 (.ref q110) := ⟨_, rfl⟩
  rw [mL_upd, ← eg111] at hP hD
  have hg111_0 : g111 0 = .int 0 := (congrFun eg111 0).trans ((va_up_ne _ _ (Nat.ne_of_beq_eq_false rfl)).trans hg109_0)
  have hg111_1 : g111 1 = .int 0 := (congrFun eg111 1).trans ((va_up_ne _ _ (Nat.ne_of_beq_eq_false rfl)).trans hg109_1)
  have hg111_8 : g111 8 = .int 0 := (congrFun eg111 8).trans ((va_up_ne _ _ (Nat.ne_of_beq_eq_false rfl)).trans hg109_8)
  have hg111_9 : g111 9 = .int 0 := (congrFun eg111 9).trans ((va_up_ne _ _ (Nat.ne_of_beq_eq_false rfl)).trans hg109_9)
  have hg111_16 : g111 16 = .int 0 := (congrFun eg111 16).trans ((va_up_ne _ _ (Nat.ne_of_beq_eq_false rfl)).trans hg109_16)
  have hg111_17 : g111 17 = .int 0 := (congrFun eg111 17).trans ((va_up_ne _ _ (Nat.ne_of_beq_eq_false rfl)).trans hg109_17)
  have hg111_19 : g111 19 = .int 0 := (congrFun eg111 19).trans ((va_up_ne _ _ (Nat.ne_of_beq_eq_false rfl)).trans hg109_19)
  have hg111_20 : g111 20 = .int 0 := (congrFun eg111 20).trans ((va_up_ne _ _ (Nat.ne_of_beq_eq_false rfl)).trans hg109_20)
  have hg111_21 : g111 21 = .int 0 := (congrFun eg111 21).trans ((va_up_ne _ _ (Nat.ne_of_beq_eq_false rfl)).trans hg109_21)
  have hg111_22 : g111 22 = .int 0 := (congrFun eg111 22).trans ((va_up_ne _ _ (Nat.ne_of_beq_eq_false rfl)).trans hg109_22)
  have hg111_23 : g111 23 = .int 0 := (congrFun eg111 23).trans ((va_up_ne _ _ (Nat.ne_of_beq_eq_false rfl)).trans hg109_23)
  have hg111_24 : g111 24 = .int 0 := (congrFun eg111 24).trans ((va_up_ne _ _ (Nat.ne_of_beq_eq_false rfl)).trans hg109_24)
  have hg111_25 : g111 25 = .int 0 := (congrFun eg111 25).trans ((va_up_ne _ _ (Nat.ne_of_beq_eq_false rfl)).trans hg109_25)
  have hg111_26 : g111 26 = .int 0 := (congrFun eg111 26).trans ((va_up_ne _ _ (Nat.ne_of_beq_eq_false rfl)).trans hg109_26)
  have hg111_46 : g111 46 = .int 0 := (congrFun eg111 46).trans ((va_up_ne _ _ (Nat.ne_of_beq_eq_false rfl)).trans hg109_46)
  have hg111_47 : g111 47 = .int 0 := (congrFun eg111 47).trans ((va_up_ne _ _ (Nat.ne_of_beq_eq_false rfl)).trans hg109_47)
  have hg111_48 : g111 48 = .int 0 := (congrFun eg111 48).trans ((va_up_ne _ _ (Nat.ne_of_beq_eq_false rfl)).trans hg109_48)
  have hg111_55 : g111 55 = .int 0 := (congrFun eg111 55).trans ((va_up_ne _ _ (Nat.ne_of_beq_eq_false rfl)).trans hg109_55)
  have hg111_74 : g111 74 = .int 0 := (congrFun eg111 74).trans ((va_up_ne _ _ (Nat.ne_of_beq_eq_false rfl)).trans hg109_74)
  have hg111_75 : g111 75 = .int 0 := (congrFun eg111 75).trans ((va_up_ne _ _ (Nat.ne_of_beq_eq_false rfl)).trans hg109_75)
  have hg111_86 : g111 86 = .int 0 := (congrFun eg111 86).trans ((va_up_ne _ _ (Nat.ne_of_beq_eq_false rfl)).trans hg109_86)
  have hg111_87 : g111 87 = .int 0 := (congrFun eg111 87).trans ((va_up_ne _ _ (Nat.ne_of_beq_eq_false rfl)).trans hg109_87)
  have hg111_88 : g111 88 = .int 0 := (congrFun eg111 88).trans ((va_up_ne _ _ (Nat.ne_of_beq_eq_false rfl)).trans hg109_88)
  have hg111_89 : g111 89 = .int 0 := (congrFun eg111 89).trans ((va_up_ne _ _ (Nat.ne_of_beq_eq_false rfl)).trans hg109_89)
  have hg111_95 : g111 95 = .int 0 := (congrFun eg111 95).trans ((va_up_ne _ _ (Nat.ne_of_beq_eq_false rfl)).trans hg109_95)
  have hg111_2 : g111 2 = .ref q1 := (congrFun eg111 2).trans ((va_up_ne _ _ (Nat.ne_of_beq_eq_false rfl)).trans hg109_2)
  have hg111_3 : g111 3 = .ref q3 := (congrFun eg111 3).trans ((va_up_ne _ _ (Nat.ne_of_beq_eq_false rfl)).trans hg109_3)
  have hg111_4 : g111 4 = .ref q5 := (congrFun eg111 4).trans ((va_up_ne _ _ (Nat.ne_of_beq_eq_false rfl)).trans hg109_4)
  have hg111_5 : g111 5 = .ref q7 := (congrFun eg111 5).trans ((va_up_ne _ _ (Nat.ne_of_beq_eq_false rfl)).trans hg109_5)
  have hg111_6 : g111 6 = .ref q9 := (congrFun eg111 6).trans ((va_up_ne _ _ (Nat.ne_of_beq_eq_false rfl)).trans hg109_6)
  have hg111_7 : g111 7 = .ref q11 := (congrFun eg111 7).trans ((va_up_ne _ _ (Nat.ne_of_beq_eq_false rfl)).trans hg109_7)
  have hg111_10 : g111 10 = .ref q13 := (congrFun eg111 10).trans ((va_up_ne _ _ (Nat.ne_of_beq_eq_false rfl)).trans hg109_10)
  have hg111_11 : g111 11 = .ref q15 := (congrFun eg111 11).trans ((va_up_ne _ _ (Nat.ne_of_beq_eq_false rfl)).trans hg109_11)
  have hg111_12 : g111 12 = .ref q17 := (congrFun eg111 12).trans ((va_up_ne _ _ (Nat.ne_of_beq_eq_false rfl)).trans hg109_12)
  have hg111_13 : g111 13 = .ref q19 := (congrFun eg111 13).trans ((va_up_ne _ _ (Nat.ne_of_beq_eq_false rfl)).trans hg109_13)
  have hg111_14 : g111 14 = .ref q21 := (congrFun eg111 14).trans ((va_up_ne _ _ (Nat.ne_of_beq_eq_false rfl)).trans hg109_14)
  have hg111_15 : g111 15 = .ref q23 := (congrFun eg111 15).trans ((va_up_ne _ _ (Nat.ne_of_beq_eq_false rfl)).trans hg109_15)
  have hg111_18 : g111 18 = .ref q13 := (congrFun eg111 18).trans ((va_up_ne _ _ (Nat.ne_of_beq_eq_false rfl)).trans hg109_18)
  have hg111_27 : g111 27 = .ref q26 := (congrFun eg111 27).trans ((va_up_ne _ _ (Nat.ne_of_beq_eq_false rfl)).trans hg109_27)
  have hg111_28 : g111 28 = .ref q28 := (congrFun eg111 28).trans ((va_up_ne _ _ (Nat.ne_of_beq_eq_false rfl)).trans hg109_28)
  have hg111_29 : g111 29 = .ref q30 := (congrFun eg111 29).trans ((va_up_ne _ _ (Nat.ne_of_beq_eq_false rfl)).trans hg109_29)
  have hg111_30 : g111 30 = .ref q32 := (congrFun eg111 30).trans ((va_up_ne _ _ (Nat.ne_of_beq_eq_false rfl)).trans hg109_30)
  have hg111_31 : g111 31 = .ref q34 := (congrFun eg111 31).trans ((va_up_ne _ _ (Nat.ne_of_beq_eq_false rfl)).trans hg109_31)
  have hg111_32 : g111 32 = .ref q36 := (congrFun eg111 32).trans ((va_up_ne _ _ (Nat.ne_of_beq_eq_false rfl)).trans hg109_32)
  have hg111_33 : g111 33 = .ref q38 := (congrFun eg111 33).trans ((va_up_ne _ _ (Nat.ne_of_beq_eq_false rfl)).trans hg109_33)
  have hg111_34 : g111 34 = .ref q40 := (congrFun eg111 34).trans ((va_up_ne _ _ (Nat.ne_of_beq_eq_false rfl)).trans hg109_34)
  have hg111_35 : g111 35 = .ref q42 := (congrFun eg111 35).trans ((va_up_ne _ _ (Nat.ne_of_beq_eq_false rfl)).trans hg109_35)
  have hg111_36 : g111 36 = .ref q44 := (congrFun eg111 36).trans ((va_up_ne _ _ (Nat.ne_of_beq_eq_false rfl)).trans hg109_36)
  have hg111_37 : g111 37 = .ref q46 := (congrFun eg111 37).trans ((va_up_ne _ _ (Nat.ne_of_beq_eq_false rfl)).trans hg109_37)
  have hg111_38 : g111 38 = .ref q48 := (congrFun eg111 38).trans ((va_up_ne _ _ (Nat.ne_of_beq_eq_false rfl)).trans hg109_38)
  have hg111_39 : g111 39 = .ref q50 := (congrFun eg111 39).trans ((va_up_ne _ _ (Nat.ne_of_beq_eq_false rfl)).trans hg109_39)
  have hg111_40 : g111 40 = .ref q52 := (congrFun eg111 40).trans ((va_up_ne _ _ (Nat.ne_of_beq_eq_false rfl)).trans hg109_40)
  have hg111_41 : g111 41 = .ref q54 := (congrFun eg111 41).trans ((va_up_ne _ _ (Nat.ne_of_beq_eq_false rfl)).trans hg109_41)
  have hg111_42 : g111 42 = .ref q56 := (congrFun eg111 42).trans ((va_up_ne _ _ (Nat.ne_of_beq_eq_false rfl)).trans hg109_42)
  have hg111_43 : g111 43 = .ref q58 := (congrFun eg111 43).trans ((va_up_ne _ _ (Nat.ne_of_beq_eq_false rfl)).trans hg109_43)
  have hg111_44 : g111 44 = .ref q60 := (congrFun eg111 44).trans ((va_up_ne _ _ (Nat.ne_of_beq_eq_false rfl)).trans hg109_44)
  have hg111_45 : g111 45 = .ref q62 := (congrFun eg111 45).trans ((va_up_ne _ _ (Nat.ne_of_beq_eq_false rfl)).trans hg109_45)
  have hg111_49 : g111 49 = .ref q64 := (congrFun eg111 49).trans ((va_up_ne _ _ (Nat.ne_of_beq_eq_false rfl)).trans hg109_49)
  have hg111_50 : g111 50 = .ref q66 := (congrFun eg111 50).trans ((va_up_ne _ _ (Nat.ne_of_beq_eq_false rfl)).trans hg109_50)
  have hg111_51 : g111 51 = .ref q68 := (congrFun eg111 51).trans ((va_up_ne _ _ (Nat.ne_of_beq_eq_false rfl)).trans hg109_51)
  have hg111_52 : g111 52 = .ref q70 := (congrFun eg111 52).trans ((va_up_ne _ _ (Nat.ne_of_beq_eq_false rfl)).trans hg109_52)
  have hg111_53 : g111 53 = .ref q72 := (congrFun eg111 53).trans ((va_up_ne _ _ (Nat.ne_of_beq_eq_false rfl)).trans hg109_53)
  have hg111_54 : g111 54 = .ref q74 := (congrFun eg111 54).trans ((va_up_ne _ _ (Nat.ne_of_beq_eq_false rfl)).trans hg109_54)
  have hg111_56 : g111 56 = .ref q76 := (congrFun eg111 56).trans ((va_up_ne _ _ (Nat.ne_of_beq_eq_false rfl)).trans hg109_56)
  have hg111_57 : g111 57 = .ref q78 := (congrFun eg111 57).trans ((va_up_ne _ _ (Nat.ne_of_beq_eq_false rfl)).trans hg109_57)
  have hg111_58 : g111 58 = .ref q80 := (congrFun eg111 58).trans ((va_up_ne _ _ (Nat.ne_of_beq_eq_false rfl)).trans hg109_58)
  have hg111_59 : g111 59 = .ref q82 := (congrFun eg111 59).trans ((va_up_ne _ _ (Nat.ne_of_beq_eq_false rfl)).trans hg109_59)
  have hg111_60 : g111 60 = .ref q84 := (congrFun eg111 60).trans ((va_up_ne _ _ (Nat.ne_of_beq_eq_false rfl)).trans hg109_60)
  have hg111_61 : g111 61 = .ref q86 := (congrFun eg111 61).trans ((va_up_ne _ _ (Nat.ne_of_beq_eq_false rfl)).trans hg109_61)
  have hg111_62 : g111 62 = .ref q88 := (congrFun eg111 62).trans ((va_up_ne _ _ (Nat.ne_of_beq_eq_false rfl)).trans hg109_62)
  have hg111_63 : g111 63 = .ref q90 := (congrFun eg111 63).trans ((va_up_ne _ _ (Nat.ne_of_beq_eq_false rfl)).trans hg109_63)
  have hg111_64 : g111 64 = .ref q92 := (congrFun eg111 64).trans ((va_up_ne _ _ (Nat.ne_of_beq_eq_false rfl)).trans hg109_64)
  have hg111_65 : g111 65 = .ref q94 := (congrFun eg111 65).trans ((va_up_ne _ _ (Nat.ne_of_beq_eq_false rfl)).trans hg109_65)
  have hg111_66 : g111 66 = .ref q96 := (congrFun eg111 66).trans ((va_up_ne _ _ (Nat.ne_of_beq_eq_false rfl)).trans hg109_66)
  have hg111_67 : g111 67 = .ref q98 := (congrFun eg111 67).trans ((va_up_ne _ _ (Nat.ne_of_beq_eq_false rfl)).trans hg109_67)
  have hg111_68 : g111 68 = .ref q100 := (congrFun eg111 68).trans ((va_up_ne _ _ (Nat.ne_of_beq_eq_false rfl)).trans hg109_68)
  have hg111_69 : g111 69 = .ref q102 := (congrFun eg111 69).trans ((va_up_ne _ _ (Nat.ne_of_beq_eq_false rfl)).trans hg109_69)
  have hg111_70 : g111 70 = .ref q104 := (congrFun eg111 70).trans ((va_up_ne _ _ (Nat.ne_of_beq_eq_false rfl)).trans hg109_70)
  have hg111_71 : g111 71 = .ref q106 := (congrFun eg111 71).trans ((va_up_ne _ _ (Nat.ne_of_beq_eq_false rfl)).trans hg109_71)
  have hg111_72 : g111 72 = .ref q108 := (congrFun eg111 72).trans ((va_up_ne _ _ (Nat.ne_of_beq_eq_false rfl)).trans hg109_72)
  clear hg109_0 hg109_1 hg109_8 hg109_9 hg109_16 hg109_17 hg109_19 hg109_20 hg109_21 hg109_22 hg109_23 hg109_24 hg109_25 hg109_26 hg109_46 hg109_47 hg109_48 hg109_55 hg109_74 hg109_75 hg109_86 hg109_87 hg109_88 hg109_89 hg109_95 hg109_2 hg109_3 hg109_4 hg109_5 hg109_6 hg109_7 hg109_10 hg109_11 hg109_12 hg109_13 hg109_14 hg109_15 hg109_18 hg109_27 hg109_28 hg109_29 hg109_30 hg109_31 hg109_32 hg109_33 hg109_34 hg109_35 hg109_36 hg109_37 hg109_38 hg109_39 hg109_40 hg109_41 hg109_42 hg109_43 hg109_44 hg109_45 hg109_49 hg109_50 hg109_51 hg109_52 hg109_53 hg109_54 hg109_56 hg109_57 hg109_58 hg109_59 hg109_60 hg109_61 hg109_62 hg109_63 hg109_64 hg109_65 hg109_66 hg109_67 hg109_68 hg109_69 hg109_70 hg109_71 hg109_72
  have hg111_73 : g111 73 = .ref q110 := by rw [eg111]; exact va_up_self _ _ _
  refine lv_aload_n hx hb dX13_init_473 rfl (lv_at hl 0 rfl) ?_
  refine lv_sipush (v := 256) hx hb dX13_init_474 (by decide) ?_
  refine va_newa (atype := .int) (ty := .int) (N' := 256) (a0 := (256, .inl (fun _ => (0 : Int32)))) hx hb (hts _ (vA_in _ _ (in_2 _ (List.mem_of_getElem? (i := 38) rfl)))) rfl hK hP hD hS hA (fun _ => rfl) (by decide) (by decide) (Nat.le_of_ble_eq_true rfl) (Nat.le_of_ble_eq_true rfl) (Nat.le_of_ble_eq_true rfl) dX13_init_477 (fun q112 kq112 H hK hP hD hS => ?_)
  have hK : va_K (dC, dI) vwCl [(kq1, .int), (kq13, .byte), (kq72, .boolean), (kq112, .int)] s := hK
  obtain ⟨wq112, ewq112⟩ : ∃ z : va_W, z = wq110 ++ [(q112, .inl (kq112, 256, .inl (fun _ => (0 : Int32))))] := ⟨_, rfl⟩
  replace hP : va_P (dC, dI) vwCl ((h, .inr (14, mL g111)) :: wq112) H := by rw [ewq112]; exact hP
  replace hD : va_D A ((h, .inr (14, mL g111)) :: wq112) := by rw [ewq112]; exact hD
  refine W.widen (k := 56) (n := 9694) (by omega) (by omega) ?_
  obtain rfl : kq1 = kq112 := ub_sa_int hK 0 3 rfl rfl
  have hK := hK.sub (tys' := [(kq1, .int), (kq13, .byte), (kq72, .boolean)]) [0, 1, 2] rfl
  refine va_putF (D := (dC, dI)) (ci := 14) (v := .ref q112) (ty := .array .int) (C := RX13) (T := TX13) (N := 97) hx hb hts (fun w h => vA_in _ w (in_X13 w h)) tyX13 tyX13_ok nmX13 hown hK hP hD hS 0 rfl rfl 76 (by decide) (hts _ (vA_in _ _ (in_25 _ (List.mem_of_getElem? (i := 17) rfl)))) (fun _ h9 => h9) rfl hin rfl (by decide +kernel) rfl rfl (mL_lt (Nat.le_of_ble_eq_true rfl)) dX13_init_479 (fun H locs hP hD hS => ?_)
  replace hP : va_P (dC, dI) vwCl ((h, .inr (14, (mL g111).set 76 (.ref q112))) :: wq112) H := hP
  replace hD : va_D A ((h, .inr (14, (mL g111).set 76 (.ref q112))) :: wq112) := hD
  obtain ⟨g113, eg113⟩ : ∃ z9, z9 = va_up g111 76 (.ref q112) := ⟨_, rfl⟩
  rw [mL_upd, ← eg113] at hP hD
  have hg113_0 : g113 0 = .int 0 := (congrFun eg113 0).trans ((va_up_ne _ _ (Nat.ne_of_beq_eq_false rfl)).trans hg111_0)
  have hg113_1 : g113 1 = .int 0 := (congrFun eg113 1).trans ((va_up_ne _ _ (Nat.ne_of_beq_eq_false rfl)).trans hg111_1)
  have hg113_8 : g113 8 = .int 0 := (congrFun eg113 8).trans ((va_up_ne _ _ (Nat.ne_of_beq_eq_false rfl)).trans hg111_8)
  have hg113_9 : g113 9 = .int 0 := (congrFun eg113 9).trans ((va_up_ne _ _ (Nat.ne_of_beq_eq_false rfl)).trans hg111_9)
  have hg113_16 : g113 16 = .int 0 := (congrFun eg113 16).trans ((va_up_ne _ _ (Nat.ne_of_beq_eq_false rfl)).trans hg111_16)
  have hg113_17 : g113 17 = .int 0 := (congrFun eg113 17).trans ((va_up_ne _ _ (Nat.ne_of_beq_eq_false rfl)).trans hg111_17)
  have hg113_19 : g113 19 = .int 0 := (congrFun eg113 19).trans ((va_up_ne _ _ (Nat.ne_of_beq_eq_false rfl)).trans hg111_19)
  have hg113_20 : g113 20 = .int 0 := (congrFun eg113 20).trans ((va_up_ne _ _ (Nat.ne_of_beq_eq_false rfl)).trans hg111_20)
  have hg113_21 : g113 21 = .int 0 := (congrFun eg113 21).trans ((va_up_ne _ _ (Nat.ne_of_beq_eq_false rfl)).trans hg111_21)
  have hg113_22 : g113 22 = .int 0 := (congrFun eg113 22).trans ((va_up_ne _ _ (Nat.ne_of_beq_eq_false rfl)).trans hg111_22)
  have hg113_23 : g113 23 = .int 0 := (congrFun eg113 23).trans ((va_up_ne _ _ (Nat.ne_of_beq_eq_false rfl)).trans hg111_23)
  have hg113_24 : g113 24 = .int 0 := (congrFun eg113 24).trans ((va_up_ne _ _ (Nat.ne_of_beq_eq_false rfl)).trans hg111_24)
  have hg113_25 : g113 25 = .int 0 := (congrFun eg113 25).trans ((va_up_ne _ _ (Nat.ne_of_beq_eq_false rfl)).trans hg111_25)
  have hg113_26 : g113 26 = .int 0 := (congrFun eg113 26).trans ((va_up_ne _ _ (Nat.ne_of_beq_eq_false rfl)).trans hg111_26)
  have hg113_46 : g113 46 = .int 0 := (congrFun eg113 46).trans ((va_up_ne _ _ (Nat.ne_of_beq_eq_false rfl)).trans hg111_46)
  have hg113_47 : g113 47 = .int 0 := (congrFun eg113 47).trans ((va_up_ne _ _ (Nat.ne_of_beq_eq_false rfl)).trans hg111_47)
  have hg113_48 : g113 48 = .int 0 := (congrFun eg113 48).trans ((va_up_ne _ _ (Nat.ne_of_beq_eq_false rfl)).trans hg111_48)
  have hg113_55 : g113 55 = .int 0 := (congrFun eg113 55).trans ((va_up_ne _ _ (Nat.ne_of_beq_eq_false rfl)).trans hg111_55)
  have hg113_74 : g113 74 = .int 0 := (congrFun eg113 74).trans ((va_up_ne _ _ (Nat.ne_of_beq_eq_false rfl)).trans hg111_74)
  have hg113_75 : g113 75 = .int 0 := (congrFun eg113 75).trans ((va_up_ne _ _ (Nat.ne_of_beq_eq_false rfl)).trans hg111_75)
  have hg113_86 : g113 86 = .int 0 := (congrFun eg113 86).trans ((va_up_ne _ _ (Nat.ne_of_beq_eq_false rfl)).trans hg111_86)
  have hg113_87 : g113 87 = .int 0 := (congrFun eg113 87).trans ((va_up_ne _ _ (Nat.ne_of_beq_eq_false rfl)).trans hg111_87)
  have hg113_88 : g113 88 = .int 0 := (congrFun eg113 88).trans ((va_up_ne _ _ (Nat.ne_of_beq_eq_false rfl)).trans hg111_88)
  have hg113_89 : g113 89 = .int 0 := (congrFun eg113 89).trans ((va_up_ne _ _ (Nat.ne_of_beq_eq_false rfl)).trans hg111_89)
  have hg113_95 : g113 95 = .int 0 := (congrFun eg113 95).trans ((va_up_ne _ _ (Nat.ne_of_beq_eq_false rfl)).trans hg111_95)
  have hg113_2 : g113 2 = .ref q1 := (congrFun eg113 2).trans ((va_up_ne _ _ (Nat.ne_of_beq_eq_false rfl)).trans hg111_2)
  have hg113_3 : g113 3 = .ref q3 := (congrFun eg113 3).trans ((va_up_ne _ _ (Nat.ne_of_beq_eq_false rfl)).trans hg111_3)
  have hg113_4 : g113 4 = .ref q5 := (congrFun eg113 4).trans ((va_up_ne _ _ (Nat.ne_of_beq_eq_false rfl)).trans hg111_4)
  have hg113_5 : g113 5 = .ref q7 := (congrFun eg113 5).trans ((va_up_ne _ _ (Nat.ne_of_beq_eq_false rfl)).trans hg111_5)
  have hg113_6 : g113 6 = .ref q9 := (congrFun eg113 6).trans ((va_up_ne _ _ (Nat.ne_of_beq_eq_false rfl)).trans hg111_6)
  have hg113_7 : g113 7 = .ref q11 := (congrFun eg113 7).trans ((va_up_ne _ _ (Nat.ne_of_beq_eq_false rfl)).trans hg111_7)
  have hg113_10 : g113 10 = .ref q13 := (congrFun eg113 10).trans ((va_up_ne _ _ (Nat.ne_of_beq_eq_false rfl)).trans hg111_10)
  have hg113_11 : g113 11 = .ref q15 := (congrFun eg113 11).trans ((va_up_ne _ _ (Nat.ne_of_beq_eq_false rfl)).trans hg111_11)
  have hg113_12 : g113 12 = .ref q17 := (congrFun eg113 12).trans ((va_up_ne _ _ (Nat.ne_of_beq_eq_false rfl)).trans hg111_12)
  have hg113_13 : g113 13 = .ref q19 := (congrFun eg113 13).trans ((va_up_ne _ _ (Nat.ne_of_beq_eq_false rfl)).trans hg111_13)
  have hg113_14 : g113 14 = .ref q21 := (congrFun eg113 14).trans ((va_up_ne _ _ (Nat.ne_of_beq_eq_false rfl)).trans hg111_14)
  have hg113_15 : g113 15 = .ref q23 := (congrFun eg113 15).trans ((va_up_ne _ _ (Nat.ne_of_beq_eq_false rfl)).trans hg111_15)
  have hg113_18 : g113 18 = .ref q13 := (congrFun eg113 18).trans ((va_up_ne _ _ (Nat.ne_of_beq_eq_false rfl)).trans hg111_18)
  have hg113_27 : g113 27 = .ref q26 := (congrFun eg113 27).trans ((va_up_ne _ _ (Nat.ne_of_beq_eq_false rfl)).trans hg111_27)
  have hg113_28 : g113 28 = .ref q28 := (congrFun eg113 28).trans ((va_up_ne _ _ (Nat.ne_of_beq_eq_false rfl)).trans hg111_28)
  have hg113_29 : g113 29 = .ref q30 := (congrFun eg113 29).trans ((va_up_ne _ _ (Nat.ne_of_beq_eq_false rfl)).trans hg111_29)
  have hg113_30 : g113 30 = .ref q32 := (congrFun eg113 30).trans ((va_up_ne _ _ (Nat.ne_of_beq_eq_false rfl)).trans hg111_30)
  have hg113_31 : g113 31 = .ref q34 := (congrFun eg113 31).trans ((va_up_ne _ _ (Nat.ne_of_beq_eq_false rfl)).trans hg111_31)
  have hg113_32 : g113 32 = .ref q36 := (congrFun eg113 32).trans ((va_up_ne _ _ (Nat.ne_of_beq_eq_false rfl)).trans hg111_32)
  have hg113_33 : g113 33 = .ref q38 := (congrFun eg113 33).trans ((va_up_ne _ _ (Nat.ne_of_beq_eq_false rfl)).trans hg111_33)
  have hg113_34 : g113 34 = .ref q40 := (congrFun eg113 34).trans ((va_up_ne _ _ (Nat.ne_of_beq_eq_false rfl)).trans hg111_34)
  have hg113_35 : g113 35 = .ref q42 := (congrFun eg113 35).trans ((va_up_ne _ _ (Nat.ne_of_beq_eq_false rfl)).trans hg111_35)
  have hg113_36 : g113 36 = .ref q44 := (congrFun eg113 36).trans ((va_up_ne _ _ (Nat.ne_of_beq_eq_false rfl)).trans hg111_36)
  have hg113_37 : g113 37 = .ref q46 := (congrFun eg113 37).trans ((va_up_ne _ _ (Nat.ne_of_beq_eq_false rfl)).trans hg111_37)
  have hg113_38 : g113 38 = .ref q48 := (congrFun eg113 38).trans ((va_up_ne _ _ (Nat.ne_of_beq_eq_false rfl)).trans hg111_38)
  have hg113_39 : g113 39 = .ref q50 := (congrFun eg113 39).trans ((va_up_ne _ _ (Nat.ne_of_beq_eq_false rfl)).trans hg111_39)
  have hg113_40 : g113 40 = .ref q52 := (congrFun eg113 40).trans ((va_up_ne _ _ (Nat.ne_of_beq_eq_false rfl)).trans hg111_40)
  have hg113_41 : g113 41 = .ref q54 := (congrFun eg113 41).trans ((va_up_ne _ _ (Nat.ne_of_beq_eq_false rfl)).trans hg111_41)
  have hg113_42 : g113 42 = .ref q56 := (congrFun eg113 42).trans ((va_up_ne _ _ (Nat.ne_of_beq_eq_false rfl)).trans hg111_42)
  have hg113_43 : g113 43 = .ref q58 := (congrFun eg113 43).trans ((va_up_ne _ _ (Nat.ne_of_beq_eq_false rfl)).trans hg111_43)
  have hg113_44 : g113 44 = .ref q60 := (congrFun eg113 44).trans ((va_up_ne _ _ (Nat.ne_of_beq_eq_false rfl)).trans hg111_44)
  have hg113_45 : g113 45 = .ref q62 := (congrFun eg113 45).trans ((va_up_ne _ _ (Nat.ne_of_beq_eq_false rfl)).trans hg111_45)
  have hg113_49 : g113 49 = .ref q64 := (congrFun eg113 49).trans ((va_up_ne _ _ (Nat.ne_of_beq_eq_false rfl)).trans hg111_49)
  have hg113_50 : g113 50 = .ref q66 := (congrFun eg113 50).trans ((va_up_ne _ _ (Nat.ne_of_beq_eq_false rfl)).trans hg111_50)
  have hg113_51 : g113 51 = .ref q68 := (congrFun eg113 51).trans ((va_up_ne _ _ (Nat.ne_of_beq_eq_false rfl)).trans hg111_51)
  have hg113_52 : g113 52 = .ref q70 := (congrFun eg113 52).trans ((va_up_ne _ _ (Nat.ne_of_beq_eq_false rfl)).trans hg111_52)
  have hg113_53 : g113 53 = .ref q72 := (congrFun eg113 53).trans ((va_up_ne _ _ (Nat.ne_of_beq_eq_false rfl)).trans hg111_53)
  have hg113_54 : g113 54 = .ref q74 := (congrFun eg113 54).trans ((va_up_ne _ _ (Nat.ne_of_beq_eq_false rfl)).trans hg111_54)
  have hg113_56 : g113 56 = .ref q76 := (congrFun eg113 56).trans ((va_up_ne _ _ (Nat.ne_of_beq_eq_false rfl)).trans hg111_56)
  have hg113_57 : g113 57 = .ref q78 := (congrFun eg113 57).trans ((va_up_ne _ _ (Nat.ne_of_beq_eq_false rfl)).trans hg111_57)
  have hg113_58 : g113 58 = .ref q80 := (congrFun eg113 58).trans ((va_up_ne _ _ (Nat.ne_of_beq_eq_false rfl)).trans hg111_58)
  have hg113_59 : g113 59 = .ref q82 := (congrFun eg113 59).trans ((va_up_ne _ _ (Nat.ne_of_beq_eq_false rfl)).trans hg111_59)
  have hg113_60 : g113 60 = .ref q84 := (congrFun eg113 60).trans ((va_up_ne _ _ (Nat.ne_of_beq_eq_false rfl)).trans hg111_60)
  have hg113_61 : g113 61 = .ref q86 := (congrFun eg113 61).trans ((va_up_ne _ _ (Nat.ne_of_beq_eq_false rfl)).trans hg111_61)
  have hg113_62 : g113 62 = .ref q88 := (congrFun eg113 62).trans ((va_up_ne _ _ (Nat.ne_of_beq_eq_false rfl)).trans hg111_62)
  have hg113_63 : g113 63 = .ref q90 := (congrFun eg113 63).trans ((va_up_ne _ _ (Nat.ne_of_beq_eq_false rfl)).trans hg111_63)
  have hg113_64 : g113 64 = .ref q92 := (congrFun eg113 64).trans ((va_up_ne _ _ (Nat.ne_of_beq_eq_false rfl)).trans hg111_64)
  have hg113_65 : g113 65 = .ref q94 := (congrFun eg113 65).trans ((va_up_ne _ _ (Nat.ne_of_beq_eq_false rfl)).trans hg111_65)
  have hg113_66 : g113 66 = .ref q96 := (congrFun eg113 66).trans ((va_up_ne _ _ (Nat.ne_of_beq_eq_false rfl)).trans hg111_66)
  have hg113_67 : g113 67 = .ref q98 := (congrFun eg113 67).trans ((va_up_ne _ _ (Nat.ne_of_beq_eq_false rfl)).trans hg111_67)
  have hg113_68 : g113 68 = .ref q100 := (congrFun eg113 68).trans ((va_up_ne _ _ (Nat.ne_of_beq_eq_false rfl)).trans hg111_68)
  have hg113_69 : g113 69 = .ref q102 := (congrFun eg113 69).trans ((va_up_ne _ _ (Nat.ne_of_beq_eq_false rfl)).trans hg111_69)
  have hg113_70 : g113 70 = .ref q104 := (congrFun eg113 70).trans ((va_up_ne _ _ (Nat.ne_of_beq_eq_false rfl)).trans hg111_70)
  have hg113_71 : g113 71 = .ref q106 := (congrFun eg113 71).trans ((va_up_ne _ _ (Nat.ne_of_beq_eq_false rfl)).trans hg111_71)
  have hg113_72 : g113 72 = .ref q108 := (congrFun eg113 72).trans ((va_up_ne _ _ (Nat.ne_of_beq_eq_false rfl)).trans hg111_72)
  have hg113_73 : g113 73 = .ref q110 := (congrFun eg113 73).trans ((va_up_ne _ _ (Nat.ne_of_beq_eq_false rfl)).trans hg111_73)
  clear hg111_0 hg111_1 hg111_8 hg111_9 hg111_16 hg111_17 hg111_19 hg111_20 hg111_21 hg111_22 hg111_23 hg111_24 hg111_25 hg111_26 hg111_46 hg111_47 hg111_48 hg111_55 hg111_74 hg111_75 hg111_86 hg111_87 hg111_88 hg111_89 hg111_95 hg111_2 hg111_3 hg111_4 hg111_5 hg111_6 hg111_7 hg111_10 hg111_11 hg111_12 hg111_13 hg111_14 hg111_15 hg111_18 hg111_27 hg111_28 hg111_29 hg111_30 hg111_31 hg111_32 hg111_33 hg111_34 hg111_35 hg111_36 hg111_37 hg111_38 hg111_39 hg111_40 hg111_41 hg111_42 hg111_43 hg111_44 hg111_45 hg111_49 hg111_50 hg111_51 hg111_52 hg111_53 hg111_54 hg111_56 hg111_57 hg111_58 hg111_59 hg111_60 hg111_61 hg111_62 hg111_63 hg111_64 hg111_65 hg111_66 hg111_67 hg111_68 hg111_69 hg111_70 hg111_71 hg111_72 hg111_73
  have hg113_76 : g113 76 = .ref q112 := by rw [eg113]; exact va_up_self _ _ _
  refine lv_aload_n hx hb dX13_init_482 rfl (lv_at hl 0 rfl) ?_
  refine lv_sipush (v := 256) hx hb dX13_init_483 (by decide) ?_
  refine va_newa (atype := .int) (ty := .int) (N' := 256) (a0 := (256, .inl (fun _ => (0 : Int32)))) hx hb (hts _ (vA_in _ _ (in_2 _ (List.mem_of_getElem? (i := 38) rfl)))) rfl hK hP hD hS hA (fun _ => rfl) (by decide) (by decide) (Nat.le_of_ble_eq_true rfl) (Nat.le_of_ble_eq_true rfl) (Nat.le_of_ble_eq_true rfl) dX13_init_486 (fun q114 kq114 H hK hP hD hS => ?_)
  have hK : va_K (dC, dI) vwCl [(kq1, .int), (kq13, .byte), (kq72, .boolean), (kq114, .int)] s := hK
  obtain ⟨wq114, ewq114⟩ : ∃ z : va_W, z = wq112 ++ [(q114, .inl (kq114, 256, .inl (fun _ => (0 : Int32))))] := ⟨_, rfl⟩
  replace hP : va_P (dC, dI) vwCl ((h, .inr (14, mL g113)) :: wq114) H := by rw [ewq114]; exact hP
  replace hD : va_D A ((h, .inr (14, mL g113)) :: wq114) := by rw [ewq114]; exact hD
  refine W.widen (k := 57) (n := 9950) (by omega) (by omega) ?_
  obtain rfl : kq1 = kq114 := ub_sa_int hK 0 3 rfl rfl
  have hK := hK.sub (tys' := [(kq1, .int), (kq13, .byte), (kq72, .boolean)]) [0, 1, 2] rfl
  refine va_putF (D := (dC, dI)) (ci := 14) (v := .ref q114) (ty := .array .int) (C := RX13) (T := TX13) (N := 97) hx hb hts (fun w h => vA_in _ w (in_X13 w h)) tyX13 tyX13_ok nmX13 hown hK hP hD hS 0 rfl rfl 77 (by decide) (hts _ (vA_in _ _ (in_25 _ (List.mem_of_getElem? (i := 18) rfl)))) (fun _ h9 => h9) rfl hin rfl (by decide +kernel) rfl rfl (mL_lt (Nat.le_of_ble_eq_true rfl)) dX13_init_488 (fun H locs hP hD hS => ?_)
  replace hP : va_P (dC, dI) vwCl ((h, .inr (14, (mL g113).set 77 (.ref q114))) :: wq114) H := hP
  replace hD : va_D A ((h, .inr (14, (mL g113).set 77 (.ref q114))) :: wq114) := hD
  obtain ⟨g115, eg115⟩ : ∃ z9, z9 = va_up g113 77 (.ref q114) := ⟨_, rfl⟩
  rw [mL_upd, ← eg115] at hP hD
  have hg115_0 : g115 0 = .int 0 := (congrFun eg115 0).trans ((va_up_ne _ _ (Nat.ne_of_beq_eq_false rfl)).trans hg113_0)
  have hg115_1 : g115 1 = .int 0 := (congrFun eg115 1).trans ((va_up_ne _ _ (Nat.ne_of_beq_eq_false rfl)).trans hg113_1)
  have hg115_8 : g115 8 = .int 0 := (congrFun eg115 8).trans ((va_up_ne _ _ (Nat.ne_of_beq_eq_false rfl)).trans hg113_8)
  have hg115_9 : g115 9 = .int 0 := (congrFun eg115 9).trans ((va_up_ne _ _ (Nat.ne_of_beq_eq_false rfl)).trans hg113_9)
  have hg115_16 : g115 16 = .int 0 := (congrFun eg115 16).trans ((va_up_ne _ _ (Nat.ne_of_beq_eq_false rfl)).trans hg113_16)
  have hg115_17 : g115 17 = .int 0 := (congrFun eg115 17).trans ((va_up_ne _ _ (Nat.ne_of_beq_eq_false rfl)).trans hg113_17)
  have hg115_19 : g115 19 = .int 0 := (congrFun eg115 19).trans ((va_up_ne _ _ (Nat.ne_of_beq_eq_false rfl)).trans hg113_19)
  have hg115_20 : g115 20 = .int 0 := (congrFun eg115 20).trans ((va_up_ne _ _ (Nat.ne_of_beq_eq_false rfl)).trans hg113_20)
  have hg115_21 : g115 21 = .int 0 := (congrFun eg115 21).trans ((va_up_ne _ _ (Nat.ne_of_beq_eq_false rfl)).trans hg113_21)
  have hg115_22 : g115 22 = .int 0 := (congrFun eg115 22).trans ((va_up_ne _ _ (Nat.ne_of_beq_eq_false rfl)).trans hg113_22)
  have hg115_23 : g115 23 = .int 0 := (congrFun eg115 23).trans ((va_up_ne _ _ (Nat.ne_of_beq_eq_false rfl)).trans hg113_23)
  have hg115_24 : g115 24 = .int 0 := (congrFun eg115 24).trans ((va_up_ne _ _ (Nat.ne_of_beq_eq_false rfl)).trans hg113_24)
  have hg115_25 : g115 25 = .int 0 := (congrFun eg115 25).trans ((va_up_ne _ _ (Nat.ne_of_beq_eq_false rfl)).trans hg113_25)
  have hg115_26 : g115 26 = .int 0 := (congrFun eg115 26).trans ((va_up_ne _ _ (Nat.ne_of_beq_eq_false rfl)).trans hg113_26)
  have hg115_46 : g115 46 = .int 0 := (congrFun eg115 46).trans ((va_up_ne _ _ (Nat.ne_of_beq_eq_false rfl)).trans hg113_46)
  have hg115_47 : g115 47 = .int 0 := (congrFun eg115 47).trans ((va_up_ne _ _ (Nat.ne_of_beq_eq_false rfl)).trans hg113_47)
  have hg115_48 : g115 48 = .int 0 := (congrFun eg115 48).trans ((va_up_ne _ _ (Nat.ne_of_beq_eq_false rfl)).trans hg113_48)
  have hg115_55 : g115 55 = .int 0 := (congrFun eg115 55).trans ((va_up_ne _ _ (Nat.ne_of_beq_eq_false rfl)).trans hg113_55)
  have hg115_74 : g115 74 = .int 0 := (congrFun eg115 74).trans ((va_up_ne _ _ (Nat.ne_of_beq_eq_false rfl)).trans hg113_74)
  have hg115_75 : g115 75 = .int 0 := (congrFun eg115 75).trans ((va_up_ne _ _ (Nat.ne_of_beq_eq_false rfl)).trans hg113_75)
  have hg115_86 : g115 86 = .int 0 := (congrFun eg115 86).trans ((va_up_ne _ _ (Nat.ne_of_beq_eq_false rfl)).trans hg113_86)
  have hg115_87 : g115 87 = .int 0 := (congrFun eg115 87).trans ((va_up_ne _ _ (Nat.ne_of_beq_eq_false rfl)).trans hg113_87)
  have hg115_88 : g115 88 = .int 0 := (congrFun eg115 88).trans ((va_up_ne _ _ (Nat.ne_of_beq_eq_false rfl)).trans hg113_88)
  have hg115_89 : g115 89 = .int 0 := (congrFun eg115 89).trans ((va_up_ne _ _ (Nat.ne_of_beq_eq_false rfl)).trans hg113_89)
  have hg115_95 : g115 95 = .int 0 := (congrFun eg115 95).trans ((va_up_ne _ _ (Nat.ne_of_beq_eq_false rfl)).trans hg113_95)
  have hg115_2 : g115 2 = .ref q1 := (congrFun eg115 2).trans ((va_up_ne _ _ (Nat.ne_of_beq_eq_false rfl)).trans hg113_2)
  have hg115_3 : g115 3 = .ref q3 := (congrFun eg115 3).trans ((va_up_ne _ _ (Nat.ne_of_beq_eq_false rfl)).trans hg113_3)
  have hg115_4 : g115 4 = .ref q5 := (congrFun eg115 4).trans ((va_up_ne _ _ (Nat.ne_of_beq_eq_false rfl)).trans hg113_4)
  have hg115_5 : g115 5 = .ref q7 := (congrFun eg115 5).trans ((va_up_ne _ _ (Nat.ne_of_beq_eq_false rfl)).trans hg113_5)
  have hg115_6 : g115 6 = .ref q9 := (congrFun eg115 6).trans ((va_up_ne _ _ (Nat.ne_of_beq_eq_false rfl)).trans hg113_6)
  have hg115_7 : g115 7 = .ref q11 := (congrFun eg115 7).trans ((va_up_ne _ _ (Nat.ne_of_beq_eq_false rfl)).trans hg113_7)
  have hg115_10 : g115 10 = .ref q13 := (congrFun eg115 10).trans ((va_up_ne _ _ (Nat.ne_of_beq_eq_false rfl)).trans hg113_10)
  have hg115_11 : g115 11 = .ref q15 := (congrFun eg115 11).trans ((va_up_ne _ _ (Nat.ne_of_beq_eq_false rfl)).trans hg113_11)
  have hg115_12 : g115 12 = .ref q17 := (congrFun eg115 12).trans ((va_up_ne _ _ (Nat.ne_of_beq_eq_false rfl)).trans hg113_12)
  have hg115_13 : g115 13 = .ref q19 := (congrFun eg115 13).trans ((va_up_ne _ _ (Nat.ne_of_beq_eq_false rfl)).trans hg113_13)
  have hg115_14 : g115 14 = .ref q21 := (congrFun eg115 14).trans ((va_up_ne _ _ (Nat.ne_of_beq_eq_false rfl)).trans hg113_14)
  have hg115_15 : g115 15 = .ref q23 := (congrFun eg115 15).trans ((va_up_ne _ _ (Nat.ne_of_beq_eq_false rfl)).trans hg113_15)
  have hg115_18 : g115 18 = .ref q13 := (congrFun eg115 18).trans ((va_up_ne _ _ (Nat.ne_of_beq_eq_false rfl)).trans hg113_18)
  have hg115_27 : g115 27 = .ref q26 := (congrFun eg115 27).trans ((va_up_ne _ _ (Nat.ne_of_beq_eq_false rfl)).trans hg113_27)
  have hg115_28 : g115 28 = .ref q28 := (congrFun eg115 28).trans ((va_up_ne _ _ (Nat.ne_of_beq_eq_false rfl)).trans hg113_28)
  have hg115_29 : g115 29 = .ref q30 := (congrFun eg115 29).trans ((va_up_ne _ _ (Nat.ne_of_beq_eq_false rfl)).trans hg113_29)
  have hg115_30 : g115 30 = .ref q32 := (congrFun eg115 30).trans ((va_up_ne _ _ (Nat.ne_of_beq_eq_false rfl)).trans hg113_30)
  have hg115_31 : g115 31 = .ref q34 := (congrFun eg115 31).trans ((va_up_ne _ _ (Nat.ne_of_beq_eq_false rfl)).trans hg113_31)
  have hg115_32 : g115 32 = .ref q36 := (congrFun eg115 32).trans ((va_up_ne _ _ (Nat.ne_of_beq_eq_false rfl)).trans hg113_32)
  have hg115_33 : g115 33 = .ref q38 := (congrFun eg115 33).trans ((va_up_ne _ _ (Nat.ne_of_beq_eq_false rfl)).trans hg113_33)
  have hg115_34 : g115 34 = .ref q40 := (congrFun eg115 34).trans ((va_up_ne _ _ (Nat.ne_of_beq_eq_false rfl)).trans hg113_34)
  have hg115_35 : g115 35 = .ref q42 := (congrFun eg115 35).trans ((va_up_ne _ _ (Nat.ne_of_beq_eq_false rfl)).trans hg113_35)
  have hg115_36 : g115 36 = .ref q44 := (congrFun eg115 36).trans ((va_up_ne _ _ (Nat.ne_of_beq_eq_false rfl)).trans hg113_36)
  have hg115_37 : g115 37 = .ref q46 := (congrFun eg115 37).trans ((va_up_ne _ _ (Nat.ne_of_beq_eq_false rfl)).trans hg113_37)
  have hg115_38 : g115 38 = .ref q48 := (congrFun eg115 38).trans ((va_up_ne _ _ (Nat.ne_of_beq_eq_false rfl)).trans hg113_38)
  have hg115_39 : g115 39 = .ref q50 := (congrFun eg115 39).trans ((va_up_ne _ _ (Nat.ne_of_beq_eq_false rfl)).trans hg113_39)
  have hg115_40 : g115 40 = .ref q52 := (congrFun eg115 40).trans ((va_up_ne _ _ (Nat.ne_of_beq_eq_false rfl)).trans hg113_40)
  have hg115_41 : g115 41 = .ref q54 := (congrFun eg115 41).trans ((va_up_ne _ _ (Nat.ne_of_beq_eq_false rfl)).trans hg113_41)
  have hg115_42 : g115 42 = .ref q56 := (congrFun eg115 42).trans ((va_up_ne _ _ (Nat.ne_of_beq_eq_false rfl)).trans hg113_42)
  have hg115_43 : g115 43 = .ref q58 := (congrFun eg115 43).trans ((va_up_ne _ _ (Nat.ne_of_beq_eq_false rfl)).trans hg113_43)
  have hg115_44 : g115 44 = .ref q60 := (congrFun eg115 44).trans ((va_up_ne _ _ (Nat.ne_of_beq_eq_false rfl)).trans hg113_44)
  have hg115_45 : g115 45 = .ref q62 := (congrFun eg115 45).trans ((va_up_ne _ _ (Nat.ne_of_beq_eq_false rfl)).trans hg113_45)
  have hg115_49 : g115 49 = .ref q64 := (congrFun eg115 49).trans ((va_up_ne _ _ (Nat.ne_of_beq_eq_false rfl)).trans hg113_49)
  have hg115_50 : g115 50 = .ref q66 := (congrFun eg115 50).trans ((va_up_ne _ _ (Nat.ne_of_beq_eq_false rfl)).trans hg113_50)
  have hg115_51 : g115 51 = .ref q68 := (congrFun eg115 51).trans ((va_up_ne _ _ (Nat.ne_of_beq_eq_false rfl)).trans hg113_51)
  have hg115_52 : g115 52 = .ref q70 := (congrFun eg115 52).trans ((va_up_ne _ _ (Nat.ne_of_beq_eq_false rfl)).trans hg113_52)
  have hg115_53 : g115 53 = .ref q72 := (congrFun eg115 53).trans ((va_up_ne _ _ (Nat.ne_of_beq_eq_false rfl)).trans hg113_53)
  have hg115_54 : g115 54 = .ref q74 := (congrFun eg115 54).trans ((va_up_ne _ _ (Nat.ne_of_beq_eq_false rfl)).trans hg113_54)
  have hg115_56 : g115 56 = .ref q76 := (congrFun eg115 56).trans ((va_up_ne _ _ (Nat.ne_of_beq_eq_false rfl)).trans hg113_56)
  have hg115_57 : g115 57 = .ref q78 := (congrFun eg115 57).trans ((va_up_ne _ _ (Nat.ne_of_beq_eq_false rfl)).trans hg113_57)
  have hg115_58 : g115 58 = .ref q80 := (congrFun eg115 58).trans ((va_up_ne _ _ (Nat.ne_of_beq_eq_false rfl)).trans hg113_58)
  have hg115_59 : g115 59 = .ref q82 := (congrFun eg115 59).trans ((va_up_ne _ _ (Nat.ne_of_beq_eq_false rfl)).trans hg113_59)
  have hg115_60 : g115 60 = .ref q84 := (congrFun eg115 60).trans ((va_up_ne _ _ (Nat.ne_of_beq_eq_false rfl)).trans hg113_60)
  have hg115_61 : g115 61 = .ref q86 := (congrFun eg115 61).trans ((va_up_ne _ _ (Nat.ne_of_beq_eq_false rfl)).trans hg113_61)
  have hg115_62 : g115 62 = .ref q88 := (congrFun eg115 62).trans ((va_up_ne _ _ (Nat.ne_of_beq_eq_false rfl)).trans hg113_62)
  have hg115_63 : g115 63 = .ref q90 := (congrFun eg115 63).trans ((va_up_ne _ _ (Nat.ne_of_beq_eq_false rfl)).trans hg113_63)
  have hg115_64 : g115 64 = .ref q92 := (congrFun eg115 64).trans ((va_up_ne _ _ (Nat.ne_of_beq_eq_false rfl)).trans hg113_64)
  have hg115_65 : g115 65 = .ref q94 := (congrFun eg115 65).trans ((va_up_ne _ _ (Nat.ne_of_beq_eq_false rfl)).trans hg113_65)
  have hg115_66 : g115 66 = .ref q96 := (congrFun eg115 66).trans ((va_up_ne _ _ (Nat.ne_of_beq_eq_false rfl)).trans hg113_66)
  have hg115_67 : g115 67 = .ref q98 := (congrFun eg115 67).trans ((va_up_ne _ _ (Nat.ne_of_beq_eq_false rfl)).trans hg113_67)
  have hg115_68 : g115 68 = .ref q100 := (congrFun eg115 68).trans ((va_up_ne _ _ (Nat.ne_of_beq_eq_false rfl)).trans hg113_68)
  have hg115_69 : g115 69 = .ref q102 := (congrFun eg115 69).trans ((va_up_ne _ _ (Nat.ne_of_beq_eq_false rfl)).trans hg113_69)
  have hg115_70 : g115 70 = .ref q104 := (congrFun eg115 70).trans ((va_up_ne _ _ (Nat.ne_of_beq_eq_false rfl)).trans hg113_70)
  have hg115_71 : g115 71 = .ref q106 := (congrFun eg115 71).trans ((va_up_ne _ _ (Nat.ne_of_beq_eq_false rfl)).trans hg113_71)
  have hg115_72 : g115 72 = .ref q108 := (congrFun eg115 72).trans ((va_up_ne _ _ (Nat.ne_of_beq_eq_false rfl)).trans hg113_72)
  have hg115_73 : g115 73 = .ref q110 := (congrFun eg115 73).trans ((va_up_ne _ _ (Nat.ne_of_beq_eq_false rfl)).trans hg113_73)
  have hg115_76 : g115 76 = .ref q112 := (congrFun eg115 76).trans ((va_up_ne _ _ (Nat.ne_of_beq_eq_false rfl)).trans hg113_76)
  clear hg113_0 hg113_1 hg113_8 hg113_9 hg113_16 hg113_17 hg113_19 hg113_20 hg113_21 hg113_22 hg113_23 hg113_24 hg113_25 hg113_26 hg113_46 hg113_47 hg113_48 hg113_55 hg113_74 hg113_75 hg113_86 hg113_87 hg113_88 hg113_89 hg113_95 hg113_2 hg113_3 hg113_4 hg113_5 hg113_6 hg113_7 hg113_10 hg113_11 hg113_12 hg113_13 hg113_14 hg113_15 hg113_18 hg113_27 hg113_28 hg113_29 hg113_30 hg113_31 hg113_32 hg113_33 hg113_34 hg113_35 hg113_36 hg113_37 hg113_38 hg113_39 hg113_40 hg113_41 hg113_42 hg113_43 hg113_44 hg113_45 hg113_49 hg113_50 hg113_51 hg113_52 hg113_53 hg113_54 hg113_56 hg113_57 hg113_58 hg113_59 hg113_60 hg113_61 hg113_62 hg113_63 hg113_64 hg113_65 hg113_66 hg113_67 hg113_68 hg113_69 hg113_70 hg113_71 hg113_72 hg113_73 hg113_76
  have hg115_77 : g115 77 = .ref q114 := by rw [eg115]; exact va_up_self _ _ _
  refine lv_aload_n hx hb dX13_init_491 rfl (lv_at hl 0 rfl) ?_
  refine lv_sipush (v := 256) hx hb dX13_init_492 (by decide) ?_
  refine va_newa (atype := .int) (ty := .int) (N' := 256) (a0 := (256, .inl (fun _ => (0 : Int32)))) hx hb (hts _ (vA_in _ _ (in_2 _ (List.mem_of_getElem? (i := 38) rfl)))) rfl hK hP hD hS hA (fun _ => rfl) (by decide) (by decide) (Nat.le_of_ble_eq_true rfl) (Nat.le_of_ble_eq_true rfl) (Nat.le_of_ble_eq_true rfl) dX13_init_495 (fun q116 kq116 H hK hP hD hS => ?_)
  have hK : va_K (dC, dI) vwCl [(kq1, .int), (kq13, .byte), (kq72, .boolean), (kq116, .int)] s := hK
  obtain ⟨wq116, ewq116⟩ : ∃ z : va_W, z = wq114 ++ [(q116, .inl (kq116, 256, .inl (fun _ => (0 : Int32))))] := ⟨_, rfl⟩
  replace hP : va_P (dC, dI) vwCl ((h, .inr (14, mL g115)) :: wq116) H := by rw [ewq116]; exact hP
  replace hD : va_D A ((h, .inr (14, mL g115)) :: wq116) := by rw [ewq116]; exact hD
  refine W.widen (k := 58) (n := 10206) (by omega) (by omega) ?_
  obtain rfl : kq1 = kq116 := ub_sa_int hK 0 3 rfl rfl
  have hK := hK.sub (tys' := [(kq1, .int), (kq13, .byte), (kq72, .boolean)]) [0, 1, 2] rfl
  refine va_putF (D := (dC, dI)) (ci := 14) (v := .ref q116) (ty := .array .int) (C := RX13) (T := TX13) (N := 97) hx hb hts (fun w h => vA_in _ w (in_X13 w h)) tyX13 tyX13_ok nmX13 hown hK hP hD hS 0 rfl rfl 78 (by decide) (hts _ (vA_in _ _ (in_25 _ (List.mem_of_getElem? (i := 19) rfl)))) (fun _ h9 => h9) rfl hin rfl (by decide +kernel) rfl rfl (mL_lt (Nat.le_of_ble_eq_true rfl)) dX13_init_497 (fun H locs hP hD hS => ?_)
  replace hP : va_P (dC, dI) vwCl ((h, .inr (14, (mL g115).set 78 (.ref q116))) :: wq116) H := hP
  replace hD : va_D A ((h, .inr (14, (mL g115).set 78 (.ref q116))) :: wq116) := hD
  obtain ⟨g117, eg117⟩ : ∃ z9, z9 = va_up g115 78 (.ref q116) := ⟨_, rfl⟩
  rw [mL_upd, ← eg117] at hP hD
  have hg117_0 : g117 0 = .int 0 := (congrFun eg117 0).trans ((va_up_ne _ _ (Nat.ne_of_beq_eq_false rfl)).trans hg115_0)
  have hg117_1 : g117 1 = .int 0 := (congrFun eg117 1).trans ((va_up_ne _ _ (Nat.ne_of_beq_eq_false rfl)).trans hg115_1)
  have hg117_8 : g117 8 = .int 0 := (congrFun eg117 8).trans ((va_up_ne _ _ (Nat.ne_of_beq_eq_false rfl)).trans hg115_8)
  have hg117_9 : g117 9 = .int 0 := (congrFun eg117 9).trans ((va_up_ne _ _ (Nat.ne_of_beq_eq_false rfl)).trans hg115_9)
  have hg117_16 : g117 16 = .int 0 := (congrFun eg117 16).trans ((va_up_ne _ _ (Nat.ne_of_beq_eq_false rfl)).trans hg115_16)
  have hg117_17 : g117 17 = .int 0 := (congrFun eg117 17).trans ((va_up_ne _ _ (Nat.ne_of_beq_eq_false rfl)).trans hg115_17)
  have hg117_19 : g117 19 = .int 0 := (congrFun eg117 19).trans ((va_up_ne _ _ (Nat.ne_of_beq_eq_false rfl)).trans hg115_19)
  have hg117_20 : g117 20 = .int 0 := (congrFun eg117 20).trans ((va_up_ne _ _ (Nat.ne_of_beq_eq_false rfl)).trans hg115_20)
  have hg117_21 : g117 21 = .int 0 := (congrFun eg117 21).trans ((va_up_ne _ _ (Nat.ne_of_beq_eq_false rfl)).trans hg115_21)
  have hg117_22 : g117 22 = .int 0 := (congrFun eg117 22).trans ((va_up_ne _ _ (Nat.ne_of_beq_eq_false rfl)).trans hg115_22)
  have hg117_23 : g117 23 = .int 0 := (congrFun eg117 23).trans ((va_up_ne _ _ (Nat.ne_of_beq_eq_false rfl)).trans hg115_23)
  have hg117_24 : g117 24 = .int 0 := (congrFun eg117 24).trans ((va_up_ne _ _ (Nat.ne_of_beq_eq_false rfl)).trans hg115_24)
  have hg117_25 : g117 25 = .int 0 := (congrFun eg117 25).trans ((va_up_ne _ _ (Nat.ne_of_beq_eq_false rfl)).trans hg115_25)
  have hg117_26 : g117 26 = .int 0 := (congrFun eg117 26).trans ((va_up_ne _ _ (Nat.ne_of_beq_eq_false rfl)).trans hg115_26)
  have hg117_46 : g117 46 = .int 0 := (congrFun eg117 46).trans ((va_up_ne _ _ (Nat.ne_of_beq_eq_false rfl)).trans hg115_46)
  have hg117_47 : g117 47 = .int 0 := (congrFun eg117 47).trans ((va_up_ne _ _ (Nat.ne_of_beq_eq_false rfl)).trans hg115_47)
  have hg117_48 : g117 48 = .int 0 := (congrFun eg117 48).trans ((va_up_ne _ _ (Nat.ne_of_beq_eq_false rfl)).trans hg115_48)
  have hg117_55 : g117 55 = .int 0 := (congrFun eg117 55).trans ((va_up_ne _ _ (Nat.ne_of_beq_eq_false rfl)).trans hg115_55)
  have hg117_74 : g117 74 = .int 0 := (congrFun eg117 74).trans ((va_up_ne _ _ (Nat.ne_of_beq_eq_false rfl)).trans hg115_74)
  have hg117_75 : g117 75 = .int 0 := (congrFun eg117 75).trans ((va_up_ne _ _ (Nat.ne_of_beq_eq_false rfl)).trans hg115_75)
  have hg117_86 : g117 86 = .int 0 := (congrFun eg117 86).trans ((va_up_ne _ _ (Nat.ne_of_beq_eq_false rfl)).trans hg115_86)
  have hg117_87 : g117 87 = .int 0 := (congrFun eg117 87).trans ((va_up_ne _ _ (Nat.ne_of_beq_eq_false rfl)).trans hg115_87)
  have hg117_88 : g117 88 = .int 0 := (congrFun eg117 88).trans ((va_up_ne _ _ (Nat.ne_of_beq_eq_false rfl)).trans hg115_88)
  have hg117_89 : g117 89 = .int 0 := (congrFun eg117 89).trans ((va_up_ne _ _ (Nat.ne_of_beq_eq_false rfl)).trans hg115_89)
  have hg117_95 : g117 95 = .int 0 := (congrFun eg117 95).trans ((va_up_ne _ _ (Nat.ne_of_beq_eq_false rfl)).trans hg115_95)
  have hg117_2 : g117 2 = .ref q1 := (congrFun eg117 2).trans ((va_up_ne _ _ (Nat.ne_of_beq_eq_false rfl)).trans hg115_2)
  have hg117_3 : g117 3 = .ref q3 := (congrFun eg117 3).trans ((va_up_ne _ _ (Nat.ne_of_beq_eq_false rfl)).trans hg115_3)
  have hg117_4 : g117 4 = .ref q5 := (congrFun eg117 4).trans ((va_up_ne _ _ (Nat.ne_of_beq_eq_false rfl)).trans hg115_4)
  have hg117_5 : g117 5 = .ref q7 := (congrFun eg117 5).trans ((va_up_ne _ _ (Nat.ne_of_beq_eq_false rfl)).trans hg115_5)
  have hg117_6 : g117 6 = .ref q9 := (congrFun eg117 6).trans ((va_up_ne _ _ (Nat.ne_of_beq_eq_false rfl)).trans hg115_6)
  have hg117_7 : g117 7 = .ref q11 := (congrFun eg117 7).trans ((va_up_ne _ _ (Nat.ne_of_beq_eq_false rfl)).trans hg115_7)
  have hg117_10 : g117 10 = .ref q13 := (congrFun eg117 10).trans ((va_up_ne _ _ (Nat.ne_of_beq_eq_false rfl)).trans hg115_10)
  have hg117_11 : g117 11 = .ref q15 := (congrFun eg117 11).trans ((va_up_ne _ _ (Nat.ne_of_beq_eq_false rfl)).trans hg115_11)
  have hg117_12 : g117 12 = .ref q17 := (congrFun eg117 12).trans ((va_up_ne _ _ (Nat.ne_of_beq_eq_false rfl)).trans hg115_12)
  have hg117_13 : g117 13 = .ref q19 := (congrFun eg117 13).trans ((va_up_ne _ _ (Nat.ne_of_beq_eq_false rfl)).trans hg115_13)
  have hg117_14 : g117 14 = .ref q21 := (congrFun eg117 14).trans ((va_up_ne _ _ (Nat.ne_of_beq_eq_false rfl)).trans hg115_14)
  have hg117_15 : g117 15 = .ref q23 := (congrFun eg117 15).trans ((va_up_ne _ _ (Nat.ne_of_beq_eq_false rfl)).trans hg115_15)
  have hg117_18 : g117 18 = .ref q13 := (congrFun eg117 18).trans ((va_up_ne _ _ (Nat.ne_of_beq_eq_false rfl)).trans hg115_18)
  have hg117_27 : g117 27 = .ref q26 := (congrFun eg117 27).trans ((va_up_ne _ _ (Nat.ne_of_beq_eq_false rfl)).trans hg115_27)
  have hg117_28 : g117 28 = .ref q28 := (congrFun eg117 28).trans ((va_up_ne _ _ (Nat.ne_of_beq_eq_false rfl)).trans hg115_28)
  have hg117_29 : g117 29 = .ref q30 := (congrFun eg117 29).trans ((va_up_ne _ _ (Nat.ne_of_beq_eq_false rfl)).trans hg115_29)
  have hg117_30 : g117 30 = .ref q32 := (congrFun eg117 30).trans ((va_up_ne _ _ (Nat.ne_of_beq_eq_false rfl)).trans hg115_30)
  have hg117_31 : g117 31 = .ref q34 := (congrFun eg117 31).trans ((va_up_ne _ _ (Nat.ne_of_beq_eq_false rfl)).trans hg115_31)
  have hg117_32 : g117 32 = .ref q36 := (congrFun eg117 32).trans ((va_up_ne _ _ (Nat.ne_of_beq_eq_false rfl)).trans hg115_32)
  have hg117_33 : g117 33 = .ref q38 := (congrFun eg117 33).trans ((va_up_ne _ _ (Nat.ne_of_beq_eq_false rfl)).trans hg115_33)
  have hg117_34 : g117 34 = .ref q40 := (congrFun eg117 34).trans ((va_up_ne _ _ (Nat.ne_of_beq_eq_false rfl)).trans hg115_34)
  have hg117_35 : g117 35 = .ref q42 := (congrFun eg117 35).trans ((va_up_ne _ _ (Nat.ne_of_beq_eq_false rfl)).trans hg115_35)
  have hg117_36 : g117 36 = .ref q44 := (congrFun eg117 36).trans ((va_up_ne _ _ (Nat.ne_of_beq_eq_false rfl)).trans hg115_36)
  have hg117_37 : g117 37 = .ref q46 := (congrFun eg117 37).trans ((va_up_ne _ _ (Nat.ne_of_beq_eq_false rfl)).trans hg115_37)
  have hg117_38 : g117 38 = .ref q48 := (congrFun eg117 38).trans ((va_up_ne _ _ (Nat.ne_of_beq_eq_false rfl)).trans hg115_38)
  have hg117_39 : g117 39 = .ref q50 := (congrFun eg117 39).trans ((va_up_ne _ _ (Nat.ne_of_beq_eq_false rfl)).trans hg115_39)
  have hg117_40 : g117 40 = .ref q52 := (congrFun eg117 40).trans ((va_up_ne _ _ (Nat.ne_of_beq_eq_false rfl)).trans hg115_40)
  have hg117_41 : g117 41 = .ref q54 := (congrFun eg117 41).trans ((va_up_ne _ _ (Nat.ne_of_beq_eq_false rfl)).trans hg115_41)
  have hg117_42 : g117 42 = .ref q56 := (congrFun eg117 42).trans ((va_up_ne _ _ (Nat.ne_of_beq_eq_false rfl)).trans hg115_42)
  have hg117_43 : g117 43 = .ref q58 := (congrFun eg117 43).trans ((va_up_ne _ _ (Nat.ne_of_beq_eq_false rfl)).trans hg115_43)
  have hg117_44 : g117 44 = .ref q60 := (congrFun eg117 44).trans ((va_up_ne _ _ (Nat.ne_of_beq_eq_false rfl)).trans hg115_44)
  have hg117_45 : g117 45 = .ref q62 := (congrFun eg117 45).trans ((va_up_ne _ _ (Nat.ne_of_beq_eq_false rfl)).trans hg115_45)
  have hg117_49 : g117 49 = .ref q64 := (congrFun eg117 49).trans ((va_up_ne _ _ (Nat.ne_of_beq_eq_false rfl)).trans hg115_49)
  have hg117_50 : g117 50 = .ref q66 := (congrFun eg117 50).trans ((va_up_ne _ _ (Nat.ne_of_beq_eq_false rfl)).trans hg115_50)
  have hg117_51 : g117 51 = .ref q68 := (congrFun eg117 51).trans ((va_up_ne _ _ (Nat.ne_of_beq_eq_false rfl)).trans hg115_51)
  have hg117_52 : g117 52 = .ref q70 := (congrFun eg117 52).trans ((va_up_ne _ _ (Nat.ne_of_beq_eq_false rfl)).trans hg115_52)
  have hg117_53 : g117 53 = .ref q72 := (congrFun eg117 53).trans ((va_up_ne _ _ (Nat.ne_of_beq_eq_false rfl)).trans hg115_53)
  have hg117_54 : g117 54 = .ref q74 := (congrFun eg117 54).trans ((va_up_ne _ _ (Nat.ne_of_beq_eq_false rfl)).trans hg115_54)
  have hg117_56 : g117 56 = .ref q76 := (congrFun eg117 56).trans ((va_up_ne _ _ (Nat.ne_of_beq_eq_false rfl)).trans hg115_56)
  have hg117_57 : g117 57 = .ref q78 := (congrFun eg117 57).trans ((va_up_ne _ _ (Nat.ne_of_beq_eq_false rfl)).trans hg115_57)
  have hg117_58 : g117 58 = .ref q80 := (congrFun eg117 58).trans ((va_up_ne _ _ (Nat.ne_of_beq_eq_false rfl)).trans hg115_58)
  have hg117_59 : g117 59 = .ref q82 := (congrFun eg117 59).trans ((va_up_ne _ _ (Nat.ne_of_beq_eq_false rfl)).trans hg115_59)
  have hg117_60 : g117 60 = .ref q84 := (congrFun eg117 60).trans ((va_up_ne _ _ (Nat.ne_of_beq_eq_false rfl)).trans hg115_60)
  have hg117_61 : g117 61 = .ref q86 := (congrFun eg117 61).trans ((va_up_ne _ _ (Nat.ne_of_beq_eq_false rfl)).trans hg115_61)
  have hg117_62 : g117 62 = .ref q88 := (congrFun eg117 62).trans ((va_up_ne _ _ (Nat.ne_of_beq_eq_false rfl)).trans hg115_62)
  have hg117_63 : g117 63 = .ref q90 := (congrFun eg117 63).trans ((va_up_ne _ _ (Nat.ne_of_beq_eq_false rfl)).trans hg115_63)
  have hg117_64 : g117 64 = .ref q92 := (congrFun eg117 64).trans ((va_up_ne _ _ (Nat.ne_of_beq_eq_false rfl)).trans hg115_64)
  have hg117_65 : g117 65 = .ref q94 := (congrFun eg117 65).trans ((va_up_ne _ _ (Nat.ne_of_beq_eq_false rfl)).trans hg115_65)
  have hg117_66 : g117 66 = .ref q96 := (congrFun eg117 66).trans ((va_up_ne _ _ (Nat.ne_of_beq_eq_false rfl)).trans hg115_66)
  have hg117_67 : g117 67 = .ref q98 := (congrFun eg117 67).trans ((va_up_ne _ _ (Nat.ne_of_beq_eq_false rfl)).trans hg115_67)
  have hg117_68 : g117 68 = .ref q100 := (congrFun eg117 68).trans ((va_up_ne _ _ (Nat.ne_of_beq_eq_false rfl)).trans hg115_68)
  have hg117_69 : g117 69 = .ref q102 := (congrFun eg117 69).trans ((va_up_ne _ _ (Nat.ne_of_beq_eq_false rfl)).trans hg115_69)
  have hg117_70 : g117 70 = .ref q104 := (congrFun eg117 70).trans ((va_up_ne _ _ (Nat.ne_of_beq_eq_false rfl)).trans hg115_70)
  have hg117_71 : g117 71 = .ref q106 := (congrFun eg117 71).trans ((va_up_ne _ _ (Nat.ne_of_beq_eq_false rfl)).trans hg115_71)
  have hg117_72 : g117 72 = .ref q108 := (congrFun eg117 72).trans ((va_up_ne _ _ (Nat.ne_of_beq_eq_false rfl)).trans hg115_72)
  have hg117_73 : g117 73 = .ref q110 := (congrFun eg117 73).trans ((va_up_ne _ _ (Nat.ne_of_beq_eq_false rfl)).trans hg115_73)
  have hg117_76 : g117 76 = .ref q112 := (congrFun eg117 76).trans ((va_up_ne _ _ (Nat.ne_of_beq_eq_false rfl)).trans hg115_76)
  have hg117_77 : g117 77 = .ref q114 := (congrFun eg117 77).trans ((va_up_ne _ _ (Nat.ne_of_beq_eq_false rfl)).trans hg115_77)
  clear hg115_0 hg115_1 hg115_8 hg115_9 hg115_16 hg115_17 hg115_19 hg115_20 hg115_21 hg115_22 hg115_23 hg115_24 hg115_25 hg115_26 hg115_46 hg115_47 hg115_48 hg115_55 hg115_74 hg115_75 hg115_86 hg115_87 hg115_88 hg115_89 hg115_95 hg115_2 hg115_3 hg115_4 hg115_5 hg115_6 hg115_7 hg115_10 hg115_11 hg115_12 hg115_13 hg115_14 hg115_15 hg115_18 hg115_27 hg115_28 hg115_29 hg115_30 hg115_31 hg115_32 hg115_33 hg115_34 hg115_35 hg115_36 hg115_37 hg115_38 hg115_39 hg115_40 hg115_41 hg115_42 hg115_43 hg115_44 hg115_45 hg115_49 hg115_50 hg115_51 hg115_52 hg115_53 hg115_54 hg115_56 hg115_57 hg115_58 hg115_59 hg115_60 hg115_61 hg115_62 hg115_63 hg115_64 hg115_65 hg115_66 hg115_67 hg115_68 hg115_69 hg115_70 hg115_71 hg115_72 hg115_73 hg115_76 hg115_77
  have hg117_78 : g117 78 = .ref q116 := by rw [eg117]; exact va_up_self _ _ _
  refine lv_aload_n hx hb dX13_init_500 rfl (lv_at hl 0 rfl) ?_
  refine lv_iconst (v := 2) hx hb dX13_init_501 (by decide) ?_
  refine va_newa (atype := .int) (ty := .int) (N' := 2) (a0 := (2, .inl (fun _ => (0 : Int32)))) hx hb (hts _ (vA_in _ _ (in_2 _ (List.mem_of_getElem? (i := 38) rfl)))) rfl hK hP hD hS hA (fun _ => rfl) (by decide) (by decide) (Nat.le_of_ble_eq_true rfl) (Nat.le_of_ble_eq_true rfl) (Nat.le_of_ble_eq_true rfl) dX13_init_502 (fun q118 kq118 H hK hP hD hS => ?_)
  have hK : va_K (dC, dI) vwCl [(kq1, .int), (kq13, .byte), (kq72, .boolean), (kq118, .int)] s := hK
  obtain ⟨wq118, ewq118⟩ : ∃ z : va_W, z = wq116 ++ [(q118, .inl (kq118, 2, .inl (fun _ => (0 : Int32))))] := ⟨_, rfl⟩
  replace hP : va_P (dC, dI) vwCl ((h, .inr (14, mL g117)) :: wq118) H := by rw [ewq118]; exact hP
  replace hD : va_D A ((h, .inr (14, mL g117)) :: wq118) := by rw [ewq118]; exact hD
  refine W.widen (k := 59) (n := 10208) (by omega) (by omega) ?_
  obtain rfl : kq1 = kq118 := ub_sa_int hK 0 3 rfl rfl
  have hK := hK.sub (tys' := [(kq1, .int), (kq13, .byte), (kq72, .boolean)]) [0, 1, 2] rfl
  refine va_putF (D := (dC, dI)) (ci := 14) (v := .ref q118) (ty := .array .int) (C := RX13) (T := TX13) (N := 97) hx hb hts (fun w h => vA_in _ w (in_X13 w h)) tyX13 tyX13_ok nmX13 hown hK hP hD hS 0 rfl rfl 79 (by decide) (hts _ (vA_in _ _ (in_25 _ (List.mem_of_getElem? (i := 20) rfl)))) (fun _ h9 => h9) rfl hin rfl (by decide +kernel) rfl rfl (mL_lt (Nat.le_of_ble_eq_true rfl)) dX13_init_504 (fun H locs hP hD hS => ?_)
  replace hP : va_P (dC, dI) vwCl ((h, .inr (14, (mL g117).set 79 (.ref q118))) :: wq118) H := hP
  replace hD : va_D A ((h, .inr (14, (mL g117).set 79 (.ref q118))) :: wq118) := hD
  obtain ⟨g119, eg119⟩ : ∃ z9, z9 = va_up g117 79 (.ref q118) := ⟨_, rfl⟩
  rw [mL_upd, ← eg119] at hP hD
  have hg119_0 : g119 0 = .int 0 := (congrFun eg119 0).trans ((va_up_ne _ _ (Nat.ne_of_beq_eq_false rfl)).trans hg117_0)
  have hg119_1 : g119 1 = .int 0 := (congrFun eg119 1).trans ((va_up_ne _ _ (Nat.ne_of_beq_eq_false rfl)).trans hg117_1)
  have hg119_8 : g119 8 = .int 0 := (congrFun eg119 8).trans ((va_up_ne _ _ (Nat.ne_of_beq_eq_false rfl)).trans hg117_8)
  have hg119_9 : g119 9 = .int 0 := (congrFun eg119 9).trans ((va_up_ne _ _ (Nat.ne_of_beq_eq_false rfl)).trans hg117_9)
  have hg119_16 : g119 16 = .int 0 := (congrFun eg119 16).trans ((va_up_ne _ _ (Nat.ne_of_beq_eq_false rfl)).trans hg117_16)
  have hg119_17 : g119 17 = .int 0 := (congrFun eg119 17).trans ((va_up_ne _ _ (Nat.ne_of_beq_eq_false rfl)).trans hg117_17)
  have hg119_19 : g119 19 = .int 0 := (congrFun eg119 19).trans ((va_up_ne _ _ (Nat.ne_of_beq_eq_false rfl)).trans hg117_19)
  have hg119_20 : g119 20 = .int 0 := (congrFun eg119 20).trans ((va_up_ne _ _ (Nat.ne_of_beq_eq_false rfl)).trans hg117_20)
  have hg119_21 : g119 21 = .int 0 := (congrFun eg119 21).trans ((va_up_ne _ _ (Nat.ne_of_beq_eq_false rfl)).trans hg117_21)
  have hg119_22 : g119 22 = .int 0 := (congrFun eg119 22).trans ((va_up_ne _ _ (Nat.ne_of_beq_eq_false rfl)).trans hg117_22)
  have hg119_23 : g119 23 = .int 0 := (congrFun eg119 23).trans ((va_up_ne _ _ (Nat.ne_of_beq_eq_false rfl)).trans hg117_23)
  have hg119_24 : g119 24 = .int 0 := (congrFun eg119 24).trans ((va_up_ne _ _ (Nat.ne_of_beq_eq_false rfl)).trans hg117_24)
  have hg119_25 : g119 25 = .int 0 := (congrFun eg119 25).trans ((va_up_ne _ _ (Nat.ne_of_beq_eq_false rfl)).trans hg117_25)
  have hg119_26 : g119 26 = .int 0 := (congrFun eg119 26).trans ((va_up_ne _ _ (Nat.ne_of_beq_eq_false rfl)).trans hg117_26)
  have hg119_46 : g119 46 = .int 0 := (congrFun eg119 46).trans ((va_up_ne _ _ (Nat.ne_of_beq_eq_false rfl)).trans hg117_46)
  have hg119_47 : g119 47 = .int 0 := (congrFun eg119 47).trans ((va_up_ne _ _ (Nat.ne_of_beq_eq_false rfl)).trans hg117_47)
  have hg119_48 : g119 48 = .int 0 := (congrFun eg119 48).trans ((va_up_ne _ _ (Nat.ne_of_beq_eq_false rfl)).trans hg117_48)
  have hg119_55 : g119 55 = .int 0 := (congrFun eg119 55).trans ((va_up_ne _ _ (Nat.ne_of_beq_eq_false rfl)).trans hg117_55)
  have hg119_74 : g119 74 = .int 0 := (congrFun eg119 74).trans ((va_up_ne _ _ (Nat.ne_of_beq_eq_false rfl)).trans hg117_74)
  have hg119_75 : g119 75 = .int 0 := (congrFun eg119 75).trans ((va_up_ne _ _ (Nat.ne_of_beq_eq_false rfl)).trans hg117_75)
  have hg119_86 : g119 86 = .int 0 := (congrFun eg119 86).trans ((va_up_ne _ _ (Nat.ne_of_beq_eq_false rfl)).trans hg117_86)
  have hg119_87 : g119 87 = .int 0 := (congrFun eg119 87).trans ((va_up_ne _ _ (Nat.ne_of_beq_eq_false rfl)).trans hg117_87)
  have hg119_88 : g119 88 = .int 0 := (congrFun eg119 88).trans ((va_up_ne _ _ (Nat.ne_of_beq_eq_false rfl)).trans hg117_88)
  have hg119_89 : g119 89 = .int 0 := (congrFun eg119 89).trans ((va_up_ne _ _ (Nat.ne_of_beq_eq_false rfl)).trans hg117_89)
  have hg119_95 : g119 95 = .int 0 := (congrFun eg119 95).trans ((va_up_ne _ _ (Nat.ne_of_beq_eq_false rfl)).trans hg117_95)
  have hg119_2 : g119 2 = .ref q1 := (congrFun eg119 2).trans ((va_up_ne _ _ (Nat.ne_of_beq_eq_false rfl)).trans hg117_2)
  have hg119_3 : g119 3 = .ref q3 := (congrFun eg119 3).trans ((va_up_ne _ _ (Nat.ne_of_beq_eq_false rfl)).trans hg117_3)
  have hg119_4 : g119 4 = .ref q5 := (congrFun eg119 4).trans ((va_up_ne _ _ (Nat.ne_of_beq_eq_false rfl)).trans hg117_4)
  have hg119_5 : g119 5 = .ref q7 := (congrFun eg119 5).trans ((va_up_ne _ _ (Nat.ne_of_beq_eq_false rfl)).trans hg117_5)
  have hg119_6 : g119 6 = .ref q9 := (congrFun eg119 6).trans ((va_up_ne _ _ (Nat.ne_of_beq_eq_false rfl)).trans hg117_6)
  have hg119_7 : g119 7 = .ref q11 := (congrFun eg119 7).trans ((va_up_ne _ _ (Nat.ne_of_beq_eq_false rfl)).trans hg117_7)
  have hg119_10 : g119 10 = .ref q13 := (congrFun eg119 10).trans ((va_up_ne _ _ (Nat.ne_of_beq_eq_false rfl)).trans hg117_10)
  have hg119_11 : g119 11 = .ref q15 := (congrFun eg119 11).trans ((va_up_ne _ _ (Nat.ne_of_beq_eq_false rfl)).trans hg117_11)
  have hg119_12 : g119 12 = .ref q17 := (congrFun eg119 12).trans ((va_up_ne _ _ (Nat.ne_of_beq_eq_false rfl)).trans hg117_12)
  have hg119_13 : g119 13 = .ref q19 := (congrFun eg119 13).trans ((va_up_ne _ _ (Nat.ne_of_beq_eq_false rfl)).trans hg117_13)
  have hg119_14 : g119 14 = .ref q21 := (congrFun eg119 14).trans ((va_up_ne _ _ (Nat.ne_of_beq_eq_false rfl)).trans hg117_14)
  have hg119_15 : g119 15 = .ref q23 := (congrFun eg119 15).trans ((va_up_ne _ _ (Nat.ne_of_beq_eq_false rfl)).trans hg117_15)
  have hg119_18 : g119 18 = .ref q13 := (congrFun eg119 18).trans ((va_up_ne _ _ (Nat.ne_of_beq_eq_false rfl)).trans hg117_18)
  have hg119_27 : g119 27 = .ref q26 := (congrFun eg119 27).trans ((va_up_ne _ _ (Nat.ne_of_beq_eq_false rfl)).trans hg117_27)
  have hg119_28 : g119 28 = .ref q28 := (congrFun eg119 28).trans ((va_up_ne _ _ (Nat.ne_of_beq_eq_false rfl)).trans hg117_28)
  have hg119_29 : g119 29 = .ref q30 := (congrFun eg119 29).trans ((va_up_ne _ _ (Nat.ne_of_beq_eq_false rfl)).trans hg117_29)
  have hg119_30 : g119 30 = .ref q32 := (congrFun eg119 30).trans ((va_up_ne _ _ (Nat.ne_of_beq_eq_false rfl)).trans hg117_30)
  have hg119_31 : g119 31 = .ref q34 := (congrFun eg119 31).trans ((va_up_ne _ _ (Nat.ne_of_beq_eq_false rfl)).trans hg117_31)
  have hg119_32 : g119 32 = .ref q36 := (congrFun eg119 32).trans ((va_up_ne _ _ (Nat.ne_of_beq_eq_false rfl)).trans hg117_32)
  have hg119_33 : g119 33 = .ref q38 := (congrFun eg119 33).trans ((va_up_ne _ _ (Nat.ne_of_beq_eq_false rfl)).trans hg117_33)
  have hg119_34 : g119 34 = .ref q40 := (congrFun eg119 34).trans ((va_up_ne _ _ (Nat.ne_of_beq_eq_false rfl)).trans hg117_34)
  have hg119_35 : g119 35 = .ref q42 := (congrFun eg119 35).trans ((va_up_ne _ _ (Nat.ne_of_beq_eq_false rfl)).trans hg117_35)
  have hg119_36 : g119 36 = .ref q44 := (congrFun eg119 36).trans ((va_up_ne _ _ (Nat.ne_of_beq_eq_false rfl)).trans hg117_36)
  have hg119_37 : g119 37 = .ref q46 := (congrFun eg119 37).trans ((va_up_ne _ _ (Nat.ne_of_beq_eq_false rfl)).trans hg117_37)
  have hg119_38 : g119 38 = .ref q48 := (congrFun eg119 38).trans ((va_up_ne _ _ (Nat.ne_of_beq_eq_false rfl)).trans hg117_38)
  have hg119_39 : g119 39 = .ref q50 := (congrFun eg119 39).trans ((va_up_ne _ _ (Nat.ne_of_beq_eq_false rfl)).trans hg117_39)
  have hg119_40 : g119 40 = .ref q52 := (congrFun eg119 40).trans ((va_up_ne _ _ (Nat.ne_of_beq_eq_false rfl)).trans hg117_40)
  have hg119_41 : g119 41 = .ref q54 := (congrFun eg119 41).trans ((va_up_ne _ _ (Nat.ne_of_beq_eq_false rfl)).trans hg117_41)
  have hg119_42 : g119 42 = .ref q56 := (congrFun eg119 42).trans ((va_up_ne _ _ (Nat.ne_of_beq_eq_false rfl)).trans hg117_42)
  have hg119_43 : g119 43 = .ref q58 := (congrFun eg119 43).trans ((va_up_ne _ _ (Nat.ne_of_beq_eq_false rfl)).trans hg117_43)
  have hg119_44 : g119 44 = .ref q60 := (congrFun eg119 44).trans ((va_up_ne _ _ (Nat.ne_of_beq_eq_false rfl)).trans hg117_44)
  have hg119_45 : g119 45 = .ref q62 := (congrFun eg119 45).trans ((va_up_ne _ _ (Nat.ne_of_beq_eq_false rfl)).trans hg117_45)
  have hg119_49 : g119 49 = .ref q64 := (congrFun eg119 49).trans ((va_up_ne _ _ (Nat.ne_of_beq_eq_false rfl)).trans hg117_49)
  have hg119_50 : g119 50 = .ref q66 := (congrFun eg119 50).trans ((va_up_ne _ _ (Nat.ne_of_beq_eq_false rfl)).trans hg117_50)
  have hg119_51 : g119 51 = .ref q68 := (congrFun eg119 51).trans ((va_up_ne _ _ (Nat.ne_of_beq_eq_false rfl)).trans hg117_51)
  have hg119_52 : g119 52 = .ref q70 := (congrFun eg119 52).trans ((va_up_ne _ _ (Nat.ne_of_beq_eq_false rfl)).trans hg117_52)
  have hg119_53 : g119 53 = .ref q72 := (congrFun eg119 53).trans ((va_up_ne _ _ (Nat.ne_of_beq_eq_false rfl)).trans hg117_53)
  have hg119_54 : g119 54 = .ref q74 := (congrFun eg119 54).trans ((va_up_ne _ _ (Nat.ne_of_beq_eq_false rfl)).trans hg117_54)
  have hg119_56 : g119 56 = .ref q76 := (congrFun eg119 56).trans ((va_up_ne _ _ (Nat.ne_of_beq_eq_false rfl)).trans hg117_56)
  have hg119_57 : g119 57 = .ref q78 := (congrFun eg119 57).trans ((va_up_ne _ _ (Nat.ne_of_beq_eq_false rfl)).trans hg117_57)
  have hg119_58 : g119 58 = .ref q80 := (congrFun eg119 58).trans ((va_up_ne _ _ (Nat.ne_of_beq_eq_false rfl)).trans hg117_58)
  have hg119_59 : g119 59 = .ref q82 := (congrFun eg119 59).trans ((va_up_ne _ _ (Nat.ne_of_beq_eq_false rfl)).trans hg117_59)
  have hg119_60 : g119 60 = .ref q84 := (congrFun eg119 60).trans ((va_up_ne _ _ (Nat.ne_of_beq_eq_false rfl)).trans hg117_60)
  have hg119_61 : g119 61 = .ref q86 := (congrFun eg119 61).trans ((va_up_ne _ _ (Nat.ne_of_beq_eq_false rfl)).trans hg117_61)
  have hg119_62 : g119 62 = .ref q88 := (congrFun eg119 62).trans ((va_up_ne _ _ (Nat.ne_of_beq_eq_false rfl)).trans hg117_62)
  have hg119_63 : g119 63 = .ref q90 := (congrFun eg119 63).trans ((va_up_ne _ _ (Nat.ne_of_beq_eq_false rfl)).trans hg117_63)
  have hg119_64 : g119 64 = .ref q92 := (congrFun eg119 64).trans ((va_up_ne _ _ (Nat.ne_of_beq_eq_false rfl)).trans hg117_64)
  have hg119_65 : g119 65 = .ref q94 := (congrFun eg119 65).trans ((va_up_ne _ _ (Nat.ne_of_beq_eq_false rfl)).trans hg117_65)
  have hg119_66 : g119 66 = .ref q96 := (congrFun eg119 66).trans ((va_up_ne _ _ (Nat.ne_of_beq_eq_false rfl)).trans hg117_66)
  have hg119_67 : g119 67 = .ref q98 := (congrFun eg119 67).trans ((va_up_ne _ _ (Nat.ne_of_beq_eq_false rfl)).trans hg117_67)
  have hg119_68 : g119 68 = .ref q100 := (congrFun eg119 68).trans ((va_up_ne _ _ (Nat.ne_of_beq_eq_false rfl)).trans hg117_68)
  have hg119_69 : g119 69 = .ref q102 := (congrFun eg119 69).trans ((va_up_ne _ _ (Nat.ne_of_beq_eq_false rfl)).trans hg117_69)
  have hg119_70 : g119 70 = .ref q104 := (congrFun eg119 70).trans ((va_up_ne _ _ (Nat.ne_of_beq_eq_false rfl)).trans hg117_70)
  have hg119_71 : g119 71 = .ref q106 := (congrFun eg119 71).trans ((va_up_ne _ _ (Nat.ne_of_beq_eq_false rfl)).trans hg117_71)
  have hg119_72 : g119 72 = .ref q108 := (congrFun eg119 72).trans ((va_up_ne _ _ (Nat.ne_of_beq_eq_false rfl)).trans hg117_72)
  have hg119_73 : g119 73 = .ref q110 := (congrFun eg119 73).trans ((va_up_ne _ _ (Nat.ne_of_beq_eq_false rfl)).trans hg117_73)
  have hg119_76 : g119 76 = .ref q112 := (congrFun eg119 76).trans ((va_up_ne _ _ (Nat.ne_of_beq_eq_false rfl)).trans hg117_76)
  have hg119_77 : g119 77 = .ref q114 := (congrFun eg119 77).trans ((va_up_ne _ _ (Nat.ne_of_beq_eq_false rfl)).trans hg117_77)
  have hg119_78 : g119 78 = .ref q116 := (congrFun eg119 78).trans ((va_up_ne _ _ (Nat.ne_of_beq_eq_false rfl)).trans hg117_78)
  clear hg117_0 hg117_1 hg117_8 hg117_9 hg117_16 hg117_17 hg117_19 hg117_20 hg117_21 hg117_22 hg117_23 hg117_24 hg117_25 hg117_26 hg117_46 hg117_47 hg117_48 hg117_55 hg117_74 hg117_75 hg117_86 hg117_87 hg117_88 hg117_89 hg117_95 hg117_2 hg117_3 hg117_4 hg117_5 hg117_6 hg117_7 hg117_10 hg117_11 hg117_12 hg117_13 hg117_14 hg117_15 hg117_18 hg117_27 hg117_28 hg117_29 hg117_30 hg117_31 hg117_32 hg117_33 hg117_34 hg117_35 hg117_36 hg117_37 hg117_38 hg117_39 hg117_40 hg117_41 hg117_42 hg117_43 hg117_44 hg117_45 hg117_49 hg117_50 hg117_51 hg117_52 hg117_53 hg117_54 hg117_56 hg117_57 hg117_58 hg117_59 hg117_60 hg117_61 hg117_62 hg117_63 hg117_64 hg117_65 hg117_66 hg117_67 hg117_68 hg117_69 hg117_70 hg117_71 hg117_72 hg117_73 hg117_76 hg117_77 hg117_78
  have hg119_79 : g119 79 = .ref q118 := by rw [eg119]; exact va_up_self _ _ _
  refine lv_aload_n hx hb dX13_init_507 rfl (lv_at hl 0 rfl) ?_
  refine lv_iconst (v := 4) hx hb dX13_init_508 (by decide) ?_
  refine va_newa (atype := .int) (ty := .int) (N' := 4) (a0 := (4, .inl (fun _ => (0 : Int32)))) hx hb (hts _ (vA_in _ _ (in_2 _ (List.mem_of_getElem? (i := 38) rfl)))) rfl hK hP hD hS hA (fun _ => rfl) (by decide) (by decide) (Nat.le_of_ble_eq_true rfl) (Nat.le_of_ble_eq_true rfl) (Nat.le_of_ble_eq_true rfl) dX13_init_509 (fun q120 kq120 H hK hP hD hS => ?_)
  have hK : va_K (dC, dI) vwCl [(kq1, .int), (kq13, .byte), (kq72, .boolean), (kq120, .int)] s := hK
  obtain ⟨wq120, ewq120⟩ : ∃ z : va_W, z = wq118 ++ [(q120, .inl (kq120, 4, .inl (fun _ => (0 : Int32))))] := ⟨_, rfl⟩
  replace hP : va_P (dC, dI) vwCl ((h, .inr (14, mL g119)) :: wq120) H := by rw [ewq120]; exact hP
  replace hD : va_D A ((h, .inr (14, mL g119)) :: wq120) := by rw [ewq120]; exact hD
  refine W.widen (k := 60) (n := 10212) (by omega) (by omega) ?_
  obtain rfl : kq1 = kq120 := ub_sa_int hK 0 3 rfl rfl
  have hK := hK.sub (tys' := [(kq1, .int), (kq13, .byte), (kq72, .boolean)]) [0, 1, 2] rfl
  refine va_putF (D := (dC, dI)) (ci := 14) (v := .ref q120) (ty := .array .int) (C := RX13) (T := TX13) (N := 97) hx hb hts (fun w h => vA_in _ w (in_X13 w h)) tyX13 tyX13_ok nmX13 hown hK hP hD hS 0 rfl rfl 80 (by decide) (hts _ (vA_in _ _ (in_27 _ (List.mem_of_getElem? (i := 23) rfl)))) (fun _ h9 => h9) rfl hin rfl (by decide +kernel) rfl rfl (mL_lt (Nat.le_of_ble_eq_true rfl)) dX13_init_511 (fun H locs hP hD hS => ?_)
  replace hP : va_P (dC, dI) vwCl ((h, .inr (14, (mL g119).set 80 (.ref q120))) :: wq120) H := hP
  replace hD : va_D A ((h, .inr (14, (mL g119).set 80 (.ref q120))) :: wq120) := hD
  obtain ⟨g121, eg121⟩ : ∃ z9, z9 = va_up g119 80 (.ref q120) := ⟨_, rfl⟩
  rw [mL_upd, ← eg121] at hP hD
  have hg121_0 : g121 0 = .int 0 := (congrFun eg121 0).trans ((va_up_ne _ _ (Nat.ne_of_beq_eq_false rfl)).trans hg119_0)
  have hg121_1 : g121 1 = .int 0 := (congrFun eg121 1).trans ((va_up_ne _ _ (Nat.ne_of_beq_eq_false rfl)).trans hg119_1)
  have hg121_8 : g121 8 = .int 0 := (congrFun eg121 8).trans ((va_up_ne _ _ (Nat.ne_of_beq_eq_false rfl)).trans hg119_8)
  have hg121_9 : g121 9 = .int 0 := (congrFun eg121 9).trans ((va_up_ne _ _ (Nat.ne_of_beq_eq_false rfl)).trans hg119_9)
  have hg121_16 : g121 16 = .int 0 := (congrFun eg121 16).trans ((va_up_ne _ _ (Nat.ne_of_beq_eq_false rfl)).trans hg119_16)
  have hg121_17 : g121 17 = .int 0 := (congrFun eg121 17).trans ((va_up_ne _ _ (Nat.ne_of_beq_eq_false rfl)).trans hg119_17)
  have hg121_19 : g121 19 = .int 0 := (congrFun eg121 19).trans ((va_up_ne _ _ (Nat.ne_of_beq_eq_false rfl)).trans hg119_19)
  have hg121_20 : g121 20 = .int 0 := (congrFun eg121 20).trans ((va_up_ne _ _ (Nat.ne_of_beq_eq_false rfl)).trans hg119_20)
  have hg121_21 : g121 21 = .int 0 := (congrFun eg121 21).trans ((va_up_ne _ _ (Nat.ne_of_beq_eq_false rfl)).trans hg119_21)
  have hg121_22 : g121 22 = .int 0 := (congrFun eg121 22).trans ((va_up_ne _ _ (Nat.ne_of_beq_eq_false rfl)).trans hg119_22)
  have hg121_23 : g121 23 = .int 0 := (congrFun eg121 23).trans ((va_up_ne _ _ (Nat.ne_of_beq_eq_false rfl)).trans hg119_23)
  have hg121_24 : g121 24 = .int 0 := (congrFun eg121 24).trans ((va_up_ne _ _ (Nat.ne_of_beq_eq_false rfl)).trans hg119_24)
  have hg121_25 : g121 25 = .int 0 := (congrFun eg121 25).trans ((va_up_ne _ _ (Nat.ne_of_beq_eq_false rfl)).trans hg119_25)
  have hg121_26 : g121 26 = .int 0 := (congrFun eg121 26).trans ((va_up_ne _ _ (Nat.ne_of_beq_eq_false rfl)).trans hg119_26)
  have hg121_46 : g121 46 = .int 0 := (congrFun eg121 46).trans ((va_up_ne _ _ (Nat.ne_of_beq_eq_false rfl)).trans hg119_46)
  have hg121_47 : g121 47 = .int 0 := (congrFun eg121 47).trans ((va_up_ne _ _ (Nat.ne_of_beq_eq_false rfl)).trans hg119_47)
  have hg121_48 : g121 48 = .int 0 := (congrFun eg121 48).trans ((va_up_ne _ _ (Nat.ne_of_beq_eq_false rfl)).trans hg119_48)
  have hg121_55 : g121 55 = .int 0 := (congrFun eg121 55).trans ((va_up_ne _ _ (Nat.ne_of_beq_eq_false rfl)).trans hg119_55)
  have hg121_74 : g121 74 = .int 0 := (congrFun eg121 74).trans ((va_up_ne _ _ (Nat.ne_of_beq_eq_false rfl)).trans hg119_74)
  have hg121_75 : g121 75 = .int 0 := (congrFun eg121 75).trans ((va_up_ne _ _ (Nat.ne_of_beq_eq_false rfl)).trans hg119_75)
  have hg121_86 : g121 86 = .int 0 := (congrFun eg121 86).trans ((va_up_ne _ _ (Nat.ne_of_beq_eq_false rfl)).trans hg119_86)
  have hg121_87 : g121 87 = .int 0 := (congrFun eg121 87).trans ((va_up_ne _ _ (Nat.ne_of_beq_eq_false rfl)).trans hg119_87)
  have hg121_88 : g121 88 = .int 0 := (congrFun eg121 88).trans ((va_up_ne _ _ (Nat.ne_of_beq_eq_false rfl)).trans hg119_88)
  have hg121_89 : g121 89 = .int 0 := (congrFun eg121 89).trans ((va_up_ne _ _ (Nat.ne_of_beq_eq_false rfl)).trans hg119_89)
  have hg121_95 : g121 95 = .int 0 := (congrFun eg121 95).trans ((va_up_ne _ _ (Nat.ne_of_beq_eq_false rfl)).trans hg119_95)
  have hg121_2 : g121 2 = .ref q1 := (congrFun eg121 2).trans ((va_up_ne _ _ (Nat.ne_of_beq_eq_false rfl)).trans hg119_2)
  have hg121_3 : g121 3 = .ref q3 := (congrFun eg121 3).trans ((va_up_ne _ _ (Nat.ne_of_beq_eq_false rfl)).trans hg119_3)
  have hg121_4 : g121 4 = .ref q5 := (congrFun eg121 4).trans ((va_up_ne _ _ (Nat.ne_of_beq_eq_false rfl)).trans hg119_4)
  have hg121_5 : g121 5 = .ref q7 := (congrFun eg121 5).trans ((va_up_ne _ _ (Nat.ne_of_beq_eq_false rfl)).trans hg119_5)
  have hg121_6 : g121 6 = .ref q9 := (congrFun eg121 6).trans ((va_up_ne _ _ (Nat.ne_of_beq_eq_false rfl)).trans hg119_6)
  have hg121_7 : g121 7 = .ref q11 := (congrFun eg121 7).trans ((va_up_ne _ _ (Nat.ne_of_beq_eq_false rfl)).trans hg119_7)
  have hg121_10 : g121 10 = .ref q13 := (congrFun eg121 10).trans ((va_up_ne _ _ (Nat.ne_of_beq_eq_false rfl)).trans hg119_10)
  have hg121_11 : g121 11 = .ref q15 := (congrFun eg121 11).trans ((va_up_ne _ _ (Nat.ne_of_beq_eq_false rfl)).trans hg119_11)
  have hg121_12 : g121 12 = .ref q17 := (congrFun eg121 12).trans ((va_up_ne _ _ (Nat.ne_of_beq_eq_false rfl)).trans hg119_12)
  have hg121_13 : g121 13 = .ref q19 := (congrFun eg121 13).trans ((va_up_ne _ _ (Nat.ne_of_beq_eq_false rfl)).trans hg119_13)
  have hg121_14 : g121 14 = .ref q21 := (congrFun eg121 14).trans ((va_up_ne _ _ (Nat.ne_of_beq_eq_false rfl)).trans hg119_14)
  have hg121_15 : g121 15 = .ref q23 := (congrFun eg121 15).trans ((va_up_ne _ _ (Nat.ne_of_beq_eq_false rfl)).trans hg119_15)
  have hg121_18 : g121 18 = .ref q13 := (congrFun eg121 18).trans ((va_up_ne _ _ (Nat.ne_of_beq_eq_false rfl)).trans hg119_18)
  have hg121_27 : g121 27 = .ref q26 := (congrFun eg121 27).trans ((va_up_ne _ _ (Nat.ne_of_beq_eq_false rfl)).trans hg119_27)
  have hg121_28 : g121 28 = .ref q28 := (congrFun eg121 28).trans ((va_up_ne _ _ (Nat.ne_of_beq_eq_false rfl)).trans hg119_28)
  have hg121_29 : g121 29 = .ref q30 := (congrFun eg121 29).trans ((va_up_ne _ _ (Nat.ne_of_beq_eq_false rfl)).trans hg119_29)
  have hg121_30 : g121 30 = .ref q32 := (congrFun eg121 30).trans ((va_up_ne _ _ (Nat.ne_of_beq_eq_false rfl)).trans hg119_30)
  have hg121_31 : g121 31 = .ref q34 := (congrFun eg121 31).trans ((va_up_ne _ _ (Nat.ne_of_beq_eq_false rfl)).trans hg119_31)
  have hg121_32 : g121 32 = .ref q36 := (congrFun eg121 32).trans ((va_up_ne _ _ (Nat.ne_of_beq_eq_false rfl)).trans hg119_32)
  have hg121_33 : g121 33 = .ref q38 := (congrFun eg121 33).trans ((va_up_ne _ _ (Nat.ne_of_beq_eq_false rfl)).trans hg119_33)
  have hg121_34 : g121 34 = .ref q40 := (congrFun eg121 34).trans ((va_up_ne _ _ (Nat.ne_of_beq_eq_false rfl)).trans hg119_34)
  have hg121_35 : g121 35 = .ref q42 := (congrFun eg121 35).trans ((va_up_ne _ _ (Nat.ne_of_beq_eq_false rfl)).trans hg119_35)
  have hg121_36 : g121 36 = .ref q44 := (congrFun eg121 36).trans ((va_up_ne _ _ (Nat.ne_of_beq_eq_false rfl)).trans hg119_36)
  have hg121_37 : g121 37 = .ref q46 := (congrFun eg121 37).trans ((va_up_ne _ _ (Nat.ne_of_beq_eq_false rfl)).trans hg119_37)
  have hg121_38 : g121 38 = .ref q48 := (congrFun eg121 38).trans ((va_up_ne _ _ (Nat.ne_of_beq_eq_false rfl)).trans hg119_38)
  have hg121_39 : g121 39 = .ref q50 := (congrFun eg121 39).trans ((va_up_ne _ _ (Nat.ne_of_beq_eq_false rfl)).trans hg119_39)
  have hg121_40 : g121 40 = .ref q52 := (congrFun eg121 40).trans ((va_up_ne _ _ (Nat.ne_of_beq_eq_false rfl)).trans hg119_40)
  have hg121_41 : g121 41 = .ref q54 := (congrFun eg121 41).trans ((va_up_ne _ _ (Nat.ne_of_beq_eq_false rfl)).trans hg119_41)
  have hg121_42 : g121 42 = .ref q56 := (congrFun eg121 42).trans ((va_up_ne _ _ (Nat.ne_of_beq_eq_false rfl)).trans hg119_42)
  have hg121_43 : g121 43 = .ref q58 := (congrFun eg121 43).trans ((va_up_ne _ _ (Nat.ne_of_beq_eq_false rfl)).trans hg119_43)
  have hg121_44 : g121 44 = .ref q60 := (congrFun eg121 44).trans ((va_up_ne _ _ (Nat.ne_of_beq_eq_false rfl)).trans hg119_44)
  have hg121_45 : g121 45 = .ref q62 := (congrFun eg121 45).trans ((va_up_ne _ _ (Nat.ne_of_beq_eq_false rfl)).trans hg119_45)
  have hg121_49 : g121 49 = .ref q64 := (congrFun eg121 49).trans ((va_up_ne _ _ (Nat.ne_of_beq_eq_false rfl)).trans hg119_49)
  have hg121_50 : g121 50 = .ref q66 := (congrFun eg121 50).trans ((va_up_ne _ _ (Nat.ne_of_beq_eq_false rfl)).trans hg119_50)
  have hg121_51 : g121 51 = .ref q68 := (congrFun eg121 51).trans ((va_up_ne _ _ (Nat.ne_of_beq_eq_false rfl)).trans hg119_51)
  have hg121_52 : g121 52 = .ref q70 := (congrFun eg121 52).trans ((va_up_ne _ _ (Nat.ne_of_beq_eq_false rfl)).trans hg119_52)
  have hg121_53 : g121 53 = .ref q72 := (congrFun eg121 53).trans ((va_up_ne _ _ (Nat.ne_of_beq_eq_false rfl)).trans hg119_53)
  have hg121_54 : g121 54 = .ref q74 := (congrFun eg121 54).trans ((va_up_ne _ _ (Nat.ne_of_beq_eq_false rfl)).trans hg119_54)
  have hg121_56 : g121 56 = .ref q76 := (congrFun eg121 56).trans ((va_up_ne _ _ (Nat.ne_of_beq_eq_false rfl)).trans hg119_56)
  have hg121_57 : g121 57 = .ref q78 := (congrFun eg121 57).trans ((va_up_ne _ _ (Nat.ne_of_beq_eq_false rfl)).trans hg119_57)
  have hg121_58 : g121 58 = .ref q80 := (congrFun eg121 58).trans ((va_up_ne _ _ (Nat.ne_of_beq_eq_false rfl)).trans hg119_58)
  have hg121_59 : g121 59 = .ref q82 := (congrFun eg121 59).trans ((va_up_ne _ _ (Nat.ne_of_beq_eq_false rfl)).trans hg119_59)
  have hg121_60 : g121 60 = .ref q84 := (congrFun eg121 60).trans ((va_up_ne _ _ (Nat.ne_of_beq_eq_false rfl)).trans hg119_60)
  have hg121_61 : g121 61 = .ref q86 := (congrFun eg121 61).trans ((va_up_ne _ _ (Nat.ne_of_beq_eq_false rfl)).trans hg119_61)
  have hg121_62 : g121 62 = .ref q88 := (congrFun eg121 62).trans ((va_up_ne _ _ (Nat.ne_of_beq_eq_false rfl)).trans hg119_62)
  have hg121_63 : g121 63 = .ref q90 := (congrFun eg121 63).trans ((va_up_ne _ _ (Nat.ne_of_beq_eq_false rfl)).trans hg119_63)
  have hg121_64 : g121 64 = .ref q92 := (congrFun eg121 64).trans ((va_up_ne _ _ (Nat.ne_of_beq_eq_false rfl)).trans hg119_64)
  have hg121_65 : g121 65 = .ref q94 := (congrFun eg121 65).trans ((va_up_ne _ _ (Nat.ne_of_beq_eq_false rfl)).trans hg119_65)
  have hg121_66 : g121 66 = .ref q96 := (congrFun eg121 66).trans ((va_up_ne _ _ (Nat.ne_of_beq_eq_false rfl)).trans hg119_66)
  have hg121_67 : g121 67 = .ref q98 := (congrFun eg121 67).trans ((va_up_ne _ _ (Nat.ne_of_beq_eq_false rfl)).trans hg119_67)
  have hg121_68 : g121 68 = .ref q100 := (congrFun eg121 68).trans ((va_up_ne _ _ (Nat.ne_of_beq_eq_false rfl)).trans hg119_68)
  have hg121_69 : g121 69 = .ref q102 := (congrFun eg121 69).trans ((va_up_ne _ _ (Nat.ne_of_beq_eq_false rfl)).trans hg119_69)
  have hg121_70 : g121 70 = .ref q104 := (congrFun eg121 70).trans ((va_up_ne _ _ (Nat.ne_of_beq_eq_false rfl)).trans hg119_70)
  have hg121_71 : g121 71 = .ref q106 := (congrFun eg121 71).trans ((va_up_ne _ _ (Nat.ne_of_beq_eq_false rfl)).trans hg119_71)
  have hg121_72 : g121 72 = .ref q108 := (congrFun eg121 72).trans ((va_up_ne _ _ (Nat.ne_of_beq_eq_false rfl)).trans hg119_72)
  have hg121_73 : g121 73 = .ref q110 := (congrFun eg121 73).trans ((va_up_ne _ _ (Nat.ne_of_beq_eq_false rfl)).trans hg119_73)
  have hg121_76 : g121 76 = .ref q112 := (congrFun eg121 76).trans ((va_up_ne _ _ (Nat.ne_of_beq_eq_false rfl)).trans hg119_76)
  have hg121_77 : g121 77 = .ref q114 := (congrFun eg121 77).trans ((va_up_ne _ _ (Nat.ne_of_beq_eq_false rfl)).trans hg119_77)
  have hg121_78 : g121 78 = .ref q116 := (congrFun eg121 78).trans ((va_up_ne _ _ (Nat.ne_of_beq_eq_false rfl)).trans hg119_78)
  have hg121_79 : g121 79 = .ref q118 := (congrFun eg121 79).trans ((va_up_ne _ _ (Nat.ne_of_beq_eq_false rfl)).trans hg119_79)
  clear hg119_0 hg119_1 hg119_8 hg119_9 hg119_16 hg119_17 hg119_19 hg119_20 hg119_21 hg119_22 hg119_23 hg119_24 hg119_25 hg119_26 hg119_46 hg119_47 hg119_48 hg119_55 hg119_74 hg119_75 hg119_86 hg119_87 hg119_88 hg119_89 hg119_95 hg119_2 hg119_3 hg119_4 hg119_5 hg119_6 hg119_7 hg119_10 hg119_11 hg119_12 hg119_13 hg119_14 hg119_15 hg119_18 hg119_27 hg119_28 hg119_29 hg119_30 hg119_31 hg119_32 hg119_33 hg119_34 hg119_35 hg119_36 hg119_37 hg119_38 hg119_39 hg119_40 hg119_41 hg119_42 hg119_43 hg119_44 hg119_45 hg119_49 hg119_50 hg119_51 hg119_52 hg119_53 hg119_54 hg119_56 hg119_57 hg119_58 hg119_59 hg119_60 hg119_61 hg119_62 hg119_63 hg119_64 hg119_65 hg119_66 hg119_67 hg119_68 hg119_69 hg119_70 hg119_71 hg119_72 hg119_73 hg119_76 hg119_77 hg119_78 hg119_79
  have hg121_80 : g121 80 = .ref q120 := by rw [eg121]; exact va_up_self _ _ _
  refine lv_aload_n hx hb dX13_init_514 rfl (lv_at hl 0 rfl) ?_
  refine lv_bipush (v := 20) hx hb dX13_init_515 (by decide) ?_
  refine va_newa (atype := .int) (ty := .int) (N' := 20) (a0 := (20, .inl (fun _ => (0 : Int32)))) hx hb (hts _ (vA_in _ _ (in_2 _ (List.mem_of_getElem? (i := 38) rfl)))) rfl hK hP hD hS hA (fun _ => rfl) (by decide) (by decide) (Nat.le_of_ble_eq_true rfl) (Nat.le_of_ble_eq_true rfl) (Nat.le_of_ble_eq_true rfl) dX13_init_517 (fun q122 kq122 H hK hP hD hS => ?_)
  have hK : va_K (dC, dI) vwCl [(kq1, .int), (kq13, .byte), (kq72, .boolean), (kq122, .int)] s := hK
  obtain ⟨wq122, ewq122⟩ : ∃ z : va_W, z = wq120 ++ [(q122, .inl (kq122, 20, .inl (fun _ => (0 : Int32))))] := ⟨_, rfl⟩
  replace hP : va_P (dC, dI) vwCl ((h, .inr (14, mL g121)) :: wq122) H := by rw [ewq122]; exact hP
  replace hD : va_D A ((h, .inr (14, mL g121)) :: wq122) := by rw [ewq122]; exact hD
  refine W.widen (k := 61) (n := 10232) (by omega) (by omega) ?_
  obtain rfl : kq1 = kq122 := ub_sa_int hK 0 3 rfl rfl
  have hK := hK.sub (tys' := [(kq1, .int), (kq13, .byte), (kq72, .boolean)]) [0, 1, 2] rfl
  refine va_putF (D := (dC, dI)) (ci := 14) (v := .ref q122) (ty := .array .int) (C := RX13) (T := TX13) (N := 97) hx hb hts (fun w h => vA_in _ w (in_X13 w h)) tyX13 tyX13_ok nmX13 hown hK hP hD hS 0 rfl rfl 81 (by decide) (hts _ (vA_in _ _ (in_32 _ (List.mem_of_getElem? (i := 15) rfl)))) (fun _ h9 => h9) rfl hin rfl (by decide +kernel) rfl rfl (mL_lt (Nat.le_of_ble_eq_true rfl)) dX13_init_519 (fun H locs hP hD hS => ?_)
  replace hP : va_P (dC, dI) vwCl ((h, .inr (14, (mL g121).set 81 (.ref q122))) :: wq122) H := hP
  replace hD : va_D A ((h, .inr (14, (mL g121).set 81 (.ref q122))) :: wq122) := hD
  obtain ⟨g123, eg123⟩ : ∃ z9, z9 = va_up g121 81 (.ref q122) := ⟨_, rfl⟩
  rw [mL_upd, ← eg123] at hP hD
  have hg123_0 : g123 0 = .int 0 := (congrFun eg123 0).trans ((va_up_ne _ _ (Nat.ne_of_beq_eq_false rfl)).trans hg121_0)
  have hg123_1 : g123 1 = .int 0 := (congrFun eg123 1).trans ((va_up_ne _ _ (Nat.ne_of_beq_eq_false rfl)).trans hg121_1)
  have hg123_8 : g123 8 = .int 0 := (congrFun eg123 8).trans ((va_up_ne _ _ (Nat.ne_of_beq_eq_false rfl)).trans hg121_8)
  have hg123_9 : g123 9 = .int 0 := (congrFun eg123 9).trans ((va_up_ne _ _ (Nat.ne_of_beq_eq_false rfl)).trans hg121_9)
  have hg123_16 : g123 16 = .int 0 := (congrFun eg123 16).trans ((va_up_ne _ _ (Nat.ne_of_beq_eq_false rfl)).trans hg121_16)
  have hg123_17 : g123 17 = .int 0 := (congrFun eg123 17).trans ((va_up_ne _ _ (Nat.ne_of_beq_eq_false rfl)).trans hg121_17)
  have hg123_19 : g123 19 = .int 0 := (congrFun eg123 19).trans ((va_up_ne _ _ (Nat.ne_of_beq_eq_false rfl)).trans hg121_19)
  have hg123_20 : g123 20 = .int 0 := (congrFun eg123 20).trans ((va_up_ne _ _ (Nat.ne_of_beq_eq_false rfl)).trans hg121_20)
  have hg123_21 : g123 21 = .int 0 := (congrFun eg123 21).trans ((va_up_ne _ _ (Nat.ne_of_beq_eq_false rfl)).trans hg121_21)
  have hg123_22 : g123 22 = .int 0 := (congrFun eg123 22).trans ((va_up_ne _ _ (Nat.ne_of_beq_eq_false rfl)).trans hg121_22)
  have hg123_23 : g123 23 = .int 0 := (congrFun eg123 23).trans ((va_up_ne _ _ (Nat.ne_of_beq_eq_false rfl)).trans hg121_23)
  have hg123_24 : g123 24 = .int 0 := (congrFun eg123 24).trans ((va_up_ne _ _ (Nat.ne_of_beq_eq_false rfl)).trans hg121_24)
  have hg123_25 : g123 25 = .int 0 := (congrFun eg123 25).trans ((va_up_ne _ _ (Nat.ne_of_beq_eq_false rfl)).trans hg121_25)
  have hg123_26 : g123 26 = .int 0 := (congrFun eg123 26).trans ((va_up_ne _ _ (Nat.ne_of_beq_eq_false rfl)).trans hg121_26)
  have hg123_46 : g123 46 = .int 0 := (congrFun eg123 46).trans ((va_up_ne _ _ (Nat.ne_of_beq_eq_false rfl)).trans hg121_46)
  have hg123_47 : g123 47 = .int 0 := (congrFun eg123 47).trans ((va_up_ne _ _ (Nat.ne_of_beq_eq_false rfl)).trans hg121_47)
  have hg123_48 : g123 48 = .int 0 := (congrFun eg123 48).trans ((va_up_ne _ _ (Nat.ne_of_beq_eq_false rfl)).trans hg121_48)
  have hg123_55 : g123 55 = .int 0 := (congrFun eg123 55).trans ((va_up_ne _ _ (Nat.ne_of_beq_eq_false rfl)).trans hg121_55)
  have hg123_74 : g123 74 = .int 0 := (congrFun eg123 74).trans ((va_up_ne _ _ (Nat.ne_of_beq_eq_false rfl)).trans hg121_74)
  have hg123_75 : g123 75 = .int 0 := (congrFun eg123 75).trans ((va_up_ne _ _ (Nat.ne_of_beq_eq_false rfl)).trans hg121_75)
  have hg123_86 : g123 86 = .int 0 := (congrFun eg123 86).trans ((va_up_ne _ _ (Nat.ne_of_beq_eq_false rfl)).trans hg121_86)
  have hg123_87 : g123 87 = .int 0 := (congrFun eg123 87).trans ((va_up_ne _ _ (Nat.ne_of_beq_eq_false rfl)).trans hg121_87)
  have hg123_88 : g123 88 = .int 0 := (congrFun eg123 88).trans ((va_up_ne _ _ (Nat.ne_of_beq_eq_false rfl)).trans hg121_88)
  have hg123_89 : g123 89 = .int 0 := (congrFun eg123 89).trans ((va_up_ne _ _ (Nat.ne_of_beq_eq_false rfl)).trans hg121_89)
  have hg123_95 : g123 95 = .int 0 := (congrFun eg123 95).trans ((va_up_ne _ _ (Nat.ne_of_beq_eq_false rfl)).trans hg121_95)
  have hg123_2 : g123 2 = .ref q1 := (congrFun eg123 2).trans ((va_up_ne _ _ (Nat.ne_of_beq_eq_false rfl)).trans hg121_2)
  have hg123_3 : g123 3 = .ref q3 := (congrFun eg123 3).trans ((va_up_ne _ _ (Nat.ne_of_beq_eq_false rfl)).trans hg121_3)
  have hg123_4 : g123 4 = .ref q5 := (congrFun eg123 4).trans ((va_up_ne _ _ (Nat.ne_of_beq_eq_false rfl)).trans hg121_4)
  have hg123_5 : g123 5 = .ref q7 := (congrFun eg123 5).trans ((va_up_ne _ _ (Nat.ne_of_beq_eq_false rfl)).trans hg121_5)
  have hg123_6 : g123 6 = .ref q9 := (congrFun eg123 6).trans ((va_up_ne _ _ (Nat.ne_of_beq_eq_false rfl)).trans hg121_6)
  have hg123_7 : g123 7 = .ref q11 := (congrFun eg123 7).trans ((va_up_ne _ _ (Nat.ne_of_beq_eq_false rfl)).trans hg121_7)
  have hg123_10 : g123 10 = .ref q13 := (congrFun eg123 10).trans ((va_up_ne _ _ (Nat.ne_of_beq_eq_false rfl)).trans hg121_10)
  have hg123_11 : g123 11 = .ref q15 := (congrFun eg123 11).trans ((va_up_ne _ _ (Nat.ne_of_beq_eq_false rfl)).trans hg121_11)
  have hg123_12 : g123 12 = .ref q17 := (congrFun eg123 12).trans ((va_up_ne _ _ (Nat.ne_of_beq_eq_false rfl)).trans hg121_12)
  have hg123_13 : g123 13 = .ref q19 := (congrFun eg123 13).trans ((va_up_ne _ _ (Nat.ne_of_beq_eq_false rfl)).trans hg121_13)
  have hg123_14 : g123 14 = .ref q21 := (congrFun eg123 14).trans ((va_up_ne _ _ (Nat.ne_of_beq_eq_false rfl)).trans hg121_14)
  have hg123_15 : g123 15 = .ref q23 := (congrFun eg123 15).trans ((va_up_ne _ _ (Nat.ne_of_beq_eq_false rfl)).trans hg121_15)
  have hg123_18 : g123 18 = .ref q13 := (congrFun eg123 18).trans ((va_up_ne _ _ (Nat.ne_of_beq_eq_false rfl)).trans hg121_18)
  have hg123_27 : g123 27 = .ref q26 := (congrFun eg123 27).trans ((va_up_ne _ _ (Nat.ne_of_beq_eq_false rfl)).trans hg121_27)
  have hg123_28 : g123 28 = .ref q28 := (congrFun eg123 28).trans ((va_up_ne _ _ (Nat.ne_of_beq_eq_false rfl)).trans hg121_28)
  have hg123_29 : g123 29 = .ref q30 := (congrFun eg123 29).trans ((va_up_ne _ _ (Nat.ne_of_beq_eq_false rfl)).trans hg121_29)
  have hg123_30 : g123 30 = .ref q32 := (congrFun eg123 30).trans ((va_up_ne _ _ (Nat.ne_of_beq_eq_false rfl)).trans hg121_30)
  have hg123_31 : g123 31 = .ref q34 := (congrFun eg123 31).trans ((va_up_ne _ _ (Nat.ne_of_beq_eq_false rfl)).trans hg121_31)
  have hg123_32 : g123 32 = .ref q36 := (congrFun eg123 32).trans ((va_up_ne _ _ (Nat.ne_of_beq_eq_false rfl)).trans hg121_32)
  have hg123_33 : g123 33 = .ref q38 := (congrFun eg123 33).trans ((va_up_ne _ _ (Nat.ne_of_beq_eq_false rfl)).trans hg121_33)
  have hg123_34 : g123 34 = .ref q40 := (congrFun eg123 34).trans ((va_up_ne _ _ (Nat.ne_of_beq_eq_false rfl)).trans hg121_34)
  have hg123_35 : g123 35 = .ref q42 := (congrFun eg123 35).trans ((va_up_ne _ _ (Nat.ne_of_beq_eq_false rfl)).trans hg121_35)
  have hg123_36 : g123 36 = .ref q44 := (congrFun eg123 36).trans ((va_up_ne _ _ (Nat.ne_of_beq_eq_false rfl)).trans hg121_36)
  have hg123_37 : g123 37 = .ref q46 := (congrFun eg123 37).trans ((va_up_ne _ _ (Nat.ne_of_beq_eq_false rfl)).trans hg121_37)
  have hg123_38 : g123 38 = .ref q48 := (congrFun eg123 38).trans ((va_up_ne _ _ (Nat.ne_of_beq_eq_false rfl)).trans hg121_38)
  have hg123_39 : g123 39 = .ref q50 := (congrFun eg123 39).trans ((va_up_ne _ _ (Nat.ne_of_beq_eq_false rfl)).trans hg121_39)
  have hg123_40 : g123 40 = .ref q52 := (congrFun eg123 40).trans ((va_up_ne _ _ (Nat.ne_of_beq_eq_false rfl)).trans hg121_40)
  have hg123_41 : g123 41 = .ref q54 := (congrFun eg123 41).trans ((va_up_ne _ _ (Nat.ne_of_beq_eq_false rfl)).trans hg121_41)
  have hg123_42 : g123 42 = .ref q56 := (congrFun eg123 42).trans ((va_up_ne _ _ (Nat.ne_of_beq_eq_false rfl)).trans hg121_42)
  have hg123_43 : g123 43 = .ref q58 := (congrFun eg123 43).trans ((va_up_ne _ _ (Nat.ne_of_beq_eq_false rfl)).trans hg121_43)
  have hg123_44 : g123 44 = .ref q60 := (congrFun eg123 44).trans ((va_up_ne _ _ (Nat.ne_of_beq_eq_false rfl)).trans hg121_44)
  have hg123_45 : g123 45 = .ref q62 := (congrFun eg123 45).trans ((va_up_ne _ _ (Nat.ne_of_beq_eq_false rfl)).trans hg121_45)
  have hg123_49 : g123 49 = .ref q64 := (congrFun eg123 49).trans ((va_up_ne _ _ (Nat.ne_of_beq_eq_false rfl)).trans hg121_49)
  have hg123_50 : g123 50 = .ref q66 := (congrFun eg123 50).trans ((va_up_ne _ _ (Nat.ne_of_beq_eq_false rfl)).trans hg121_50)
  have hg123_51 : g123 51 = .ref q68 := (congrFun eg123 51).trans ((va_up_ne _ _ (Nat.ne_of_beq_eq_false rfl)).trans hg121_51)
  have hg123_52 : g123 52 = .ref q70 := (congrFun eg123 52).trans ((va_up_ne _ _ (Nat.ne_of_beq_eq_false rfl)).trans hg121_52)
  have hg123_53 : g123 53 = .ref q72 := (congrFun eg123 53).trans ((va_up_ne _ _ (Nat.ne_of_beq_eq_false rfl)).trans hg121_53)
  have hg123_54 : g123 54 = .ref q74 := (congrFun eg123 54).trans ((va_up_ne _ _ (Nat.ne_of_beq_eq_false rfl)).trans hg121_54)
  have hg123_56 : g123 56 = .ref q76 := (congrFun eg123 56).trans ((va_up_ne _ _ (Nat.ne_of_beq_eq_false rfl)).trans hg121_56)
  have hg123_57 : g123 57 = .ref q78 := (congrFun eg123 57).trans ((va_up_ne _ _ (Nat.ne_of_beq_eq_false rfl)).trans hg121_57)
  have hg123_58 : g123 58 = .ref q80 := (congrFun eg123 58).trans ((va_up_ne _ _ (Nat.ne_of_beq_eq_false rfl)).trans hg121_58)
  have hg123_59 : g123 59 = .ref q82 := (congrFun eg123 59).trans ((va_up_ne _ _ (Nat.ne_of_beq_eq_false rfl)).trans hg121_59)
  have hg123_60 : g123 60 = .ref q84 := (congrFun eg123 60).trans ((va_up_ne _ _ (Nat.ne_of_beq_eq_false rfl)).trans hg121_60)
  have hg123_61 : g123 61 = .ref q86 := (congrFun eg123 61).trans ((va_up_ne _ _ (Nat.ne_of_beq_eq_false rfl)).trans hg121_61)
  have hg123_62 : g123 62 = .ref q88 := (congrFun eg123 62).trans ((va_up_ne _ _ (Nat.ne_of_beq_eq_false rfl)).trans hg121_62)
  have hg123_63 : g123 63 = .ref q90 := (congrFun eg123 63).trans ((va_up_ne _ _ (Nat.ne_of_beq_eq_false rfl)).trans hg121_63)
  have hg123_64 : g123 64 = .ref q92 := (congrFun eg123 64).trans ((va_up_ne _ _ (Nat.ne_of_beq_eq_false rfl)).trans hg121_64)
  have hg123_65 : g123 65 = .ref q94 := (congrFun eg123 65).trans ((va_up_ne _ _ (Nat.ne_of_beq_eq_false rfl)).trans hg121_65)
  have hg123_66 : g123 66 = .ref q96 := (congrFun eg123 66).trans ((va_up_ne _ _ (Nat.ne_of_beq_eq_false rfl)).trans hg121_66)
  have hg123_67 : g123 67 = .ref q98 := (congrFun eg123 67).trans ((va_up_ne _ _ (Nat.ne_of_beq_eq_false rfl)).trans hg121_67)
  have hg123_68 : g123 68 = .ref q100 := (congrFun eg123 68).trans ((va_up_ne _ _ (Nat.ne_of_beq_eq_false rfl)).trans hg121_68)
  have hg123_69 : g123 69 = .ref q102 := (congrFun eg123 69).trans ((va_up_ne _ _ (Nat.ne_of_beq_eq_false rfl)).trans hg121_69)
  have hg123_70 : g123 70 = .ref q104 := (congrFun eg123 70).trans ((va_up_ne _ _ (Nat.ne_of_beq_eq_false rfl)).trans hg121_70)
  have hg123_71 : g123 71 = .ref q106 := (congrFun eg123 71).trans ((va_up_ne _ _ (Nat.ne_of_beq_eq_false rfl)).trans hg121_71)
  have hg123_72 : g123 72 = .ref q108 := (congrFun eg123 72).trans ((va_up_ne _ _ (Nat.ne_of_beq_eq_false rfl)).trans hg121_72)
  have hg123_73 : g123 73 = .ref q110 := (congrFun eg123 73).trans ((va_up_ne _ _ (Nat.ne_of_beq_eq_false rfl)).trans hg121_73)
  have hg123_76 : g123 76 = .ref q112 := (congrFun eg123 76).trans ((va_up_ne _ _ (Nat.ne_of_beq_eq_false rfl)).trans hg121_76)
  have hg123_77 : g123 77 = .ref q114 := (congrFun eg123 77).trans ((va_up_ne _ _ (Nat.ne_of_beq_eq_false rfl)).trans hg121_77)
  have hg123_78 : g123 78 = .ref q116 := (congrFun eg123 78).trans ((va_up_ne _ _ (Nat.ne_of_beq_eq_false rfl)).trans hg121_78)
  have hg123_79 : g123 79 = .ref q118 := (congrFun eg123 79).trans ((va_up_ne _ _ (Nat.ne_of_beq_eq_false rfl)).trans hg121_79)
  have hg123_80 : g123 80 = .ref q120 := (congrFun eg123 80).trans ((va_up_ne _ _ (Nat.ne_of_beq_eq_false rfl)).trans hg121_80)
  clear hg121_0 hg121_1 hg121_8 hg121_9 hg121_16 hg121_17 hg121_19 hg121_20 hg121_21 hg121_22 hg121_23 hg121_24 hg121_25 hg121_26 hg121_46 hg121_47 hg121_48 hg121_55 hg121_74 hg121_75 hg121_86 hg121_87 hg121_88 hg121_89 hg121_95 hg121_2 hg121_3 hg121_4 hg121_5 hg121_6 hg121_7 hg121_10 hg121_11 hg121_12 hg121_13 hg121_14 hg121_15 hg121_18 hg121_27 hg121_28 hg121_29 hg121_30 hg121_31 hg121_32 hg121_33 hg121_34 hg121_35 hg121_36 hg121_37 hg121_38 hg121_39 hg121_40 hg121_41 hg121_42 hg121_43 hg121_44 hg121_45 hg121_49 hg121_50 hg121_51 hg121_52 hg121_53 hg121_54 hg121_56 hg121_57 hg121_58 hg121_59 hg121_60 hg121_61 hg121_62 hg121_63 hg121_64 hg121_65 hg121_66 hg121_67 hg121_68 hg121_69 hg121_70 hg121_71 hg121_72 hg121_73 hg121_76 hg121_77 hg121_78 hg121_79 hg121_80
  have hg123_81 : g123 81 = .ref q122 := by rw [eg123]; exact va_up_self _ _ _
  refine lv_aload_n hx hb dX13_init_522 rfl (lv_at hl 0 rfl) ?_
  refine lv_bipush (v := 80) hx hb dX13_init_523 (by decide) ?_
  refine va_newa (atype := .int) (ty := .int) (N' := 80) (a0 := (80, .inl (fun _ => (0 : Int32)))) hx hb (hts _ (vA_in _ _ (in_2 _ (List.mem_of_getElem? (i := 38) rfl)))) rfl hK hP hD hS hA (fun _ => rfl) (by decide) (by decide) (Nat.le_of_ble_eq_true rfl) (Nat.le_of_ble_eq_true rfl) (Nat.le_of_ble_eq_true rfl) dX13_init_525 (fun q124 kq124 H hK hP hD hS => ?_)
  have hK : va_K (dC, dI) vwCl [(kq1, .int), (kq13, .byte), (kq72, .boolean), (kq124, .int)] s := hK
  obtain ⟨wq124, ewq124⟩ : ∃ z : va_W, z = wq122 ++ [(q124, .inl (kq124, 80, .inl (fun _ => (0 : Int32))))] := ⟨_, rfl⟩
  replace hP : va_P (dC, dI) vwCl ((h, .inr (14, mL g123)) :: wq124) H := by rw [ewq124]; exact hP
  replace hD : va_D A ((h, .inr (14, mL g123)) :: wq124) := by rw [ewq124]; exact hD
  refine W.widen (k := 62) (n := 10312) (by omega) (by omega) ?_
  obtain rfl : kq1 = kq124 := ub_sa_int hK 0 3 rfl rfl
  have hK := hK.sub (tys' := [(kq1, .int), (kq13, .byte), (kq72, .boolean)]) [0, 1, 2] rfl
  refine va_putF (D := (dC, dI)) (ci := 14) (v := .ref q124) (ty := .array .int) (C := RX13) (T := TX13) (N := 97) hx hb hts (fun w h => vA_in _ w (in_X13 w h)) tyX13 tyX13_ok nmX13 hown hK hP hD hS 0 rfl rfl 82 (by decide) (hts _ (vA_in _ _ (in_27 _ (List.mem_of_getElem? (i := 30) rfl)))) (fun _ h9 => h9) rfl hin rfl (by decide +kernel) rfl rfl (mL_lt (Nat.le_of_ble_eq_true rfl)) dX13_init_527 (fun H locs hP hD hS => ?_)
  replace hP : va_P (dC, dI) vwCl ((h, .inr (14, (mL g123).set 82 (.ref q124))) :: wq124) H := hP
  replace hD : va_D A ((h, .inr (14, (mL g123).set 82 (.ref q124))) :: wq124) := hD
  obtain ⟨g125, eg125⟩ : ∃ z9, z9 = va_up g123 82 (.ref q124) := ⟨_, rfl⟩
  rw [mL_upd, ← eg125] at hP hD
  have hg125_0 : g125 0 = .int 0 := (congrFun eg125 0).trans ((va_up_ne _ _ (Nat.ne_of_beq_eq_false rfl)).trans hg123_0)
  have hg125_1 : g125 1 = .int 0 := (congrFun eg125 1).trans ((va_up_ne _ _ (Nat.ne_of_beq_eq_false rfl)).trans hg123_1)
  have hg125_8 : g125 8 = .int 0 := (congrFun eg125 8).trans ((va_up_ne _ _ (Nat.ne_of_beq_eq_false rfl)).trans hg123_8)
  have hg125_9 : g125 9 = .int 0 := (congrFun eg125 9).trans ((va_up_ne _ _ (Nat.ne_of_beq_eq_false rfl)).trans hg123_9)
  have hg125_16 : g125 16 = .int 0 := (congrFun eg125 16).trans ((va_up_ne _ _ (Nat.ne_of_beq_eq_false rfl)).trans hg123_16)
  have hg125_17 : g125 17 = .int 0 := (congrFun eg125 17).trans ((va_up_ne _ _ (Nat.ne_of_beq_eq_false rfl)).trans hg123_17)
  have hg125_19 : g125 19 = .int 0 := (congrFun eg125 19).trans ((va_up_ne _ _ (Nat.ne_of_beq_eq_false rfl)).trans hg123_19)
  have hg125_20 : g125 20 = .int 0 := (congrFun eg125 20).trans ((va_up_ne _ _ (Nat.ne_of_beq_eq_false rfl)).trans hg123_20)
  have hg125_21 : g125 21 = .int 0 := (congrFun eg125 21).trans ((va_up_ne _ _ (Nat.ne_of_beq_eq_false rfl)).trans hg123_21)
  have hg125_22 : g125 22 = .int 0 := (congrFun eg125 22).trans ((va_up_ne _ _ (Nat.ne_of_beq_eq_false rfl)).trans hg123_22)
  have hg125_23 : g125 23 = .int 0 := (congrFun eg125 23).trans ((va_up_ne _ _ (Nat.ne_of_beq_eq_false rfl)).trans hg123_23)
  have hg125_24 : g125 24 = .int 0 := (congrFun eg125 24).trans ((va_up_ne _ _ (Nat.ne_of_beq_eq_false rfl)).trans hg123_24)
  have hg125_25 : g125 25 = .int 0 := (congrFun eg125 25).trans ((va_up_ne _ _ (Nat.ne_of_beq_eq_false rfl)).trans hg123_25)
  have hg125_26 : g125 26 = .int 0 := (congrFun eg125 26).trans ((va_up_ne _ _ (Nat.ne_of_beq_eq_false rfl)).trans hg123_26)
  have hg125_46 : g125 46 = .int 0 := (congrFun eg125 46).trans ((va_up_ne _ _ (Nat.ne_of_beq_eq_false rfl)).trans hg123_46)
  have hg125_47 : g125 47 = .int 0 := (congrFun eg125 47).trans ((va_up_ne _ _ (Nat.ne_of_beq_eq_false rfl)).trans hg123_47)
  have hg125_48 : g125 48 = .int 0 := (congrFun eg125 48).trans ((va_up_ne _ _ (Nat.ne_of_beq_eq_false rfl)).trans hg123_48)
  have hg125_55 : g125 55 = .int 0 := (congrFun eg125 55).trans ((va_up_ne _ _ (Nat.ne_of_beq_eq_false rfl)).trans hg123_55)
  have hg125_74 : g125 74 = .int 0 := (congrFun eg125 74).trans ((va_up_ne _ _ (Nat.ne_of_beq_eq_false rfl)).trans hg123_74)
  have hg125_75 : g125 75 = .int 0 := (congrFun eg125 75).trans ((va_up_ne _ _ (Nat.ne_of_beq_eq_false rfl)).trans hg123_75)
  have hg125_86 : g125 86 = .int 0 := (congrFun eg125 86).trans ((va_up_ne _ _ (Nat.ne_of_beq_eq_false rfl)).trans hg123_86)
  have hg125_87 : g125 87 = .int 0 := (congrFun eg125 87).trans ((va_up_ne _ _ (Nat.ne_of_beq_eq_false rfl)).trans hg123_87)
  have hg125_88 : g125 88 = .int 0 := (congrFun eg125 88).trans ((va_up_ne _ _ (Nat.ne_of_beq_eq_false rfl)).trans hg123_88)
  have hg125_89 : g125 89 = .int 0 := (congrFun eg125 89).trans ((va_up_ne _ _ (Nat.ne_of_beq_eq_false rfl)).trans hg123_89)
  have hg125_95 : g125 95 = .int 0 := (congrFun eg125 95).trans ((va_up_ne _ _ (Nat.ne_of_beq_eq_false rfl)).trans hg123_95)
  have hg125_2 : g125 2 = .ref q1 := (congrFun eg125 2).trans ((va_up_ne _ _ (Nat.ne_of_beq_eq_false rfl)).trans hg123_2)
  have hg125_3 : g125 3 = .ref q3 := (congrFun eg125 3).trans ((va_up_ne _ _ (Nat.ne_of_beq_eq_false rfl)).trans hg123_3)
  have hg125_4 : g125 4 = .ref q5 := (congrFun eg125 4).trans ((va_up_ne _ _ (Nat.ne_of_beq_eq_false rfl)).trans hg123_4)
  have hg125_5 : g125 5 = .ref q7 := (congrFun eg125 5).trans ((va_up_ne _ _ (Nat.ne_of_beq_eq_false rfl)).trans hg123_5)
  have hg125_6 : g125 6 = .ref q9 := (congrFun eg125 6).trans ((va_up_ne _ _ (Nat.ne_of_beq_eq_false rfl)).trans hg123_6)
  have hg125_7 : g125 7 = .ref q11 := (congrFun eg125 7).trans ((va_up_ne _ _ (Nat.ne_of_beq_eq_false rfl)).trans hg123_7)
  have hg125_10 : g125 10 = .ref q13 := (congrFun eg125 10).trans ((va_up_ne _ _ (Nat.ne_of_beq_eq_false rfl)).trans hg123_10)
  have hg125_11 : g125 11 = .ref q15 := (congrFun eg125 11).trans ((va_up_ne _ _ (Nat.ne_of_beq_eq_false rfl)).trans hg123_11)
  have hg125_12 : g125 12 = .ref q17 := (congrFun eg125 12).trans ((va_up_ne _ _ (Nat.ne_of_beq_eq_false rfl)).trans hg123_12)
  have hg125_13 : g125 13 = .ref q19 := (congrFun eg125 13).trans ((va_up_ne _ _ (Nat.ne_of_beq_eq_false rfl)).trans hg123_13)
  have hg125_14 : g125 14 = .ref q21 := (congrFun eg125 14).trans ((va_up_ne _ _ (Nat.ne_of_beq_eq_false rfl)).trans hg123_14)
  have hg125_15 : g125 15 = .ref q23 := (congrFun eg125 15).trans ((va_up_ne _ _ (Nat.ne_of_beq_eq_false rfl)).trans hg123_15)
  have hg125_18 : g125 18 = .ref q13 := (congrFun eg125 18).trans ((va_up_ne _ _ (Nat.ne_of_beq_eq_false rfl)).trans hg123_18)
  have hg125_27 : g125 27 = .ref q26 := (congrFun eg125 27).trans ((va_up_ne _ _ (Nat.ne_of_beq_eq_false rfl)).trans hg123_27)
  have hg125_28 : g125 28 = .ref q28 := (congrFun eg125 28).trans ((va_up_ne _ _ (Nat.ne_of_beq_eq_false rfl)).trans hg123_28)
  have hg125_29 : g125 29 = .ref q30 := (congrFun eg125 29).trans ((va_up_ne _ _ (Nat.ne_of_beq_eq_false rfl)).trans hg123_29)
  have hg125_30 : g125 30 = .ref q32 := (congrFun eg125 30).trans ((va_up_ne _ _ (Nat.ne_of_beq_eq_false rfl)).trans hg123_30)
  have hg125_31 : g125 31 = .ref q34 := (congrFun eg125 31).trans ((va_up_ne _ _ (Nat.ne_of_beq_eq_false rfl)).trans hg123_31)
  have hg125_32 : g125 32 = .ref q36 := (congrFun eg125 32).trans ((va_up_ne _ _ (Nat.ne_of_beq_eq_false rfl)).trans hg123_32)
  have hg125_33 : g125 33 = .ref q38 := (congrFun eg125 33).trans ((va_up_ne _ _ (Nat.ne_of_beq_eq_false rfl)).trans hg123_33)
  have hg125_34 : g125 34 = .ref q40 := (congrFun eg125 34).trans ((va_up_ne _ _ (Nat.ne_of_beq_eq_false rfl)).trans hg123_34)
  have hg125_35 : g125 35 = .ref q42 := (congrFun eg125 35).trans ((va_up_ne _ _ (Nat.ne_of_beq_eq_false rfl)).trans hg123_35)
  have hg125_36 : g125 36 = .ref q44 := (congrFun eg125 36).trans ((va_up_ne _ _ (Nat.ne_of_beq_eq_false rfl)).trans hg123_36)
  have hg125_37 : g125 37 = .ref q46 := (congrFun eg125 37).trans ((va_up_ne _ _ (Nat.ne_of_beq_eq_false rfl)).trans hg123_37)
  have hg125_38 : g125 38 = .ref q48 := (congrFun eg125 38).trans ((va_up_ne _ _ (Nat.ne_of_beq_eq_false rfl)).trans hg123_38)
  have hg125_39 : g125 39 = .ref q50 := (congrFun eg125 39).trans ((va_up_ne _ _ (Nat.ne_of_beq_eq_false rfl)).trans hg123_39)
  have hg125_40 : g125 40 = .ref q52 := (congrFun eg125 40).trans ((va_up_ne _ _ (Nat.ne_of_beq_eq_false rfl)).trans hg123_40)
  have hg125_41 : g125 41 = .ref q54 := (congrFun eg125 41).trans ((va_up_ne _ _ (Nat.ne_of_beq_eq_false rfl)).trans hg123_41)
  have hg125_42 : g125 42 = .ref q56 := (congrFun eg125 42).trans ((va_up_ne _ _ (Nat.ne_of_beq_eq_false rfl)).trans hg123_42)
  have hg125_43 : g125 43 = .ref q58 := (congrFun eg125 43).trans ((va_up_ne _ _ (Nat.ne_of_beq_eq_false rfl)).trans hg123_43)
  have hg125_44 : g125 44 = .ref q60 := (congrFun eg125 44).trans ((va_up_ne _ _ (Nat.ne_of_beq_eq_false rfl)).trans hg123_44)
  have hg125_45 : g125 45 = .ref q62 := (congrFun eg125 45).trans ((va_up_ne _ _ (Nat.ne_of_beq_eq_false rfl)).trans hg123_45)
  have hg125_49 : g125 49 = .ref q64 := (congrFun eg125 49).trans ((va_up_ne _ _ (Nat.ne_of_beq_eq_false rfl)).trans hg123_49)
  have hg125_50 : g125 50 = .ref q66 := (congrFun eg125 50).trans ((va_up_ne _ _ (Nat.ne_of_beq_eq_false rfl)).trans hg123_50)
  have hg125_51 : g125 51 = .ref q68 := (congrFun eg125 51).trans ((va_up_ne _ _ (Nat.ne_of_beq_eq_false rfl)).trans hg123_51)
  have hg125_52 : g125 52 = .ref q70 := (congrFun eg125 52).trans ((va_up_ne _ _ (Nat.ne_of_beq_eq_false rfl)).trans hg123_52)
  have hg125_53 : g125 53 = .ref q72 := (congrFun eg125 53).trans ((va_up_ne _ _ (Nat.ne_of_beq_eq_false rfl)).trans hg123_53)
  have hg125_54 : g125 54 = .ref q74 := (congrFun eg125 54).trans ((va_up_ne _ _ (Nat.ne_of_beq_eq_false rfl)).trans hg123_54)
  have hg125_56 : g125 56 = .ref q76 := (congrFun eg125 56).trans ((va_up_ne _ _ (Nat.ne_of_beq_eq_false rfl)).trans hg123_56)
  have hg125_57 : g125 57 = .ref q78 := (congrFun eg125 57).trans ((va_up_ne _ _ (Nat.ne_of_beq_eq_false rfl)).trans hg123_57)
  have hg125_58 : g125 58 = .ref q80 := (congrFun eg125 58).trans ((va_up_ne _ _ (Nat.ne_of_beq_eq_false rfl)).trans hg123_58)
  have hg125_59 : g125 59 = .ref q82 := (congrFun eg125 59).trans ((va_up_ne _ _ (Nat.ne_of_beq_eq_false rfl)).trans hg123_59)
  have hg125_60 : g125 60 = .ref q84 := (congrFun eg125 60).trans ((va_up_ne _ _ (Nat.ne_of_beq_eq_false rfl)).trans hg123_60)
  have hg125_61 : g125 61 = .ref q86 := (congrFun eg125 61).trans ((va_up_ne _ _ (Nat.ne_of_beq_eq_false rfl)).trans hg123_61)
  have hg125_62 : g125 62 = .ref q88 := (congrFun eg125 62).trans ((va_up_ne _ _ (Nat.ne_of_beq_eq_false rfl)).trans hg123_62)
  have hg125_63 : g125 63 = .ref q90 := (congrFun eg125 63).trans ((va_up_ne _ _ (Nat.ne_of_beq_eq_false rfl)).trans hg123_63)
  have hg125_64 : g125 64 = .ref q92 := (congrFun eg125 64).trans ((va_up_ne _ _ (Nat.ne_of_beq_eq_false rfl)).trans hg123_64)
  have hg125_65 : g125 65 = .ref q94 := (congrFun eg125 65).trans ((va_up_ne _ _ (Nat.ne_of_beq_eq_false rfl)).trans hg123_65)
  have hg125_66 : g125 66 = .ref q96 := (congrFun eg125 66).trans ((va_up_ne _ _ (Nat.ne_of_beq_eq_false rfl)).trans hg123_66)
  have hg125_67 : g125 67 = .ref q98 := (congrFun eg125 67).trans ((va_up_ne _ _ (Nat.ne_of_beq_eq_false rfl)).trans hg123_67)
  have hg125_68 : g125 68 = .ref q100 := (congrFun eg125 68).trans ((va_up_ne _ _ (Nat.ne_of_beq_eq_false rfl)).trans hg123_68)
  have hg125_69 : g125 69 = .ref q102 := (congrFun eg125 69).trans ((va_up_ne _ _ (Nat.ne_of_beq_eq_false rfl)).trans hg123_69)
  have hg125_70 : g125 70 = .ref q104 := (congrFun eg125 70).trans ((va_up_ne _ _ (Nat.ne_of_beq_eq_false rfl)).trans hg123_70)
  have hg125_71 : g125 71 = .ref q106 := (congrFun eg125 71).trans ((va_up_ne _ _ (Nat.ne_of_beq_eq_false rfl)).trans hg123_71)
  have hg125_72 : g125 72 = .ref q108 := (congrFun eg125 72).trans ((va_up_ne _ _ (Nat.ne_of_beq_eq_false rfl)).trans hg123_72)
  have hg125_73 : g125 73 = .ref q110 := (congrFun eg125 73).trans ((va_up_ne _ _ (Nat.ne_of_beq_eq_false rfl)).trans hg123_73)
  have hg125_76 : g125 76 = .ref q112 := (congrFun eg125 76).trans ((va_up_ne _ _ (Nat.ne_of_beq_eq_false rfl)).trans hg123_76)
  have hg125_77 : g125 77 = .ref q114 := (congrFun eg125 77).trans ((va_up_ne _ _ (Nat.ne_of_beq_eq_false rfl)).trans hg123_77)
  have hg125_78 : g125 78 = .ref q116 := (congrFun eg125 78).trans ((va_up_ne _ _ (Nat.ne_of_beq_eq_false rfl)).trans hg123_78)
  have hg125_79 : g125 79 = .ref q118 := (congrFun eg125 79).trans ((va_up_ne _ _ (Nat.ne_of_beq_eq_false rfl)).trans hg123_79)
  have hg125_80 : g125 80 = .ref q120 := (congrFun eg125 80).trans ((va_up_ne _ _ (Nat.ne_of_beq_eq_false rfl)).trans hg123_80)
  have hg125_81 : g125 81 = .ref q122 := (congrFun eg125 81).trans ((va_up_ne _ _ (Nat.ne_of_beq_eq_false rfl)).trans hg123_81)
  clear hg123_0 hg123_1 hg123_8 hg123_9 hg123_16 hg123_17 hg123_19 hg123_20 hg123_21 hg123_22 hg123_23 hg123_24 hg123_25 hg123_26 hg123_46 hg123_47 hg123_48 hg123_55 hg123_74 hg123_75 hg123_86 hg123_87 hg123_88 hg123_89 hg123_95 hg123_2 hg123_3 hg123_4 hg123_5 hg123_6 hg123_7 hg123_10 hg123_11 hg123_12 hg123_13 hg123_14 hg123_15 hg123_18 hg123_27 hg123_28 hg123_29 hg123_30 hg123_31 hg123_32 hg123_33 hg123_34 hg123_35 hg123_36 hg123_37 hg123_38 hg123_39 hg123_40 hg123_41 hg123_42 hg123_43 hg123_44 hg123_45 hg123_49 hg123_50 hg123_51 hg123_52 hg123_53 hg123_54 hg123_56 hg123_57 hg123_58 hg123_59 hg123_60 hg123_61 hg123_62 hg123_63 hg123_64 hg123_65 hg123_66 hg123_67 hg123_68 hg123_69 hg123_70 hg123_71 hg123_72 hg123_73 hg123_76 hg123_77 hg123_78 hg123_79 hg123_80 hg123_81
  have hg125_82 : g125 82 = .ref q124 := by rw [eg125]; exact va_up_self _ _ _
  refine lv_aload_n hx hb dX13_init_530 rfl (lv_at hl 0 rfl) ?_
  refine lv_bipush (v := 80) hx hb dX13_init_531 (by decide) ?_
  refine va_newa (atype := .int) (ty := .int) (N' := 80) (a0 := (80, .inl (fun _ => (0 : Int32)))) hx hb (hts _ (vA_in _ _ (in_2 _ (List.mem_of_getElem? (i := 38) rfl)))) rfl hK hP hD hS hA (fun _ => rfl) (by decide) (by decide) (Nat.le_of_ble_eq_true rfl) (Nat.le_of_ble_eq_true rfl) (Nat.le_of_ble_eq_true rfl) dX13_init_533 (fun q126 kq126 H hK hP hD hS => ?_)
  have hK : va_K (dC, dI) vwCl [(kq1, .int), (kq13, .byte), (kq72, .boolean), (kq126, .int)] s := hK
  obtain ⟨wq126, ewq126⟩ : ∃ z : va_W, z = wq124 ++ [(q126, .inl (kq126, 80, .inl (fun _ => (0 : Int32))))] := ⟨_, rfl⟩
  replace hP : va_P (dC, dI) vwCl ((h, .inr (14, mL g125)) :: wq126) H := by rw [ewq126]; exact hP
  replace hD : va_D A ((h, .inr (14, mL g125)) :: wq126) := by rw [ewq126]; exact hD
  refine W.widen (k := 63) (n := 10392) (by omega) (by omega) ?_
  obtain rfl : kq1 = kq126 := ub_sa_int hK 0 3 rfl rfl
  have hK := hK.sub (tys' := [(kq1, .int), (kq13, .byte), (kq72, .boolean)]) [0, 1, 2] rfl
  refine va_putF (D := (dC, dI)) (ci := 14) (v := .ref q126) (ty := .array .int) (C := RX13) (T := TX13) (N := 97) hx hb hts (fun w h => vA_in _ w (in_X13 w h)) tyX13 tyX13_ok nmX13 hown hK hP hD hS 0 rfl rfl 83 (by decide) (hts _ (vA_in _ _ (in_27 _ (List.mem_of_getElem? (i := 31) rfl)))) (fun _ h9 => h9) rfl hin rfl (by decide +kernel) rfl rfl (mL_lt (Nat.le_of_ble_eq_true rfl)) dX13_init_535 (fun H locs hP hD hS => ?_)
  replace hP : va_P (dC, dI) vwCl ((h, .inr (14, (mL g125).set 83 (.ref q126))) :: wq126) H := hP
  replace hD : va_D A ((h, .inr (14, (mL g125).set 83 (.ref q126))) :: wq126) := hD
  obtain ⟨g127, eg127⟩ : ∃ z9, z9 = va_up g125 83 (.ref q126) := ⟨_, rfl⟩
  rw [mL_upd, ← eg127] at hP hD
  have hg127_0 : g127 0 = .int 0 := (congrFun eg127 0).trans ((va_up_ne _ _ (Nat.ne_of_beq_eq_false rfl)).trans hg125_0)
  have hg127_1 : g127 1 = .int 0 := (congrFun eg127 1).trans ((va_up_ne _ _ (Nat.ne_of_beq_eq_false rfl)).trans hg125_1)
  have hg127_8 : g127 8 = .int 0 := (congrFun eg127 8).trans ((va_up_ne _ _ (Nat.ne_of_beq_eq_false rfl)).trans hg125_8)
  have hg127_9 : g127 9 = .int 0 := (congrFun eg127 9).trans ((va_up_ne _ _ (Nat.ne_of_beq_eq_false rfl)).trans hg125_9)
  have hg127_16 : g127 16 = .int 0 := (congrFun eg127 16).trans ((va_up_ne _ _ (Nat.ne_of_beq_eq_false rfl)).trans hg125_16)
  have hg127_17 : g127 17 = .int 0 := (congrFun eg127 17).trans ((va_up_ne _ _ (Nat.ne_of_beq_eq_false rfl)).trans hg125_17)
  have hg127_19 : g127 19 = .int 0 := (congrFun eg127 19).trans ((va_up_ne _ _ (Nat.ne_of_beq_eq_false rfl)).trans hg125_19)
  have hg127_20 : g127 20 = .int 0 := (congrFun eg127 20).trans ((va_up_ne _ _ (Nat.ne_of_beq_eq_false rfl)).trans hg125_20)
  have hg127_21 : g127 21 = .int 0 := (congrFun eg127 21).trans ((va_up_ne _ _ (Nat.ne_of_beq_eq_false rfl)).trans hg125_21)
  have hg127_22 : g127 22 = .int 0 := (congrFun eg127 22).trans ((va_up_ne _ _ (Nat.ne_of_beq_eq_false rfl)).trans hg125_22)
  have hg127_23 : g127 23 = .int 0 := (congrFun eg127 23).trans ((va_up_ne _ _ (Nat.ne_of_beq_eq_false rfl)).trans hg125_23)
  have hg127_24 : g127 24 = .int 0 := (congrFun eg127 24).trans ((va_up_ne _ _ (Nat.ne_of_beq_eq_false rfl)).trans hg125_24)
  have hg127_25 : g127 25 = .int 0 := (congrFun eg127 25).trans ((va_up_ne _ _ (Nat.ne_of_beq_eq_false rfl)).trans hg125_25)
  have hg127_26 : g127 26 = .int 0 := (congrFun eg127 26).trans ((va_up_ne _ _ (Nat.ne_of_beq_eq_false rfl)).trans hg125_26)
  have hg127_46 : g127 46 = .int 0 := (congrFun eg127 46).trans ((va_up_ne _ _ (Nat.ne_of_beq_eq_false rfl)).trans hg125_46)
  have hg127_47 : g127 47 = .int 0 := (congrFun eg127 47).trans ((va_up_ne _ _ (Nat.ne_of_beq_eq_false rfl)).trans hg125_47)
  have hg127_48 : g127 48 = .int 0 := (congrFun eg127 48).trans ((va_up_ne _ _ (Nat.ne_of_beq_eq_false rfl)).trans hg125_48)
  have hg127_55 : g127 55 = .int 0 := (congrFun eg127 55).trans ((va_up_ne _ _ (Nat.ne_of_beq_eq_false rfl)).trans hg125_55)
  have hg127_74 : g127 74 = .int 0 := (congrFun eg127 74).trans ((va_up_ne _ _ (Nat.ne_of_beq_eq_false rfl)).trans hg125_74)
  have hg127_75 : g127 75 = .int 0 := (congrFun eg127 75).trans ((va_up_ne _ _ (Nat.ne_of_beq_eq_false rfl)).trans hg125_75)
  have hg127_86 : g127 86 = .int 0 := (congrFun eg127 86).trans ((va_up_ne _ _ (Nat.ne_of_beq_eq_false rfl)).trans hg125_86)
  have hg127_87 : g127 87 = .int 0 := (congrFun eg127 87).trans ((va_up_ne _ _ (Nat.ne_of_beq_eq_false rfl)).trans hg125_87)
  have hg127_88 : g127 88 = .int 0 := (congrFun eg127 88).trans ((va_up_ne _ _ (Nat.ne_of_beq_eq_false rfl)).trans hg125_88)
  have hg127_89 : g127 89 = .int 0 := (congrFun eg127 89).trans ((va_up_ne _ _ (Nat.ne_of_beq_eq_false rfl)).trans hg125_89)
  have hg127_95 : g127 95 = .int 0 := (congrFun eg127 95).trans ((va_up_ne _ _ (Nat.ne_of_beq_eq_false rfl)).trans hg125_95)
  have hg127_2 : g127 2 = .ref q1 := (congrFun eg127 2).trans ((va_up_ne _ _ (Nat.ne_of_beq_eq_false rfl)).trans hg125_2)
  have hg127_3 : g127 3 = .ref q3 := (congrFun eg127 3).trans ((va_up_ne _ _ (Nat.ne_of_beq_eq_false rfl)).trans hg125_3)
  have hg127_4 : g127 4 = .ref q5 := (congrFun eg127 4).trans ((va_up_ne _ _ (Nat.ne_of_beq_eq_false rfl)).trans hg125_4)
  have hg127_5 : g127 5 = .ref q7 := (congrFun eg127 5).trans ((va_up_ne _ _ (Nat.ne_of_beq_eq_false rfl)).trans hg125_5)
  have hg127_6 : g127 6 = .ref q9 := (congrFun eg127 6).trans ((va_up_ne _ _ (Nat.ne_of_beq_eq_false rfl)).trans hg125_6)
  have hg127_7 : g127 7 = .ref q11 := (congrFun eg127 7).trans ((va_up_ne _ _ (Nat.ne_of_beq_eq_false rfl)).trans hg125_7)
  have hg127_10 : g127 10 = .ref q13 := (congrFun eg127 10).trans ((va_up_ne _ _ (Nat.ne_of_beq_eq_false rfl)).trans hg125_10)
  have hg127_11 : g127 11 = .ref q15 := (congrFun eg127 11).trans ((va_up_ne _ _ (Nat.ne_of_beq_eq_false rfl)).trans hg125_11)
  have hg127_12 : g127 12 = .ref q17 := (congrFun eg127 12).trans ((va_up_ne _ _ (Nat.ne_of_beq_eq_false rfl)).trans hg125_12)
  have hg127_13 : g127 13 = .ref q19 := (congrFun eg127 13).trans ((va_up_ne _ _ (Nat.ne_of_beq_eq_false rfl)).trans hg125_13)
  have hg127_14 : g127 14 = .ref q21 := (congrFun eg127 14).trans ((va_up_ne _ _ (Nat.ne_of_beq_eq_false rfl)).trans hg125_14)
  have hg127_15 : g127 15 = .ref q23 := (congrFun eg127 15).trans ((va_up_ne _ _ (Nat.ne_of_beq_eq_false rfl)).trans hg125_15)
  have hg127_18 : g127 18 = .ref q13 := (congrFun eg127 18).trans ((va_up_ne _ _ (Nat.ne_of_beq_eq_false rfl)).trans hg125_18)
  have hg127_27 : g127 27 = .ref q26 := (congrFun eg127 27).trans ((va_up_ne _ _ (Nat.ne_of_beq_eq_false rfl)).trans hg125_27)
  have hg127_28 : g127 28 = .ref q28 := (congrFun eg127 28).trans ((va_up_ne _ _ (Nat.ne_of_beq_eq_false rfl)).trans hg125_28)
  have hg127_29 : g127 29 = .ref q30 := (congrFun eg127 29).trans ((va_up_ne _ _ (Nat.ne_of_beq_eq_false rfl)).trans hg125_29)
  have hg127_30 : g127 30 = .ref q32 := (congrFun eg127 30).trans ((va_up_ne _ _ (Nat.ne_of_beq_eq_false rfl)).trans hg125_30)
  have hg127_31 : g127 31 = .ref q34 := (congrFun eg127 31).trans ((va_up_ne _ _ (Nat.ne_of_beq_eq_false rfl)).trans hg125_31)
  have hg127_32 : g127 32 = .ref q36 := (congrFun eg127 32).trans ((va_up_ne _ _ (Nat.ne_of_beq_eq_false rfl)).trans hg125_32)
  have hg127_33 : g127 33 = .ref q38 := (congrFun eg127 33).trans ((va_up_ne _ _ (Nat.ne_of_beq_eq_false rfl)).trans hg125_33)
  have hg127_34 : g127 34 = .ref q40 := (congrFun eg127 34).trans ((va_up_ne _ _ (Nat.ne_of_beq_eq_false rfl)).trans hg125_34)
  have hg127_35 : g127 35 = .ref q42 := (congrFun eg127 35).trans ((va_up_ne _ _ (Nat.ne_of_beq_eq_false rfl)).trans hg125_35)
  have hg127_36 : g127 36 = .ref q44 := (congrFun eg127 36).trans ((va_up_ne _ _ (Nat.ne_of_beq_eq_false rfl)).trans hg125_36)
  have hg127_37 : g127 37 = .ref q46 := (congrFun eg127 37).trans ((va_up_ne _ _ (Nat.ne_of_beq_eq_false rfl)).trans hg125_37)
  have hg127_38 : g127 38 = .ref q48 := (congrFun eg127 38).trans ((va_up_ne _ _ (Nat.ne_of_beq_eq_false rfl)).trans hg125_38)
  have hg127_39 : g127 39 = .ref q50 := (congrFun eg127 39).trans ((va_up_ne _ _ (Nat.ne_of_beq_eq_false rfl)).trans hg125_39)
  have hg127_40 : g127 40 = .ref q52 := (congrFun eg127 40).trans ((va_up_ne _ _ (Nat.ne_of_beq_eq_false rfl)).trans hg125_40)
  have hg127_41 : g127 41 = .ref q54 := (congrFun eg127 41).trans ((va_up_ne _ _ (Nat.ne_of_beq_eq_false rfl)).trans hg125_41)
  have hg127_42 : g127 42 = .ref q56 := (congrFun eg127 42).trans ((va_up_ne _ _ (Nat.ne_of_beq_eq_false rfl)).trans hg125_42)
  have hg127_43 : g127 43 = .ref q58 := (congrFun eg127 43).trans ((va_up_ne _ _ (Nat.ne_of_beq_eq_false rfl)).trans hg125_43)
  have hg127_44 : g127 44 = .ref q60 := (congrFun eg127 44).trans ((va_up_ne _ _ (Nat.ne_of_beq_eq_false rfl)).trans hg125_44)
  have hg127_45 : g127 45 = .ref q62 := (congrFun eg127 45).trans ((va_up_ne _ _ (Nat.ne_of_beq_eq_false rfl)).trans hg125_45)
  have hg127_49 : g127 49 = .ref q64 := (congrFun eg127 49).trans ((va_up_ne _ _ (Nat.ne_of_beq_eq_false rfl)).trans hg125_49)
  have hg127_50 : g127 50 = .ref q66 := (congrFun eg127 50).trans ((va_up_ne _ _ (Nat.ne_of_beq_eq_false rfl)).trans hg125_50)
  have hg127_51 : g127 51 = .ref q68 := (congrFun eg127 51).trans ((va_up_ne _ _ (Nat.ne_of_beq_eq_false rfl)).trans hg125_51)
  have hg127_52 : g127 52 = .ref q70 := (congrFun eg127 52).trans ((va_up_ne _ _ (Nat.ne_of_beq_eq_false rfl)).trans hg125_52)
  have hg127_53 : g127 53 = .ref q72 := (congrFun eg127 53).trans ((va_up_ne _ _ (Nat.ne_of_beq_eq_false rfl)).trans hg125_53)
  have hg127_54 : g127 54 = .ref q74 := (congrFun eg127 54).trans ((va_up_ne _ _ (Nat.ne_of_beq_eq_false rfl)).trans hg125_54)
  have hg127_56 : g127 56 = .ref q76 := (congrFun eg127 56).trans ((va_up_ne _ _ (Nat.ne_of_beq_eq_false rfl)).trans hg125_56)
  have hg127_57 : g127 57 = .ref q78 := (congrFun eg127 57).trans ((va_up_ne _ _ (Nat.ne_of_beq_eq_false rfl)).trans hg125_57)
  have hg127_58 : g127 58 = .ref q80 := (congrFun eg127 58).trans ((va_up_ne _ _ (Nat.ne_of_beq_eq_false rfl)).trans hg125_58)
  have hg127_59 : g127 59 = .ref q82 := (congrFun eg127 59).trans ((va_up_ne _ _ (Nat.ne_of_beq_eq_false rfl)).trans hg125_59)
  have hg127_60 : g127 60 = .ref q84 := (congrFun eg127 60).trans ((va_up_ne _ _ (Nat.ne_of_beq_eq_false rfl)).trans hg125_60)
  have hg127_61 : g127 61 = .ref q86 := (congrFun eg127 61).trans ((va_up_ne _ _ (Nat.ne_of_beq_eq_false rfl)).trans hg125_61)
  have hg127_62 : g127 62 = .ref q88 := (congrFun eg127 62).trans ((va_up_ne _ _ (Nat.ne_of_beq_eq_false rfl)).trans hg125_62)
  have hg127_63 : g127 63 = .ref q90 := (congrFun eg127 63).trans ((va_up_ne _ _ (Nat.ne_of_beq_eq_false rfl)).trans hg125_63)
  have hg127_64 : g127 64 = .ref q92 := (congrFun eg127 64).trans ((va_up_ne _ _ (Nat.ne_of_beq_eq_false rfl)).trans hg125_64)
  have hg127_65 : g127 65 = .ref q94 := (congrFun eg127 65).trans ((va_up_ne _ _ (Nat.ne_of_beq_eq_false rfl)).trans hg125_65)
  have hg127_66 : g127 66 = .ref q96 := (congrFun eg127 66).trans ((va_up_ne _ _ (Nat.ne_of_beq_eq_false rfl)).trans hg125_66)
  have hg127_67 : g127 67 = .ref q98 := (congrFun eg127 67).trans ((va_up_ne _ _ (Nat.ne_of_beq_eq_false rfl)).trans hg125_67)
  have hg127_68 : g127 68 = .ref q100 := (congrFun eg127 68).trans ((va_up_ne _ _ (Nat.ne_of_beq_eq_false rfl)).trans hg125_68)
  have hg127_69 : g127 69 = .ref q102 := (congrFun eg127 69).trans ((va_up_ne _ _ (Nat.ne_of_beq_eq_false rfl)).trans hg125_69)
  have hg127_70 : g127 70 = .ref q104 := (congrFun eg127 70).trans ((va_up_ne _ _ (Nat.ne_of_beq_eq_false rfl)).trans hg125_70)
  have hg127_71 : g127 71 = .ref q106 := (congrFun eg127 71).trans ((va_up_ne _ _ (Nat.ne_of_beq_eq_false rfl)).trans hg125_71)
  have hg127_72 : g127 72 = .ref q108 := (congrFun eg127 72).trans ((va_up_ne _ _ (Nat.ne_of_beq_eq_false rfl)).trans hg125_72)
  have hg127_73 : g127 73 = .ref q110 := (congrFun eg127 73).trans ((va_up_ne _ _ (Nat.ne_of_beq_eq_false rfl)).trans hg125_73)
  have hg127_76 : g127 76 = .ref q112 := (congrFun eg127 76).trans ((va_up_ne _ _ (Nat.ne_of_beq_eq_false rfl)).trans hg125_76)
  have hg127_77 : g127 77 = .ref q114 := (congrFun eg127 77).trans ((va_up_ne _ _ (Nat.ne_of_beq_eq_false rfl)).trans hg125_77)
  have hg127_78 : g127 78 = .ref q116 := (congrFun eg127 78).trans ((va_up_ne _ _ (Nat.ne_of_beq_eq_false rfl)).trans hg125_78)
  have hg127_79 : g127 79 = .ref q118 := (congrFun eg127 79).trans ((va_up_ne _ _ (Nat.ne_of_beq_eq_false rfl)).trans hg125_79)
  have hg127_80 : g127 80 = .ref q120 := (congrFun eg127 80).trans ((va_up_ne _ _ (Nat.ne_of_beq_eq_false rfl)).trans hg125_80)
  have hg127_81 : g127 81 = .ref q122 := (congrFun eg127 81).trans ((va_up_ne _ _ (Nat.ne_of_beq_eq_false rfl)).trans hg125_81)
  have hg127_82 : g127 82 = .ref q124 := (congrFun eg127 82).trans ((va_up_ne _ _ (Nat.ne_of_beq_eq_false rfl)).trans hg125_82)
  clear hg125_0 hg125_1 hg125_8 hg125_9 hg125_16 hg125_17 hg125_19 hg125_20 hg125_21 hg125_22 hg125_23 hg125_24 hg125_25 hg125_26 hg125_46 hg125_47 hg125_48 hg125_55 hg125_74 hg125_75 hg125_86 hg125_87 hg125_88 hg125_89 hg125_95 hg125_2 hg125_3 hg125_4 hg125_5 hg125_6 hg125_7 hg125_10 hg125_11 hg125_12 hg125_13 hg125_14 hg125_15 hg125_18 hg125_27 hg125_28 hg125_29 hg125_30 hg125_31 hg125_32 hg125_33 hg125_34 hg125_35 hg125_36 hg125_37 hg125_38 hg125_39 hg125_40 hg125_41 hg125_42 hg125_43 hg125_44 hg125_45 hg125_49 hg125_50 hg125_51 hg125_52 hg125_53 hg125_54 hg125_56 hg125_57 hg125_58 hg125_59 hg125_60 hg125_61 hg125_62 hg125_63 hg125_64 hg125_65 hg125_66 hg125_67 hg125_68 hg125_69 hg125_70 hg125_71 hg125_72 hg125_73 hg125_76 hg125_77 hg125_78 hg125_79 hg125_80 hg125_81 hg125_82
  have hg127_83 : g127 83 = .ref q126 := by rw [eg127]; exact va_up_self _ _ _
  refine lv_aload_n hx hb dX13_init_538 rfl (lv_at hl 0 rfl) ?_
  refine lv_iconst (v := 4) hx hb dX13_init_539 (by decide) ?_
  refine va_newa (atype := .int) (ty := .int) (N' := 4) (a0 := (4, .inl (fun _ => (0 : Int32)))) hx hb (hts _ (vA_in _ _ (in_2 _ (List.mem_of_getElem? (i := 38) rfl)))) rfl hK hP hD hS hA (fun _ => rfl) (by decide) (by decide) (Nat.le_of_ble_eq_true rfl) (Nat.le_of_ble_eq_true rfl) (Nat.le_of_ble_eq_true rfl) dX13_init_540 (fun q128 kq128 H hK hP hD hS => ?_)
  have hK : va_K (dC, dI) vwCl [(kq1, .int), (kq13, .byte), (kq72, .boolean), (kq128, .int)] s := hK
  obtain ⟨wq128, ewq128⟩ : ∃ z : va_W, z = wq126 ++ [(q128, .inl (kq128, 4, .inl (fun _ => (0 : Int32))))] := ⟨_, rfl⟩
  replace hP : va_P (dC, dI) vwCl ((h, .inr (14, mL g127)) :: wq128) H := by rw [ewq128]; exact hP
  replace hD : va_D A ((h, .inr (14, mL g127)) :: wq128) := by rw [ewq128]; exact hD
  refine W.widen (k := 64) (n := 10396) (by omega) (by omega) ?_
  obtain rfl : kq1 = kq128 := ub_sa_int hK 0 3 rfl rfl
  have hK := hK.sub (tys' := [(kq1, .int), (kq13, .byte), (kq72, .boolean)]) [0, 1, 2] rfl
  refine va_putF (D := (dC, dI)) (ci := 14) (v := .ref q128) (ty := .array .int) (C := RX13) (T := TX13) (N := 97) hx hb hts (fun w h => vA_in _ w (in_X13 w h)) tyX13 tyX13_ok nmX13 hown hK hP hD hS 0 rfl rfl 84 (by decide) (hts _ (vA_in _ _ (in_30 _ (List.mem_of_getElem? (i := 1) rfl)))) (fun _ h9 => h9) rfl hin rfl (by decide +kernel) rfl rfl (mL_lt (Nat.le_of_ble_eq_true rfl)) dX13_init_542 (fun H locs hP hD hS => ?_)
  replace hP : va_P (dC, dI) vwCl ((h, .inr (14, (mL g127).set 84 (.ref q128))) :: wq128) H := hP
  replace hD : va_D A ((h, .inr (14, (mL g127).set 84 (.ref q128))) :: wq128) := hD
  obtain ⟨g129, eg129⟩ : ∃ z9, z9 = va_up g127 84 (.ref q128) := ⟨_, rfl⟩
  rw [mL_upd, ← eg129] at hP hD
  have hg129_0 : g129 0 = .int 0 := (congrFun eg129 0).trans ((va_up_ne _ _ (Nat.ne_of_beq_eq_false rfl)).trans hg127_0)
  have hg129_1 : g129 1 = .int 0 := (congrFun eg129 1).trans ((va_up_ne _ _ (Nat.ne_of_beq_eq_false rfl)).trans hg127_1)
  have hg129_8 : g129 8 = .int 0 := (congrFun eg129 8).trans ((va_up_ne _ _ (Nat.ne_of_beq_eq_false rfl)).trans hg127_8)
  have hg129_9 : g129 9 = .int 0 := (congrFun eg129 9).trans ((va_up_ne _ _ (Nat.ne_of_beq_eq_false rfl)).trans hg127_9)
  have hg129_16 : g129 16 = .int 0 := (congrFun eg129 16).trans ((va_up_ne _ _ (Nat.ne_of_beq_eq_false rfl)).trans hg127_16)
  have hg129_17 : g129 17 = .int 0 := (congrFun eg129 17).trans ((va_up_ne _ _ (Nat.ne_of_beq_eq_false rfl)).trans hg127_17)
  have hg129_19 : g129 19 = .int 0 := (congrFun eg129 19).trans ((va_up_ne _ _ (Nat.ne_of_beq_eq_false rfl)).trans hg127_19)
  have hg129_20 : g129 20 = .int 0 := (congrFun eg129 20).trans ((va_up_ne _ _ (Nat.ne_of_beq_eq_false rfl)).trans hg127_20)
  have hg129_21 : g129 21 = .int 0 := (congrFun eg129 21).trans ((va_up_ne _ _ (Nat.ne_of_beq_eq_false rfl)).trans hg127_21)
  have hg129_22 : g129 22 = .int 0 := (congrFun eg129 22).trans ((va_up_ne _ _ (Nat.ne_of_beq_eq_false rfl)).trans hg127_22)
  have hg129_23 : g129 23 = .int 0 := (congrFun eg129 23).trans ((va_up_ne _ _ (Nat.ne_of_beq_eq_false rfl)).trans hg127_23)
  have hg129_24 : g129 24 = .int 0 := (congrFun eg129 24).trans ((va_up_ne _ _ (Nat.ne_of_beq_eq_false rfl)).trans hg127_24)
  have hg129_25 : g129 25 = .int 0 := (congrFun eg129 25).trans ((va_up_ne _ _ (Nat.ne_of_beq_eq_false rfl)).trans hg127_25)
  have hg129_26 : g129 26 = .int 0 := (congrFun eg129 26).trans ((va_up_ne _ _ (Nat.ne_of_beq_eq_false rfl)).trans hg127_26)
  have hg129_46 : g129 46 = .int 0 := (congrFun eg129 46).trans ((va_up_ne _ _ (Nat.ne_of_beq_eq_false rfl)).trans hg127_46)
  have hg129_47 : g129 47 = .int 0 := (congrFun eg129 47).trans ((va_up_ne _ _ (Nat.ne_of_beq_eq_false rfl)).trans hg127_47)
  have hg129_48 : g129 48 = .int 0 := (congrFun eg129 48).trans ((va_up_ne _ _ (Nat.ne_of_beq_eq_false rfl)).trans hg127_48)
  have hg129_55 : g129 55 = .int 0 := (congrFun eg129 55).trans ((va_up_ne _ _ (Nat.ne_of_beq_eq_false rfl)).trans hg127_55)
  have hg129_74 : g129 74 = .int 0 := (congrFun eg129 74).trans ((va_up_ne _ _ (Nat.ne_of_beq_eq_false rfl)).trans hg127_74)
  have hg129_75 : g129 75 = .int 0 := (congrFun eg129 75).trans ((va_up_ne _ _ (Nat.ne_of_beq_eq_false rfl)).trans hg127_75)
  have hg129_86 : g129 86 = .int 0 := (congrFun eg129 86).trans ((va_up_ne _ _ (Nat.ne_of_beq_eq_false rfl)).trans hg127_86)
  have hg129_87 : g129 87 = .int 0 := (congrFun eg129 87).trans ((va_up_ne _ _ (Nat.ne_of_beq_eq_false rfl)).trans hg127_87)
  have hg129_88 : g129 88 = .int 0 := (congrFun eg129 88).trans ((va_up_ne _ _ (Nat.ne_of_beq_eq_false rfl)).trans hg127_88)
  have hg129_89 : g129 89 = .int 0 := (congrFun eg129 89).trans ((va_up_ne _ _ (Nat.ne_of_beq_eq_false rfl)).trans hg127_89)
  have hg129_95 : g129 95 = .int 0 := (congrFun eg129 95).trans ((va_up_ne _ _ (Nat.ne_of_beq_eq_false rfl)).trans hg127_95)
  have hg129_2 : g129 2 = .ref q1 := (congrFun eg129 2).trans ((va_up_ne _ _ (Nat.ne_of_beq_eq_false rfl)).trans hg127_2)
  have hg129_3 : g129 3 = .ref q3 := (congrFun eg129 3).trans ((va_up_ne _ _ (Nat.ne_of_beq_eq_false rfl)).trans hg127_3)
  have hg129_4 : g129 4 = .ref q5 := (congrFun eg129 4).trans ((va_up_ne _ _ (Nat.ne_of_beq_eq_false rfl)).trans hg127_4)
  have hg129_5 : g129 5 = .ref q7 := (congrFun eg129 5).trans ((va_up_ne _ _ (Nat.ne_of_beq_eq_false rfl)).trans hg127_5)
  have hg129_6 : g129 6 = .ref q9 := (congrFun eg129 6).trans ((va_up_ne _ _ (Nat.ne_of_beq_eq_false rfl)).trans hg127_6)
  have hg129_7 : g129 7 = .ref q11 := (congrFun eg129 7).trans ((va_up_ne _ _ (Nat.ne_of_beq_eq_false rfl)).trans hg127_7)
  have hg129_10 : g129 10 = .ref q13 := (congrFun eg129 10).trans ((va_up_ne _ _ (Nat.ne_of_beq_eq_false rfl)).trans hg127_10)
  have hg129_11 : g129 11 = .ref q15 := (congrFun eg129 11).trans ((va_up_ne _ _ (Nat.ne_of_beq_eq_false rfl)).trans hg127_11)
  have hg129_12 : g129 12 = .ref q17 := (congrFun eg129 12).trans ((va_up_ne _ _ (Nat.ne_of_beq_eq_false rfl)).trans hg127_12)
  have hg129_13 : g129 13 = .ref q19 := (congrFun eg129 13).trans ((va_up_ne _ _ (Nat.ne_of_beq_eq_false rfl)).trans hg127_13)
  have hg129_14 : g129 14 = .ref q21 := (congrFun eg129 14).trans ((va_up_ne _ _ (Nat.ne_of_beq_eq_false rfl)).trans hg127_14)
  have hg129_15 : g129 15 = .ref q23 := (congrFun eg129 15).trans ((va_up_ne _ _ (Nat.ne_of_beq_eq_false rfl)).trans hg127_15)
  have hg129_18 : g129 18 = .ref q13 := (congrFun eg129 18).trans ((va_up_ne _ _ (Nat.ne_of_beq_eq_false rfl)).trans hg127_18)
  have hg129_27 : g129 27 = .ref q26 := (congrFun eg129 27).trans ((va_up_ne _ _ (Nat.ne_of_beq_eq_false rfl)).trans hg127_27)
  have hg129_28 : g129 28 = .ref q28 := (congrFun eg129 28).trans ((va_up_ne _ _ (Nat.ne_of_beq_eq_false rfl)).trans hg127_28)
  have hg129_29 : g129 29 = .ref q30 := (congrFun eg129 29).trans ((va_up_ne _ _ (Nat.ne_of_beq_eq_false rfl)).trans hg127_29)
  have hg129_30 : g129 30 = .ref q32 := (congrFun eg129 30).trans ((va_up_ne _ _ (Nat.ne_of_beq_eq_false rfl)).trans hg127_30)
  have hg129_31 : g129 31 = .ref q34 := (congrFun eg129 31).trans ((va_up_ne _ _ (Nat.ne_of_beq_eq_false rfl)).trans hg127_31)
  have hg129_32 : g129 32 = .ref q36 := (congrFun eg129 32).trans ((va_up_ne _ _ (Nat.ne_of_beq_eq_false rfl)).trans hg127_32)
  have hg129_33 : g129 33 = .ref q38 := (congrFun eg129 33).trans ((va_up_ne _ _ (Nat.ne_of_beq_eq_false rfl)).trans hg127_33)
  have hg129_34 : g129 34 = .ref q40 := (congrFun eg129 34).trans ((va_up_ne _ _ (Nat.ne_of_beq_eq_false rfl)).trans hg127_34)
  have hg129_35 : g129 35 = .ref q42 := (congrFun eg129 35).trans ((va_up_ne _ _ (Nat.ne_of_beq_eq_false rfl)).trans hg127_35)
  have hg129_36 : g129 36 = .ref q44 := (congrFun eg129 36).trans ((va_up_ne _ _ (Nat.ne_of_beq_eq_false rfl)).trans hg127_36)
  have hg129_37 : g129 37 = .ref q46 := (congrFun eg129 37).trans ((va_up_ne _ _ (Nat.ne_of_beq_eq_false rfl)).trans hg127_37)
  have hg129_38 : g129 38 = .ref q48 := (congrFun eg129 38).trans ((va_up_ne _ _ (Nat.ne_of_beq_eq_false rfl)).trans hg127_38)
  have hg129_39 : g129 39 = .ref q50 := (congrFun eg129 39).trans ((va_up_ne _ _ (Nat.ne_of_beq_eq_false rfl)).trans hg127_39)
  have hg129_40 : g129 40 = .ref q52 := (congrFun eg129 40).trans ((va_up_ne _ _ (Nat.ne_of_beq_eq_false rfl)).trans hg127_40)
  have hg129_41 : g129 41 = .ref q54 := (congrFun eg129 41).trans ((va_up_ne _ _ (Nat.ne_of_beq_eq_false rfl)).trans hg127_41)
  have hg129_42 : g129 42 = .ref q56 := (congrFun eg129 42).trans ((va_up_ne _ _ (Nat.ne_of_beq_eq_false rfl)).trans hg127_42)
  have hg129_43 : g129 43 = .ref q58 := (congrFun eg129 43).trans ((va_up_ne _ _ (Nat.ne_of_beq_eq_false rfl)).trans hg127_43)
  have hg129_44 : g129 44 = .ref q60 := (congrFun eg129 44).trans ((va_up_ne _ _ (Nat.ne_of_beq_eq_false rfl)).trans hg127_44)
  have hg129_45 : g129 45 = .ref q62 := (congrFun eg129 45).trans ((va_up_ne _ _ (Nat.ne_of_beq_eq_false rfl)).trans hg127_45)
  have hg129_49 : g129 49 = .ref q64 := (congrFun eg129 49).trans ((va_up_ne _ _ (Nat.ne_of_beq_eq_false rfl)).trans hg127_49)
  have hg129_50 : g129 50 = .ref q66 := (congrFun eg129 50).trans ((va_up_ne _ _ (Nat.ne_of_beq_eq_false rfl)).trans hg127_50)
  have hg129_51 : g129 51 = .ref q68 := (congrFun eg129 51).trans ((va_up_ne _ _ (Nat.ne_of_beq_eq_false rfl)).trans hg127_51)
  have hg129_52 : g129 52 = .ref q70 := (congrFun eg129 52).trans ((va_up_ne _ _ (Nat.ne_of_beq_eq_false rfl)).trans hg127_52)
  have hg129_53 : g129 53 = .ref q72 := (congrFun eg129 53).trans ((va_up_ne _ _ (Nat.ne_of_beq_eq_false rfl)).trans hg127_53)
  have hg129_54 : g129 54 = .ref q74 := (congrFun eg129 54).trans ((va_up_ne _ _ (Nat.ne_of_beq_eq_false rfl)).trans hg127_54)
  have hg129_56 : g129 56 = .ref q76 := (congrFun eg129 56).trans ((va_up_ne _ _ (Nat.ne_of_beq_eq_false rfl)).trans hg127_56)
  have hg129_57 : g129 57 = .ref q78 := (congrFun eg129 57).trans ((va_up_ne _ _ (Nat.ne_of_beq_eq_false rfl)).trans hg127_57)
  have hg129_58 : g129 58 = .ref q80 := (congrFun eg129 58).trans ((va_up_ne _ _ (Nat.ne_of_beq_eq_false rfl)).trans hg127_58)
  have hg129_59 : g129 59 = .ref q82 := (congrFun eg129 59).trans ((va_up_ne _ _ (Nat.ne_of_beq_eq_false rfl)).trans hg127_59)
  have hg129_60 : g129 60 = .ref q84 := (congrFun eg129 60).trans ((va_up_ne _ _ (Nat.ne_of_beq_eq_false rfl)).trans hg127_60)
  have hg129_61 : g129 61 = .ref q86 := (congrFun eg129 61).trans ((va_up_ne _ _ (Nat.ne_of_beq_eq_false rfl)).trans hg127_61)
  have hg129_62 : g129 62 = .ref q88 := (congrFun eg129 62).trans ((va_up_ne _ _ (Nat.ne_of_beq_eq_false rfl)).trans hg127_62)
  have hg129_63 : g129 63 = .ref q90 := (congrFun eg129 63).trans ((va_up_ne _ _ (Nat.ne_of_beq_eq_false rfl)).trans hg127_63)
  have hg129_64 : g129 64 = .ref q92 := (congrFun eg129 64).trans ((va_up_ne _ _ (Nat.ne_of_beq_eq_false rfl)).trans hg127_64)
  have hg129_65 : g129 65 = .ref q94 := (congrFun eg129 65).trans ((va_up_ne _ _ (Nat.ne_of_beq_eq_false rfl)).trans hg127_65)
  have hg129_66 : g129 66 = .ref q96 := (congrFun eg129 66).trans ((va_up_ne _ _ (Nat.ne_of_beq_eq_false rfl)).trans hg127_66)
  have hg129_67 : g129 67 = .ref q98 := (congrFun eg129 67).trans ((va_up_ne _ _ (Nat.ne_of_beq_eq_false rfl)).trans hg127_67)
  have hg129_68 : g129 68 = .ref q100 := (congrFun eg129 68).trans ((va_up_ne _ _ (Nat.ne_of_beq_eq_false rfl)).trans hg127_68)
  have hg129_69 : g129 69 = .ref q102 := (congrFun eg129 69).trans ((va_up_ne _ _ (Nat.ne_of_beq_eq_false rfl)).trans hg127_69)
  have hg129_70 : g129 70 = .ref q104 := (congrFun eg129 70).trans ((va_up_ne _ _ (Nat.ne_of_beq_eq_false rfl)).trans hg127_70)
  have hg129_71 : g129 71 = .ref q106 := (congrFun eg129 71).trans ((va_up_ne _ _ (Nat.ne_of_beq_eq_false rfl)).trans hg127_71)
  have hg129_72 : g129 72 = .ref q108 := (congrFun eg129 72).trans ((va_up_ne _ _ (Nat.ne_of_beq_eq_false rfl)).trans hg127_72)
  have hg129_73 : g129 73 = .ref q110 := (congrFun eg129 73).trans ((va_up_ne _ _ (Nat.ne_of_beq_eq_false rfl)).trans hg127_73)
  have hg129_76 : g129 76 = .ref q112 := (congrFun eg129 76).trans ((va_up_ne _ _ (Nat.ne_of_beq_eq_false rfl)).trans hg127_76)
  have hg129_77 : g129 77 = .ref q114 := (congrFun eg129 77).trans ((va_up_ne _ _ (Nat.ne_of_beq_eq_false rfl)).trans hg127_77)
  have hg129_78 : g129 78 = .ref q116 := (congrFun eg129 78).trans ((va_up_ne _ _ (Nat.ne_of_beq_eq_false rfl)).trans hg127_78)
  have hg129_79 : g129 79 = .ref q118 := (congrFun eg129 79).trans ((va_up_ne _ _ (Nat.ne_of_beq_eq_false rfl)).trans hg127_79)
  have hg129_80 : g129 80 = .ref q120 := (congrFun eg129 80).trans ((va_up_ne _ _ (Nat.ne_of_beq_eq_false rfl)).trans hg127_80)
  have hg129_81 : g129 81 = .ref q122 := (congrFun eg129 81).trans ((va_up_ne _ _ (Nat.ne_of_beq_eq_false rfl)).trans hg127_81)
  have hg129_82 : g129 82 = .ref q124 := (congrFun eg129 82).trans ((va_up_ne _ _ (Nat.ne_of_beq_eq_false rfl)).trans hg127_82)
  have hg129_83 : g129 83 = .ref q126 := (congrFun eg129 83).trans ((va_up_ne _ _ (Nat.ne_of_beq_eq_false rfl)).trans hg127_83)
  clear hg127_0 hg127_1 hg127_8 hg127_9 hg127_16 hg127_17 hg127_19 hg127_20 hg127_21 hg127_22 hg127_23 hg127_24 hg127_25 hg127_26 hg127_46 hg127_47 hg127_48 hg127_55 hg127_74 hg127_75 hg127_86 hg127_87 hg127_88 hg127_89 hg127_95 hg127_2 hg127_3 hg127_4 hg127_5 hg127_6 hg127_7 hg127_10 hg127_11 hg127_12 hg127_13 hg127_14 hg127_15 hg127_18 hg127_27 hg127_28 hg127_29 hg127_30 hg127_31 hg127_32 hg127_33 hg127_34 hg127_35 hg127_36 hg127_37 hg127_38 hg127_39 hg127_40 hg127_41 hg127_42 hg127_43 hg127_44 hg127_45 hg127_49 hg127_50 hg127_51 hg127_52 hg127_53 hg127_54 hg127_56 hg127_57 hg127_58 hg127_59 hg127_60 hg127_61 hg127_62 hg127_63 hg127_64 hg127_65 hg127_66 hg127_67 hg127_68 hg127_69 hg127_70 hg127_71 hg127_72 hg127_73 hg127_76 hg127_77 hg127_78 hg127_79 hg127_80 hg127_81 hg127_82 hg127_83
  have hg129_84 : g129 84 = .ref q128 := by rw [eg129]; exact va_up_self _ _ _
  refine lv_aload_n hx hb dX13_init_545 rfl (lv_at hl 0 rfl) ?_
  refine lv_iconst (v := 4) hx hb dX13_init_546 (by decide) ?_
  refine va_newa (atype := .int) (ty := .int) (N' := 4) (a0 := (4, .inl (fun _ => (0 : Int32)))) hx hb (hts _ (vA_in _ _ (in_2 _ (List.mem_of_getElem? (i := 38) rfl)))) rfl hK hP hD hS hA (fun _ => rfl) (by decide) (by decide) (Nat.le_of_ble_eq_true rfl) (Nat.le_of_ble_eq_true rfl) (Nat.le_of_ble_eq_true rfl) dX13_init_547 (fun q130 kq130 H hK hP hD hS => ?_)
  have hK : va_K (dC, dI) vwCl [(kq1, .int), (kq13, .byte), (kq72, .boolean), (kq130, .int)] s := hK
  obtain ⟨wq130, ewq130⟩ : ∃ z : va_W, z = wq128 ++ [(q130, .inl (kq130, 4, .inl (fun _ => (0 : Int32))))] := ⟨_, rfl⟩
  replace hP : va_P (dC, dI) vwCl ((h, .inr (14, mL g129)) :: wq130) H := by rw [ewq130]; exact hP
  replace hD : va_D A ((h, .inr (14, mL g129)) :: wq130) := by rw [ewq130]; exact hD
  refine W.widen (k := 65) (n := 10400) (by omega) (by omega) ?_
  obtain rfl : kq1 = kq130 := ub_sa_int hK 0 3 rfl rfl
  have hK := hK.sub (tys' := [(kq1, .int), (kq13, .byte), (kq72, .boolean)]) [0, 1, 2] rfl
  refine va_putF (D := (dC, dI)) (ci := 14) (v := .ref q130) (ty := .array .int) (C := RX13) (T := TX13) (N := 97) hx hb hts (fun w h => vA_in _ w (in_X13 w h)) tyX13 tyX13_ok nmX13 hown hK hP hD hS 0 rfl rfl 85 (by decide) (hts _ (vA_in _ _ (in_27 _ (List.mem_of_getElem? (i := 24) rfl)))) (fun _ h9 => h9) rfl hin rfl (by decide +kernel) rfl rfl (mL_lt (Nat.le_of_ble_eq_true rfl)) dX13_init_549 (fun H locs hP hD hS => ?_)
  replace hP : va_P (dC, dI) vwCl ((h, .inr (14, (mL g129).set 85 (.ref q130))) :: wq130) H := hP
  replace hD : va_D A ((h, .inr (14, (mL g129).set 85 (.ref q130))) :: wq130) := hD
  obtain ⟨g131, eg131⟩ : ∃ z9, z9 = va_up g129 85 (.ref q130) := ⟨_, rfl⟩
  rw [mL_upd, ← eg131] at hP hD
  have hg131_0 : g131 0 = .int 0 := (congrFun eg131 0).trans ((va_up_ne _ _ (Nat.ne_of_beq_eq_false rfl)).trans hg129_0)
  have hg131_1 : g131 1 = .int 0 := (congrFun eg131 1).trans ((va_up_ne _ _ (Nat.ne_of_beq_eq_false rfl)).trans hg129_1)
  have hg131_8 : g131 8 = .int 0 := (congrFun eg131 8).trans ((va_up_ne _ _ (Nat.ne_of_beq_eq_false rfl)).trans hg129_8)
  have hg131_9 : g131 9 = .int 0 := (congrFun eg131 9).trans ((va_up_ne _ _ (Nat.ne_of_beq_eq_false rfl)).trans hg129_9)
  have hg131_16 : g131 16 = .int 0 := (congrFun eg131 16).trans ((va_up_ne _ _ (Nat.ne_of_beq_eq_false rfl)).trans hg129_16)
  have hg131_17 : g131 17 = .int 0 := (congrFun eg131 17).trans ((va_up_ne _ _ (Nat.ne_of_beq_eq_false rfl)).trans hg129_17)
  have hg131_19 : g131 19 = .int 0 := (congrFun eg131 19).trans ((va_up_ne _ _ (Nat.ne_of_beq_eq_false rfl)).trans hg129_19)
  have hg131_20 : g131 20 = .int 0 := (congrFun eg131 20).trans ((va_up_ne _ _ (Nat.ne_of_beq_eq_false rfl)).trans hg129_20)
  have hg131_21 : g131 21 = .int 0 := (congrFun eg131 21).trans ((va_up_ne _ _ (Nat.ne_of_beq_eq_false rfl)).trans hg129_21)
  have hg131_22 : g131 22 = .int 0 := (congrFun eg131 22).trans ((va_up_ne _ _ (Nat.ne_of_beq_eq_false rfl)).trans hg129_22)
  have hg131_23 : g131 23 = .int 0 := (congrFun eg131 23).trans ((va_up_ne _ _ (Nat.ne_of_beq_eq_false rfl)).trans hg129_23)
  have hg131_24 : g131 24 = .int 0 := (congrFun eg131 24).trans ((va_up_ne _ _ (Nat.ne_of_beq_eq_false rfl)).trans hg129_24)
  have hg131_25 : g131 25 = .int 0 := (congrFun eg131 25).trans ((va_up_ne _ _ (Nat.ne_of_beq_eq_false rfl)).trans hg129_25)
  have hg131_26 : g131 26 = .int 0 := (congrFun eg131 26).trans ((va_up_ne _ _ (Nat.ne_of_beq_eq_false rfl)).trans hg129_26)
  have hg131_46 : g131 46 = .int 0 := (congrFun eg131 46).trans ((va_up_ne _ _ (Nat.ne_of_beq_eq_false rfl)).trans hg129_46)
  have hg131_47 : g131 47 = .int 0 := (congrFun eg131 47).trans ((va_up_ne _ _ (Nat.ne_of_beq_eq_false rfl)).trans hg129_47)
  have hg131_48 : g131 48 = .int 0 := (congrFun eg131 48).trans ((va_up_ne _ _ (Nat.ne_of_beq_eq_false rfl)).trans hg129_48)
  have hg131_55 : g131 55 = .int 0 := (congrFun eg131 55).trans ((va_up_ne _ _ (Nat.ne_of_beq_eq_false rfl)).trans hg129_55)
  have hg131_74 : g131 74 = .int 0 := (congrFun eg131 74).trans ((va_up_ne _ _ (Nat.ne_of_beq_eq_false rfl)).trans hg129_74)
  have hg131_75 : g131 75 = .int 0 := (congrFun eg131 75).trans ((va_up_ne _ _ (Nat.ne_of_beq_eq_false rfl)).trans hg129_75)
  have hg131_86 : g131 86 = .int 0 := (congrFun eg131 86).trans ((va_up_ne _ _ (Nat.ne_of_beq_eq_false rfl)).trans hg129_86)
  have hg131_87 : g131 87 = .int 0 := (congrFun eg131 87).trans ((va_up_ne _ _ (Nat.ne_of_beq_eq_false rfl)).trans hg129_87)
  have hg131_88 : g131 88 = .int 0 := (congrFun eg131 88).trans ((va_up_ne _ _ (Nat.ne_of_beq_eq_false rfl)).trans hg129_88)
  have hg131_89 : g131 89 = .int 0 := (congrFun eg131 89).trans ((va_up_ne _ _ (Nat.ne_of_beq_eq_false rfl)).trans hg129_89)
  have hg131_95 : g131 95 = .int 0 := (congrFun eg131 95).trans ((va_up_ne _ _ (Nat.ne_of_beq_eq_false rfl)).trans hg129_95)
  have hg131_2 : g131 2 = .ref q1 := (congrFun eg131 2).trans ((va_up_ne _ _ (Nat.ne_of_beq_eq_false rfl)).trans hg129_2)
  have hg131_3 : g131 3 = .ref q3 := (congrFun eg131 3).trans ((va_up_ne _ _ (Nat.ne_of_beq_eq_false rfl)).trans hg129_3)
  have hg131_4 : g131 4 = .ref q5 := (congrFun eg131 4).trans ((va_up_ne _ _ (Nat.ne_of_beq_eq_false rfl)).trans hg129_4)
  have hg131_5 : g131 5 = .ref q7 := (congrFun eg131 5).trans ((va_up_ne _ _ (Nat.ne_of_beq_eq_false rfl)).trans hg129_5)
  have hg131_6 : g131 6 = .ref q9 := (congrFun eg131 6).trans ((va_up_ne _ _ (Nat.ne_of_beq_eq_false rfl)).trans hg129_6)
  have hg131_7 : g131 7 = .ref q11 := (congrFun eg131 7).trans ((va_up_ne _ _ (Nat.ne_of_beq_eq_false rfl)).trans hg129_7)
  have hg131_10 : g131 10 = .ref q13 := (congrFun eg131 10).trans ((va_up_ne _ _ (Nat.ne_of_beq_eq_false rfl)).trans hg129_10)
  have hg131_11 : g131 11 = .ref q15 := (congrFun eg131 11).trans ((va_up_ne _ _ (Nat.ne_of_beq_eq_false rfl)).trans hg129_11)
  have hg131_12 : g131 12 = .ref q17 := (congrFun eg131 12).trans ((va_up_ne _ _ (Nat.ne_of_beq_eq_false rfl)).trans hg129_12)
  have hg131_13 : g131 13 = .ref q19 := (congrFun eg131 13).trans ((va_up_ne _ _ (Nat.ne_of_beq_eq_false rfl)).trans hg129_13)
  have hg131_14 : g131 14 = .ref q21 := (congrFun eg131 14).trans ((va_up_ne _ _ (Nat.ne_of_beq_eq_false rfl)).trans hg129_14)
  have hg131_15 : g131 15 = .ref q23 := (congrFun eg131 15).trans ((va_up_ne _ _ (Nat.ne_of_beq_eq_false rfl)).trans hg129_15)
  have hg131_18 : g131 18 = .ref q13 := (congrFun eg131 18).trans ((va_up_ne _ _ (Nat.ne_of_beq_eq_false rfl)).trans hg129_18)
  have hg131_27 : g131 27 = .ref q26 := (congrFun eg131 27).trans ((va_up_ne _ _ (Nat.ne_of_beq_eq_false rfl)).trans hg129_27)
  have hg131_28 : g131 28 = .ref q28 := (congrFun eg131 28).trans ((va_up_ne _ _ (Nat.ne_of_beq_eq_false rfl)).trans hg129_28)
  have hg131_29 : g131 29 = .ref q30 := (congrFun eg131 29).trans ((va_up_ne _ _ (Nat.ne_of_beq_eq_false rfl)).trans hg129_29)
  have hg131_30 : g131 30 = .ref q32 := (congrFun eg131 30).trans ((va_up_ne _ _ (Nat.ne_of_beq_eq_false rfl)).trans hg129_30)
  have hg131_31 : g131 31 = .ref q34 := (congrFun eg131 31).trans ((va_up_ne _ _ (Nat.ne_of_beq_eq_false rfl)).trans hg129_31)
  have hg131_32 : g131 32 = .ref q36 := (congrFun eg131 32).trans ((va_up_ne _ _ (Nat.ne_of_beq_eq_false rfl)).trans hg129_32)
  have hg131_33 : g131 33 = .ref q38 := (congrFun eg131 33).trans ((va_up_ne _ _ (Nat.ne_of_beq_eq_false rfl)).trans hg129_33)
  have hg131_34 : g131 34 = .ref q40 := (congrFun eg131 34).trans ((va_up_ne _ _ (Nat.ne_of_beq_eq_false rfl)).trans hg129_34)
  have hg131_35 : g131 35 = .ref q42 := (congrFun eg131 35).trans ((va_up_ne _ _ (Nat.ne_of_beq_eq_false rfl)).trans hg129_35)
  have hg131_36 : g131 36 = .ref q44 := (congrFun eg131 36).trans ((va_up_ne _ _ (Nat.ne_of_beq_eq_false rfl)).trans hg129_36)
  have hg131_37 : g131 37 = .ref q46 := (congrFun eg131 37).trans ((va_up_ne _ _ (Nat.ne_of_beq_eq_false rfl)).trans hg129_37)
  have hg131_38 : g131 38 = .ref q48 := (congrFun eg131 38).trans ((va_up_ne _ _ (Nat.ne_of_beq_eq_false rfl)).trans hg129_38)
  have hg131_39 : g131 39 = .ref q50 := (congrFun eg131 39).trans ((va_up_ne _ _ (Nat.ne_of_beq_eq_false rfl)).trans hg129_39)
  have hg131_40 : g131 40 = .ref q52 := (congrFun eg131 40).trans ((va_up_ne _ _ (Nat.ne_of_beq_eq_false rfl)).trans hg129_40)
  have hg131_41 : g131 41 = .ref q54 := (congrFun eg131 41).trans ((va_up_ne _ _ (Nat.ne_of_beq_eq_false rfl)).trans hg129_41)
  have hg131_42 : g131 42 = .ref q56 := (congrFun eg131 42).trans ((va_up_ne _ _ (Nat.ne_of_beq_eq_false rfl)).trans hg129_42)
  have hg131_43 : g131 43 = .ref q58 := (congrFun eg131 43).trans ((va_up_ne _ _ (Nat.ne_of_beq_eq_false rfl)).trans hg129_43)
  have hg131_44 : g131 44 = .ref q60 := (congrFun eg131 44).trans ((va_up_ne _ _ (Nat.ne_of_beq_eq_false rfl)).trans hg129_44)
  have hg131_45 : g131 45 = .ref q62 := (congrFun eg131 45).trans ((va_up_ne _ _ (Nat.ne_of_beq_eq_false rfl)).trans hg129_45)
  have hg131_49 : g131 49 = .ref q64 := (congrFun eg131 49).trans ((va_up_ne _ _ (Nat.ne_of_beq_eq_false rfl)).trans hg129_49)
  have hg131_50 : g131 50 = .ref q66 := (congrFun eg131 50).trans ((va_up_ne _ _ (Nat.ne_of_beq_eq_false rfl)).trans hg129_50)
  have hg131_51 : g131 51 = .ref q68 := (congrFun eg131 51).trans ((va_up_ne _ _ (Nat.ne_of_beq_eq_false rfl)).trans hg129_51)
  have hg131_52 : g131 52 = .ref q70 := (congrFun eg131 52).trans ((va_up_ne _ _ (Nat.ne_of_beq_eq_false rfl)).trans hg129_52)
  have hg131_53 : g131 53 = .ref q72 := (congrFun eg131 53).trans ((va_up_ne _ _ (Nat.ne_of_beq_eq_false rfl)).trans hg129_53)
  have hg131_54 : g131 54 = .ref q74 := (congrFun eg131 54).trans ((va_up_ne _ _ (Nat.ne_of_beq_eq_false rfl)).trans hg129_54)
  have hg131_56 : g131 56 = .ref q76 := (congrFun eg131 56).trans ((va_up_ne _ _ (Nat.ne_of_beq_eq_false rfl)).trans hg129_56)
  have hg131_57 : g131 57 = .ref q78 := (congrFun eg131 57).trans ((va_up_ne _ _ (Nat.ne_of_beq_eq_false rfl)).trans hg129_57)
  have hg131_58 : g131 58 = .ref q80 := (congrFun eg131 58).trans ((va_up_ne _ _ (Nat.ne_of_beq_eq_false rfl)).trans hg129_58)
  have hg131_59 : g131 59 = .ref q82 := (congrFun eg131 59).trans ((va_up_ne _ _ (Nat.ne_of_beq_eq_false rfl)).trans hg129_59)
  have hg131_60 : g131 60 = .ref q84 := (congrFun eg131 60).trans ((va_up_ne _ _ (Nat.ne_of_beq_eq_false rfl)).trans hg129_60)
  have hg131_61 : g131 61 = .ref q86 := (congrFun eg131 61).trans ((va_up_ne _ _ (Nat.ne_of_beq_eq_false rfl)).trans hg129_61)
  have hg131_62 : g131 62 = .ref q88 := (congrFun eg131 62).trans ((va_up_ne _ _ (Nat.ne_of_beq_eq_false rfl)).trans hg129_62)
  have hg131_63 : g131 63 = .ref q90 := (congrFun eg131 63).trans ((va_up_ne _ _ (Nat.ne_of_beq_eq_false rfl)).trans hg129_63)
  have hg131_64 : g131 64 = .ref q92 := (congrFun eg131 64).trans ((va_up_ne _ _ (Nat.ne_of_beq_eq_false rfl)).trans hg129_64)
  have hg131_65 : g131 65 = .ref q94 := (congrFun eg131 65).trans ((va_up_ne _ _ (Nat.ne_of_beq_eq_false rfl)).trans hg129_65)
  have hg131_66 : g131 66 = .ref q96 := (congrFun eg131 66).trans ((va_up_ne _ _ (Nat.ne_of_beq_eq_false rfl)).trans hg129_66)
  have hg131_67 : g131 67 = .ref q98 := (congrFun eg131 67).trans ((va_up_ne _ _ (Nat.ne_of_beq_eq_false rfl)).trans hg129_67)
  have hg131_68 : g131 68 = .ref q100 := (congrFun eg131 68).trans ((va_up_ne _ _ (Nat.ne_of_beq_eq_false rfl)).trans hg129_68)
  have hg131_69 : g131 69 = .ref q102 := (congrFun eg131 69).trans ((va_up_ne _ _ (Nat.ne_of_beq_eq_false rfl)).trans hg129_69)
  have hg131_70 : g131 70 = .ref q104 := (congrFun eg131 70).trans ((va_up_ne _ _ (Nat.ne_of_beq_eq_false rfl)).trans hg129_70)
  have hg131_71 : g131 71 = .ref q106 := (congrFun eg131 71).trans ((va_up_ne _ _ (Nat.ne_of_beq_eq_false rfl)).trans hg129_71)
  have hg131_72 : g131 72 = .ref q108 := (congrFun eg131 72).trans ((va_up_ne _ _ (Nat.ne_of_beq_eq_false rfl)).trans hg129_72)
  have hg131_73 : g131 73 = .ref q110 := (congrFun eg131 73).trans ((va_up_ne _ _ (Nat.ne_of_beq_eq_false rfl)).trans hg129_73)
  have hg131_76 : g131 76 = .ref q112 := (congrFun eg131 76).trans ((va_up_ne _ _ (Nat.ne_of_beq_eq_false rfl)).trans hg129_76)
  have hg131_77 : g131 77 = .ref q114 := (congrFun eg131 77).trans ((va_up_ne _ _ (Nat.ne_of_beq_eq_false rfl)).trans hg129_77)
  have hg131_78 : g131 78 = .ref q116 := (congrFun eg131 78).trans ((va_up_ne _ _ (Nat.ne_of_beq_eq_false rfl)).trans hg129_78)
  have hg131_79 : g131 79 = .ref q118 := (congrFun eg131 79).trans ((va_up_ne _ _ (Nat.ne_of_beq_eq_false rfl)).trans hg129_79)
  have hg131_80 : g131 80 = .ref q120 := (congrFun eg131 80).trans ((va_up_ne _ _ (Nat.ne_of_beq_eq_false rfl)).trans hg129_80)
  have hg131_81 : g131 81 = .ref q122 := (congrFun eg131 81).trans ((va_up_ne _ _ (Nat.ne_of_beq_eq_false rfl)).trans hg129_81)
  have hg131_82 : g131 82 = .ref q124 := (congrFun eg131 82).trans ((va_up_ne _ _ (Nat.ne_of_beq_eq_false rfl)).trans hg129_82)
  have hg131_83 : g131 83 = .ref q126 := (congrFun eg131 83).trans ((va_up_ne _ _ (Nat.ne_of_beq_eq_false rfl)).trans hg129_83)
  have hg131_84 : g131 84 = .ref q128 := (congrFun eg131 84).trans ((va_up_ne _ _ (Nat.ne_of_beq_eq_false rfl)).trans hg129_84)
  clear hg129_0 hg129_1 hg129_8 hg129_9 hg129_16 hg129_17 hg129_19 hg129_20 hg129_21 hg129_22 hg129_23 hg129_24 hg129_25 hg129_26 hg129_46 hg129_47 hg129_48 hg129_55 hg129_74 hg129_75 hg129_86 hg129_87 hg129_88 hg129_89 hg129_95 hg129_2 hg129_3 hg129_4 hg129_5 hg129_6 hg129_7 hg129_10 hg129_11 hg129_12 hg129_13 hg129_14 hg129_15 hg129_18 hg129_27 hg129_28 hg129_29 hg129_30 hg129_31 hg129_32 hg129_33 hg129_34 hg129_35 hg129_36 hg129_37 hg129_38 hg129_39 hg129_40 hg129_41 hg129_42 hg129_43 hg129_44 hg129_45 hg129_49 hg129_50 hg129_51 hg129_52 hg129_53 hg129_54 hg129_56 hg129_57 hg129_58 hg129_59 hg129_60 hg129_61 hg129_62 hg129_63 hg129_64 hg129_65 hg129_66 hg129_67 hg129_68 hg129_69 hg129_70 hg129_71 hg129_72 hg129_73 hg129_76 hg129_77 hg129_78 hg129_79 hg129_80 hg129_81 hg129_82 hg129_83 hg129_84
  have hg131_85 : g131 85 = .ref q130 := by rw [eg131]; exact va_up_self _ _ _
  refine lv_aload_n hx hb dX13_init_552 rfl (lv_at hl 0 rfl) ?_
  refine lv_bipush (v := 16) hx hb dX13_init_553 (by decide) ?_
  refine va_newa (atype := .int) (ty := .int) (N' := 16) (a0 := (16, .inl (fun _ => (0 : Int32)))) hx hb (hts _ (vA_in _ _ (in_2 _ (List.mem_of_getElem? (i := 38) rfl)))) rfl hK hP hD hS hA (fun _ => rfl) (by decide) (by decide) (Nat.le_of_ble_eq_true rfl) (Nat.le_of_ble_eq_true rfl) (Nat.le_of_ble_eq_true rfl) dX13_init_555 (fun q132 kq132 H hK hP hD hS => ?_)
  have hK : va_K (dC, dI) vwCl [(kq1, .int), (kq13, .byte), (kq72, .boolean), (kq132, .int)] s := hK
  obtain ⟨wq132, ewq132⟩ : ∃ z : va_W, z = wq130 ++ [(q132, .inl (kq132, 16, .inl (fun _ => (0 : Int32))))] := ⟨_, rfl⟩
  replace hP : va_P (dC, dI) vwCl ((h, .inr (14, mL g131)) :: wq132) H := by rw [ewq132]; exact hP
  replace hD : va_D A ((h, .inr (14, mL g131)) :: wq132) := by rw [ewq132]; exact hD
  refine W.widen (k := 66) (n := 10416) (by omega) (by omega) ?_
  obtain rfl : kq1 = kq132 := ub_sa_int hK 0 3 rfl rfl
  have hK := hK.sub (tys' := [(kq1, .int), (kq13, .byte), (kq72, .boolean)]) [0, 1, 2] rfl
  refine va_putF (D := (dC, dI)) (ci := 14) (v := .ref q132) (ty := .array .int) (C := RX13) (T := TX13) (N := 97) hx hb hts (fun w h => vA_in _ w (in_X13 w h)) tyX13 tyX13_ok nmX13 hown hK hP hD hS 0 rfl rfl 90 (by decide) (hts _ (vA_in _ _ (in_31 _ (List.mem_of_getElem? (i := 24) rfl)))) (fun _ h9 => h9) rfl hin rfl (by decide +kernel) rfl rfl (mL_lt (Nat.le_of_ble_eq_true rfl)) dX13_init_557 (fun H locs hP hD hS => ?_)
  replace hP : va_P (dC, dI) vwCl ((h, .inr (14, (mL g131).set 90 (.ref q132))) :: wq132) H := hP
  replace hD : va_D A ((h, .inr (14, (mL g131).set 90 (.ref q132))) :: wq132) := hD
  obtain ⟨g133, eg133⟩ : ∃ z9, z9 = va_up g131 90 (.ref q132) := ⟨_, rfl⟩
  rw [mL_upd, ← eg133] at hP hD
  have hg133_0 : g133 0 = .int 0 := (congrFun eg133 0).trans ((va_up_ne _ _ (Nat.ne_of_beq_eq_false rfl)).trans hg131_0)
  have hg133_1 : g133 1 = .int 0 := (congrFun eg133 1).trans ((va_up_ne _ _ (Nat.ne_of_beq_eq_false rfl)).trans hg131_1)
  have hg133_8 : g133 8 = .int 0 := (congrFun eg133 8).trans ((va_up_ne _ _ (Nat.ne_of_beq_eq_false rfl)).trans hg131_8)
  have hg133_9 : g133 9 = .int 0 := (congrFun eg133 9).trans ((va_up_ne _ _ (Nat.ne_of_beq_eq_false rfl)).trans hg131_9)
  have hg133_16 : g133 16 = .int 0 := (congrFun eg133 16).trans ((va_up_ne _ _ (Nat.ne_of_beq_eq_false rfl)).trans hg131_16)
  have hg133_17 : g133 17 = .int 0 := (congrFun eg133 17).trans ((va_up_ne _ _ (Nat.ne_of_beq_eq_false rfl)).trans hg131_17)
  have hg133_19 : g133 19 = .int 0 := (congrFun eg133 19).trans ((va_up_ne _ _ (Nat.ne_of_beq_eq_false rfl)).trans hg131_19)
  have hg133_20 : g133 20 = .int 0 := (congrFun eg133 20).trans ((va_up_ne _ _ (Nat.ne_of_beq_eq_false rfl)).trans hg131_20)
  have hg133_21 : g133 21 = .int 0 := (congrFun eg133 21).trans ((va_up_ne _ _ (Nat.ne_of_beq_eq_false rfl)).trans hg131_21)
  have hg133_22 : g133 22 = .int 0 := (congrFun eg133 22).trans ((va_up_ne _ _ (Nat.ne_of_beq_eq_false rfl)).trans hg131_22)
  have hg133_23 : g133 23 = .int 0 := (congrFun eg133 23).trans ((va_up_ne _ _ (Nat.ne_of_beq_eq_false rfl)).trans hg131_23)
  have hg133_24 : g133 24 = .int 0 := (congrFun eg133 24).trans ((va_up_ne _ _ (Nat.ne_of_beq_eq_false rfl)).trans hg131_24)
  have hg133_25 : g133 25 = .int 0 := (congrFun eg133 25).trans ((va_up_ne _ _ (Nat.ne_of_beq_eq_false rfl)).trans hg131_25)
  have hg133_26 : g133 26 = .int 0 := (congrFun eg133 26).trans ((va_up_ne _ _ (Nat.ne_of_beq_eq_false rfl)).trans hg131_26)
  have hg133_46 : g133 46 = .int 0 := (congrFun eg133 46).trans ((va_up_ne _ _ (Nat.ne_of_beq_eq_false rfl)).trans hg131_46)
  have hg133_47 : g133 47 = .int 0 := (congrFun eg133 47).trans ((va_up_ne _ _ (Nat.ne_of_beq_eq_false rfl)).trans hg131_47)
  have hg133_48 : g133 48 = .int 0 := (congrFun eg133 48).trans ((va_up_ne _ _ (Nat.ne_of_beq_eq_false rfl)).trans hg131_48)
  have hg133_55 : g133 55 = .int 0 := (congrFun eg133 55).trans ((va_up_ne _ _ (Nat.ne_of_beq_eq_false rfl)).trans hg131_55)
  have hg133_74 : g133 74 = .int 0 := (congrFun eg133 74).trans ((va_up_ne _ _ (Nat.ne_of_beq_eq_false rfl)).trans hg131_74)
  have hg133_75 : g133 75 = .int 0 := (congrFun eg133 75).trans ((va_up_ne _ _ (Nat.ne_of_beq_eq_false rfl)).trans hg131_75)
  have hg133_86 : g133 86 = .int 0 := (congrFun eg133 86).trans ((va_up_ne _ _ (Nat.ne_of_beq_eq_false rfl)).trans hg131_86)
  have hg133_87 : g133 87 = .int 0 := (congrFun eg133 87).trans ((va_up_ne _ _ (Nat.ne_of_beq_eq_false rfl)).trans hg131_87)
  have hg133_88 : g133 88 = .int 0 := (congrFun eg133 88).trans ((va_up_ne _ _ (Nat.ne_of_beq_eq_false rfl)).trans hg131_88)
  have hg133_89 : g133 89 = .int 0 := (congrFun eg133 89).trans ((va_up_ne _ _ (Nat.ne_of_beq_eq_false rfl)).trans hg131_89)
  have hg133_95 : g133 95 = .int 0 := (congrFun eg133 95).trans ((va_up_ne _ _ (Nat.ne_of_beq_eq_false rfl)).trans hg131_95)
  have hg133_2 : g133 2 = .ref q1 := (congrFun eg133 2).trans ((va_up_ne _ _ (Nat.ne_of_beq_eq_false rfl)).trans hg131_2)
  have hg133_3 : g133 3 = .ref q3 := (congrFun eg133 3).trans ((va_up_ne _ _ (Nat.ne_of_beq_eq_false rfl)).trans hg131_3)
  have hg133_4 : g133 4 = .ref q5 := (congrFun eg133 4).trans ((va_up_ne _ _ (Nat.ne_of_beq_eq_false rfl)).trans hg131_4)
  have hg133_5 : g133 5 = .ref q7 := (congrFun eg133 5).trans ((va_up_ne _ _ (Nat.ne_of_beq_eq_false rfl)).trans hg131_5)
  have hg133_6 : g133 6 = .ref q9 := (congrFun eg133 6).trans ((va_up_ne _ _ (Nat.ne_of_beq_eq_false rfl)).trans hg131_6)
  have hg133_7 : g133 7 = .ref q11 := (congrFun eg133 7).trans ((va_up_ne _ _ (Nat.ne_of_beq_eq_false rfl)).trans hg131_7)
  have hg133_10 : g133 10 = .ref q13 := (congrFun eg133 10).trans ((va_up_ne _ _ (Nat.ne_of_beq_eq_false rfl)).trans hg131_10)
  have hg133_11 : g133 11 = .ref q15 := (congrFun eg133 11).trans ((va_up_ne _ _ (Nat.ne_of_beq_eq_false rfl)).trans hg131_11)
  have hg133_12 : g133 12 = .ref q17 := (congrFun eg133 12).trans ((va_up_ne _ _ (Nat.ne_of_beq_eq_false rfl)).trans hg131_12)
  have hg133_13 : g133 13 = .ref q19 := (congrFun eg133 13).trans ((va_up_ne _ _ (Nat.ne_of_beq_eq_false rfl)).trans hg131_13)
  have hg133_14 : g133 14 = .ref q21 := (congrFun eg133 14).trans ((va_up_ne _ _ (Nat.ne_of_beq_eq_false rfl)).trans hg131_14)
  have hg133_15 : g133 15 = .ref q23 := (congrFun eg133 15).trans ((va_up_ne _ _ (Nat.ne_of_beq_eq_false rfl)).trans hg131_15)
  have hg133_18 : g133 18 = .ref q13 := (congrFun eg133 18).trans ((va_up_ne _ _ (Nat.ne_of_beq_eq_false rfl)).trans hg131_18)
  have hg133_27 : g133 27 = .ref q26 := (congrFun eg133 27).trans ((va_up_ne _ _ (Nat.ne_of_beq_eq_false rfl)).trans hg131_27)
  have hg133_28 : g133 28 = .ref q28 := (congrFun eg133 28).trans ((va_up_ne _ _ (Nat.ne_of_beq_eq_false rfl)).trans hg131_28)
  have hg133_29 : g133 29 = .ref q30 := (congrFun eg133 29).trans ((va_up_ne _ _ (Nat.ne_of_beq_eq_false rfl)).trans hg131_29)
  have hg133_30 : g133 30 = .ref q32 := (congrFun eg133 30).trans ((va_up_ne _ _ (Nat.ne_of_beq_eq_false rfl)).trans hg131_30)
  have hg133_31 : g133 31 = .ref q34 := (congrFun eg133 31).trans ((va_up_ne _ _ (Nat.ne_of_beq_eq_false rfl)).trans hg131_31)
  have hg133_32 : g133 32 = .ref q36 := (congrFun eg133 32).trans ((va_up_ne _ _ (Nat.ne_of_beq_eq_false rfl)).trans hg131_32)
  have hg133_33 : g133 33 = .ref q38 := (congrFun eg133 33).trans ((va_up_ne _ _ (Nat.ne_of_beq_eq_false rfl)).trans hg131_33)
  have hg133_34 : g133 34 = .ref q40 := (congrFun eg133 34).trans ((va_up_ne _ _ (Nat.ne_of_beq_eq_false rfl)).trans hg131_34)
  have hg133_35 : g133 35 = .ref q42 := (congrFun eg133 35).trans ((va_up_ne _ _ (Nat.ne_of_beq_eq_false rfl)).trans hg131_35)
  have hg133_36 : g133 36 = .ref q44 := (congrFun eg133 36).trans ((va_up_ne _ _ (Nat.ne_of_beq_eq_false rfl)).trans hg131_36)
  have hg133_37 : g133 37 = .ref q46 := (congrFun eg133 37).trans ((va_up_ne _ _ (Nat.ne_of_beq_eq_false rfl)).trans hg131_37)
  have hg133_38 : g133 38 = .ref q48 := (congrFun eg133 38).trans ((va_up_ne _ _ (Nat.ne_of_beq_eq_false rfl)).trans hg131_38)
  have hg133_39 : g133 39 = .ref q50 := (congrFun eg133 39).trans ((va_up_ne _ _ (Nat.ne_of_beq_eq_false rfl)).trans hg131_39)
  have hg133_40 : g133 40 = .ref q52 := (congrFun eg133 40).trans ((va_up_ne _ _ (Nat.ne_of_beq_eq_false rfl)).trans hg131_40)
  have hg133_41 : g133 41 = .ref q54 := (congrFun eg133 41).trans ((va_up_ne _ _ (Nat.ne_of_beq_eq_false rfl)).trans hg131_41)
  have hg133_42 : g133 42 = .ref q56 := (congrFun eg133 42).trans ((va_up_ne _ _ (Nat.ne_of_beq_eq_false rfl)).trans hg131_42)
  have hg133_43 : g133 43 = .ref q58 := (congrFun eg133 43).trans ((va_up_ne _ _ (Nat.ne_of_beq_eq_false rfl)).trans hg131_43)
  have hg133_44 : g133 44 = .ref q60 := (congrFun eg133 44).trans ((va_up_ne _ _ (Nat.ne_of_beq_eq_false rfl)).trans hg131_44)
  have hg133_45 : g133 45 = .ref q62 := (congrFun eg133 45).trans ((va_up_ne _ _ (Nat.ne_of_beq_eq_false rfl)).trans hg131_45)
  have hg133_49 : g133 49 = .ref q64 := (congrFun eg133 49).trans ((va_up_ne _ _ (Nat.ne_of_beq_eq_false rfl)).trans hg131_49)
  have hg133_50 : g133 50 = .ref q66 := (congrFun eg133 50).trans ((va_up_ne _ _ (Nat.ne_of_beq_eq_false rfl)).trans hg131_50)
  have hg133_51 : g133 51 = .ref q68 := (congrFun eg133 51).trans ((va_up_ne _ _ (Nat.ne_of_beq_eq_false rfl)).trans hg131_51)
  have hg133_52 : g133 52 = .ref q70 := (congrFun eg133 52).trans ((va_up_ne _ _ (Nat.ne_of_beq_eq_false rfl)).trans hg131_52)
  have hg133_53 : g133 53 = .ref q72 := (congrFun eg133 53).trans ((va_up_ne _ _ (Nat.ne_of_beq_eq_false rfl)).trans hg131_53)
  have hg133_54 : g133 54 = .ref q74 := (congrFun eg133 54).trans ((va_up_ne _ _ (Nat.ne_of_beq_eq_false rfl)).trans hg131_54)
  have hg133_56 : g133 56 = .ref q76 := (congrFun eg133 56).trans ((va_up_ne _ _ (Nat.ne_of_beq_eq_false rfl)).trans hg131_56)
  have hg133_57 : g133 57 = .ref q78 := (congrFun eg133 57).trans ((va_up_ne _ _ (Nat.ne_of_beq_eq_false rfl)).trans hg131_57)
  have hg133_58 : g133 58 = .ref q80 := (congrFun eg133 58).trans ((va_up_ne _ _ (Nat.ne_of_beq_eq_false rfl)).trans hg131_58)
  have hg133_59 : g133 59 = .ref q82 := (congrFun eg133 59).trans ((va_up_ne _ _ (Nat.ne_of_beq_eq_false rfl)).trans hg131_59)
  have hg133_60 : g133 60 = .ref q84 := (congrFun eg133 60).trans ((va_up_ne _ _ (Nat.ne_of_beq_eq_false rfl)).trans hg131_60)
  have hg133_61 : g133 61 = .ref q86 := (congrFun eg133 61).trans ((va_up_ne _ _ (Nat.ne_of_beq_eq_false rfl)).trans hg131_61)
  have hg133_62 : g133 62 = .ref q88 := (congrFun eg133 62).trans ((va_up_ne _ _ (Nat.ne_of_beq_eq_false rfl)).trans hg131_62)
  have hg133_63 : g133 63 = .ref q90 := (congrFun eg133 63).trans ((va_up_ne _ _ (Nat.ne_of_beq_eq_false rfl)).trans hg131_63)
  have hg133_64 : g133 64 = .ref q92 := (congrFun eg133 64).trans ((va_up_ne _ _ (Nat.ne_of_beq_eq_false rfl)).trans hg131_64)
  have hg133_65 : g133 65 = .ref q94 := (congrFun eg133 65).trans ((va_up_ne _ _ (Nat.ne_of_beq_eq_false rfl)).trans hg131_65)
  have hg133_66 : g133 66 = .ref q96 := (congrFun eg133 66).trans ((va_up_ne _ _ (Nat.ne_of_beq_eq_false rfl)).trans hg131_66)
  have hg133_67 : g133 67 = .ref q98 := (congrFun eg133 67).trans ((va_up_ne _ _ (Nat.ne_of_beq_eq_false rfl)).trans hg131_67)
  have hg133_68 : g133 68 = .ref q100 := (congrFun eg133 68).trans ((va_up_ne _ _ (Nat.ne_of_beq_eq_false rfl)).trans hg131_68)
  have hg133_69 : g133 69 = .ref q102 := (congrFun eg133 69).trans ((va_up_ne _ _ (Nat.ne_of_beq_eq_false rfl)).trans hg131_69)
  have hg133_70 : g133 70 = .ref q104 := (congrFun eg133 70).trans ((va_up_ne _ _ (Nat.ne_of_beq_eq_false rfl)).trans hg131_70)
  have hg133_71 : g133 71 = .ref q106 := (congrFun eg133 71).trans ((va_up_ne _ _ (Nat.ne_of_beq_eq_false rfl)).trans hg131_71)
  have hg133_72 : g133 72 = .ref q108 := (congrFun eg133 72).trans ((va_up_ne _ _ (Nat.ne_of_beq_eq_false rfl)).trans hg131_72)
  have hg133_73 : g133 73 = .ref q110 := (congrFun eg133 73).trans ((va_up_ne _ _ (Nat.ne_of_beq_eq_false rfl)).trans hg131_73)
  have hg133_76 : g133 76 = .ref q112 := (congrFun eg133 76).trans ((va_up_ne _ _ (Nat.ne_of_beq_eq_false rfl)).trans hg131_76)
  have hg133_77 : g133 77 = .ref q114 := (congrFun eg133 77).trans ((va_up_ne _ _ (Nat.ne_of_beq_eq_false rfl)).trans hg131_77)
  have hg133_78 : g133 78 = .ref q116 := (congrFun eg133 78).trans ((va_up_ne _ _ (Nat.ne_of_beq_eq_false rfl)).trans hg131_78)
  have hg133_79 : g133 79 = .ref q118 := (congrFun eg133 79).trans ((va_up_ne _ _ (Nat.ne_of_beq_eq_false rfl)).trans hg131_79)
  have hg133_80 : g133 80 = .ref q120 := (congrFun eg133 80).trans ((va_up_ne _ _ (Nat.ne_of_beq_eq_false rfl)).trans hg131_80)
  have hg133_81 : g133 81 = .ref q122 := (congrFun eg133 81).trans ((va_up_ne _ _ (Nat.ne_of_beq_eq_false rfl)).trans hg131_81)
  have hg133_82 : g133 82 = .ref q124 := (congrFun eg133 82).trans ((va_up_ne _ _ (Nat.ne_of_beq_eq_false rfl)).trans hg131_82)
  have hg133_83 : g133 83 = .ref q126 := (congrFun eg133 83).trans ((va_up_ne _ _ (Nat.ne_of_beq_eq_false rfl)).trans hg131_83)
  have hg133_84 : g133 84 = .ref q128 := (congrFun eg133 84).trans ((va_up_ne _ _ (Nat.ne_of_beq_eq_false rfl)).trans hg131_84)
  have hg133_85 : g133 85 = .ref q130 := (congrFun eg133 85).trans ((va_up_ne _ _ (Nat.ne_of_beq_eq_false rfl)).trans hg131_85)
  clear hg131_0 hg131_1 hg131_8 hg131_9 hg131_16 hg131_17 hg131_19 hg131_20 hg131_21 hg131_22 hg131_23 hg131_24 hg131_25 hg131_26 hg131_46 hg131_47 hg131_48 hg131_55 hg131_74 hg131_75 hg131_86 hg131_87 hg131_88 hg131_89 hg131_95 hg131_2 hg131_3 hg131_4 hg131_5 hg131_6 hg131_7 hg131_10 hg131_11 hg131_12 hg131_13 hg131_14 hg131_15 hg131_18 hg131_27 hg131_28 hg131_29 hg131_30 hg131_31 hg131_32 hg131_33 hg131_34 hg131_35 hg131_36 hg131_37 hg131_38 hg131_39 hg131_40 hg131_41 hg131_42 hg131_43 hg131_44 hg131_45 hg131_49 hg131_50 hg131_51 hg131_52 hg131_53 hg131_54 hg131_56 hg131_57 hg131_58 hg131_59 hg131_60 hg131_61 hg131_62 hg131_63 hg131_64 hg131_65 hg131_66 hg131_67 hg131_68 hg131_69 hg131_70 hg131_71 hg131_72 hg131_73 hg131_76 hg131_77 hg131_78 hg131_79 hg131_80 hg131_81 hg131_82 hg131_83 hg131_84 hg131_85
  have hg133_90 : g133 90 = .ref q132 := by rw [eg133]; exact va_up_self _ _ _
  refine lv_aload_n hx hb dX13_init_560 rfl (lv_at hl 0 rfl) ?_
  refine lv_bipush (v := 20) hx hb dX13_init_561 (by decide) ?_
  refine va_newa (atype := .int) (ty := .int) (N' := 20) (a0 := (20, .inl (fun _ => (0 : Int32)))) hx hb (hts _ (vA_in _ _ (in_2 _ (List.mem_of_getElem? (i := 38) rfl)))) rfl hK hP hD hS hA (fun _ => rfl) (by decide) (by decide) (Nat.le_of_ble_eq_true rfl) (Nat.le_of_ble_eq_true rfl) (Nat.le_of_ble_eq_true rfl) dX13_init_563 (fun q134 kq134 H hK hP hD hS => ?_)
  have hK : va_K (dC, dI) vwCl [(kq1, .int), (kq13, .byte), (kq72, .boolean), (kq134, .int)] s := hK
  obtain ⟨wq134, ewq134⟩ : ∃ z : va_W, z = wq132 ++ [(q134, .inl (kq134, 20, .inl (fun _ => (0 : Int32))))] := ⟨_, rfl⟩
  replace hP : va_P (dC, dI) vwCl ((h, .inr (14, mL g133)) :: wq134) H := by rw [ewq134]; exact hP
  replace hD : va_D A ((h, .inr (14, mL g133)) :: wq134) := by rw [ewq134]; exact hD
  refine W.widen (k := 67) (n := 10436) (by omega) (by omega) ?_
  obtain rfl : kq1 = kq134 := ub_sa_int hK 0 3 rfl rfl
  have hK := hK.sub (tys' := [(kq1, .int), (kq13, .byte), (kq72, .boolean)]) [0, 1, 2] rfl
  refine va_putF (D := (dC, dI)) (ci := 14) (v := .ref q134) (ty := .array .int) (C := RX13) (T := TX13) (N := 97) hx hb hts (fun w h => vA_in _ w (in_X13 w h)) tyX13 tyX13_ok nmX13 hown hK hP hD hS 0 rfl rfl 91 (by decide) (hts _ (vA_in _ _ (in_31 _ (List.mem_of_getElem? (i := 18) rfl)))) (fun _ h9 => h9) rfl hin rfl (by decide +kernel) rfl rfl (mL_lt (Nat.le_of_ble_eq_true rfl)) dX13_init_565 (fun H locs hP hD hS => ?_)
  replace hP : va_P (dC, dI) vwCl ((h, .inr (14, (mL g133).set 91 (.ref q134))) :: wq134) H := hP
  replace hD : va_D A ((h, .inr (14, (mL g133).set 91 (.ref q134))) :: wq134) := hD
  obtain ⟨g135, eg135⟩ : ∃ z9, z9 = va_up g133 91 (.ref q134) := ⟨_, rfl⟩
  rw [mL_upd, ← eg135] at hP hD
  have hg135_0 : g135 0 = .int 0 := (congrFun eg135 0).trans ((va_up_ne _ _ (Nat.ne_of_beq_eq_false rfl)).trans hg133_0)
  have hg135_1 : g135 1 = .int 0 := (congrFun eg135 1).trans ((va_up_ne _ _ (Nat.ne_of_beq_eq_false rfl)).trans hg133_1)
  have hg135_8 : g135 8 = .int 0 := (congrFun eg135 8).trans ((va_up_ne _ _ (Nat.ne_of_beq_eq_false rfl)).trans hg133_8)
  have hg135_9 : g135 9 = .int 0 := (congrFun eg135 9).trans ((va_up_ne _ _ (Nat.ne_of_beq_eq_false rfl)).trans hg133_9)
  have hg135_16 : g135 16 = .int 0 := (congrFun eg135 16).trans ((va_up_ne _ _ (Nat.ne_of_beq_eq_false rfl)).trans hg133_16)
  have hg135_17 : g135 17 = .int 0 := (congrFun eg135 17).trans ((va_up_ne _ _ (Nat.ne_of_beq_eq_false rfl)).trans hg133_17)
  have hg135_19 : g135 19 = .int 0 := (congrFun eg135 19).trans ((va_up_ne _ _ (Nat.ne_of_beq_eq_false rfl)).trans hg133_19)
  have hg135_20 : g135 20 = .int 0 := (congrFun eg135 20).trans ((va_up_ne _ _ (Nat.ne_of_beq_eq_false rfl)).trans hg133_20)
  have hg135_21 : g135 21 = .int 0 := (congrFun eg135 21).trans ((va_up_ne _ _ (Nat.ne_of_beq_eq_false rfl)).trans hg133_21)
  have hg135_22 : g135 22 = .int 0 := (congrFun eg135 22).trans ((va_up_ne _ _ (Nat.ne_of_beq_eq_false rfl)).trans hg133_22)
  have hg135_23 : g135 23 = .int 0 := (congrFun eg135 23).trans ((va_up_ne _ _ (Nat.ne_of_beq_eq_false rfl)).trans hg133_23)
  have hg135_24 : g135 24 = .int 0 := (congrFun eg135 24).trans ((va_up_ne _ _ (Nat.ne_of_beq_eq_false rfl)).trans hg133_24)
  have hg135_25 : g135 25 = .int 0 := (congrFun eg135 25).trans ((va_up_ne _ _ (Nat.ne_of_beq_eq_false rfl)).trans hg133_25)
  have hg135_26 : g135 26 = .int 0 := (congrFun eg135 26).trans ((va_up_ne _ _ (Nat.ne_of_beq_eq_false rfl)).trans hg133_26)
  have hg135_46 : g135 46 = .int 0 := (congrFun eg135 46).trans ((va_up_ne _ _ (Nat.ne_of_beq_eq_false rfl)).trans hg133_46)
  have hg135_47 : g135 47 = .int 0 := (congrFun eg135 47).trans ((va_up_ne _ _ (Nat.ne_of_beq_eq_false rfl)).trans hg133_47)
  have hg135_48 : g135 48 = .int 0 := (congrFun eg135 48).trans ((va_up_ne _ _ (Nat.ne_of_beq_eq_false rfl)).trans hg133_48)
  have hg135_55 : g135 55 = .int 0 := (congrFun eg135 55).trans ((va_up_ne _ _ (Nat.ne_of_beq_eq_false rfl)).trans hg133_55)
  have hg135_74 : g135 74 = .int 0 := (congrFun eg135 74).trans ((va_up_ne _ _ (Nat.ne_of_beq_eq_false rfl)).trans hg133_74)
  have hg135_75 : g135 75 = .int 0 := (congrFun eg135 75).trans ((va_up_ne _ _ (Nat.ne_of_beq_eq_false rfl)).trans hg133_75)
  have hg135_86 : g135 86 = .int 0 := (congrFun eg135 86).trans ((va_up_ne _ _ (Nat.ne_of_beq_eq_false rfl)).trans hg133_86)
  have hg135_87 : g135 87 = .int 0 := (congrFun eg135 87).trans ((va_up_ne _ _ (Nat.ne_of_beq_eq_false rfl)).trans hg133_87)
  have hg135_88 : g135 88 = .int 0 := (congrFun eg135 88).trans ((va_up_ne _ _ (Nat.ne_of_beq_eq_false rfl)).trans hg133_88)
  have hg135_89 : g135 89 = .int 0 := (congrFun eg135 89).trans ((va_up_ne _ _ (Nat.ne_of_beq_eq_false rfl)).trans hg133_89)
  have hg135_95 : g135 95 = .int 0 := (congrFun eg135 95).trans ((va_up_ne _ _ (Nat.ne_of_beq_eq_false rfl)).trans hg133_95)
  have hg135_2 : g135 2 = .ref q1 := (congrFun eg135 2).trans ((va_up_ne _ _ (Nat.ne_of_beq_eq_false rfl)).trans hg133_2)
  have hg135_3 : g135 3 = .ref q3 := (congrFun eg135 3).trans ((va_up_ne _ _ (Nat.ne_of_beq_eq_false rfl)).trans hg133_3)
  have hg135_4 : g135 4 = .ref q5 := (congrFun eg135 4).trans ((va_up_ne _ _ (Nat.ne_of_beq_eq_false rfl)).trans hg133_4)
  have hg135_5 : g135 5 = .ref q7 := (congrFun eg135 5).trans ((va_up_ne _ _ (Nat.ne_of_beq_eq_false rfl)).trans hg133_5)
  have hg135_6 : g135 6 = .ref q9 := (congrFun eg135 6).trans ((va_up_ne _ _ (Nat.ne_of_beq_eq_false rfl)).trans hg133_6)
  have hg135_7 : g135 7 = .ref q11 := (congrFun eg135 7).trans ((va_up_ne _ _ (Nat.ne_of_beq_eq_false rfl)).trans hg133_7)
  have hg135_10 : g135 10 = .ref q13 := (congrFun eg135 10).trans ((va_up_ne _ _ (Nat.ne_of_beq_eq_false rfl)).trans hg133_10)
  have hg135_11 : g135 11 = .ref q15 := (congrFun eg135 11).trans ((va_up_ne _ _ (Nat.ne_of_beq_eq_false rfl)).trans hg133_11)
  have hg135_12 : g135 12 = .ref q17 := (congrFun eg135 12).trans ((va_up_ne _ _ (Nat.ne_of_beq_eq_false rfl)).trans hg133_12)
  have hg135_13 : g135 13 = .ref q19 := (congrFun eg135 13).trans ((va_up_ne _ _ (Nat.ne_of_beq_eq_false rfl)).trans hg133_13)
  have hg135_14 : g135 14 = .ref q21 := (congrFun eg135 14).trans ((va_up_ne _ _ (Nat.ne_of_beq_eq_false rfl)).trans hg133_14)
  have hg135_15 : g135 15 = .ref q23 := (congrFun eg135 15).trans ((va_up_ne _ _ (Nat.ne_of_beq_eq_false rfl)).trans hg133_15)
  have hg135_18 : g135 18 = .ref q13 := (congrFun eg135 18).trans ((va_up_ne _ _ (Nat.ne_of_beq_eq_false rfl)).trans hg133_18)
  have hg135_27 : g135 27 = .ref q26 := (congrFun eg135 27).trans ((va_up_ne _ _ (Nat.ne_of_beq_eq_false rfl)).trans hg133_27)
  have hg135_28 : g135 28 = .ref q28 := (congrFun eg135 28).trans ((va_up_ne _ _ (Nat.ne_of_beq_eq_false rfl)).trans hg133_28)
  have hg135_29 : g135 29 = .ref q30 := (congrFun eg135 29).trans ((va_up_ne _ _ (Nat.ne_of_beq_eq_false rfl)).trans hg133_29)
  have hg135_30 : g135 30 = .ref q32 := (congrFun eg135 30).trans ((va_up_ne _ _ (Nat.ne_of_beq_eq_false rfl)).trans hg133_30)
  have hg135_31 : g135 31 = .ref q34 := (congrFun eg135 31).trans ((va_up_ne _ _ (Nat.ne_of_beq_eq_false rfl)).trans hg133_31)
  have hg135_32 : g135 32 = .ref q36 := (congrFun eg135 32).trans ((va_up_ne _ _ (Nat.ne_of_beq_eq_false rfl)).trans hg133_32)
  have hg135_33 : g135 33 = .ref q38 := (congrFun eg135 33).trans ((va_up_ne _ _ (Nat.ne_of_beq_eq_false rfl)).trans hg133_33)
  have hg135_34 : g135 34 = .ref q40 := (congrFun eg135 34).trans ((va_up_ne _ _ (Nat.ne_of_beq_eq_false rfl)).trans hg133_34)
  have hg135_35 : g135 35 = .ref q42 := (congrFun eg135 35).trans ((va_up_ne _ _ (Nat.ne_of_beq_eq_false rfl)).trans hg133_35)
  have hg135_36 : g135 36 = .ref q44 := (congrFun eg135 36).trans ((va_up_ne _ _ (Nat.ne_of_beq_eq_false rfl)).trans hg133_36)
  have hg135_37 : g135 37 = .ref q46 := (congrFun eg135 37).trans ((va_up_ne _ _ (Nat.ne_of_beq_eq_false rfl)).trans hg133_37)
  have hg135_38 : g135 38 = .ref q48 := (congrFun eg135 38).trans ((va_up_ne _ _ (Nat.ne_of_beq_eq_false rfl)).trans hg133_38)
  have hg135_39 : g135 39 = .ref q50 := (congrFun eg135 39).trans ((va_up_ne _ _ (Nat.ne_of_beq_eq_false rfl)).trans hg133_39)
  have hg135_40 : g135 40 = .ref q52 := (congrFun eg135 40).trans ((va_up_ne _ _ (Nat.ne_of_beq_eq_false rfl)).trans hg133_40)
  have hg135_41 : g135 41 = .ref q54 := (congrFun eg135 41).trans ((va_up_ne _ _ (Nat.ne_of_beq_eq_false rfl)).trans hg133_41)
  have hg135_42 : g135 42 = .ref q56 := (congrFun eg135 42).trans ((va_up_ne _ _ (Nat.ne_of_beq_eq_false rfl)).trans hg133_42)
  have hg135_43 : g135 43 = .ref q58 := (congrFun eg135 43).trans ((va_up_ne _ _ (Nat.ne_of_beq_eq_false rfl)).trans hg133_43)
  have hg135_44 : g135 44 = .ref q60 := (congrFun eg135 44).trans ((va_up_ne _ _ (Nat.ne_of_beq_eq_false rfl)).trans hg133_44)
  have hg135_45 : g135 45 = .ref q62 := (congrFun eg135 45).trans ((va_up_ne _ _ (Nat.ne_of_beq_eq_false rfl)).trans hg133_45)
  have hg135_49 : g135 49 = .ref q64 := (congrFun eg135 49).trans ((va_up_ne _ _ (Nat.ne_of_beq_eq_false rfl)).trans hg133_49)
  have hg135_50 : g135 50 = .ref q66 := (congrFun eg135 50).trans ((va_up_ne _ _ (Nat.ne_of_beq_eq_false rfl)).trans hg133_50)
  have hg135_51 : g135 51 = .ref q68 := (congrFun eg135 51).trans ((va_up_ne _ _ (Nat.ne_of_beq_eq_false rfl)).trans hg133_51)
  have hg135_52 : g135 52 = .ref q70 := (congrFun eg135 52).trans ((va_up_ne _ _ (Nat.ne_of_beq_eq_false rfl)).trans hg133_52)
  have hg135_53 : g135 53 = .ref q72 := (congrFun eg135 53).trans ((va_up_ne _ _ (Nat.ne_of_beq_eq_false rfl)).trans hg133_53)
  have hg135_54 : g135 54 = .ref q74 := (congrFun eg135 54).trans ((va_up_ne _ _ (Nat.ne_of_beq_eq_false rfl)).trans hg133_54)
  have hg135_56 : g135 56 = .ref q76 := (congrFun eg135 56).trans ((va_up_ne _ _ (Nat.ne_of_beq_eq_false rfl)).trans hg133_56)
  have hg135_57 : g135 57 = .ref q78 := (congrFun eg135 57).trans ((va_up_ne _ _ (Nat.ne_of_beq_eq_false rfl)).trans hg133_57)
  have hg135_58 : g135 58 = .ref q80 := (congrFun eg135 58).trans ((va_up_ne _ _ (Nat.ne_of_beq_eq_false rfl)).trans hg133_58)
  have hg135_59 : g135 59 = .ref q82 := (congrFun eg135 59).trans ((va_up_ne _ _ (Nat.ne_of_beq_eq_false rfl)).trans hg133_59)
  have hg135_60 : g135 60 = .ref q84 := (congrFun eg135 60).trans ((va_up_ne _ _ (Nat.ne_of_beq_eq_false rfl)).trans hg133_60)
  have hg135_61 : g135 61 = .ref q86 := (congrFun eg135 61).trans ((va_up_ne _ _ (Nat.ne_of_beq_eq_false rfl)).trans hg133_61)
  have hg135_62 : g135 62 = .ref q88 := (congrFun eg135 62).trans ((va_up_ne _ _ (Nat.ne_of_beq_eq_false rfl)).trans hg133_62)
  have hg135_63 : g135 63 = .ref q90 := (congrFun eg135 63).trans ((va_up_ne _ _ (Nat.ne_of_beq_eq_false rfl)).trans hg133_63)
  have hg135_64 : g135 64 = .ref q92 := (congrFun eg135 64).trans ((va_up_ne _ _ (Nat.ne_of_beq_eq_false rfl)).trans hg133_64)
  have hg135_65 : g135 65 = .ref q94 := (congrFun eg135 65).trans ((va_up_ne _ _ (Nat.ne_of_beq_eq_false rfl)).trans hg133_65)
  have hg135_66 : g135 66 = .ref q96 := (congrFun eg135 66).trans ((va_up_ne _ _ (Nat.ne_of_beq_eq_false rfl)).trans hg133_66)
  have hg135_67 : g135 67 = .ref q98 := (congrFun eg135 67).trans ((va_up_ne _ _ (Nat.ne_of_beq_eq_false rfl)).trans hg133_67)
  have hg135_68 : g135 68 = .ref q100 := (congrFun eg135 68).trans ((va_up_ne _ _ (Nat.ne_of_beq_eq_false rfl)).trans hg133_68)
  have hg135_69 : g135 69 = .ref q102 := (congrFun eg135 69).trans ((va_up_ne _ _ (Nat.ne_of_beq_eq_false rfl)).trans hg133_69)
  have hg135_70 : g135 70 = .ref q104 := (congrFun eg135 70).trans ((va_up_ne _ _ (Nat.ne_of_beq_eq_false rfl)).trans hg133_70)
  have hg135_71 : g135 71 = .ref q106 := (congrFun eg135 71).trans ((va_up_ne _ _ (Nat.ne_of_beq_eq_false rfl)).trans hg133_71)
  have hg135_72 : g135 72 = .ref q108 := (congrFun eg135 72).trans ((va_up_ne _ _ (Nat.ne_of_beq_eq_false rfl)).trans hg133_72)
  have hg135_73 : g135 73 = .ref q110 := (congrFun eg135 73).trans ((va_up_ne _ _ (Nat.ne_of_beq_eq_false rfl)).trans hg133_73)
  have hg135_76 : g135 76 = .ref q112 := (congrFun eg135 76).trans ((va_up_ne _ _ (Nat.ne_of_beq_eq_false rfl)).trans hg133_76)
  have hg135_77 : g135 77 = .ref q114 := (congrFun eg135 77).trans ((va_up_ne _ _ (Nat.ne_of_beq_eq_false rfl)).trans hg133_77)
  have hg135_78 : g135 78 = .ref q116 := (congrFun eg135 78).trans ((va_up_ne _ _ (Nat.ne_of_beq_eq_false rfl)).trans hg133_78)
  have hg135_79 : g135 79 = .ref q118 := (congrFun eg135 79).trans ((va_up_ne _ _ (Nat.ne_of_beq_eq_false rfl)).trans hg133_79)
  have hg135_80 : g135 80 = .ref q120 := (congrFun eg135 80).trans ((va_up_ne _ _ (Nat.ne_of_beq_eq_false rfl)).trans hg133_80)
  have hg135_81 : g135 81 = .ref q122 := (congrFun eg135 81).trans ((va_up_ne _ _ (Nat.ne_of_beq_eq_false rfl)).trans hg133_81)
  have hg135_82 : g135 82 = .ref q124 := (congrFun eg135 82).trans ((va_up_ne _ _ (Nat.ne_of_beq_eq_false rfl)).trans hg133_82)
  have hg135_83 : g135 83 = .ref q126 := (congrFun eg135 83).trans ((va_up_ne _ _ (Nat.ne_of_beq_eq_false rfl)).trans hg133_83)
  have hg135_84 : g135 84 = .ref q128 := (congrFun eg135 84).trans ((va_up_ne _ _ (Nat.ne_of_beq_eq_false rfl)).trans hg133_84)
  have hg135_85 : g135 85 = .ref q130 := (congrFun eg135 85).trans ((va_up_ne _ _ (Nat.ne_of_beq_eq_false rfl)).trans hg133_85)
  have hg135_90 : g135 90 = .ref q132 := (congrFun eg135 90).trans ((va_up_ne _ _ (Nat.ne_of_beq_eq_false rfl)).trans hg133_90)
  clear hg133_0 hg133_1 hg133_8 hg133_9 hg133_16 hg133_17 hg133_19 hg133_20 hg133_21 hg133_22 hg133_23 hg133_24 hg133_25 hg133_26 hg133_46 hg133_47 hg133_48 hg133_55 hg133_74 hg133_75 hg133_86 hg133_87 hg133_88 hg133_89 hg133_95 hg133_2 hg133_3 hg133_4 hg133_5 hg133_6 hg133_7 hg133_10 hg133_11 hg133_12 hg133_13 hg133_14 hg133_15 hg133_18 hg133_27 hg133_28 hg133_29 hg133_30 hg133_31 hg133_32 hg133_33 hg133_34 hg133_35 hg133_36 hg133_37 hg133_38 hg133_39 hg133_40 hg133_41 hg133_42 hg133_43 hg133_44 hg133_45 hg133_49 hg133_50 hg133_51 hg133_52 hg133_53 hg133_54 hg133_56 hg133_57 hg133_58 hg133_59 hg133_60 hg133_61 hg133_62 hg133_63 hg133_64 hg133_65 hg133_66 hg133_67 hg133_68 hg133_69 hg133_70 hg133_71 hg133_72 hg133_73 hg133_76 hg133_77 hg133_78 hg133_79 hg133_80 hg133_81 hg133_82 hg133_83 hg133_84 hg133_85 hg133_90
  have hg135_91 : g135 91 = .ref q134 := by rw [eg135]; exact va_up_self _ _ _
  refine lv_aload_n hx hb dX13_init_568 rfl (lv_at hl 0 rfl) ?_
  refine lv_bipush (v := 20) hx hb dX13_init_569 (by decide) ?_
  refine va_newa (atype := .int) (ty := .int) (N' := 20) (a0 := (20, .inl (fun _ => (0 : Int32)))) hx hb (hts _ (vA_in _ _ (in_2 _ (List.mem_of_getElem? (i := 38) rfl)))) rfl hK hP hD hS hA (fun _ => rfl) (by decide) (by decide) (Nat.le_of_ble_eq_true rfl) (Nat.le_of_ble_eq_true rfl) (Nat.le_of_ble_eq_true rfl) dX13_init_571 (fun q136 kq136 H hK hP hD hS => ?_)
  have hK : va_K (dC, dI) vwCl [(kq1, .int), (kq13, .byte), (kq72, .boolean), (kq136, .int)] s := hK
  obtain ⟨wq136, ewq136⟩ : ∃ z : va_W, z = wq134 ++ [(q136, .inl (kq136, 20, .inl (fun _ => (0 : Int32))))] := ⟨_, rfl⟩
  replace hP : va_P (dC, dI) vwCl ((h, .inr (14, mL g135)) :: wq136) H := by rw [ewq136]; exact hP
  replace hD : va_D A ((h, .inr (14, mL g135)) :: wq136) := by rw [ewq136]; exact hD
  refine W.widen (k := 68) (n := 10456) (by omega) (by omega) ?_
  obtain rfl : kq1 = kq136 := ub_sa_int hK 0 3 rfl rfl
  have hK := hK.sub (tys' := [(kq1, .int), (kq13, .byte), (kq72, .boolean)]) [0, 1, 2] rfl
  refine va_putF (D := (dC, dI)) (ci := 14) (v := .ref q136) (ty := .array .int) (C := RX13) (T := TX13) (N := 97) hx hb hts (fun w h => vA_in _ w (in_X13 w h)) tyX13 tyX13_ok nmX13 hown hK hP hD hS 0 rfl rfl 92 (by decide) (hts _ (vA_in _ _ (in_31 _ (List.mem_of_getElem? (i := 19) rfl)))) (fun _ h9 => h9) rfl hin rfl (by decide +kernel) rfl rfl (mL_lt (Nat.le_of_ble_eq_true rfl)) dX13_init_573 (fun H locs hP hD hS => ?_)
  replace hP : va_P (dC, dI) vwCl ((h, .inr (14, (mL g135).set 92 (.ref q136))) :: wq136) H := hP
  replace hD : va_D A ((h, .inr (14, (mL g135).set 92 (.ref q136))) :: wq136) := hD
  obtain ⟨g137, eg137⟩ : ∃ z9, z9 = va_up g135 92 (.ref q136) := ⟨_, rfl⟩
  rw [mL_upd, ← eg137] at hP hD
  have hg137_0 : g137 0 = .int 0 := (congrFun eg137 0).trans ((va_up_ne _ _ (Nat.ne_of_beq_eq_false rfl)).trans hg135_0)
  have hg137_1 : g137 1 = .int 0 := (congrFun eg137 1).trans ((va_up_ne _ _ (Nat.ne_of_beq_eq_false rfl)).trans hg135_1)
  have hg137_8 : g137 8 = .int 0 := (congrFun eg137 8).trans ((va_up_ne _ _ (Nat.ne_of_beq_eq_false rfl)).trans hg135_8)
  have hg137_9 : g137 9 = .int 0 := (congrFun eg137 9).trans ((va_up_ne _ _ (Nat.ne_of_beq_eq_false rfl)).trans hg135_9)
  have hg137_16 : g137 16 = .int 0 := (congrFun eg137 16).trans ((va_up_ne _ _ (Nat.ne_of_beq_eq_false rfl)).trans hg135_16)
  have hg137_17 : g137 17 = .int 0 := (congrFun eg137 17).trans ((va_up_ne _ _ (Nat.ne_of_beq_eq_false rfl)).trans hg135_17)
  have hg137_19 : g137 19 = .int 0 := (congrFun eg137 19).trans ((va_up_ne _ _ (Nat.ne_of_beq_eq_false rfl)).trans hg135_19)
  have hg137_20 : g137 20 = .int 0 := (congrFun eg137 20).trans ((va_up_ne _ _ (Nat.ne_of_beq_eq_false rfl)).trans hg135_20)
  have hg137_21 : g137 21 = .int 0 := (congrFun eg137 21).trans ((va_up_ne _ _ (Nat.ne_of_beq_eq_false rfl)).trans hg135_21)
  have hg137_22 : g137 22 = .int 0 := (congrFun eg137 22).trans ((va_up_ne _ _ (Nat.ne_of_beq_eq_false rfl)).trans hg135_22)
  have hg137_23 : g137 23 = .int 0 := (congrFun eg137 23).trans ((va_up_ne _ _ (Nat.ne_of_beq_eq_false rfl)).trans hg135_23)
  have hg137_24 : g137 24 = .int 0 := (congrFun eg137 24).trans ((va_up_ne _ _ (Nat.ne_of_beq_eq_false rfl)).trans hg135_24)
  have hg137_25 : g137 25 = .int 0 := (congrFun eg137 25).trans ((va_up_ne _ _ (Nat.ne_of_beq_eq_false rfl)).trans hg135_25)
  have hg137_26 : g137 26 = .int 0 := (congrFun eg137 26).trans ((va_up_ne _ _ (Nat.ne_of_beq_eq_false rfl)).trans hg135_26)
  have hg137_46 : g137 46 = .int 0 := (congrFun eg137 46).trans ((va_up_ne _ _ (Nat.ne_of_beq_eq_false rfl)).trans hg135_46)
  have hg137_47 : g137 47 = .int 0 := (congrFun eg137 47).trans ((va_up_ne _ _ (Nat.ne_of_beq_eq_false rfl)).trans hg135_47)
  have hg137_48 : g137 48 = .int 0 := (congrFun eg137 48).trans ((va_up_ne _ _ (Nat.ne_of_beq_eq_false rfl)).trans hg135_48)
  have hg137_55 : g137 55 = .int 0 := (congrFun eg137 55).trans ((va_up_ne _ _ (Nat.ne_of_beq_eq_false rfl)).trans hg135_55)
  have hg137_74 : g137 74 = .int 0 := (congrFun eg137 74).trans ((va_up_ne _ _ (Nat.ne_of_beq_eq_false rfl)).trans hg135_74)
  have hg137_75 : g137 75 = .int 0 := (congrFun eg137 75).trans ((va_up_ne _ _ (Nat.ne_of_beq_eq_false rfl)).trans hg135_75)
  have hg137_86 : g137 86 = .int 0 := (congrFun eg137 86).trans ((va_up_ne _ _ (Nat.ne_of_beq_eq_false rfl)).trans hg135_86)
  have hg137_87 : g137 87 = .int 0 := (congrFun eg137 87).trans ((va_up_ne _ _ (Nat.ne_of_beq_eq_false rfl)).trans hg135_87)
  have hg137_88 : g137 88 = .int 0 := (congrFun eg137 88).trans ((va_up_ne _ _ (Nat.ne_of_beq_eq_false rfl)).trans hg135_88)
  have hg137_89 : g137 89 = .int 0 := (congrFun eg137 89).trans ((va_up_ne _ _ (Nat.ne_of_beq_eq_false rfl)).trans hg135_89)
  have hg137_95 : g137 95 = .int 0 := (congrFun eg137 95).trans ((va_up_ne _ _ (Nat.ne_of_beq_eq_false rfl)).trans hg135_95)
  have hg137_2 : g137 2 = .ref q1 := (congrFun eg137 2).trans ((va_up_ne _ _ (Nat.ne_of_beq_eq_false rfl)).trans hg135_2)
  have hg137_3 : g137 3 = .ref q3 := (congrFun eg137 3).trans ((va_up_ne _ _ (Nat.ne_of_beq_eq_false rfl)).trans hg135_3)
  have hg137_4 : g137 4 = .ref q5 := (congrFun eg137 4).trans ((va_up_ne _ _ (Nat.ne_of_beq_eq_false rfl)).trans hg135_4)
  have hg137_5 : g137 5 = .ref q7 := (congrFun eg137 5).trans ((va_up_ne _ _ (Nat.ne_of_beq_eq_false rfl)).trans hg135_5)
  have hg137_6 : g137 6 = .ref q9 := (congrFun eg137 6).trans ((va_up_ne _ _ (Nat.ne_of_beq_eq_false rfl)).trans hg135_6)
  have hg137_7 : g137 7 = .ref q11 := (congrFun eg137 7).trans ((va_up_ne _ _ (Nat.ne_of_beq_eq_false rfl)).trans hg135_7)
  have hg137_10 : g137 10 = .ref q13 := (congrFun eg137 10).trans ((va_up_ne _ _ (Nat.ne_of_beq_eq_false rfl)).trans hg135_10)
  have hg137_11 : g137 11 = .ref q15 := (congrFun eg137 11).trans ((va_up_ne _ _ (Nat.ne_of_beq_eq_false rfl)).trans hg135_11)
  have hg137_12 : g137 12 = .ref q17 := (congrFun eg137 12).trans ((va_up_ne _ _ (Nat.ne_of_beq_eq_false rfl)).trans hg135_12)
  have hg137_13 : g137 13 = .ref q19 := (congrFun eg137 13).trans ((va_up_ne _ _ (Nat.ne_of_beq_eq_false rfl)).trans hg135_13)
  have hg137_14 : g137 14 = .ref q21 := (congrFun eg137 14).trans ((va_up_ne _ _ (Nat.ne_of_beq_eq_false rfl)).trans hg135_14)
  have hg137_15 : g137 15 = .ref q23 := (congrFun eg137 15).trans ((va_up_ne _ _ (Nat.ne_of_beq_eq_false rfl)).trans hg135_15)
  have hg137_18 : g137 18 = .ref q13 := (congrFun eg137 18).trans ((va_up_ne _ _ (Nat.ne_of_beq_eq_false rfl)).trans hg135_18)
  have hg137_27 : g137 27 = .ref q26 := (congrFun eg137 27).trans ((va_up_ne _ _ (Nat.ne_of_beq_eq_false rfl)).trans hg135_27)
  have hg137_28 : g137 28 = .ref q28 := (congrFun eg137 28).trans ((va_up_ne _ _ (Nat.ne_of_beq_eq_false rfl)).trans hg135_28)
  have hg137_29 : g137 29 = .ref q30 := (congrFun eg137 29).trans ((va_up_ne _ _ (Nat.ne_of_beq_eq_false rfl)).trans hg135_29)
  have hg137_30 : g137 30 = .ref q32 := (congrFun eg137 30).trans ((va_up_ne _ _ (Nat.ne_of_beq_eq_false rfl)).trans hg135_30)
  have hg137_31 : g137 31 = .ref q34 := (congrFun eg137 31).trans ((va_up_ne _ _ (Nat.ne_of_beq_eq_false rfl)).trans hg135_31)
  have hg137_32 : g137 32 = .ref q36 := (congrFun eg137 32).trans ((va_up_ne _ _ (Nat.ne_of_beq_eq_false rfl)).trans hg135_32)
  have hg137_33 : g137 33 = .ref q38 := (congrFun eg137 33).trans ((va_up_ne _ _ (Nat.ne_of_beq_eq_false rfl)).trans hg135_33)
  have hg137_34 : g137 34 = .ref q40 := (congrFun eg137 34).trans ((va_up_ne _ _ (Nat.ne_of_beq_eq_false rfl)).trans hg135_34)
  have hg137_35 : g137 35 = .ref q42 := (congrFun eg137 35).trans ((va_up_ne _ _ (Nat.ne_of_beq_eq_false rfl)).trans hg135_35)
  have hg137_36 : g137 36 = .ref q44 := (congrFun eg137 36).trans ((va_up_ne _ _ (Nat.ne_of_beq_eq_false rfl)).trans hg135_36)
  have hg137_37 : g137 37 = .ref q46 := (congrFun eg137 37).trans ((va_up_ne _ _ (Nat.ne_of_beq_eq_false rfl)).trans hg135_37)
  have hg137_38 : g137 38 = .ref q48 := (congrFun eg137 38).trans ((va_up_ne _ _ (Nat.ne_of_beq_eq_false rfl)).trans hg135_38)
  have hg137_39 : g137 39 = .ref q50 := (congrFun eg137 39).trans ((va_up_ne _ _ (Nat.ne_of_beq_eq_false rfl)).trans hg135_39)
  have hg137_40 : g137 40 = .ref q52 := (congrFun eg137 40).trans ((va_up_ne _ _ (Nat.ne_of_beq_eq_false rfl)).trans hg135_40)
  have hg137_41 : g137 41 = .ref q54 := (congrFun eg137 41).trans ((va_up_ne _ _ (Nat.ne_of_beq_eq_false rfl)).trans hg135_41)
  have hg137_42 : g137 42 = .ref q56 := (congrFun eg137 42).trans ((va_up_ne _ _ (Nat.ne_of_beq_eq_false rfl)).trans hg135_42)
  have hg137_43 : g137 43 = .ref q58 := (congrFun eg137 43).trans ((va_up_ne _ _ (Nat.ne_of_beq_eq_false rfl)).trans hg135_43)
  have hg137_44 : g137 44 = .ref q60 := (congrFun eg137 44).trans ((va_up_ne _ _ (Nat.ne_of_beq_eq_false rfl)).trans hg135_44)
  have hg137_45 : g137 45 = .ref q62 := (congrFun eg137 45).trans ((va_up_ne _ _ (Nat.ne_of_beq_eq_false rfl)).trans hg135_45)
  have hg137_49 : g137 49 = .ref q64 := (congrFun eg137 49).trans ((va_up_ne _ _ (Nat.ne_of_beq_eq_false rfl)).trans hg135_49)
  have hg137_50 : g137 50 = .ref q66 := (congrFun eg137 50).trans ((va_up_ne _ _ (Nat.ne_of_beq_eq_false rfl)).trans hg135_50)
  have hg137_51 : g137 51 = .ref q68 := (congrFun eg137 51).trans ((va_up_ne _ _ (Nat.ne_of_beq_eq_false rfl)).trans hg135_51)
  have hg137_52 : g137 52 = .ref q70 := (congrFun eg137 52).trans ((va_up_ne _ _ (Nat.ne_of_beq_eq_false rfl)).trans hg135_52)
  have hg137_53 : g137 53 = .ref q72 := (congrFun eg137 53).trans ((va_up_ne _ _ (Nat.ne_of_beq_eq_false rfl)).trans hg135_53)
  have hg137_54 : g137 54 = .ref q74 := (congrFun eg137 54).trans ((va_up_ne _ _ (Nat.ne_of_beq_eq_false rfl)).trans hg135_54)
  have hg137_56 : g137 56 = .ref q76 := (congrFun eg137 56).trans ((va_up_ne _ _ (Nat.ne_of_beq_eq_false rfl)).trans hg135_56)
  have hg137_57 : g137 57 = .ref q78 := (congrFun eg137 57).trans ((va_up_ne _ _ (Nat.ne_of_beq_eq_false rfl)).trans hg135_57)
  have hg137_58 : g137 58 = .ref q80 := (congrFun eg137 58).trans ((va_up_ne _ _ (Nat.ne_of_beq_eq_false rfl)).trans hg135_58)
  have hg137_59 : g137 59 = .ref q82 := (congrFun eg137 59).trans ((va_up_ne _ _ (Nat.ne_of_beq_eq_false rfl)).trans hg135_59)
  have hg137_60 : g137 60 = .ref q84 := (congrFun eg137 60).trans ((va_up_ne _ _ (Nat.ne_of_beq_eq_false rfl)).trans hg135_60)
  have hg137_61 : g137 61 = .ref q86 := (congrFun eg137 61).trans ((va_up_ne _ _ (Nat.ne_of_beq_eq_false rfl)).trans hg135_61)
  have hg137_62 : g137 62 = .ref q88 := (congrFun eg137 62).trans ((va_up_ne _ _ (Nat.ne_of_beq_eq_false rfl)).trans hg135_62)
  have hg137_63 : g137 63 = .ref q90 := (congrFun eg137 63).trans ((va_up_ne _ _ (Nat.ne_of_beq_eq_false rfl)).trans hg135_63)
  have hg137_64 : g137 64 = .ref q92 := (congrFun eg137 64).trans ((va_up_ne _ _ (Nat.ne_of_beq_eq_false rfl)).trans hg135_64)
  have hg137_65 : g137 65 = .ref q94 := (congrFun eg137 65).trans ((va_up_ne _ _ (Nat.ne_of_beq_eq_false rfl)).trans hg135_65)
  have hg137_66 : g137 66 = .ref q96 := (congrFun eg137 66).trans ((va_up_ne _ _ (Nat.ne_of_beq_eq_false rfl)).trans hg135_66)
  have hg137_67 : g137 67 = .ref q98 := (congrFun eg137 67).trans ((va_up_ne _ _ (Nat.ne_of_beq_eq_false rfl)).trans hg135_67)
  have hg137_68 : g137 68 = .ref q100 := (congrFun eg137 68).trans ((va_up_ne _ _ (Nat.ne_of_beq_eq_false rfl)).trans hg135_68)
  have hg137_69 : g137 69 = .ref q102 := (congrFun eg137 69).trans ((va_up_ne _ _ (Nat.ne_of_beq_eq_false rfl)).trans hg135_69)
  have hg137_70 : g137 70 = .ref q104 := (congrFun eg137 70).trans ((va_up_ne _ _ (Nat.ne_of_beq_eq_false rfl)).trans hg135_70)
  have hg137_71 : g137 71 = .ref q106 := (congrFun eg137 71).trans ((va_up_ne _ _ (Nat.ne_of_beq_eq_false rfl)).trans hg135_71)
  have hg137_72 : g137 72 = .ref q108 := (congrFun eg137 72).trans ((va_up_ne _ _ (Nat.ne_of_beq_eq_false rfl)).trans hg135_72)
  have hg137_73 : g137 73 = .ref q110 := (congrFun eg137 73).trans ((va_up_ne _ _ (Nat.ne_of_beq_eq_false rfl)).trans hg135_73)
  have hg137_76 : g137 76 = .ref q112 := (congrFun eg137 76).trans ((va_up_ne _ _ (Nat.ne_of_beq_eq_false rfl)).trans hg135_76)
  have hg137_77 : g137 77 = .ref q114 := (congrFun eg137 77).trans ((va_up_ne _ _ (Nat.ne_of_beq_eq_false rfl)).trans hg135_77)
  have hg137_78 : g137 78 = .ref q116 := (congrFun eg137 78).trans ((va_up_ne _ _ (Nat.ne_of_beq_eq_false rfl)).trans hg135_78)
  have hg137_79 : g137 79 = .ref q118 := (congrFun eg137 79).trans ((va_up_ne _ _ (Nat.ne_of_beq_eq_false rfl)).trans hg135_79)
  have hg137_80 : g137 80 = .ref q120 := (congrFun eg137 80).trans ((va_up_ne _ _ (Nat.ne_of_beq_eq_false rfl)).trans hg135_80)
  have hg137_81 : g137 81 = .ref q122 := (congrFun eg137 81).trans ((va_up_ne _ _ (Nat.ne_of_beq_eq_false rfl)).trans hg135_81)
  have hg137_82 : g137 82 = .ref q124 := (congrFun eg137 82).trans ((va_up_ne _ _ (Nat.ne_of_beq_eq_false rfl)).trans hg135_82)
  have hg137_83 : g137 83 = .ref q126 := (congrFun eg137 83).trans ((va_up_ne _ _ (Nat.ne_of_beq_eq_false rfl)).trans hg135_83)
  have hg137_84 : g137 84 = .ref q128 := (congrFun eg137 84).trans ((va_up_ne _ _ (Nat.ne_of_beq_eq_false rfl)).trans hg135_84)
  have hg137_85 : g137 85 = .ref q130 := (congrFun eg137 85).trans ((va_up_ne _ _ (Nat.ne_of_beq_eq_false rfl)).trans hg135_85)
  have hg137_90 : g137 90 = .ref q132 := (congrFun eg137 90).trans ((va_up_ne _ _ (Nat.ne_of_beq_eq_false rfl)).trans hg135_90)
  have hg137_91 : g137 91 = .ref q134 := (congrFun eg137 91).trans ((va_up_ne _ _ (Nat.ne_of_beq_eq_false rfl)).trans hg135_91)
  clear hg135_0 hg135_1 hg135_8 hg135_9 hg135_16 hg135_17 hg135_19 hg135_20 hg135_21 hg135_22 hg135_23 hg135_24 hg135_25 hg135_26 hg135_46 hg135_47 hg135_48 hg135_55 hg135_74 hg135_75 hg135_86 hg135_87 hg135_88 hg135_89 hg135_95 hg135_2 hg135_3 hg135_4 hg135_5 hg135_6 hg135_7 hg135_10 hg135_11 hg135_12 hg135_13 hg135_14 hg135_15 hg135_18 hg135_27 hg135_28 hg135_29 hg135_30 hg135_31 hg135_32 hg135_33 hg135_34 hg135_35 hg135_36 hg135_37 hg135_38 hg135_39 hg135_40 hg135_41 hg135_42 hg135_43 hg135_44 hg135_45 hg135_49 hg135_50 hg135_51 hg135_52 hg135_53 hg135_54 hg135_56 hg135_57 hg135_58 hg135_59 hg135_60 hg135_61 hg135_62 hg135_63 hg135_64 hg135_65 hg135_66 hg135_67 hg135_68 hg135_69 hg135_70 hg135_71 hg135_72 hg135_73 hg135_76 hg135_77 hg135_78 hg135_79 hg135_80 hg135_81 hg135_82 hg135_83 hg135_84 hg135_85 hg135_90 hg135_91
  have hg137_92 : g137 92 = .ref q136 := by rw [eg137]; exact va_up_self _ _ _
  refine lv_aload_n hx hb dX13_init_576 rfl (lv_at hl 0 rfl) ?_
  refine lv_bipush (v := 20) hx hb dX13_init_577 (by decide) ?_
  refine va_newa (atype := .int) (ty := .int) (N' := 20) (a0 := (20, .inl (fun _ => (0 : Int32)))) hx hb (hts _ (vA_in _ _ (in_2 _ (List.mem_of_getElem? (i := 38) rfl)))) rfl hK hP hD hS hA (fun _ => rfl) (by decide) (by decide) (Nat.le_of_ble_eq_true rfl) (Nat.le_of_ble_eq_true rfl) (Nat.le_of_ble_eq_true rfl) dX13_init_579 (fun q138 kq138 H hK hP hD hS => ?_)
  have hK : va_K (dC, dI) vwCl [(kq1, .int), (kq13, .byte), (kq72, .boolean), (kq138, .int)] s := hK
  obtain ⟨wq138, ewq138⟩ : ∃ z : va_W, z = wq136 ++ [(q138, .inl (kq138, 20, .inl (fun _ => (0 : Int32))))] := ⟨_, rfl⟩
  replace hP : va_P (dC, dI) vwCl ((h, .inr (14, mL g137)) :: wq138) H := by rw [ewq138]; exact hP
  replace hD : va_D A ((h, .inr (14, mL g137)) :: wq138) := by rw [ewq138]; exact hD
  refine W.widen (k := 69) (n := 10476) (by omega) (by omega) ?_
  obtain rfl : kq1 = kq138 := ub_sa_int hK 0 3 rfl rfl
  have hK := hK.sub (tys' := [(kq1, .int), (kq13, .byte), (kq72, .boolean)]) [0, 1, 2] rfl
  refine va_putF (D := (dC, dI)) (ci := 14) (v := .ref q138) (ty := .array .int) (C := RX13) (T := TX13) (N := 97) hx hb hts (fun w h => vA_in _ w (in_X13 w h)) tyX13 tyX13_ok nmX13 hown hK hP hD hS 0 rfl rfl 93 (by decide) (hts _ (vA_in _ _ (in_32 _ (List.mem_of_getElem? (i := 16) rfl)))) (fun _ h9 => h9) rfl hin rfl (by decide +kernel) rfl rfl (mL_lt (Nat.le_of_ble_eq_true rfl)) dX13_init_581 (fun H locs hP hD hS => ?_)
  replace hP : va_P (dC, dI) vwCl ((h, .inr (14, (mL g137).set 93 (.ref q138))) :: wq138) H := hP
  replace hD : va_D A ((h, .inr (14, (mL g137).set 93 (.ref q138))) :: wq138) := hD
  obtain ⟨g139, eg139⟩ : ∃ z9, z9 = va_up g137 93 (.ref q138) := ⟨_, rfl⟩
  rw [mL_upd, ← eg139] at hP hD
  have hg139_0 : g139 0 = .int 0 := (congrFun eg139 0).trans ((va_up_ne _ _ (Nat.ne_of_beq_eq_false rfl)).trans hg137_0)
  have hg139_1 : g139 1 = .int 0 := (congrFun eg139 1).trans ((va_up_ne _ _ (Nat.ne_of_beq_eq_false rfl)).trans hg137_1)
  have hg139_8 : g139 8 = .int 0 := (congrFun eg139 8).trans ((va_up_ne _ _ (Nat.ne_of_beq_eq_false rfl)).trans hg137_8)
  have hg139_9 : g139 9 = .int 0 := (congrFun eg139 9).trans ((va_up_ne _ _ (Nat.ne_of_beq_eq_false rfl)).trans hg137_9)
  have hg139_16 : g139 16 = .int 0 := (congrFun eg139 16).trans ((va_up_ne _ _ (Nat.ne_of_beq_eq_false rfl)).trans hg137_16)
  have hg139_17 : g139 17 = .int 0 := (congrFun eg139 17).trans ((va_up_ne _ _ (Nat.ne_of_beq_eq_false rfl)).trans hg137_17)
  have hg139_19 : g139 19 = .int 0 := (congrFun eg139 19).trans ((va_up_ne _ _ (Nat.ne_of_beq_eq_false rfl)).trans hg137_19)
  have hg139_20 : g139 20 = .int 0 := (congrFun eg139 20).trans ((va_up_ne _ _ (Nat.ne_of_beq_eq_false rfl)).trans hg137_20)
  have hg139_21 : g139 21 = .int 0 := (congrFun eg139 21).trans ((va_up_ne _ _ (Nat.ne_of_beq_eq_false rfl)).trans hg137_21)
  have hg139_22 : g139 22 = .int 0 := (congrFun eg139 22).trans ((va_up_ne _ _ (Nat.ne_of_beq_eq_false rfl)).trans hg137_22)
  have hg139_23 : g139 23 = .int 0 := (congrFun eg139 23).trans ((va_up_ne _ _ (Nat.ne_of_beq_eq_false rfl)).trans hg137_23)
  have hg139_24 : g139 24 = .int 0 := (congrFun eg139 24).trans ((va_up_ne _ _ (Nat.ne_of_beq_eq_false rfl)).trans hg137_24)
  have hg139_25 : g139 25 = .int 0 := (congrFun eg139 25).trans ((va_up_ne _ _ (Nat.ne_of_beq_eq_false rfl)).trans hg137_25)
  have hg139_26 : g139 26 = .int 0 := (congrFun eg139 26).trans ((va_up_ne _ _ (Nat.ne_of_beq_eq_false rfl)).trans hg137_26)
  have hg139_46 : g139 46 = .int 0 := (congrFun eg139 46).trans ((va_up_ne _ _ (Nat.ne_of_beq_eq_false rfl)).trans hg137_46)
  have hg139_47 : g139 47 = .int 0 := (congrFun eg139 47).trans ((va_up_ne _ _ (Nat.ne_of_beq_eq_false rfl)).trans hg137_47)
  have hg139_48 : g139 48 = .int 0 := (congrFun eg139 48).trans ((va_up_ne _ _ (Nat.ne_of_beq_eq_false rfl)).trans hg137_48)
  have hg139_55 : g139 55 = .int 0 := (congrFun eg139 55).trans ((va_up_ne _ _ (Nat.ne_of_beq_eq_false rfl)).trans hg137_55)
  have hg139_74 : g139 74 = .int 0 := (congrFun eg139 74).trans ((va_up_ne _ _ (Nat.ne_of_beq_eq_false rfl)).trans hg137_74)
  have hg139_75 : g139 75 = .int 0 := (congrFun eg139 75).trans ((va_up_ne _ _ (Nat.ne_of_beq_eq_false rfl)).trans hg137_75)
  have hg139_86 : g139 86 = .int 0 := (congrFun eg139 86).trans ((va_up_ne _ _ (Nat.ne_of_beq_eq_false rfl)).trans hg137_86)
  have hg139_87 : g139 87 = .int 0 := (congrFun eg139 87).trans ((va_up_ne _ _ (Nat.ne_of_beq_eq_false rfl)).trans hg137_87)
  have hg139_88 : g139 88 = .int 0 := (congrFun eg139 88).trans ((va_up_ne _ _ (Nat.ne_of_beq_eq_false rfl)).trans hg137_88)
  have hg139_89 : g139 89 = .int 0 := (congrFun eg139 89).trans ((va_up_ne _ _ (Nat.ne_of_beq_eq_false rfl)).trans hg137_89)
  have hg139_95 : g139 95 = .int 0 := (congrFun eg139 95).trans ((va_up_ne _ _ (Nat.ne_of_beq_eq_false rfl)).trans hg137_95)
  have hg139_2 : g139 2 = .ref q1 := (congrFun eg139 2).trans ((va_up_ne _ _ (Nat.ne_of_beq_eq_false rfl)).trans hg137_2)
  have hg139_3 : g139 3 = .ref q3 := (congrFun eg139 3).trans ((va_up_ne _ _ (Nat.ne_of_beq_eq_false rfl)).trans hg137_3)
  have hg139_4 : g139 4 = .ref q5 := (congrFun eg139 4).trans ((va_up_ne _ _ (Nat.ne_of_beq_eq_false rfl)).trans hg137_4)
  have hg139_5 : g139 5 = .ref q7 := (congrFun eg139 5).trans ((va_up_ne _ _ (Nat.ne_of_beq_eq_false rfl)).trans hg137_5)
  have hg139_6 : g139 6 = .ref q9 := (congrFun eg139 6).trans ((va_up_ne _ _ (Nat.ne_of_beq_eq_false rfl)).trans hg137_6)
  have hg139_7 : g139 7 = .ref q11 := (congrFun eg139 7).trans ((va_up_ne _ _ (Nat.ne_of_beq_eq_false rfl)).trans hg137_7)
  have hg139_10 : g139 10 = .ref q13 := (congrFun eg139 10).trans ((va_up_ne _ _ (Nat.ne_of_beq_eq_false rfl)).trans hg137_10)
  have hg139_11 : g139 11 = .ref q15 := (congrFun eg139 11).trans ((va_up_ne _ _ (Nat.ne_of_beq_eq_false rfl)).trans hg137_11)
  have hg139_12 : g139 12 = .ref q17 := (congrFun eg139 12).trans ((va_up_ne _ _ (Nat.ne_of_beq_eq_false rfl)).trans hg137_12)
  have hg139_13 : g139 13 = .ref q19 := (congrFun eg139 13).trans ((va_up_ne _ _ (Nat.ne_of_beq_eq_false rfl)).trans hg137_13)
  have hg139_14 : g139 14 = .ref q21 := (congrFun eg139 14).trans ((va_up_ne _ _ (Nat.ne_of_beq_eq_false rfl)).trans hg137_14)
  have hg139_15 : g139 15 = .ref q23 := (congrFun eg139 15).trans ((va_up_ne _ _ (Nat.ne_of_beq_eq_false rfl)).trans hg137_15)
  have hg139_18 : g139 18 = .ref q13 := (congrFun eg139 18).trans ((va_up_ne _ _ (Nat.ne_of_beq_eq_false rfl)).trans hg137_18)
  have hg139_27 : g139 27 = .ref q26 := (congrFun eg139 27).trans ((va_up_ne _ _ (Nat.ne_of_beq_eq_false rfl)).trans hg137_27)
  have hg139_28 : g139 28 = .ref q28 := (congrFun eg139 28).trans ((va_up_ne _ _ (Nat.ne_of_beq_eq_false rfl)).trans hg137_28)
  have hg139_29 : g139 29 = .ref q30 := (congrFun eg139 29).trans ((va_up_ne _ _ (Nat.ne_of_beq_eq_false rfl)).trans hg137_29)
  have hg139_30 : g139 30 = .ref q32 := (congrFun eg139 30).trans ((va_up_ne _ _ (Nat.ne_of_beq_eq_false rfl)).trans hg137_30)
  have hg139_31 : g139 31 = .ref q34 := (congrFun eg139 31).trans ((va_up_ne _ _ (Nat.ne_of_beq_eq_false rfl)).trans hg137_31)
  have hg139_32 : g139 32 = .ref q36 := (congrFun eg139 32).trans ((va_up_ne _ _ (Nat.ne_of_beq_eq_false rfl)).trans hg137_32)
  have hg139_33 : g139 33 = .ref q38 := (congrFun eg139 33).trans ((va_up_ne _ _ (Nat.ne_of_beq_eq_false rfl)).trans hg137_33)
  have hg139_34 : g139 34 = .ref q40 := (congrFun eg139 34).trans ((va_up_ne _ _ (Nat.ne_of_beq_eq_false rfl)).trans hg137_34)
  have hg139_35 : g139 35 = .ref q42 := (congrFun eg139 35).trans ((va_up_ne _ _ (Nat.ne_of_beq_eq_false rfl)).trans hg137_35)
  have hg139_36 : g139 36 = .ref q44 := (congrFun eg139 36).trans ((va_up_ne _ _ (Nat.ne_of_beq_eq_false rfl)).trans hg137_36)
  have hg139_37 : g139 37 = .ref q46 := (congrFun eg139 37).trans ((va_up_ne _ _ (Nat.ne_of_beq_eq_false rfl)).trans hg137_37)
  have hg139_38 : g139 38 = .ref q48 := (congrFun eg139 38).trans ((va_up_ne _ _ (Nat.ne_of_beq_eq_false rfl)).trans hg137_38)
  have hg139_39 : g139 39 = .ref q50 := (congrFun eg139 39).trans ((va_up_ne _ _ (Nat.ne_of_beq_eq_false rfl)).trans hg137_39)
  have hg139_40 : g139 40 = .ref q52 := (congrFun eg139 40).trans ((va_up_ne _ _ (Nat.ne_of_beq_eq_false rfl)).trans hg137_40)
  have hg139_41 : g139 41 = .ref q54 := (congrFun eg139 41).trans ((va_up_ne _ _ (Nat.ne_of_beq_eq_false rfl)).trans hg137_41)
  have hg139_42 : g139 42 = .ref q56 := (congrFun eg139 42).trans ((va_up_ne _ _ (Nat.ne_of_beq_eq_false rfl)).trans hg137_42)
  have hg139_43 : g139 43 = .ref q58 := (congrFun eg139 43).trans ((va_up_ne _ _ (Nat.ne_of_beq_eq_false rfl)).trans hg137_43)
  have hg139_44 : g139 44 = .ref q60 := (congrFun eg139 44).trans ((va_up_ne _ _ (Nat.ne_of_beq_eq_false rfl)).trans hg137_44)
  have hg139_45 : g139 45 = .ref q62 := (congrFun eg139 45).trans ((va_up_ne _ _ (Nat.ne_of_beq_eq_false rfl)).trans hg137_45)
  have hg139_49 : g139 49 = .ref q64 := (congrFun eg139 49).trans ((va_up_ne _ _ (Nat.ne_of_beq_eq_false rfl)).trans hg137_49)
  have hg139_50 : g139 50 = .ref q66 := (congrFun eg139 50).trans ((va_up_ne _ _ (Nat.ne_of_beq_eq_false rfl)).trans hg137_50)
  have hg139_51 : g139 51 = .ref q68 := (congrFun eg139 51).trans ((va_up_ne _ _ (Nat.ne_of_beq_eq_false rfl)).trans hg137_51)
  have hg139_52 : g139 52 = .ref q70 := (congrFun eg139 52).trans ((va_up_ne _ _ (Nat.ne_of_beq_eq_false rfl)).trans hg137_52)
  have hg139_53 : g139 53 = .ref q72 := (congrFun eg139 53).trans ((va_up_ne _ _ (Nat.ne_of_beq_eq_false rfl)).trans hg137_53)
  have hg139_54 : g139 54 = .ref q74 := (congrFun eg139 54).trans ((va_up_ne _ _ (Nat.ne_of_beq_eq_false rfl)).trans hg137_54)
  have hg139_56 : g139 56 = .ref q76 := (congrFun eg139 56).trans ((va_up_ne _ _ (Nat.ne_of_beq_eq_false rfl)).trans hg137_56)
  have hg139_57 : g139 57 = .ref q78 := (congrFun eg139 57).trans ((va_up_ne _ _ (Nat.ne_of_beq_eq_false rfl)).trans hg137_57)
  have hg139_58 : g139 58 = .ref q80 := (congrFun eg139 58).trans ((va_up_ne _ _ (Nat.ne_of_beq_eq_false rfl)).trans hg137_58)
  have hg139_59 : g139 59 = .ref q82 := (congrFun eg139 59).trans ((va_up_ne _ _ (Nat.ne_of_beq_eq_false rfl)).trans hg137_59)
  have hg139_60 : g139 60 = .ref q84 := (congrFun eg139 60).trans ((va_up_ne _ _ (Nat.ne_of_beq_eq_false rfl)).trans hg137_60)
  have hg139_61 : g139 61 = .ref q86 := (congrFun eg139 61).trans ((va_up_ne _ _ (Nat.ne_of_beq_eq_false rfl)).trans hg137_61)
  have hg139_62 : g139 62 = .ref q88 := (congrFun eg139 62).trans ((va_up_ne _ _ (Nat.ne_of_beq_eq_false rfl)).trans hg137_62)
  have hg139_63 : g139 63 = .ref q90 := (congrFun eg139 63).trans ((va_up_ne _ _ (Nat.ne_of_beq_eq_false rfl)).trans hg137_63)
  have hg139_64 : g139 64 = .ref q92 := (congrFun eg139 64).trans ((va_up_ne _ _ (Nat.ne_of_beq_eq_false rfl)).trans hg137_64)
  have hg139_65 : g139 65 = .ref q94 := (congrFun eg139 65).trans ((va_up_ne _ _ (Nat.ne_of_beq_eq_false rfl)).trans hg137_65)
  have hg139_66 : g139 66 = .ref q96 := (congrFun eg139 66).trans ((va_up_ne _ _ (Nat.ne_of_beq_eq_false rfl)).trans hg137_66)
  have hg139_67 : g139 67 = .ref q98 := (congrFun eg139 67).trans ((va_up_ne _ _ (Nat.ne_of_beq_eq_false rfl)).trans hg137_67)
  have hg139_68 : g139 68 = .ref q100 := (congrFun eg139 68).trans ((va_up_ne _ _ (Nat.ne_of_beq_eq_false rfl)).trans hg137_68)
  have hg139_69 : g139 69 = .ref q102 := (congrFun eg139 69).trans ((va_up_ne _ _ (Nat.ne_of_beq_eq_false rfl)).trans hg137_69)
  have hg139_70 : g139 70 = .ref q104 := (congrFun eg139 70).trans ((va_up_ne _ _ (Nat.ne_of_beq_eq_false rfl)).trans hg137_70)
  have hg139_71 : g139 71 = .ref q106 := (congrFun eg139 71).trans ((va_up_ne _ _ (Nat.ne_of_beq_eq_false rfl)).trans hg137_71)
  have hg139_72 : g139 72 = .ref q108 := (congrFun eg139 72).trans ((va_up_ne _ _ (Nat.ne_of_beq_eq_false rfl)).trans hg137_72)
  have hg139_73 : g139 73 = .ref q110 := (congrFun eg139 73).trans ((va_up_ne _ _ (Nat.ne_of_beq_eq_false rfl)).trans hg137_73)
  have hg139_76 : g139 76 = .ref q112 := (congrFun eg139 76).trans ((va_up_ne _ _ (Nat.ne_of_beq_eq_false rfl)).trans hg137_76)
  have hg139_77 : g139 77 = .ref q114 := (congrFun eg139 77).trans ((va_up_ne _ _ (Nat.ne_of_beq_eq_false rfl)).trans hg137_77)
  have hg139_78 : g139 78 = .ref q116 := (congrFun eg139 78).trans ((va_up_ne _ _ (Nat.ne_of_beq_eq_false rfl)).trans hg137_78)
  have hg139_79 : g139 79 = .ref q118 := (congrFun eg139 79).trans ((va_up_ne _ _ (Nat.ne_of_beq_eq_false rfl)).trans hg137_79)
  have hg139_80 : g139 80 = .ref q120 := (congrFun eg139 80).trans ((va_up_ne _ _ (Nat.ne_of_beq_eq_false rfl)).trans hg137_80)
  have hg139_81 : g139 81 = .ref q122 := (congrFun eg139 81).trans ((va_up_ne _ _ (Nat.ne_of_beq_eq_false rfl)).trans hg137_81)
  have hg139_82 : g139 82 = .ref q124 := (congrFun eg139 82).trans ((va_up_ne _ _ (Nat.ne_of_beq_eq_false rfl)).trans hg137_82)
  have hg139_83 : g139 83 = .ref q126 := (congrFun eg139 83).trans ((va_up_ne _ _ (Nat.ne_of_beq_eq_false rfl)).trans hg137_83)
  have hg139_84 : g139 84 = .ref q128 := (congrFun eg139 84).trans ((va_up_ne _ _ (Nat.ne_of_beq_eq_false rfl)).trans hg137_84)
  have hg139_85 : g139 85 = .ref q130 := (congrFun eg139 85).trans ((va_up_ne _ _ (Nat.ne_of_beq_eq_false rfl)).trans hg137_85)
  have hg139_90 : g139 90 = .ref q132 := (congrFun eg139 90).trans ((va_up_ne _ _ (Nat.ne_of_beq_eq_false rfl)).trans hg137_90)
  have hg139_91 : g139 91 = .ref q134 := (congrFun eg139 91).trans ((va_up_ne _ _ (Nat.ne_of_beq_eq_false rfl)).trans hg137_91)
  have hg139_92 : g139 92 = .ref q136 := (congrFun eg139 92).trans ((va_up_ne _ _ (Nat.ne_of_beq_eq_false rfl)).trans hg137_92)
  clear hg137_0 hg137_1 hg137_8 hg137_9 hg137_16 hg137_17 hg137_19 hg137_20 hg137_21 hg137_22 hg137_23 hg137_24 hg137_25 hg137_26 hg137_46 hg137_47 hg137_48 hg137_55 hg137_74 hg137_75 hg137_86 hg137_87 hg137_88 hg137_89 hg137_95 hg137_2 hg137_3 hg137_4 hg137_5 hg137_6 hg137_7 hg137_10 hg137_11 hg137_12 hg137_13 hg137_14 hg137_15 hg137_18 hg137_27 hg137_28 hg137_29 hg137_30 hg137_31 hg137_32 hg137_33 hg137_34 hg137_35 hg137_36 hg137_37 hg137_38 hg137_39 hg137_40 hg137_41 hg137_42 hg137_43 hg137_44 hg137_45 hg137_49 hg137_50 hg137_51 hg137_52 hg137_53 hg137_54 hg137_56 hg137_57 hg137_58 hg137_59 hg137_60 hg137_61 hg137_62 hg137_63 hg137_64 hg137_65 hg137_66 hg137_67 hg137_68 hg137_69 hg137_70 hg137_71 hg137_72 hg137_73 hg137_76 hg137_77 hg137_78 hg137_79 hg137_80 hg137_81 hg137_82 hg137_83 hg137_84 hg137_85 hg137_90 hg137_91 hg137_92
  have hg139_93 : g139 93 = .ref q138 := by rw [eg139]; exact va_up_self _ _ _
  refine lv_aload_n hx hb dX13_init_584 rfl (lv_at hl 0 rfl) ?_
  refine lv_bipush (v := 20) hx hb dX13_init_585 (by decide) ?_
  refine va_newa (atype := .int) (ty := .int) (N' := 20) (a0 := (20, .inl (fun _ => (0 : Int32)))) hx hb (hts _ (vA_in _ _ (in_2 _ (List.mem_of_getElem? (i := 38) rfl)))) rfl hK hP hD hS hA (fun _ => rfl) (by decide) (by decide) (Nat.le_of_ble_eq_true rfl) (Nat.le_of_ble_eq_true rfl) (Nat.le_of_ble_eq_true rfl) dX13_init_587 (fun q140 kq140 H hK hP hD hS => ?_)
  have hK : va_K (dC, dI) vwCl [(kq1, .int), (kq13, .byte), (kq72, .boolean), (kq140, .int)] s := hK
  obtain ⟨wq140, ewq140⟩ : ∃ z : va_W, z = wq138 ++ [(q140, .inl (kq140, 20, .inl (fun _ => (0 : Int32))))] := ⟨_, rfl⟩
  replace hP : va_P (dC, dI) vwCl ((h, .inr (14, mL g139)) :: wq140) H := by rw [ewq140]; exact hP
  replace hD : va_D A ((h, .inr (14, mL g139)) :: wq140) := by rw [ewq140]; exact hD
  refine W.widen (k := 70) (n := 10496) (by omega) (by omega) ?_
  obtain rfl : kq1 = kq140 := ub_sa_int hK 0 3 rfl rfl
  have hK := hK.sub (tys' := [(kq1, .int), (kq13, .byte), (kq72, .boolean)]) [0, 1, 2] rfl
  refine va_putF (D := (dC, dI)) (ci := 14) (v := .ref q140) (ty := .array .int) (C := RX13) (T := TX13) (N := 97) hx hb hts (fun w h => vA_in _ w (in_X13 w h)) tyX13 tyX13_ok nmX13 hown hK hP hD hS 0 rfl rfl 94 (by decide) (hts _ (vA_in _ _ (in_32 _ (List.mem_of_getElem? (i := 17) rfl)))) (fun _ h9 => h9) rfl hin rfl (by decide +kernel) rfl rfl (mL_lt (Nat.le_of_ble_eq_true rfl)) dX13_init_589 (fun H locs hP hD hS => ?_)
  replace hP : va_P (dC, dI) vwCl ((h, .inr (14, (mL g139).set 94 (.ref q140))) :: wq140) H := hP
  replace hD : va_D A ((h, .inr (14, (mL g139).set 94 (.ref q140))) :: wq140) := hD
  obtain ⟨g141, eg141⟩ : ∃ z9, z9 = va_up g139 94 (.ref q140) := ⟨_, rfl⟩
  rw [mL_upd, ← eg141] at hP hD
  have hg141_0 : g141 0 = .int 0 := (congrFun eg141 0).trans ((va_up_ne _ _ (Nat.ne_of_beq_eq_false rfl)).trans hg139_0)
  have hg141_1 : g141 1 = .int 0 := (congrFun eg141 1).trans ((va_up_ne _ _ (Nat.ne_of_beq_eq_false rfl)).trans hg139_1)
  have hg141_8 : g141 8 = .int 0 := (congrFun eg141 8).trans ((va_up_ne _ _ (Nat.ne_of_beq_eq_false rfl)).trans hg139_8)
  have hg141_9 : g141 9 = .int 0 := (congrFun eg141 9).trans ((va_up_ne _ _ (Nat.ne_of_beq_eq_false rfl)).trans hg139_9)
  have hg141_16 : g141 16 = .int 0 := (congrFun eg141 16).trans ((va_up_ne _ _ (Nat.ne_of_beq_eq_false rfl)).trans hg139_16)
  have hg141_17 : g141 17 = .int 0 := (congrFun eg141 17).trans ((va_up_ne _ _ (Nat.ne_of_beq_eq_false rfl)).trans hg139_17)
  have hg141_19 : g141 19 = .int 0 := (congrFun eg141 19).trans ((va_up_ne _ _ (Nat.ne_of_beq_eq_false rfl)).trans hg139_19)
  have hg141_20 : g141 20 = .int 0 := (congrFun eg141 20).trans ((va_up_ne _ _ (Nat.ne_of_beq_eq_false rfl)).trans hg139_20)
  have hg141_21 : g141 21 = .int 0 := (congrFun eg141 21).trans ((va_up_ne _ _ (Nat.ne_of_beq_eq_false rfl)).trans hg139_21)
  have hg141_22 : g141 22 = .int 0 := (congrFun eg141 22).trans ((va_up_ne _ _ (Nat.ne_of_beq_eq_false rfl)).trans hg139_22)
  have hg141_23 : g141 23 = .int 0 := (congrFun eg141 23).trans ((va_up_ne _ _ (Nat.ne_of_beq_eq_false rfl)).trans hg139_23)
  have hg141_24 : g141 24 = .int 0 := (congrFun eg141 24).trans ((va_up_ne _ _ (Nat.ne_of_beq_eq_false rfl)).trans hg139_24)
  have hg141_25 : g141 25 = .int 0 := (congrFun eg141 25).trans ((va_up_ne _ _ (Nat.ne_of_beq_eq_false rfl)).trans hg139_25)
  have hg141_26 : g141 26 = .int 0 := (congrFun eg141 26).trans ((va_up_ne _ _ (Nat.ne_of_beq_eq_false rfl)).trans hg139_26)
  have hg141_46 : g141 46 = .int 0 := (congrFun eg141 46).trans ((va_up_ne _ _ (Nat.ne_of_beq_eq_false rfl)).trans hg139_46)
  have hg141_47 : g141 47 = .int 0 := (congrFun eg141 47).trans ((va_up_ne _ _ (Nat.ne_of_beq_eq_false rfl)).trans hg139_47)
  have hg141_48 : g141 48 = .int 0 := (congrFun eg141 48).trans ((va_up_ne _ _ (Nat.ne_of_beq_eq_false rfl)).trans hg139_48)
  have hg141_55 : g141 55 = .int 0 := (congrFun eg141 55).trans ((va_up_ne _ _ (Nat.ne_of_beq_eq_false rfl)).trans hg139_55)
  have hg141_74 : g141 74 = .int 0 := (congrFun eg141 74).trans ((va_up_ne _ _ (Nat.ne_of_beq_eq_false rfl)).trans hg139_74)
  have hg141_75 : g141 75 = .int 0 := (congrFun eg141 75).trans ((va_up_ne _ _ (Nat.ne_of_beq_eq_false rfl)).trans hg139_75)
  have hg141_86 : g141 86 = .int 0 := (congrFun eg141 86).trans ((va_up_ne _ _ (Nat.ne_of_beq_eq_false rfl)).trans hg139_86)
  have hg141_87 : g141 87 = .int 0 := (congrFun eg141 87).trans ((va_up_ne _ _ (Nat.ne_of_beq_eq_false rfl)).trans hg139_87)
  have hg141_88 : g141 88 = .int 0 := (congrFun eg141 88).trans ((va_up_ne _ _ (Nat.ne_of_beq_eq_false rfl)).trans hg139_88)
  have hg141_89 : g141 89 = .int 0 := (congrFun eg141 89).trans ((va_up_ne _ _ (Nat.ne_of_beq_eq_false rfl)).trans hg139_89)
  have hg141_95 : g141 95 = .int 0 := (congrFun eg141 95).trans ((va_up_ne _ _ (Nat.ne_of_beq_eq_false rfl)).trans hg139_95)
  have hg141_2 : g141 2 = .ref q1 := (congrFun eg141 2).trans ((va_up_ne _ _ (Nat.ne_of_beq_eq_false rfl)).trans hg139_2)
  have hg141_3 : g141 3 = .ref q3 := (congrFun eg141 3).trans ((va_up_ne _ _ (Nat.ne_of_beq_eq_false rfl)).trans hg139_3)
  have hg141_4 : g141 4 = .ref q5 := (congrFun eg141 4).trans ((va_up_ne _ _ (Nat.ne_of_beq_eq_false rfl)).trans hg139_4)
  have hg141_5 : g141 5 = .ref q7 := (congrFun eg141 5).trans ((va_up_ne _ _ (Nat.ne_of_beq_eq_false rfl)).trans hg139_5)
  have hg141_6 : g141 6 = .ref q9 := (congrFun eg141 6).trans ((va_up_ne _ _ (Nat.ne_of_beq_eq_false rfl)).trans hg139_6)
  have hg141_7 : g141 7 = .ref q11 := (congrFun eg141 7).trans ((va_up_ne _ _ (Nat.ne_of_beq_eq_false rfl)).trans hg139_7)
  have hg141_10 : g141 10 = .ref q13 := (congrFun eg141 10).trans ((va_up_ne _ _ (Nat.ne_of_beq_eq_false rfl)).trans hg139_10)
  have hg141_11 : g141 11 = .ref q15 := (congrFun eg141 11).trans ((va_up_ne _ _ (Nat.ne_of_beq_eq_false rfl)).trans hg139_11)
  have hg141_12 : g141 12 = .ref q17 := (congrFun eg141 12).trans ((va_up_ne _ _ (Nat.ne_of_beq_eq_false rfl)).trans hg139_12)
  have hg141_13 : g141 13 = .ref q19 := (congrFun eg141 13).trans ((va_up_ne _ _ (Nat.ne_of_beq_eq_false rfl)).trans hg139_13)
  have hg141_14 : g141 14 = .ref q21 := (congrFun eg141 14).trans ((va_up_ne _ _ (Nat.ne_of_beq_eq_false rfl)).trans hg139_14)
  have hg141_15 : g141 15 = .ref q23 := (congrFun eg141 15).trans ((va_up_ne _ _ (Nat.ne_of_beq_eq_false rfl)).trans hg139_15)
  have hg141_18 : g141 18 = .ref q13 := (congrFun eg141 18).trans ((va_up_ne _ _ (Nat.ne_of_beq_eq_false rfl)).trans hg139_18)
  have hg141_27 : g141 27 = .ref q26 := (congrFun eg141 27).trans ((va_up_ne _ _ (Nat.ne_of_beq_eq_false rfl)).trans hg139_27)
  have hg141_28 : g141 28 = .ref q28 := (congrFun eg141 28).trans ((va_up_ne _ _ (Nat.ne_of_beq_eq_false rfl)).trans hg139_28)
  have hg141_29 : g141 29 = .ref q30 := (congrFun eg141 29).trans ((va_up_ne _ _ (Nat.ne_of_beq_eq_false rfl)).trans hg139_29)
  have hg141_30 : g141 30 = .ref q32 := (congrFun eg141 30).trans ((va_up_ne _ _ (Nat.ne_of_beq_eq_false rfl)).trans hg139_30)
  have hg141_31 : g141 31 = .ref q34 := (congrFun eg141 31).trans ((va_up_ne _ _ (Nat.ne_of_beq_eq_false rfl)).trans hg139_31)
  have hg141_32 : g141 32 = .ref q36 := (congrFun eg141 32).trans ((va_up_ne _ _ (Nat.ne_of_beq_eq_false rfl)).trans hg139_32)
  have hg141_33 : g141 33 = .ref q38 := (congrFun eg141 33).trans ((va_up_ne _ _ (Nat.ne_of_beq_eq_false rfl)).trans hg139_33)
  have hg141_34 : g141 34 = .ref q40 := (congrFun eg141 34).trans ((va_up_ne _ _ (Nat.ne_of_beq_eq_false rfl)).trans hg139_34)
  have hg141_35 : g141 35 = .ref q42 := (congrFun eg141 35).trans ((va_up_ne _ _ (Nat.ne_of_beq_eq_false rfl)).trans hg139_35)
  have hg141_36 : g141 36 = .ref q44 := (congrFun eg141 36).trans ((va_up_ne _ _ (Nat.ne_of_beq_eq_false rfl)).trans hg139_36)
  have hg141_37 : g141 37 = .ref q46 := (congrFun eg141 37).trans ((va_up_ne _ _ (Nat.ne_of_beq_eq_false rfl)).trans hg139_37)
  have hg141_38 : g141 38 = .ref q48 := (congrFun eg141 38).trans ((va_up_ne _ _ (Nat.ne_of_beq_eq_false rfl)).trans hg139_38)
  have hg141_39 : g141 39 = .ref q50 := (congrFun eg141 39).trans ((va_up_ne _ _ (Nat.ne_of_beq_eq_false rfl)).trans hg139_39)
  have hg141_40 : g141 40 = .ref q52 := (congrFun eg141 40).trans ((va_up_ne _ _ (Nat.ne_of_beq_eq_false rfl)).trans hg139_40)
  have hg141_41 : g141 41 = .ref q54 := (congrFun eg141 41).trans ((va_up_ne _ _ (Nat.ne_of_beq_eq_false rfl)).trans hg139_41)
  have hg141_42 : g141 42 = .ref q56 := (congrFun eg141 42).trans ((va_up_ne _ _ (Nat.ne_of_beq_eq_false rfl)).trans hg139_42)
  have hg141_43 : g141 43 = .ref q58 := (congrFun eg141 43).trans ((va_up_ne _ _ (Nat.ne_of_beq_eq_false rfl)).trans hg139_43)
  have hg141_44 : g141 44 = .ref q60 := (congrFun eg141 44).trans ((va_up_ne _ _ (Nat.ne_of_beq_eq_false rfl)).trans hg139_44)
  have hg141_45 : g141 45 = .ref q62 := (congrFun eg141 45).trans ((va_up_ne _ _ (Nat.ne_of_beq_eq_false rfl)).trans hg139_45)
  have hg141_49 : g141 49 = .ref q64 := (congrFun eg141 49).trans ((va_up_ne _ _ (Nat.ne_of_beq_eq_false rfl)).trans hg139_49)
  have hg141_50 : g141 50 = .ref q66 := (congrFun eg141 50).trans ((va_up_ne _ _ (Nat.ne_of_beq_eq_false rfl)).trans hg139_50)
  have hg141_51 : g141 51 = .ref q68 := (congrFun eg141 51).trans ((va_up_ne _ _ (Nat.ne_of_beq_eq_false rfl)).trans hg139_51)
  have hg141_52 : g141 52 = .ref q70 := (congrFun eg141 52).trans ((va_up_ne _ _ (Nat.ne_of_beq_eq_false rfl)).trans hg139_52)
  have hg141_53 : g141 53 = .ref q72 := (congrFun eg141 53).trans ((va_up_ne _ _ (Nat.ne_of_beq_eq_false rfl)).trans hg139_53)
  have hg141_54 : g141 54 = .ref q74 := (congrFun eg141 54).trans ((va_up_ne _ _ (Nat.ne_of_beq_eq_false rfl)).trans hg139_54)
  have hg141_56 : g141 56 = .ref q76 := (congrFun eg141 56).trans ((va_up_ne _ _ (Nat.ne_of_beq_eq_false rfl)).trans hg139_56)
  have hg141_57 : g141 57 = .ref q78 := (congrFun eg141 57).trans ((va_up_ne _ _ (Nat.ne_of_beq_eq_false rfl)).trans hg139_57)
  have hg141_58 : g141 58 = .ref q80 := (congrFun eg141 58).trans ((va_up_ne _ _ (Nat.ne_of_beq_eq_false rfl)).trans hg139_58)
  have hg141_59 : g141 59 = .ref q82 := (congrFun eg141 59).trans ((va_up_ne _ _ (Nat.ne_of_beq_eq_false rfl)).trans hg139_59)
  have hg141_60 : g141 60 = .ref q84 := (congrFun eg141 60).trans ((va_up_ne _ _ (Nat.ne_of_beq_eq_false rfl)).trans hg139_60)
  have hg141_61 : g141 61 = .ref q86 := (congrFun eg141 61).trans ((va_up_ne _ _ (Nat.ne_of_beq_eq_false rfl)).trans hg139_61)
  have hg141_62 : g141 62 = .ref q88 := (congrFun eg141 62).trans ((va_up_ne _ _ (Nat.ne_of_beq_eq_false rfl)).trans hg139_62)
  have hg141_63 : g141 63 = .ref q90 := (congrFun eg141 63).trans ((va_up_ne _ _ (Nat.ne_of_beq_eq_false rfl)).trans hg139_63)
  have hg141_64 : g141 64 = .ref q92 := (congrFun eg141 64).trans ((va_up_ne _ _ (Nat.ne_of_beq_eq_false rfl)).trans hg139_64)
  have hg141_65 : g141 65 = .ref q94 := (congrFun eg141 65).trans ((va_up_ne _ _ (Nat.ne_of_beq_eq_false rfl)).trans hg139_65)
  have hg141_66 : g141 66 = .ref q96 := (congrFun eg141 66).trans ((va_up_ne _ _ (Nat.ne_of_beq_eq_false rfl)).trans hg139_66)
  have hg141_67 : g141 67 = .ref q98 := (congrFun eg141 67).trans ((va_up_ne _ _ (Nat.ne_of_beq_eq_false rfl)).trans hg139_67)
  have hg141_68 : g141 68 = .ref q100 := (congrFun eg141 68).trans ((va_up_ne _ _ (Nat.ne_of_beq_eq_false rfl)).trans hg139_68)
  have hg141_69 : g141 69 = .ref q102 := (congrFun eg141 69).trans ((va_up_ne _ _ (Nat.ne_of_beq_eq_false rfl)).trans hg139_69)
  have hg141_70 : g141 70 = .ref q104 := (congrFun eg141 70).trans ((va_up_ne _ _ (Nat.ne_of_beq_eq_false rfl)).trans hg139_70)
  have hg141_71 : g141 71 = .ref q106 := (congrFun eg141 71).trans ((va_up_ne _ _ (Nat.ne_of_beq_eq_false rfl)).trans hg139_71)
  have hg141_72 : g141 72 = .ref q108 := (congrFun eg141 72).trans ((va_up_ne _ _ (Nat.ne_of_beq_eq_false rfl)).trans hg139_72)
  have hg141_73 : g141 73 = .ref q110 := (congrFun eg141 73).trans ((va_up_ne _ _ (Nat.ne_of_beq_eq_false rfl)).trans hg139_73)
  have hg141_76 : g141 76 = .ref q112 := (congrFun eg141 76).trans ((va_up_ne _ _ (Nat.ne_of_beq_eq_false rfl)).trans hg139_76)
  have hg141_77 : g141 77 = .ref q114 := (congrFun eg141 77).trans ((va_up_ne _ _ (Nat.ne_of_beq_eq_false rfl)).trans hg139_77)
  have hg141_78 : g141 78 = .ref q116 := (congrFun eg141 78).trans ((va_up_ne _ _ (Nat.ne_of_beq_eq_false rfl)).trans hg139_78)
  have hg141_79 : g141 79 = .ref q118 := (congrFun eg141 79).trans ((va_up_ne _ _ (Nat.ne_of_beq_eq_false rfl)).trans hg139_79)
  have hg141_80 : g141 80 = .ref q120 := (congrFun eg141 80).trans ((va_up_ne _ _ (Nat.ne_of_beq_eq_false rfl)).trans hg139_80)
  have hg141_81 : g141 81 = .ref q122 := (congrFun eg141 81).trans ((va_up_ne _ _ (Nat.ne_of_beq_eq_false rfl)).trans hg139_81)
  have hg141_82 : g141 82 = .ref q124 := (congrFun eg141 82).trans ((va_up_ne _ _ (Nat.ne_of_beq_eq_false rfl)).trans hg139_82)
  have hg141_83 : g141 83 = .ref q126 := (congrFun eg141 83).trans ((va_up_ne _ _ (Nat.ne_of_beq_eq_false rfl)).trans hg139_83)
  have hg141_84 : g141 84 = .ref q128 := (congrFun eg141 84).trans ((va_up_ne _ _ (Nat.ne_of_beq_eq_false rfl)).trans hg139_84)
  have hg141_85 : g141 85 = .ref q130 := (congrFun eg141 85).trans ((va_up_ne _ _ (Nat.ne_of_beq_eq_false rfl)).trans hg139_85)
  have hg141_90 : g141 90 = .ref q132 := (congrFun eg141 90).trans ((va_up_ne _ _ (Nat.ne_of_beq_eq_false rfl)).trans hg139_90)
  have hg141_91 : g141 91 = .ref q134 := (congrFun eg141 91).trans ((va_up_ne _ _ (Nat.ne_of_beq_eq_false rfl)).trans hg139_91)
  have hg141_92 : g141 92 = .ref q136 := (congrFun eg141 92).trans ((va_up_ne _ _ (Nat.ne_of_beq_eq_false rfl)).trans hg139_92)
  have hg141_93 : g141 93 = .ref q138 := (congrFun eg141 93).trans ((va_up_ne _ _ (Nat.ne_of_beq_eq_false rfl)).trans hg139_93)
  clear hg139_0 hg139_1 hg139_8 hg139_9 hg139_16 hg139_17 hg139_19 hg139_20 hg139_21 hg139_22 hg139_23 hg139_24 hg139_25 hg139_26 hg139_46 hg139_47 hg139_48 hg139_55 hg139_74 hg139_75 hg139_86 hg139_87 hg139_88 hg139_89 hg139_95 hg139_2 hg139_3 hg139_4 hg139_5 hg139_6 hg139_7 hg139_10 hg139_11 hg139_12 hg139_13 hg139_14 hg139_15 hg139_18 hg139_27 hg139_28 hg139_29 hg139_30 hg139_31 hg139_32 hg139_33 hg139_34 hg139_35 hg139_36 hg139_37 hg139_38 hg139_39 hg139_40 hg139_41 hg139_42 hg139_43 hg139_44 hg139_45 hg139_49 hg139_50 hg139_51 hg139_52 hg139_53 hg139_54 hg139_56 hg139_57 hg139_58 hg139_59 hg139_60 hg139_61 hg139_62 hg139_63 hg139_64 hg139_65 hg139_66 hg139_67 hg139_68 hg139_69 hg139_70 hg139_71 hg139_72 hg139_73 hg139_76 hg139_77 hg139_78 hg139_79 hg139_80 hg139_81 hg139_82 hg139_83 hg139_84 hg139_85 hg139_90 hg139_91 hg139_92 hg139_93
  have hg141_94 : g141 94 = .ref q140 := by rw [eg141]; exact va_up_self _ _ _
  refine lv_aload_n hx hb dX13_init_592 rfl (lv_at hl 0 rfl) ?_
  refine lv_bipush (v := 16) hx hb dX13_init_593 (by decide) ?_
  refine va_newa (atype := .int) (ty := .int) (N' := 16) (a0 := (16, .inl (fun _ => (0 : Int32)))) hx hb (hts _ (vA_in _ _ (in_2 _ (List.mem_of_getElem? (i := 38) rfl)))) rfl hK hP hD hS hA (fun _ => rfl) (by decide) (by decide) (Nat.le_of_ble_eq_true rfl) (Nat.le_of_ble_eq_true rfl) (Nat.le_of_ble_eq_true rfl) dX13_init_595 (fun q142 kq142 H hK hP hD hS => ?_)
  have hK : va_K (dC, dI) vwCl [(kq1, .int), (kq13, .byte), (kq72, .boolean), (kq142, .int)] s := hK
  obtain ⟨wq142, ewq142⟩ : ∃ z : va_W, z = wq140 ++ [(q142, .inl (kq142, 16, .inl (fun _ => (0 : Int32))))] := ⟨_, rfl⟩
  replace hP : va_P (dC, dI) vwCl ((h, .inr (14, mL g141)) :: wq142) H := by rw [ewq142]; exact hP
  replace hD : va_D A ((h, .inr (14, mL g141)) :: wq142) := by rw [ewq142]; exact hD
  refine W.widen (k := 71) (n := 10512) (by omega) (by omega) ?_
  obtain rfl : kq1 = kq142 := ub_sa_int hK 0 3 rfl rfl
  have hK := hK.sub (tys' := [(kq1, .int), (kq13, .byte), (kq72, .boolean)]) [0, 1, 2] rfl
  refine va_putF (D := (dC, dI)) (ci := 14) (v := .ref q142) (ty := .array .int) (C := RX13) (T := TX13) (N := 97) hx hb hts (fun w h => vA_in _ w (in_X13 w h)) tyX13 tyX13_ok nmX13 hown hK hP hD hS 0 rfl rfl 96 (by decide) (hts _ (vA_in _ _ (in_31 _ (List.mem_of_getElem? (i := 11) rfl)))) (fun _ h9 => h9) rfl hin rfl (by decide +kernel) rfl rfl (mL_lt (Nat.le_of_ble_eq_true rfl)) dX13_init_597 (fun H locs hP hD hS => ?_)
  replace hP : va_P (dC, dI) vwCl ((h, .inr (14, (mL g141).set 96 (.ref q142))) :: wq142) H := hP
  replace hD : va_D A ((h, .inr (14, (mL g141).set 96 (.ref q142))) :: wq142) := hD
  obtain ⟨g143, eg143⟩ : ∃ z9, z9 = va_up g141 96 (.ref q142) := ⟨_, rfl⟩
  rw [mL_upd, ← eg143] at hP hD
  have hg143_0 : g143 0 = .int 0 := (congrFun eg143 0).trans ((va_up_ne _ _ (Nat.ne_of_beq_eq_false rfl)).trans hg141_0)
  have hg143_1 : g143 1 = .int 0 := (congrFun eg143 1).trans ((va_up_ne _ _ (Nat.ne_of_beq_eq_false rfl)).trans hg141_1)
  have hg143_8 : g143 8 = .int 0 := (congrFun eg143 8).trans ((va_up_ne _ _ (Nat.ne_of_beq_eq_false rfl)).trans hg141_8)
  have hg143_9 : g143 9 = .int 0 := (congrFun eg143 9).trans ((va_up_ne _ _ (Nat.ne_of_beq_eq_false rfl)).trans hg141_9)
  have hg143_16 : g143 16 = .int 0 := (congrFun eg143 16).trans ((va_up_ne _ _ (Nat.ne_of_beq_eq_false rfl)).trans hg141_16)
  have hg143_17 : g143 17 = .int 0 := (congrFun eg143 17).trans ((va_up_ne _ _ (Nat.ne_of_beq_eq_false rfl)).trans hg141_17)
  have hg143_19 : g143 19 = .int 0 := (congrFun eg143 19).trans ((va_up_ne _ _ (Nat.ne_of_beq_eq_false rfl)).trans hg141_19)
  have hg143_20 : g143 20 = .int 0 := (congrFun eg143 20).trans ((va_up_ne _ _ (Nat.ne_of_beq_eq_false rfl)).trans hg141_20)
  have hg143_21 : g143 21 = .int 0 := (congrFun eg143 21).trans ((va_up_ne _ _ (Nat.ne_of_beq_eq_false rfl)).trans hg141_21)
  have hg143_22 : g143 22 = .int 0 := (congrFun eg143 22).trans ((va_up_ne _ _ (Nat.ne_of_beq_eq_false rfl)).trans hg141_22)
  have hg143_23 : g143 23 = .int 0 := (congrFun eg143 23).trans ((va_up_ne _ _ (Nat.ne_of_beq_eq_false rfl)).trans hg141_23)
  have hg143_24 : g143 24 = .int 0 := (congrFun eg143 24).trans ((va_up_ne _ _ (Nat.ne_of_beq_eq_false rfl)).trans hg141_24)
  have hg143_25 : g143 25 = .int 0 := (congrFun eg143 25).trans ((va_up_ne _ _ (Nat.ne_of_beq_eq_false rfl)).trans hg141_25)
  have hg143_26 : g143 26 = .int 0 := (congrFun eg143 26).trans ((va_up_ne _ _ (Nat.ne_of_beq_eq_false rfl)).trans hg141_26)
  have hg143_46 : g143 46 = .int 0 := (congrFun eg143 46).trans ((va_up_ne _ _ (Nat.ne_of_beq_eq_false rfl)).trans hg141_46)
  have hg143_47 : g143 47 = .int 0 := (congrFun eg143 47).trans ((va_up_ne _ _ (Nat.ne_of_beq_eq_false rfl)).trans hg141_47)
  have hg143_48 : g143 48 = .int 0 := (congrFun eg143 48).trans ((va_up_ne _ _ (Nat.ne_of_beq_eq_false rfl)).trans hg141_48)
  have hg143_55 : g143 55 = .int 0 := (congrFun eg143 55).trans ((va_up_ne _ _ (Nat.ne_of_beq_eq_false rfl)).trans hg141_55)
  have hg143_74 : g143 74 = .int 0 := (congrFun eg143 74).trans ((va_up_ne _ _ (Nat.ne_of_beq_eq_false rfl)).trans hg141_74)
  have hg143_75 : g143 75 = .int 0 := (congrFun eg143 75).trans ((va_up_ne _ _ (Nat.ne_of_beq_eq_false rfl)).trans hg141_75)
  have hg143_86 : g143 86 = .int 0 := (congrFun eg143 86).trans ((va_up_ne _ _ (Nat.ne_of_beq_eq_false rfl)).trans hg141_86)
  have hg143_87 : g143 87 = .int 0 := (congrFun eg143 87).trans ((va_up_ne _ _ (Nat.ne_of_beq_eq_false rfl)).trans hg141_87)
  have hg143_88 : g143 88 = .int 0 := (congrFun eg143 88).trans ((va_up_ne _ _ (Nat.ne_of_beq_eq_false rfl)).trans hg141_88)
  have hg143_89 : g143 89 = .int 0 := (congrFun eg143 89).trans ((va_up_ne _ _ (Nat.ne_of_beq_eq_false rfl)).trans hg141_89)
  have hg143_95 : g143 95 = .int 0 := (congrFun eg143 95).trans ((va_up_ne _ _ (Nat.ne_of_beq_eq_false rfl)).trans hg141_95)
  have hg143_2 : g143 2 = .ref q1 := (congrFun eg143 2).trans ((va_up_ne _ _ (Nat.ne_of_beq_eq_false rfl)).trans hg141_2)
  have hg143_3 : g143 3 = .ref q3 := (congrFun eg143 3).trans ((va_up_ne _ _ (Nat.ne_of_beq_eq_false rfl)).trans hg141_3)
  have hg143_4 : g143 4 = .ref q5 := (congrFun eg143 4).trans ((va_up_ne _ _ (Nat.ne_of_beq_eq_false rfl)).trans hg141_4)
  have hg143_5 : g143 5 = .ref q7 := (congrFun eg143 5).trans ((va_up_ne _ _ (Nat.ne_of_beq_eq_false rfl)).trans hg141_5)
  have hg143_6 : g143 6 = .ref q9 := (congrFun eg143 6).trans ((va_up_ne _ _ (Nat.ne_of_beq_eq_false rfl)).trans hg141_6)
  have hg143_7 : g143 7 = .ref q11 := (congrFun eg143 7).trans ((va_up_ne _ _ (Nat.ne_of_beq_eq_false rfl)).trans hg141_7)
  have hg143_10 : g143 10 = .ref q13 := (congrFun eg143 10).trans ((va_up_ne _ _ (Nat.ne_of_beq_eq_false rfl)).trans hg141_10)
  have hg143_11 : g143 11 = .ref q15 := (congrFun eg143 11).trans ((va_up_ne _ _ (Nat.ne_of_beq_eq_false rfl)).trans hg141_11)
  have hg143_12 : g143 12 = .ref q17 := (congrFun eg143 12).trans ((va_up_ne _ _ (Nat.ne_of_beq_eq_false rfl)).trans hg141_12)
  have hg143_13 : g143 13 = .ref q19 := (congrFun eg143 13).trans ((va_up_ne _ _ (Nat.ne_of_beq_eq_false rfl)).trans hg141_13)
  have hg143_14 : g143 14 = .ref q21 := (congrFun eg143 14).trans ((va_up_ne _ _ (Nat.ne_of_beq_eq_false rfl)).trans hg141_14)
  have hg143_15 : g143 15 = .ref q23 := (congrFun eg143 15).trans ((va_up_ne _ _ (Nat.ne_of_beq_eq_false rfl)).trans hg141_15)
  have hg143_18 : g143 18 = .ref q13 := (congrFun eg143 18).trans ((va_up_ne _ _ (Nat.ne_of_beq_eq_false rfl)).trans hg141_18)
  have hg143_27 : g143 27 = .ref q26 := (congrFun eg143 27).trans ((va_up_ne _ _ (Nat.ne_of_beq_eq_false rfl)).trans hg141_27)
  have hg143_28 : g143 28 = .ref q28 := (congrFun eg143 28).trans ((va_up_ne _ _ (Nat.ne_of_beq_eq_false rfl)).trans hg141_28)
  have hg143_29 : g143 29 = .ref q30 := (congrFun eg143 29).trans ((va_up_ne _ _ (Nat.ne_of_beq_eq_false rfl)).trans hg141_29)
  have hg143_30 : g143 30 = .ref q32 := (congrFun eg143 30).trans ((va_up_ne _ _ (Nat.ne_of_beq_eq_false rfl)).trans hg141_30)
  have hg143_31 : g143 31 = .ref q34 := (congrFun eg143 31).trans ((va_up_ne _ _ (Nat.ne_of_beq_eq_false rfl)).trans hg141_31)
  have hg143_32 : g143 32 = .ref q36 := (congrFun eg143 32).trans ((va_up_ne _ _ (Nat.ne_of_beq_eq_false rfl)).trans hg141_32)
  have hg143_33 : g143 33 = .ref q38 := (congrFun eg143 33).trans ((va_up_ne _ _ (Nat.ne_of_beq_eq_false rfl)).trans hg141_33)
  have hg143_34 : g143 34 = .ref q40 := (congrFun eg143 34).trans ((va_up_ne _ _ (Nat.ne_of_beq_eq_false rfl)).trans hg141_34)
  have hg143_35 : g143 35 = .ref q42 := (congrFun eg143 35).trans ((va_up_ne _ _ (Nat.ne_of_beq_eq_false rfl)).trans hg141_35)
  have hg143_36 : g143 36 = .ref q44 := (congrFun eg143 36).trans ((va_up_ne _ _ (Nat.ne_of_beq_eq_false rfl)).trans hg141_36)
  have hg143_37 : g143 37 = .ref q46 := (congrFun eg143 37).trans ((va_up_ne _ _ (Nat.ne_of_beq_eq_false rfl)).trans hg141_37)
  have hg143_38 : g143 38 = .ref q48 := (congrFun eg143 38).trans ((va_up_ne _ _ (Nat.ne_of_beq_eq_false rfl)).trans hg141_38)
  have hg143_39 : g143 39 = .ref q50 := (congrFun eg143 39).trans ((va_up_ne _ _ (Nat.ne_of_beq_eq_false rfl)).trans hg141_39)
  have hg143_40 : g143 40 = .ref q52 := (congrFun eg143 40).trans ((va_up_ne _ _ (Nat.ne_of_beq_eq_false rfl)).trans hg141_40)
  have hg143_41 : g143 41 = .ref q54 := (congrFun eg143 41).trans ((va_up_ne _ _ (Nat.ne_of_beq_eq_false rfl)).trans hg141_41)
  have hg143_42 : g143 42 = .ref q56 := (congrFun eg143 42).trans ((va_up_ne _ _ (Nat.ne_of_beq_eq_false rfl)).trans hg141_42)
  have hg143_43 : g143 43 = .ref q58 := (congrFun eg143 43).trans ((va_up_ne _ _ (Nat.ne_of_beq_eq_false rfl)).trans hg141_43)
  have hg143_44 : g143 44 = .ref q60 := (congrFun eg143 44).trans ((va_up_ne _ _ (Nat.ne_of_beq_eq_false rfl)).trans hg141_44)
  have hg143_45 : g143 45 = .ref q62 := (congrFun eg143 45).trans ((va_up_ne _ _ (Nat.ne_of_beq_eq_false rfl)).trans hg141_45)
  have hg143_49 : g143 49 = .ref q64 := (congrFun eg143 49).trans ((va_up_ne _ _ (Nat.ne_of_beq_eq_false rfl)).trans hg141_49)
  have hg143_50 : g143 50 = .ref q66 := (congrFun eg143 50).trans ((va_up_ne _ _ (Nat.ne_of_beq_eq_false rfl)).trans hg141_50)
  have hg143_51 : g143 51 = .ref q68 := (congrFun eg143 51).trans ((va_up_ne _ _ (Nat.ne_of_beq_eq_false rfl)).trans hg141_51)
  have hg143_52 : g143 52 = .ref q70 := (congrFun eg143 52).trans ((va_up_ne _ _ (Nat.ne_of_beq_eq_false rfl)).trans hg141_52)
  have hg143_53 : g143 53 = .ref q72 := (congrFun eg143 53).trans ((va_up_ne _ _ (Nat.ne_of_beq_eq_false rfl)).trans hg141_53)
  have hg143_54 : g143 54 = .ref q74 := (congrFun eg143 54).trans ((va_up_ne _ _ (Nat.ne_of_beq_eq_false rfl)).trans hg141_54)
  have hg143_56 : g143 56 = .ref q76 := (congrFun eg143 56).trans ((va_up_ne _ _ (Nat.ne_of_beq_eq_false rfl)).trans hg141_56)
  have hg143_57 : g143 57 = .ref q78 := (congrFun eg143 57).trans ((va_up_ne _ _ (Nat.ne_of_beq_eq_false rfl)).trans hg141_57)
  have hg143_58 : g143 58 = .ref q80 := (congrFun eg143 58).trans ((va_up_ne _ _ (Nat.ne_of_beq_eq_false rfl)).trans hg141_58)
  have hg143_59 : g143 59 = .ref q82 := (congrFun eg143 59).trans ((va_up_ne _ _ (Nat.ne_of_beq_eq_false rfl)).trans hg141_59)
  have hg143_60 : g143 60 = .ref q84 := (congrFun eg143 60).trans ((va_up_ne _ _ (Nat.ne_of_beq_eq_false rfl)).trans hg141_60)
  have hg143_61 : g143 61 = .ref q86 := (congrFun eg143 61).trans ((va_up_ne _ _ (Nat.ne_of_beq_eq_false rfl)).trans hg141_61)
  have hg143_62 : g143 62 = .ref q88 := (congrFun eg143 62).trans ((va_up_ne _ _ (Nat.ne_of_beq_eq_false rfl)).trans hg141_62)
  have hg143_63 : g143 63 = .ref q90 := (congrFun eg143 63).trans ((va_up_ne _ _ (Nat.ne_of_beq_eq_false rfl)).trans hg141_63)
  have hg143_64 : g143 64 = .ref q92 := (congrFun eg143 64).trans ((va_up_ne _ _ (Nat.ne_of_beq_eq_false rfl)).trans hg141_64)
  have hg143_65 : g143 65 = .ref q94 := (congrFun eg143 65).trans ((va_up_ne _ _ (Nat.ne_of_beq_eq_false rfl)).trans hg141_65)
  have hg143_66 : g143 66 = .ref q96 := (congrFun eg143 66).trans ((va_up_ne _ _ (Nat.ne_of_beq_eq_false rfl)).trans hg141_66)
  have hg143_67 : g143 67 = .ref q98 := (congrFun eg143 67).trans ((va_up_ne _ _ (Nat.ne_of_beq_eq_false rfl)).trans hg141_67)
  have hg143_68 : g143 68 = .ref q100 := (congrFun eg143 68).trans ((va_up_ne _ _ (Nat.ne_of_beq_eq_false rfl)).trans hg141_68)
  have hg143_69 : g143 69 = .ref q102 := (congrFun eg143 69).trans ((va_up_ne _ _ (Nat.ne_of_beq_eq_false rfl)).trans hg141_69)
  have hg143_70 : g143 70 = .ref q104 := (congrFun eg143 70).trans ((va_up_ne _ _ (Nat.ne_of_beq_eq_false rfl)).trans hg141_70)
  have hg143_71 : g143 71 = .ref q106 := (congrFun eg143 71).trans ((va_up_ne _ _ (Nat.ne_of_beq_eq_false rfl)).trans hg141_71)
  have hg143_72 : g143 72 = .ref q108 := (congrFun eg143 72).trans ((va_up_ne _ _ (Nat.ne_of_beq_eq_false rfl)).trans hg141_72)
  have hg143_73 : g143 73 = .ref q110 := (congrFun eg143 73).trans ((va_up_ne _ _ (Nat.ne_of_beq_eq_false rfl)).trans hg141_73)
  have hg143_76 : g143 76 = .ref q112 := (congrFun eg143 76).trans ((va_up_ne _ _ (Nat.ne_of_beq_eq_false rfl)).trans hg141_76)
  have hg143_77 : g143 77 = .ref q114 := (congrFun eg143 77).trans ((va_up_ne _ _ (Nat.ne_of_beq_eq_false rfl)).trans hg141_77)
  have hg143_78 : g143 78 = .ref q116 := (congrFun eg143 78).trans ((va_up_ne _ _ (Nat.ne_of_beq_eq_false rfl)).trans hg141_78)
  have hg143_79 : g143 79 = .ref q118 := (congrFun eg143 79).trans ((va_up_ne _ _ (Nat.ne_of_beq_eq_false rfl)).trans hg141_79)
  have hg143_80 : g143 80 = .ref q120 := (congrFun eg143 80).trans ((va_up_ne _ _ (Nat.ne_of_beq_eq_false rfl)).trans hg141_80)
  have hg143_81 : g143 81 = .ref q122 := (congrFun eg143 81).trans ((va_up_ne _ _ (Nat.ne_of_beq_eq_false rfl)).trans hg141_81)
  have hg143_82 : g143 82 = .ref q124 := (congrFun eg143 82).trans ((va_up_ne _ _ (Nat.ne_of_beq_eq_false rfl)).trans hg141_82)
  have hg143_83 : g143 83 = .ref q126 := (congrFun eg143 83).trans ((va_up_ne _ _ (Nat.ne_of_beq_eq_false rfl)).trans hg141_83)
  have hg143_84 : g143 84 = .ref q128 := (congrFun eg143 84).trans ((va_up_ne _ _ (Nat.ne_of_beq_eq_false rfl)).trans hg141_84)
  have hg143_85 : g143 85 = .ref q130 := (congrFun eg143 85).trans ((va_up_ne _ _ (Nat.ne_of_beq_eq_false rfl)).trans hg141_85)
  have hg143_90 : g143 90 = .ref q132 := (congrFun eg143 90).trans ((va_up_ne _ _ (Nat.ne_of_beq_eq_false rfl)).trans hg141_90)
  have hg143_91 : g143 91 = .ref q134 := (congrFun eg143 91).trans ((va_up_ne _ _ (Nat.ne_of_beq_eq_false rfl)).trans hg141_91)
  have hg143_92 : g143 92 = .ref q136 := (congrFun eg143 92).trans ((va_up_ne _ _ (Nat.ne_of_beq_eq_false rfl)).trans hg141_92)
  have hg143_93 : g143 93 = .ref q138 := (congrFun eg143 93).trans ((va_up_ne _ _ (Nat.ne_of_beq_eq_false rfl)).trans hg141_93)
  have hg143_94 : g143 94 = .ref q140 := (congrFun eg143 94).trans ((va_up_ne _ _ (Nat.ne_of_beq_eq_false rfl)).trans hg141_94)
  clear hg141_0 hg141_1 hg141_8 hg141_9 hg141_16 hg141_17 hg141_19 hg141_20 hg141_21 hg141_22 hg141_23 hg141_24 hg141_25 hg141_26 hg141_46 hg141_47 hg141_48 hg141_55 hg141_74 hg141_75 hg141_86 hg141_87 hg141_88 hg141_89 hg141_95 hg141_2 hg141_3 hg141_4 hg141_5 hg141_6 hg141_7 hg141_10 hg141_11 hg141_12 hg141_13 hg141_14 hg141_15 hg141_18 hg141_27 hg141_28 hg141_29 hg141_30 hg141_31 hg141_32 hg141_33 hg141_34 hg141_35 hg141_36 hg141_37 hg141_38 hg141_39 hg141_40 hg141_41 hg141_42 hg141_43 hg141_44 hg141_45 hg141_49 hg141_50 hg141_51 hg141_52 hg141_53 hg141_54 hg141_56 hg141_57 hg141_58 hg141_59 hg141_60 hg141_61 hg141_62 hg141_63 hg141_64 hg141_65 hg141_66 hg141_67 hg141_68 hg141_69 hg141_70 hg141_71 hg141_72 hg141_73 hg141_76 hg141_77 hg141_78 hg141_79 hg141_80 hg141_81 hg141_82 hg141_83 hg141_84 hg141_85 hg141_90 hg141_91 hg141_92 hg141_93 hg141_94
  have hg143_96 : g143 96 = .ref q142 := by rw [eg143]; exact va_up_self _ _ _
  subst ewq142 ewq140 ewq138 ewq136 ewq134 ewq132 ewq130 ewq128 ewq126 ewq124 ewq122 ewq120 ewq118 ewq116 ewq114 ewq112 ewq110 ewq108 ewq106 ewq104 ewq102 ewq100 ewq98 ewq96 ewq94 ewq92 ewq90 ewq88 ewq86 ewq84 ewq82 ewq80 ewq78 ewq76 ewq74 ewq72 ewq70 ewq68 ewq66 ewq64 ewq62 ewq60 ewq58 ewq56 ewq54 ewq52 ewq50 ewq48 ewq46 ewq44 ewq42 ewq40 ewq38 ewq36 ewq34 ewq32 ewq30 ewq28 ewq26 ewq23 ewq21 ewq19 ewq17 ewq15 ewq13 ewq11 ewq9 ewq7 ewq5 ewq3 ewq1 ew0
  have hP9 : va_P (dC, dI) vwCl [(h, .inr (14, mL g143)), (q1, .inl (kq1, 80, .inl (fun _ => (0 : Int32)))), (q3, .inl (kq1, 80, .inl (fun _ => (0 : Int32)))), (q5, .inl (kq1, 80, .inl (fun _ => (0 : Int32)))), (q7, .inl (kq1, 80, .inl (fun _ => (0 : Int32)))), (q9, .inl (kq1, 80, .inl (fun _ => (0 : Int32)))), (q11, .inl (kq1, 80, .inl (fun _ => (0 : Int32)))), (q13, .inl (kq13, 200, .inl (fun _ => (0 : Int32)))), (q15, .inl (kq13, 3200, .inl (fun _ => (0 : Int32)))), (q17, .inl (kq1, 16, .inl (fun _ => (0 : Int32)))), (q19, .inl (kq1, 16, .inl (fun _ => (0 : Int32)))), (q21, .inl (kq1, 16, .inl (fun _ => (0 : Int32)))), (q23, .inl (kq1, 128, .inl (fun _ => (0 : Int32)))), (q26, .inl (kq1, 20, .inl (fun _ => (0 : Int32)))), (q28, .inl (kq1, 20, .inl (fun _ => (0 : Int32)))), (q30, .inl (kq1, 20, .inl (fun _ => (0 : Int32)))), (q32, .inl (kq1, 20, .inl (fun _ => (0 : Int32)))), (q34, .inl (kq1, 20, .inl (fun _ => (0 : Int32)))), (q36, .inl (kq1, 20, .inl (fun _ => (0 : Int32)))), (q38, .inl (kq1, 20, .inl (fun _ => (0 : Int32)))), (q40, .inl (kq1, 20, .inl (fun _ => (0 : Int32)))), (q42, .inl (kq1, 320, .inl (fun _ => (0 : Int32)))), (q44, .inl (kq1, 320, .inl (fun _ => (0 : Int32)))), (q46, .inl (kq1, 320, .inl (fun _ => (0 : Int32)))), (q48, .inl (kq1, 300, .inl (fun _ => (0 : Int32)))), (q50, .inl (kq1, 300, .inl (fun _ => (0 : Int32)))), (q52, .inl (kq1, 300, .inl (fun _ => (0 : Int32)))), (q54, .inl (kq1, 300, .inl (fun _ => (0 : Int32)))), (q56, .inl (kq1, 300, .inl (fun _ => (0 : Int32)))), (q58, .inl (kq1, 20, .inl (fun _ => (0 : Int32)))), (q60, .inl (kq1, 20, .inl (fun _ => (0 : Int32)))), (q62, .inl (kq1, 20, .inl (fun _ => (0 : Int32)))), (q64, .inl (kq1, 320, .inl (fun _ => (0 : Int32)))), (q66, .inl (kq1, 16, .inl (fun _ => (0 : Int32)))), (q68, .inl (kq1, 20, .inl (fun _ => (0 : Int32)))), (q70, .inl (kq1, 20, .inl (fun _ => (0 : Int32)))), (q72, .inl (kq72, 320, .inl (fun _ => (0 : Int32)))), (q74, .inl (kq72, 16, .inl (fun _ => (0 : Int32)))), (q76, .inl (kq1, 200, .inl (fun _ => (0 : Int32)))), (q78, .inl (kq1, 200, .inl (fun _ => (0 : Int32)))), (q80, .inl (kq1, 200, .inl (fun _ => (0 : Int32)))), (q82, .inl (kq1, 200, .inl (fun _ => (0 : Int32)))), (q84, .inl (kq1, 200, .inl (fun _ => (0 : Int32)))), (q86, .inl (kq1, 200, .inl (fun _ => (0 : Int32)))), (q88, .inl (kq1, 200, .inl (fun _ => (0 : Int32)))), (q90, .inl (kq1, 200, .inl (fun _ => (0 : Int32)))), (q92, .inl (kq1, 30, .inl (fun _ => (0 : Int32)))), (q94, .inl (kq1, 30, .inl (fun _ => (0 : Int32)))), (q96, .inl (kq1, 30, .inl (fun _ => (0 : Int32)))), (q98, .inl (kq1, 30, .inl (fun _ => (0 : Int32)))), (q100, .inl (kq1, 30, .inl (fun _ => (0 : Int32)))), (q102, .inl (kq1, 60, .inl (fun _ => (0 : Int32)))), (q104, .inl (kq1, 60, .inl (fun _ => (0 : Int32)))), (q106, .inl (kq1, 60, .inl (fun _ => (0 : Int32)))), (q108, .inl (kq1, 30, .inl (fun _ => (0 : Int32)))), (q110, .inl (kq72, 30, .inl (fun _ => (0 : Int32)))), (q112, .inl (kq1, 256, .inl (fun _ => (0 : Int32)))), (q114, .inl (kq1, 256, .inl (fun _ => (0 : Int32)))), (q116, .inl (kq1, 256, .inl (fun _ => (0 : Int32)))), (q118, .inl (kq1, 2, .inl (fun _ => (0 : Int32)))), (q120, .inl (kq1, 4, .inl (fun _ => (0 : Int32)))), (q122, .inl (kq1, 20, .inl (fun _ => (0 : Int32)))), (q124, .inl (kq1, 80, .inl (fun _ => (0 : Int32)))), (q126, .inl (kq1, 80, .inl (fun _ => (0 : Int32)))), (q128, .inl (kq1, 4, .inl (fun _ => (0 : Int32)))), (q130, .inl (kq1, 4, .inl (fun _ => (0 : Int32)))), (q132, .inl (kq1, 16, .inl (fun _ => (0 : Int32)))), (q134, .inl (kq1, 20, .inl (fun _ => (0 : Int32)))), (q136, .inl (kq1, 20, .inl (fun _ => (0 : Int32)))), (q138, .inl (kq1, 20, .inl (fun _ => (0 : Int32)))), (q140, .inl (kq1, 20, .inl (fun _ => (0 : Int32)))), (q142, .inl (kq1, 16, .inl (fun _ => (0 : Int32))))] H := by have h7 := hP; simp only [List.nil_append, List.cons_append, List.append_assoc] at h7; exact h7
  have hD9 : va_D A [(h, .inr (14, mL g143)), (q1, .inl (kq1, 80, .inl (fun _ => (0 : Int32)))), (q3, .inl (kq1, 80, .inl (fun _ => (0 : Int32)))), (q5, .inl (kq1, 80, .inl (fun _ => (0 : Int32)))), (q7, .inl (kq1, 80, .inl (fun _ => (0 : Int32)))), (q9, .inl (kq1, 80, .inl (fun _ => (0 : Int32)))), (q11, .inl (kq1, 80, .inl (fun _ => (0 : Int32)))), (q13, .inl (kq13, 200, .inl (fun _ => (0 : Int32)))), (q15, .inl (kq13, 3200, .inl (fun _ => (0 : Int32)))), (q17, .inl (kq1, 16, .inl (fun _ => (0 : Int32)))), (q19, .inl (kq1, 16, .inl (fun _ => (0 : Int32)))), (q21, .inl (kq1, 16, .inl (fun _ => (0 : Int32)))), (q23, .inl (kq1, 128, .inl (fun _ => (0 : Int32)))), (q26, .inl (kq1, 20, .inl (fun _ => (0 : Int32)))), (q28, .inl (kq1, 20, .inl (fun _ => (0 : Int32)))), (q30, .inl (kq1, 20, .inl (fun _ => (0 : Int32)))), (q32, .inl (kq1, 20, .inl (fun _ => (0 : Int32)))), (q34, .inl (kq1, 20, .inl (fun _ => (0 : Int32)))), (q36, .inl (kq1, 20, .inl (fun _ => (0 : Int32)))), (q38, .inl (kq1, 20, .inl (fun _ => (0 : Int32)))), (q40, .inl (kq1, 20, .inl (fun _ => (0 : Int32)))), (q42, .inl (kq1, 320, .inl (fun _ => (0 : Int32)))), (q44, .inl (kq1, 320, .inl (fun _ => (0 : Int32)))), (q46, .inl (kq1, 320, .inl (fun _ => (0 : Int32)))), (q48, .inl (kq1, 300, .inl (fun _ => (0 : Int32)))), (q50, .inl (kq1, 300, .inl (fun _ => (0 : Int32)))), (q52, .inl (kq1, 300, .inl (fun _ => (0 : Int32)))), (q54, .inl (kq1, 300, .inl (fun _ => (0 : Int32)))), (q56, .inl (kq1, 300, .inl (fun _ => (0 : Int32)))), (q58, .inl (kq1, 20, .inl (fun _ => (0 : Int32)))), (q60, .inl (kq1, 20, .inl (fun _ => (0 : Int32)))), (q62, .inl (kq1, 20, .inl (fun _ => (0 : Int32)))), (q64, .inl (kq1, 320, .inl (fun _ => (0 : Int32)))), (q66, .inl (kq1, 16, .inl (fun _ => (0 : Int32)))), (q68, .inl (kq1, 20, .inl (fun _ => (0 : Int32)))), (q70, .inl (kq1, 20, .inl (fun _ => (0 : Int32)))), (q72, .inl (kq72, 320, .inl (fun _ => (0 : Int32)))), (q74, .inl (kq72, 16, .inl (fun _ => (0 : Int32)))), (q76, .inl (kq1, 200, .inl (fun _ => (0 : Int32)))), (q78, .inl (kq1, 200, .inl (fun _ => (0 : Int32)))), (q80, .inl (kq1, 200, .inl (fun _ => (0 : Int32)))), (q82, .inl (kq1, 200, .inl (fun _ => (0 : Int32)))), (q84, .inl (kq1, 200, .inl (fun _ => (0 : Int32)))), (q86, .inl (kq1, 200, .inl (fun _ => (0 : Int32)))), (q88, .inl (kq1, 200, .inl (fun _ => (0 : Int32)))), (q90, .inl (kq1, 200, .inl (fun _ => (0 : Int32)))), (q92, .inl (kq1, 30, .inl (fun _ => (0 : Int32)))), (q94, .inl (kq1, 30, .inl (fun _ => (0 : Int32)))), (q96, .inl (kq1, 30, .inl (fun _ => (0 : Int32)))), (q98, .inl (kq1, 30, .inl (fun _ => (0 : Int32)))), (q100, .inl (kq1, 30, .inl (fun _ => (0 : Int32)))), (q102, .inl (kq1, 60, .inl (fun _ => (0 : Int32)))), (q104, .inl (kq1, 60, .inl (fun _ => (0 : Int32)))), (q106, .inl (kq1, 60, .inl (fun _ => (0 : Int32)))), (q108, .inl (kq1, 30, .inl (fun _ => (0 : Int32)))), (q110, .inl (kq72, 30, .inl (fun _ => (0 : Int32)))), (q112, .inl (kq1, 256, .inl (fun _ => (0 : Int32)))), (q114, .inl (kq1, 256, .inl (fun _ => (0 : Int32)))), (q116, .inl (kq1, 256, .inl (fun _ => (0 : Int32)))), (q118, .inl (kq1, 2, .inl (fun _ => (0 : Int32)))), (q120, .inl (kq1, 4, .inl (fun _ => (0 : Int32)))), (q122, .inl (kq1, 20, .inl (fun _ => (0 : Int32)))), (q124, .inl (kq1, 80, .inl (fun _ => (0 : Int32)))), (q126, .inl (kq1, 80, .inl (fun _ => (0 : Int32)))), (q128, .inl (kq1, 4, .inl (fun _ => (0 : Int32)))), (q130, .inl (kq1, 4, .inl (fun _ => (0 : Int32)))), (q132, .inl (kq1, 16, .inl (fun _ => (0 : Int32)))), (q134, .inl (kq1, 20, .inl (fun _ => (0 : Int32)))), (q136, .inl (kq1, 20, .inl (fun _ => (0 : Int32)))), (q138, .inl (kq1, 20, .inl (fun _ => (0 : Int32)))), (q140, .inl (kq1, 20, .inl (fun _ => (0 : Int32)))), (q142, .inl (kq1, 16, .inl (fun _ => (0 : Int32))))] := by have h7 := hD; simp only [List.nil_append, List.cons_append, List.append_assoc] at h7; exact h7
  have hK9 := hK.sub (tys' := [(kq1, .int), (kq13, .byte), (kq72, .boolean)]) [0, 1, 2] rfl
  exact W.vret hx hb hr (fun t ht hW => ⟨⟨(g143, q1, q3, q5, q7, q9, q11, q13, q15, q17, q19, q21, q23, q26, q28, q30, q32, q34, q36, q38, q40, q42, q44, q46, q48, q50, q52, q54, q56, q58, q60, q62, q64, q66, q68, q70, q72, q74, q76, q78, q80, q82, q84, q86, q88, q90, q92, q94, q96, q98, q100, q102, q104, q106, q108, q110, q112, q114, q116, q118, q120, q122, q124, q126, q128, q130, q132, q134, q136, q138, q140, q142, kq1, kq13, kq72), rfl, ⟨hg143_0, hg143_1, hg143_8, hg143_9, hg143_16, hg143_17, hg143_19, hg143_20, hg143_21, hg143_22, hg143_23, hg143_24, hg143_25, hg143_26, hg143_46, hg143_47, hg143_48, hg143_55, hg143_74, hg143_75, hg143_86, hg143_87, hg143_88, hg143_89, hg143_95, hg143_2, hg143_3, hg143_4, hg143_5, hg143_6, hg143_7, hg143_10, hg143_11, hg143_12, hg143_13, hg143_14, hg143_15, hg143_18, hg143_27, hg143_28, hg143_29, hg143_30, hg143_31, hg143_32, hg143_33, hg143_34, hg143_35, hg143_36, hg143_37, hg143_38, hg143_39, hg143_40, hg143_41, hg143_42, hg143_43, hg143_44, hg143_45, hg143_49, hg143_50, hg143_51, hg143_52, hg143_53, hg143_54, hg143_56, hg143_57, hg143_58, hg143_59, hg143_60, hg143_61, hg143_62, hg143_63, hg143_64, hg143_65, hg143_66, hg143_67, hg143_68, hg143_69, hg143_70, hg143_71, hg143_72, hg143_73, hg143_76, hg143_77, hg143_78, hg143_79, hg143_80, hg143_81, hg143_82, hg143_83, hg143_84, hg143_85, hg143_90, hg143_91, hg143_92, hg143_93, hg143_94, hg143_96⟩, (by rw [ht]; exact hP9), va_K.moved hW.alike hK9, hD9⟩, hS.F ht⟩) hS.2.2 dX13_init_600
