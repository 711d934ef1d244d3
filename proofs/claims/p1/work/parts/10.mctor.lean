abbrev cX13_init : ByteArray := prog_15_method_1_code
def yX13_init : MethodName := ⟨RX13, "<init>", "()V"⟩
theorem dX13_init_0 : decode cX13_init 0 = .ok (.aload_n 0, 1) := by decide +kernel
theorem dX13_init_1 : decode cX13_init 1 = .ok (.invokespecial 1, 3) := by decide +kernel
theorem dX13_init_4 : decode cX13_init 4 = .ok (.aload_n 0, 1) := by decide +kernel
theorem dX13_init_5 : decode cX13_init 5 = .ok (.bipush 80, 2) := by decide +kernel
theorem dX13_init_7 : decode cX13_init 7 = .ok (.newarray .int, 2) := by decide +kernel
theorem dX13_init_9 : decode cX13_init 9 = .ok (.putfield 9, 3) := by decide +kernel
theorem dX13_init_12 : decode cX13_init 12 = .ok (.aload_n 0, 1) := by decide +kernel
theorem dX13_init_13 : decode cX13_init 13 = .ok (.bipush 80, 2) := by decide +kernel
theorem dX13_init_15 : decode cX13_init 15 = .ok (.newarray .int, 2) := by decide +kernel
theorem dX13_init_17 : decode cX13_init 17 = .ok (.putfield 13, 3) := by decide +kernel
theorem dX13_init_20 : decode cX13_init 20 = .ok (.aload_n 0, 1) := by decide +kernel
theorem dX13_init_21 : decode cX13_init 21 = .ok (.bipush 80, 2) := by decide +kernel
theorem dX13_init_23 : decode cX13_init 23 = .ok (.newarray .int, 2) := by decide +kernel
theorem dX13_init_25 : decode cX13_init 25 = .ok (.putfield 16, 3) := by decide +kernel
theorem dX13_init_28 : decode cX13_init 28 = .ok (.aload_n 0, 1) := by decide +kernel
theorem dX13_init_29 : decode cX13_init 29 = .ok (.bipush 80, 2) := by decide +kernel
theorem dX13_init_31 : decode cX13_init 31 = .ok (.newarray .int, 2) := by decide +kernel
theorem dX13_init_33 : decode cX13_init 33 = .ok (.putfield 19, 3) := by decide +kernel
theorem dX13_init_36 : decode cX13_init 36 = .ok (.aload_n 0, 1) := by decide +kernel
theorem dX13_init_37 : decode cX13_init 37 = .ok (.bipush 80, 2) := by decide +kernel
theorem dX13_init_39 : decode cX13_init 39 = .ok (.newarray .int, 2) := by decide +kernel
theorem dX13_init_41 : decode cX13_init 41 = .ok (.putfield 22, 3) := by decide +kernel
theorem dX13_init_44 : decode cX13_init 44 = .ok (.aload_n 0, 1) := by decide +kernel
theorem dX13_init_45 : decode cX13_init 45 = .ok (.bipush 80, 2) := by decide +kernel
theorem dX13_init_47 : decode cX13_init 47 = .ok (.newarray .int, 2) := by decide +kernel
theorem dX13_init_49 : decode cX13_init 49 = .ok (.putfield 25, 3) := by decide +kernel
theorem dX13_init_52 : decode cX13_init 52 = .ok (.aload_n 0, 1) := by decide +kernel
theorem dX13_init_53 : decode cX13_init 53 = .ok (.sipush 200, 3) := by decide +kernel
theorem dX13_init_56 : decode cX13_init 56 = .ok (.newarray .byte, 2) := by decide +kernel
theorem dX13_init_58 : decode cX13_init 58 = .ok (.putfield 28, 3) := by decide +kernel
theorem dX13_init_61 : decode cX13_init 61 = .ok (.aload_n 0, 1) := by decide +kernel
theorem dX13_init_62 : decode cX13_init 62 = .ok (.sipush 3200, 3) := by decide +kernel
theorem dX13_init_65 : decode cX13_init 65 = .ok (.newarray .byte, 2) := by decide +kernel
theorem dX13_init_67 : decode cX13_init 67 = .ok (.putfield 32, 3) := by decide +kernel
theorem dX13_init_70 : decode cX13_init 70 = .ok (.aload_n 0, 1) := by decide +kernel
theorem dX13_init_71 : decode cX13_init 71 = .ok (.bipush 16, 2) := by decide +kernel
theorem dX13_init_73 : decode cX13_init 73 = .ok (.newarray .int, 2) := by decide +kernel
theorem dX13_init_75 : decode cX13_init 75 = .ok (.putfield 35, 3) := by decide +kernel
theorem dX13_init_78 : decode cX13_init 78 = .ok (.aload_n 0, 1) := by decide +kernel
theorem dX13_init_79 : decode cX13_init 79 = .ok (.bipush 16, 2) := by decide +kernel
theorem dX13_init_81 : decode cX13_init 81 = .ok (.newarray .int, 2) := by decide +kernel
theorem dX13_init_83 : decode cX13_init 83 = .ok (.putfield 38, 3) := by decide +kernel
theorem dX13_init_86 : decode cX13_init 86 = .ok (.aload_n 0, 1) := by decide +kernel
theorem dX13_init_87 : decode cX13_init 87 = .ok (.bipush 16, 2) := by decide +kernel
theorem dX13_init_89 : decode cX13_init 89 = .ok (.newarray .int, 2) := by decide +kernel
theorem dX13_init_91 : decode cX13_init 91 = .ok (.putfield 41, 3) := by decide +kernel
theorem dX13_init_94 : decode cX13_init 94 = .ok (.aload_n 0, 1) := by decide +kernel
theorem dX13_init_95 : decode cX13_init 95 = .ok (.sipush 128, 3) := by decide +kernel
theorem dX13_init_98 : decode cX13_init 98 = .ok (.newarray .int, 2) := by decide +kernel
theorem dX13_init_100 : decode cX13_init 100 = .ok (.putfield 44, 3) := by decide +kernel
theorem dX13_init_103 : decode cX13_init 103 = .ok (.aload_n 0, 1) := by decide +kernel
theorem dX13_init_104 : decode cX13_init 104 = .ok (.aload_n 0, 1) := by decide +kernel
theorem dX13_init_105 : decode cX13_init 105 = .ok (.getfield 28, 3) := by decide +kernel
theorem dX13_init_108 : decode cX13_init 108 = .ok (.putfield 47, 3) := by decide +kernel
theorem dX13_init_111 : decode cX13_init 111 = .ok (.aload_n 0, 1) := by decide +kernel
theorem dX13_init_112 : decode cX13_init 112 = .ok (.bipush 20, 2) := by decide +kernel
theorem dX13_init_114 : decode cX13_init 114 = .ok (.newarray .int, 2) := by decide +kernel
theorem dX13_init_116 : decode cX13_init 116 = .ok (.putfield 50, 3) := by decide +kernel
theorem dX13_init_119 : decode cX13_init 119 = .ok (.aload_n 0, 1) := by decide +kernel
theorem dX13_init_120 : decode cX13_init 120 = .ok (.bipush 20, 2) := by decide +kernel
theorem dX13_init_122 : decode cX13_init 122 = .ok (.newarray .int, 2) := by decide +kernel
theorem dX13_init_124 : decode cX13_init 124 = .ok (.putfield 53, 3) := by decide +kernel
theorem dX13_init_127 : decode cX13_init 127 = .ok (.aload_n 0, 1) := by decide +kernel
theorem dX13_init_128 : decode cX13_init 128 = .ok (.bipush 20, 2) := by decide +kernel
theorem dX13_init_130 : decode cX13_init 130 = .ok (.newarray .int, 2) := by decide +kernel
theorem dX13_init_132 : decode cX13_init 132 = .ok (.putfield 56, 3) := by decide +kernel
theorem dX13_init_135 : decode cX13_init 135 = .ok (.aload_n 0, 1) := by decide +kernel
theorem dX13_init_136 : decode cX13_init 136 = .ok (.bipush 20, 2) := by decide +kernel
theorem dX13_init_138 : decode cX13_init 138 = .ok (.newarray .int, 2) := by decide +kernel
theorem dX13_init_140 : decode cX13_init 140 = .ok (.putfield 59, 3) := by decide +kernel
theorem dX13_init_143 : decode cX13_init 143 = .ok (.aload_n 0, 1) := by decide +kernel
theorem dX13_init_144 : decode cX13_init 144 = .ok (.bipush 20, 2) := by decide +kernel
theorem dX13_init_146 : decode cX13_init 146 = .ok (.newarray .int, 2) := by decide +kernel
theorem dX13_init_148 : decode cX13_init 148 = .ok (.putfield 62, 3) := by decide +kernel
theorem dX13_init_151 : decode cX13_init 151 = .ok (.aload_n 0, 1) := by decide +kernel
theorem dX13_init_152 : decode cX13_init 152 = .ok (.bipush 20, 2) := by decide +kernel
theorem dX13_init_154 : decode cX13_init 154 = .ok (.newarray .int, 2) := by decide +kernel
theorem dX13_init_156 : decode cX13_init 156 = .ok (.putfield 65, 3) := by decide +kernel
theorem dX13_init_159 : decode cX13_init 159 = .ok (.aload_n 0, 1) := by decide +kernel
theorem dX13_init_160 : decode cX13_init 160 = .ok (.bipush 20, 2) := by decide +kernel
theorem dX13_init_162 : decode cX13_init 162 = .ok (.newarray .int, 2) := by decide +kernel
theorem dX13_init_164 : decode cX13_init 164 = .ok (.putfield 68, 3) := by decide +kernel
theorem dX13_init_167 : decode cX13_init 167 = .ok (.aload_n 0, 1) := by decide +kernel
theorem dX13_init_168 : decode cX13_init 168 = .ok (.bipush 20, 2) := by decide +kernel
theorem dX13_init_170 : decode cX13_init 170 = .ok (.newarray .int, 2) := by decide +kernel
theorem dX13_init_172 : decode cX13_init 172 = .ok (.putfield 71, 3) := by decide +kernel
theorem dX13_init_175 : decode cX13_init 175 = .ok (.aload_n 0, 1) := by decide +kernel
theorem dX13_init_176 : decode cX13_init 176 = .ok (.sipush 320, 3) := by decide +kernel
theorem dX13_init_179 : decode cX13_init 179 = .ok (.newarray .int, 2) := by decide +kernel
theorem dX13_init_181 : decode cX13_init 181 = .ok (.putfield 74, 3) := by decide +kernel
theorem dX13_init_184 : decode cX13_init 184 = .ok (.aload_n 0, 1) := by decide +kernel
theorem dX13_init_185 : decode cX13_init 185 = .ok (.sipush 320, 3) := by decide +kernel
theorem dX13_init_188 : decode cX13_init 188 = .ok (.newarray .int, 2) := by decide +kernel
theorem dX13_init_190 : decode cX13_init 190 = .ok (.putfield 77, 3) := by decide +kernel
theorem dX13_init_193 : decode cX13_init 193 = .ok (.aload_n 0, 1) := by decide +kernel
theorem dX13_init_194 : decode cX13_init 194 = .ok (.sipush 320, 3) := by decide +kernel
theorem dX13_init_197 : decode cX13_init 197 = .ok (.newarray .int, 2) := by decide +kernel
theorem dX13_init_199 : decode cX13_init 199 = .ok (.putfield 80, 3) := by decide +kernel
theorem dX13_init_202 : decode cX13_init 202 = .ok (.aload_n 0, 1) := by decide +kernel
theorem dX13_init_203 : decode cX13_init 203 = .ok (.sipush 300, 3) := by decide +kernel
theorem dX13_init_206 : decode cX13_init 206 = .ok (.newarray .int, 2) := by decide +kernel
theorem dX13_init_208 : decode cX13_init 208 = .ok (.putfield 83, 3) := by decide +kernel
theorem dX13_init_211 : decode cX13_init 211 = .ok (.aload_n 0, 1) := by decide +kernel
theorem dX13_init_212 : decode cX13_init 212 = .ok (.sipush 300, 3) := by decide +kernel
theorem dX13_init_215 : decode cX13_init 215 = .ok (.newarray .int, 2) := by decide +kernel
theorem dX13_init_217 : decode cX13_init 217 = .ok (.putfield 86, 3) := by decide +kernel
theorem dX13_init_220 : decode cX13_init 220 = .ok (.aload_n 0, 1) := by decide +kernel
theorem dX13_init_221 : decode cX13_init 221 = .ok (.sipush 300, 3) := by decide +kernel
theorem dX13_init_224 : decode cX13_init 224 = .ok (.newarray .int, 2) := by decide +kernel
theorem dX13_init_226 : decode cX13_init 226 = .ok (.putfield 89, 3) := by decide +kernel
theorem dX13_init_229 : decode cX13_init 229 = .ok (.aload_n 0, 1) := by decide +kernel
theorem dX13_init_230 : decode cX13_init 230 = .ok (.sipush 300, 3) := by decide +kernel
theorem dX13_init_233 : decode cX13_init 233 = .ok (.newarray .int, 2) := by decide +kernel
theorem dX13_init_235 : decode cX13_init 235 = .ok (.putfield 92, 3) := by decide +kernel
theorem dX13_init_238 : decode cX13_init 238 = .ok (.aload_n 0, 1) := by decide +kernel
theorem dX13_init_239 : decode cX13_init 239 = .ok (.sipush 300, 3) := by decide +kernel
theorem dX13_init_242 : decode cX13_init 242 = .ok (.newarray .int, 2) := by decide +kernel
theorem dX13_init_244 : decode cX13_init 244 = .ok (.putfield 95, 3) := by decide +kernel
theorem dX13_init_247 : decode cX13_init 247 = .ok (.aload_n 0, 1) := by decide +kernel
theorem dX13_init_248 : decode cX13_init 248 = .ok (.bipush 20, 2) := by decide +kernel
theorem dX13_init_250 : decode cX13_init 250 = .ok (.newarray .int, 2) := by decide +kernel
theorem dX13_init_252 : decode cX13_init 252 = .ok (.putfield 98, 3) := by decide +kernel
theorem dX13_init_255 : decode cX13_init 255 = .ok (.aload_n 0, 1) := by decide +kernel
theorem dX13_init_256 : decode cX13_init 256 = .ok (.bipush 20, 2) := by decide +kernel
theorem dX13_init_258 : decode cX13_init 258 = .ok (.newarray .int, 2) := by decide +kernel
theorem dX13_init_260 : decode cX13_init 260 = .ok (.putfield 101, 3) := by decide +kernel
theorem dX13_init_263 : decode cX13_init 263 = .ok (.aload_n 0, 1) := by decide +kernel
theorem dX13_init_264 : decode cX13_init 264 = .ok (.bipush 20, 2) := by decide +kernel
theorem dX13_init_266 : decode cX13_init 266 = .ok (.newarray .int, 2) := by decide +kernel
theorem dX13_init_268 : decode cX13_init 268 = .ok (.putfield 104, 3) := by decide +kernel
theorem dX13_init_271 : decode cX13_init 271 = .ok (.aload_n 0, 1) := by decide +kernel
theorem dX13_init_272 : decode cX13_init 272 = .ok (.sipush 320, 3) := by decide +kernel
theorem dX13_init_275 : decode cX13_init 275 = .ok (.newarray .int, 2) := by decide +kernel
theorem dX13_init_277 : decode cX13_init 277 = .ok (.putfield 107, 3) := by decide +kernel
theorem dX13_init_280 : decode cX13_init 280 = .ok (.aload_n 0, 1) := by decide +kernel
theorem dX13_init_281 : decode cX13_init 281 = .ok (.bipush 16, 2) := by decide +kernel
theorem dX13_init_283 : decode cX13_init 283 = .ok (.newarray .int, 2) := by decide +kernel
theorem dX13_init_285 : decode cX13_init 285 = .ok (.putfield 110, 3) := by decide +kernel
theorem dX13_init_288 : decode cX13_init 288 = .ok (.aload_n 0, 1) := by decide +kernel
theorem dX13_init_289 : decode cX13_init 289 = .ok (.bipush 20, 2) := by decide +kernel
theorem dX13_init_291 : decode cX13_init 291 = .ok (.newarray .int, 2) := by decide +kernel
theorem dX13_init_293 : decode cX13_init 293 = .ok (.putfield 113, 3) := by decide +kernel
theorem dX13_init_296 : decode cX13_init 296 = .ok (.aload_n 0, 1) := by decide +kernel
theorem dX13_init_297 : decode cX13_init 297 = .ok (.bipush 20, 2) := by decide +kernel
theorem dX13_init_299 : decode cX13_init 299 = .ok (.newarray .int, 2) := by decide +kernel
theorem dX13_init_301 : decode cX13_init 301 = .ok (.putfield 116, 3) := by decide +kernel
theorem dX13_init_304 : decode cX13_init 304 = .ok (.aload_n 0, 1) := by decide +kernel
theorem dX13_init_305 : decode cX13_init 305 = .ok (.sipush 320, 3) := by decide +kernel
theorem dX13_init_308 : decode cX13_init 308 = .ok (.newarray .boolean, 2) := by decide +kernel
theorem dX13_init_310 : decode cX13_init 310 = .ok (.putfield 119, 3) := by decide +kernel
theorem dX13_init_313 : decode cX13_init 313 = .ok (.aload_n 0, 1) := by decide +kernel
theorem dX13_init_314 : decode cX13_init 314 = .ok (.bipush 16, 2) := by decide +kernel
theorem dX13_init_316 : decode cX13_init 316 = .ok (.newarray .boolean, 2) := by decide +kernel
theorem dX13_init_318 : decode cX13_init 318 = .ok (.putfield 123, 3) := by decide +kernel
theorem dX13_init_321 : decode cX13_init 321 = .ok (.aload_n 0, 1) := by decide +kernel
theorem dX13_init_322 : decode cX13_init 322 = .ok (.sipush 200, 3) := by decide +kernel
theorem dX13_init_325 : decode cX13_init 325 = .ok (.newarray .int, 2) := by decide +kernel
theorem dX13_init_327 : decode cX13_init 327 = .ok (.putfield 126, 3) := by decide +kernel
theorem dX13_init_330 : decode cX13_init 330 = .ok (.aload_n 0, 1) := by decide +kernel
theorem dX13_init_331 : decode cX13_init 331 = .ok (.sipush 200, 3) := by decide +kernel
theorem dX13_init_334 : decode cX13_init 334 = .ok (.newarray .int, 2) := by decide +kernel
theorem dX13_init_336 : decode cX13_init 336 = .ok (.putfield 129, 3) := by decide +kernel
theorem dX13_init_339 : decode cX13_init 339 = .ok (.aload_n 0, 1) := by decide +kernel
theorem dX13_init_340 : decode cX13_init 340 = .ok (.sipush 200, 3) := by decide +kernel
theorem dX13_init_343 : decode cX13_init 343 = .ok (.newarray .int, 2) := by decide +kernel
theorem dX13_init_345 : decode cX13_init 345 = .ok (.putfield 132, 3) := by decide +kernel
theorem dX13_init_348 : decode cX13_init 348 = .ok (.aload_n 0, 1) := by decide +kernel
theorem dX13_init_349 : decode cX13_init 349 = .ok (.sipush 200, 3) := by decide +kernel
theorem dX13_init_352 : decode cX13_init 352 = .ok (.newarray .int, 2) := by decide +kernel
theorem dX13_init_354 : decode cX13_init 354 = .ok (.putfield 135, 3) := by decide +kernel
theorem dX13_init_357 : decode cX13_init 357 = .ok (.aload_n 0, 1) := by decide +kernel
theorem dX13_init_358 : decode cX13_init 358 = .ok (.sipush 200, 3) := by decide +kernel
theorem dX13_init_361 : decode cX13_init 361 = .ok (.newarray .int, 2) := by decide +kernel
theorem dX13_init_363 : decode cX13_init 363 = .ok (.putfield 138, 3) := by decide +kernel
theorem dX13_init_366 : decode cX13_init 366 = .ok (.aload_n 0, 1) := by decide +kernel
theorem dX13_init_367 : decode cX13_init 367 = .ok (.sipush 200, 3) := by decide +kernel
theorem dX13_init_370 : decode cX13_init 370 = .ok (.newarray .int, 2) := by decide +kernel
theorem dX13_init_372 : decode cX13_init 372 = .ok (.putfield 141, 3) := by decide +kernel
theorem dX13_init_375 : decode cX13_init 375 = .ok (.aload_n 0, 1) := by decide +kernel
theorem dX13_init_376 : decode cX13_init 376 = .ok (.sipush 200, 3) := by decide +kernel
theorem dX13_init_379 : decode cX13_init 379 = .ok (.newarray .int, 2) := by decide +kernel
theorem dX13_init_381 : decode cX13_init 381 = .ok (.putfield 144, 3) := by decide +kernel
theorem dX13_init_384 : decode cX13_init 384 = .ok (.aload_n 0, 1) := by decide +kernel
theorem dX13_init_385 : decode cX13_init 385 = .ok (.sipush 200, 3) := by decide +kernel
theorem dX13_init_388 : decode cX13_init 388 = .ok (.newarray .int, 2) := by decide +kernel
theorem dX13_init_390 : decode cX13_init 390 = .ok (.putfield 147, 3) := by decide +kernel
theorem dX13_init_393 : decode cX13_init 393 = .ok (.aload_n 0, 1) := by decide +kernel
theorem dX13_init_394 : decode cX13_init 394 = .ok (.bipush 30, 2) := by decide +kernel
theorem dX13_init_396 : decode cX13_init 396 = .ok (.newarray .int, 2) := by decide +kernel
theorem dX13_init_398 : decode cX13_init 398 = .ok (.putfield 150, 3) := by decide +kernel
theorem dX13_init_401 : decode cX13_init 401 = .ok (.aload_n 0, 1) := by decide +kernel
theorem dX13_init_402 : decode cX13_init 402 = .ok (.bipush 30, 2) := by decide +kernel
theorem dX13_init_404 : decode cX13_init 404 = .ok (.newarray .int, 2) := by decide +kernel
theorem dX13_init_406 : decode cX13_init 406 = .ok (.putfield 153, 3) := by decide +kernel
theorem dX13_init_409 : decode cX13_init 409 = .ok (.aload_n 0, 1) := by decide +kernel
theorem dX13_init_410 : decode cX13_init 410 = .ok (.bipush 30, 2) := by decide +kernel
theorem dX13_init_412 : decode cX13_init 412 = .ok (.newarray .int, 2) := by decide +kernel
theorem dX13_init_414 : decode cX13_init 414 = .ok (.putfield 156, 3) := by decide +kernel
theorem dX13_init_417 : decode cX13_init 417 = .ok (.aload_n 0, 1) := by decide +kernel
theorem dX13_init_418 : decode cX13_init 418 = .ok (.bipush 30, 2) := by decide +kernel
theorem dX13_init_420 : decode cX13_init 420 = .ok (.newarray .int, 2) := by decide +kernel
theorem dX13_init_422 : decode cX13_init 422 = .ok (.putfield 159, 3) := by decide +kernel
theorem dX13_init_425 : decode cX13_init 425 = .ok (.aload_n 0, 1) := by decide +kernel
theorem dX13_init_426 : decode cX13_init 426 = .ok (.bipush 30, 2) := by decide +kernel
theorem dX13_init_428 : decode cX13_init 428 = .ok (.newarray .int, 2) := by decide +kernel
theorem dX13_init_430 : decode cX13_init 430 = .ok (.putfield 162, 3) := by decide +kernel
theorem dX13_init_433 : decode cX13_init 433 = .ok (.aload_n 0, 1) := by decide +kernel
theorem dX13_init_434 : decode cX13_init 434 = .ok (.bipush 60, 2) := by decide +kernel
theorem dX13_init_436 : decode cX13_init 436 = .ok (.newarray .int, 2) := by decide +kernel
theorem dX13_init_438 : decode cX13_init 438 = .ok (.putfield 165, 3) := by decide +kernel
theorem dX13_init_441 : decode cX13_init 441 = .ok (.aload_n 0, 1) := by decide +kernel
theorem dX13_init_442 : decode cX13_init 442 = .ok (.bipush 60, 2) := by decide +kernel
theorem dX13_init_444 : decode cX13_init 444 = .ok (.newarray .int, 2) := by decide +kernel
theorem dX13_init_446 : decode cX13_init 446 = .ok (.putfield 168, 3) := by decide +kernel
theorem dX13_init_449 : decode cX13_init 449 = .ok (.aload_n 0, 1) := by decide +kernel
theorem dX13_init_450 : decode cX13_init 450 = .ok (.bipush 60, 2) := by decide +kernel
theorem dX13_init_452 : decode cX13_init 452 = .ok (.newarray .int, 2) := by decide +kernel
theorem dX13_init_454 : decode cX13_init 454 = .ok (.putfield 171, 3) := by decide +kernel
theorem dX13_init_457 : decode cX13_init 457 = .ok (.aload_n 0, 1) := by decide +kernel
theorem dX13_init_458 : decode cX13_init 458 = .ok (.bipush 30, 2) := by decide +kernel
theorem dX13_init_460 : decode cX13_init 460 = .ok (.newarray .int, 2) := by decide +kernel
theorem dX13_init_462 : decode cX13_init 462 = .ok (.putfield 174, 3) := by decide +kernel
theorem dX13_init_465 : decode cX13_init 465 = .ok (.aload_n 0, 1) := by decide +kernel
theorem dX13_init_466 : decode cX13_init 466 = .ok (.bipush 30, 2) := by decide +kernel
theorem dX13_init_468 : decode cX13_init 468 = .ok (.newarray .boolean, 2) := by decide +kernel
theorem dX13_init_470 : decode cX13_init 470 = .ok (.putfield 177, 3) := by decide +kernel
theorem dX13_init_473 : decode cX13_init 473 = .ok (.aload_n 0, 1) := by decide +kernel
theorem dX13_init_474 : decode cX13_init 474 = .ok (.sipush 256, 3) := by decide +kernel
theorem dX13_init_477 : decode cX13_init 477 = .ok (.newarray .int, 2) := by decide +kernel
theorem dX13_init_479 : decode cX13_init 479 = .ok (.putfield 180, 3) := by decide +kernel
theorem dX13_init_482 : decode cX13_init 482 = .ok (.aload_n 0, 1) := by decide +kernel
theorem dX13_init_483 : decode cX13_init 483 = .ok (.sipush 256, 3) := by decide +kernel
theorem dX13_init_486 : decode cX13_init 486 = .ok (.newarray .int, 2) := by decide +kernel
theorem dX13_init_488 : decode cX13_init 488 = .ok (.putfield 183, 3) := by decide +kernel
theorem dX13_init_491 : decode cX13_init 491 = .ok (.aload_n 0, 1) := by decide +kernel
theorem dX13_init_492 : decode cX13_init 492 = .ok (.sipush 256, 3) := by decide +kernel
theorem dX13_init_495 : decode cX13_init 495 = .ok (.newarray .int, 2) := by decide +kernel
theorem dX13_init_497 : decode cX13_init 497 = .ok (.putfield 186, 3) := by decide +kernel
theorem dX13_init_500 : decode cX13_init 500 = .ok (.aload_n 0, 1) := by decide +kernel
theorem dX13_init_501 : decode cX13_init 501 = .ok (.iconst 2, 1) := by decide +kernel
theorem dX13_init_502 : decode cX13_init 502 = .ok (.newarray .int, 2) := by decide +kernel
theorem dX13_init_504 : decode cX13_init 504 = .ok (.putfield 189, 3) := by decide +kernel
theorem dX13_init_507 : decode cX13_init 507 = .ok (.aload_n 0, 1) := by decide +kernel
theorem dX13_init_508 : decode cX13_init 508 = .ok (.iconst 4, 1) := by decide +kernel
theorem dX13_init_509 : decode cX13_init 509 = .ok (.newarray .int, 2) := by decide +kernel
theorem dX13_init_511 : decode cX13_init 511 = .ok (.putfield 192, 3) := by decide +kernel
theorem dX13_init_514 : decode cX13_init 514 = .ok (.aload_n 0, 1) := by decide +kernel
theorem dX13_init_515 : decode cX13_init 515 = .ok (.bipush 20, 2) := by decide +kernel
theorem dX13_init_517 : decode cX13_init 517 = .ok (.newarray .int, 2) := by decide +kernel
theorem dX13_init_519 : decode cX13_init 519 = .ok (.putfield 195, 3) := by decide +kernel
theorem dX13_init_522 : decode cX13_init 522 = .ok (.aload_n 0, 1) := by decide +kernel
theorem dX13_init_523 : decode cX13_init 523 = .ok (.bipush 80, 2) := by decide +kernel
theorem dX13_init_525 : decode cX13_init 525 = .ok (.newarray .int, 2) := by decide +kernel
theorem dX13_init_527 : decode cX13_init 527 = .ok (.putfield 198, 3) := by decide +kernel
theorem dX13_init_530 : decode cX13_init 530 = .ok (.aload_n 0, 1) := by decide +kernel
theorem dX13_init_531 : decode cX13_init 531 = .ok (.bipush 80, 2) := by decide +kernel
theorem dX13_init_533 : decode cX13_init 533 = .ok (.newarray .int, 2) := by decide +kernel
theorem dX13_init_535 : decode cX13_init 535 = .ok (.putfield 201, 3) := by decide +kernel
theorem dX13_init_538 : decode cX13_init 538 = .ok (.aload_n 0, 1) := by decide +kernel
theorem dX13_init_539 : decode cX13_init 539 = .ok (.iconst 4, 1) := by decide +kernel
theorem dX13_init_540 : decode cX13_init 540 = .ok (.newarray .int, 2) := by decide +kernel
theorem dX13_init_542 : decode cX13_init 542 = .ok (.putfield 204, 3) := by decide +kernel
theorem dX13_init_545 : decode cX13_init 545 = .ok (.aload_n 0, 1) := by decide +kernel
theorem dX13_init_546 : decode cX13_init 546 = .ok (.iconst 4, 1) := by decide +kernel
theorem dX13_init_547 : decode cX13_init 547 = .ok (.newarray .int, 2) := by decide +kernel
theorem dX13_init_549 : decode cX13_init 549 = .ok (.putfield 207, 3) := by decide +kernel
theorem dX13_init_552 : decode cX13_init 552 = .ok (.aload_n 0, 1) := by decide +kernel
theorem dX13_init_553 : decode cX13_init 553 = .ok (.bipush 16, 2) := by decide +kernel
theorem dX13_init_555 : decode cX13_init 555 = .ok (.newarray .int, 2) := by decide +kernel
theorem dX13_init_557 : decode cX13_init 557 = .ok (.putfield 210, 3) := by decide +kernel
theorem dX13_init_560 : decode cX13_init 560 = .ok (.aload_n 0, 1) := by decide +kernel
theorem dX13_init_561 : decode cX13_init 561 = .ok (.bipush 20, 2) := by decide +kernel
theorem dX13_init_563 : decode cX13_init 563 = .ok (.newarray .int, 2) := by decide +kernel
theorem dX13_init_565 : decode cX13_init 565 = .ok (.putfield 213, 3) := by decide +kernel
theorem dX13_init_568 : decode cX13_init 568 = .ok (.aload_n 0, 1) := by decide +kernel
theorem dX13_init_569 : decode cX13_init 569 = .ok (.bipush 20, 2) := by decide +kernel
theorem dX13_init_571 : decode cX13_init 571 = .ok (.newarray .int, 2) := by decide +kernel
theorem dX13_init_573 : decode cX13_init 573 = .ok (.putfield 216, 3) := by decide +kernel
theorem dX13_init_576 : decode cX13_init 576 = .ok (.aload_n 0, 1) := by decide +kernel
theorem dX13_init_577 : decode cX13_init 577 = .ok (.bipush 20, 2) := by decide +kernel
theorem dX13_init_579 : decode cX13_init 579 = .ok (.newarray .int, 2) := by decide +kernel
theorem dX13_init_581 : decode cX13_init 581 = .ok (.putfield 219, 3) := by decide +kernel
theorem dX13_init_584 : decode cX13_init 584 = .ok (.aload_n 0, 1) := by decide +kernel
theorem dX13_init_585 : decode cX13_init 585 = .ok (.bipush 20, 2) := by decide +kernel
theorem dX13_init_587 : decode cX13_init 587 = .ok (.newarray .int, 2) := by decide +kernel
theorem dX13_init_589 : decode cX13_init 589 = .ok (.putfield 222, 3) := by decide +kernel
theorem dX13_init_592 : decode cX13_init 592 = .ok (.aload_n 0, 1) := by decide +kernel
theorem dX13_init_593 : decode cX13_init 593 = .ok (.bipush 16, 2) := by decide +kernel
theorem dX13_init_595 : decode cX13_init 595 = .ok (.newarray .int, 2) := by decide +kernel
theorem dX13_init_597 : decode cX13_init 597 = .ok (.putfield 225, 3) := by decide +kernel
theorem dX13_init_600 : decode cX13_init 600 = .ok (.return_, 1) := by decide +kernel
def A_m_init : List Cond := [.instanceMethod objectInit, .code objectInit ⟨#[0xb1]⟩ 1 none, .methodLink RX13 1 objectInit, .arrayClass .int, .fieldLink RX13 9 "UnlikeBoatsModel" "certBoat" "[I", .fieldLink RX13 13 "UnlikeBoatsModel" "certFrom" "[I", .fieldLink RX13 16 "UnlikeBoatsModel" "certLong" "[I", .fieldLink RX13 19 "UnlikeBoatsModel" "certArea" "[I", .fieldLink RX13 22 "UnlikeBoatsModel" "certWeight" "[I", .fieldLink RX13 25 "UnlikeBoatsModel" "certTold" "[I", .arrayClass .byte, .fieldLink RX13 28 "UnlikeBoatsModel" "tape" "[B", .fieldLink RX13 32 "UnlikeBoatsModel" "ruleText" "[B", .fieldLink RX13 35 "UnlikeBoatsModel" "ruleLong" "[I", .fieldLink RX13 38 "UnlikeBoatsModel" "ruleFrom" "[I", .fieldLink RX13 41 "UnlikeBoatsModel" "ruleTold" "[I", .fieldLink RX13 44 "UnlikeBoatsModel" "letters" "[I", .fieldLink RX13 47 "UnlikeBoatsModel" "text" "[B", .fieldLink RX13 50 "UnlikeBoatsModel" "raceDay" "[I", .fieldLink RX13 53 "UnlikeBoatsModel" "raceMiles" "[I", .fieldLink RX13 56 "UnlikeBoatsModel" "raceWay" "[I", .fieldLink RX13 59 "UnlikeBoatsModel" "raceWind" "[I", .fieldLink RX13 62 "UnlikeBoatsModel" "markX" "[I", .fieldLink RX13 65 "UnlikeBoatsModel" "markY" "[I", .fieldLink RX13 68 "UnlikeBoatsModel" "raceSwift" "[I", .fieldLink RX13 71 "UnlikeBoatsModel" "raceTold" "[I", .fieldLink RX13 74 "UnlikeBoatsModel" "entered" "[I", .fieldLink RX13 77 "UnlikeBoatsModel" "startEnd" "[I", .fieldLink RX13 80 "UnlikeBoatsModel" "startAt" "[I", .fieldLink RX13 83 "UnlikeBoatsModel" "resultRace" "[I", .fieldLink RX13 86 "UnlikeBoatsModel" "resultBoat" "[I", .fieldLink RX13 89 "UnlikeBoatsModel" "resultCode" "[I", .fieldLink RX13 92 "UnlikeBoatsModel" "resultSeconds" "[I", .fieldLink RX13 95 "UnlikeBoatsModel" "resultTold" "[I", .fieldLink RX13 98 "UnlikeBoatsModel" "redressRace" "[I", .fieldLink RX13 101 "UnlikeBoatsModel" "redressBoat" "[I", .fieldLink RX13 104 "UnlikeBoatsModel" "redressTold" "[I", .fieldLink RX13 107 "UnlikeBoatsModel" "points" "[I", .fieldLink RX13 110 "UnlikeBoatsModel" "totals" "[I", .fieldLink RX13 113 "UnlikeBoatsModel" "left" "[I", .fieldLink RX13 116 "UnlikeBoatsModel" "otherLeft" "[I", .arrayClass .boolean, .fieldLink RX13 119 "UnlikeBoatsModel" "isThrown" "[Z", .fieldLink RX13 123 "UnlikeBoatsModel" "isScored" "[Z", .fieldLink RX13 126 "UnlikeBoatsModel" "wordRace" "[I", .fieldLink RX13 129 "UnlikeBoatsModel" "wordBoat" "[I", .fieldLink RX13 132 "UnlikeBoatsModel" "wordAt" "[I", .fieldLink RX13 135 "UnlikeBoatsModel" "wordX" "[I", .fieldLink RX13 138 "UnlikeBoatsModel" "wordY" "[I", .fieldLink RX13 141 "UnlikeBoatsModel" "wordSize" "[I", .fieldLink RX13 144 "UnlikeBoatsModel" "wordWays" "[I", .fieldLink RX13 147 "UnlikeBoatsModel" "wordTold" "[I", .fieldLink RX13 150 "UnlikeBoatsModel" "protestRace" "[I", .fieldLink RX13 153 "UnlikeBoatsModel" "protestA" "[I", .fieldLink RX13 156 "UnlikeBoatsModel" "protestB" "[I", .fieldLink RX13 159 "UnlikeBoatsModel" "protestAt" "[I", .fieldLink RX13 162 "UnlikeBoatsModel" "protestTold" "[I", .fieldLink RX13 165 "UnlikeBoatsModel" "outs" "[I", .fieldLink RX13 168 "UnlikeBoatsModel" "outFrom" "[I", .fieldLink RX13 171 "UnlikeBoatsModel" "outTo" "[I", .fieldLink RX13 174 "UnlikeBoatsModel" "decisions" "[I", .fieldLink RX13 177 "UnlikeBoatsModel" "isDecided" "[Z", .fieldLink RX13 180 "UnlikeBoatsModel" "stateX" "[I", .fieldLink RX13 183 "UnlikeBoatsModel" "stateY" "[I", .fieldLink RX13 186 "UnlikeBoatsModel" "stateWay" "[I", .fieldLink RX13 189 "UnlikeBoatsModel" "stateMany" "[I", .fieldLink RX13 192 "UnlikeBoatsModel" "evenBoat" "[I", .fieldLink RX13 195 "UnlikeBoatsModel" "evenRace" "[I", .fieldLink RX13 198 "UnlikeBoatsModel" "evenSeconds" "[I", .fieldLink RX13 201 "UnlikeBoatsModel" "evenNumber" "[I", .fieldLink RX13 204 "UnlikeBoatsModel" "tried" "[I", .fieldLink RX13 207 "UnlikeBoatsModel" "bestChange" "[I", .fieldLink RX13 210 "UnlikeBoatsModel" "row" "[I", .fieldLink RX13 213 "UnlikeBoatsModel" "fitSeconds" "[I", .fieldLink RX13 216 "UnlikeBoatsModel" "fitMiddle" "[I", .fieldLink RX13 219 "UnlikeBoatsModel" "ratioRace" "[I", .fieldLink RX13 222 "UnlikeBoatsModel" "ratio" "[I", .fieldLink RX13 225 "UnlikeBoatsModel" "weight" "[I"]
def v_m_init : List Cond := .code yX13_init cX13_init 1 none :: (A_m_init ++ wsX130)
theorem iw_m_init_X13 : ∀ w ∈ wsX130, w ∈ v_m_init := fun _ h => List.mem_cons_of_mem _ (List.mem_append_right _ (h))
set_option maxHeartbeats 4000000 in
set_option maxRecDepth 100000 in
theorem m_init (l : Launch) (dC : Nat → ClassId) (dI : Nat → Nat → Nat) (h : Nat) (sz : Nat)  : Met l yX13_init v_m_init ({ frames := 1, cells := 71, slots := 10512, locals := 40 }) (va_Pc [.ref h] (fun U => U.heap.size = sz ∧ va_P (dC, dI) vwCl [(h, .inr (14, mL (fun j => defaultValue (tyX13 j))))] U.heap ∧ va_K (dC, dI) vwCl [] U ∧ va_D (fun _ => True) [(h, .inr (14, mL (fun j => defaultValue (tyX13 j))))])) (va_Qv (S := (Nat → Value) × Nat × Nat × Nat × Nat × Nat × Nat × Nat × Nat × Nat × Nat × Nat × Nat × ClassId × ClassId) (fun u => match u with | (f, tb, ltr, z0, z1, z2, z3, z4, z5, z6, z7, z8, z9, cI, cB) => f 0 = .int 0 ∧ f 1 = .int 0 ∧ f 8 = .int 0 ∧ f 9 = .int 0 ∧ f 16 = .int 0 ∧ f 17 = .int 0 ∧ f 46 = .int 0 ∧ f 47 = .int 0 ∧ f 48 = .int 0 ∧ f 74 = .int 0 ∧ f 75 = .int 0 ∧ f 55 = .int 0 ∧ f 10 = .ref tb ∧ f 15 = .ref ltr ∧ f 27 = .ref z0 ∧ f 28 = .ref z1 ∧ f 29 = .ref z2 ∧ f 30 = .ref z3 ∧ f 31 = .ref z4 ∧ f 32 = .ref z5 ∧ f 33 = .ref z6 ∧ f 34 = .ref z7 ∧ f 35 = .ref z8 ∧ f 36 = .ref z9) (fun u t => match u with | (f, tb, ltr, z0, z1, z2, z3, z4, z5, z6, z7, z8, z9, cI, cB) => va_P (dC, dI) vwCl [(h, .inr (14, mL f)), (tb, .inl (cB, 200, .inl (fun _ => (0 : Int32)))), (ltr, .inl (cI, 128, .inl (fun _ => (0 : Int32)))), (z0, .inl (cI, 20, .inl (fun _ => (0 : Int32)))), (z1, .inl (cI, 20, .inl (fun _ => (0 : Int32)))), (z2, .inl (cI, 20, .inl (fun _ => (0 : Int32)))), (z3, .inl (cI, 20, .inl (fun _ => (0 : Int32)))), (z4, .inl (cI, 20, .inl (fun _ => (0 : Int32)))), (z5, .inl (cI, 20, .inl (fun _ => (0 : Int32)))), (z6, .inl (cI, 20, .inl (fun _ => (0 : Int32)))), (z7, .inl (cI, 20, .inl (fun _ => (0 : Int32)))), (z8, .inl (cI, 320, .inl (fun _ => (0 : Int32)))), (z9, .inl (cI, 320, .inl (fun _ => (0 : Int32))))] t.heap ∧ va_K (dC, dI) vwCl [(cI, .int), (cB, .byte)] t ∧ va_D (va_A [(h, .inr (14, mL (fun j => defaultValue (tyX13 j))))] sz) [(h, .inr (14, mL f)), (tb, .inl (cB, 200, .inl (fun _ => (0 : Int32)))), (ltr, .inl (cI, 128, .inl (fun _ => (0 : Int32)))), (z0, .inl (cI, 20, .inl (fun _ => (0 : Int32)))), (z1, .inl (cI, 20, .inl (fun _ => (0 : Int32)))), (z2, .inl (cI, 20, .inl (fun _ => (0 : Int32)))), (z3, .inl (cI, 20, .inl (fun _ => (0 : Int32)))), (z4, .inl (cI, 20, .inl (fun _ => (0 : Int32)))), (z5, .inl (cI, 20, .inl (fun _ => (0 : Int32)))), (z6, .inl (cI, 20, .inl (fun _ => (0 : Int32)))), (z7, .inl (cI, 20, .inl (fun _ => (0 : Int32)))), (z8, .inl (cI, 320, .inl (fun _ => (0 : Int32)))), (z9, .inl (cI, 320, .inl (fun _ => (0 : Int32))))]) (va_A [(h, .inr (14, mL (fun j => defaultValue (tyX13 j))))] sz)) 71 10512 (va_A [(h, .inr (14, mL (fun j => defaultValue (tyX13 j))))] sz) := by
  refine Met.ofW (cc := cX13_init) (maxL := 1) (ret := none) (by decide) rfl ?_
  intro p e s m args below meth c s₁ B hml hv
  obtain ⟨rfl, hsz, hP, hK, hD0⟩ := hv
  have hx := B.exec
  have hb := B.bytes
  have hr := B.returns
  have hts := atoms_spec (ws := v_m_init) B.pre
  have hown : s.vm.findClass RX13 = some m.cls := findClass_of_methodNamed B.named
  have hlocks := B.notSynchronized
  have hin : meth.name = "<init>" := (name_of_methodNamed B.named B.method).1
  subst hsz
  have hD := hD0.self (sz := s.heap.size)
  generalize hAe : va_A [(h, .inr (14, mL (fun j => defaultValue (tyX13 j))))] s.heap.size = A at hD ⊢
  have hA : ∀ q : Nat, s.heap.size ≤ q → A q := fun q h => by rw [← hAe]; exact Or.inr h
  have hS : va_S A s.heap s.heap [] := va_S.rf
  have hP : va_P (dC, dI) vwCl [(h, .inr (14, mL (fun j => defaultValue (tyX13 j))))] s.heap := hP
  have hl := lv_entry ([.ref h]) (n := 1) (Nat.le_of_ble_eq_true rfl)
  rw [lg_entry_eq]
  generalize (lg_sl ([.ref h]) ++ List.replicate (1 - (lg_sl ([.ref h])).length) Slot.unset).toArray = ls at hl ⊢
  have hl : lv_has ls 1 [(0, .ref h)] := hl
  refine lv_aload_n hx hb dX13_init_0 rfl (lv_at hl 0 rfl) ?_
  refine W.objInit hx hb hown (hts (.methodLink RX13 1 objectInit) (List.mem_of_getElem? (i := 3) rfl)) (hts (.instanceMethod objectInit) (List.mem_of_getElem? (i := 1) rfl)) (hts (.code objectInit ⟨#[0xb1]⟩ 1 none) (List.mem_of_getElem? (i := 2) rfl)) rfl (by rw [hml]; exact hl.1) rfl dX13_init_1 (Nat.le_of_ble_eq_true rfl) (Nat.le_of_ble_eq_true rfl) ?_
  refine W.eq (g2 := F0 m 4 ls []) rfl ?_
  refine lv_aload_n hx hb dX13_init_4 rfl (lv_at hl 0 rfl) ?_
  refine lv_bipush (v := 80) hx hb dX13_init_5 (by decide) ?_
  refine va_newa (atype := .int) (ty := .int) (N' := 80) (a0 := (80, .inl (fun _ => (0 : Int32)))) hx hb (hts (.arrayClass .int) (List.mem_of_getElem? (i := 4) rfl)) rfl hK hP hD hS hA (fun _ => rfl) (by decide) (by decide) (Nat.le_of_ble_eq_true rfl) (Nat.le_of_ble_eq_true rfl) (Nat.le_of_ble_eq_true rfl) dX13_init_7 (fun q1 kq1 H hK hP hD hS => ?_)
  have hK : va_K (dC, dI) vwCl [(kq1, .int)] s := hK
  replace hP : va_P (dC, dI) vwCl [(h, .inr (14, mL (fun j => defaultValue (tyX13 j)))), (q1, .inl (kq1, 80, .inl (fun _ => (0 : Int32))))] H := hP
  replace hD : va_D A [(h, .inr (14, mL (fun j => defaultValue (tyX13 j)))), (q1, .inl (kq1, 80, .inl (fun _ => (0 : Int32))))] := hD
  refine W.widen (k := 1) (n := 80) (by omega) (by omega) ?_
  refine va_putF (D := (dC, dI)) (ci := 14) (v := .ref q1) (ty := .array .int) (C := RX13) (T := TX13) (N := 97) hx hb hts iw_m_init_X13 tyX13 tyX13_ok nmX13 hown hK hP hD hS 0 rfl rfl 2 (by decide) (hts (.fieldLink RX13 9 "UnlikeBoatsModel" "certBoat" "[I") (List.mem_of_getElem? (i := 5) rfl)) (fun _ h9 => h9) rfl hin rfl (by decide +kernel) rfl rfl (mL_lt (Nat.le_of_ble_eq_true rfl)) dX13_init_9 (fun H locs hP hD hS => ?_)
  have hP : va_P (dC, dI) vwCl [(h, .inr (14, (mL (fun j => defaultValue (tyX13 j))).set 2 (.ref q1))), (q1, .inl (kq1, 80, .inl (fun _ => (0 : Int32))))] H := hP
  have hD : va_D A [(h, .inr (14, (mL (fun j => defaultValue (tyX13 j))).set 2 (.ref q1))), (q1, .inl (kq1, 80, .inl (fun _ => (0 : Int32))))] := hD
  obtain ⟨g2, eg2⟩ : ∃ z9, z9 = va_up (fun j => defaultValue (tyX13 j)) 2 (.ref q1) := ⟨_, rfl⟩
  rw [mL_upd, ← eg2] at hP hD
  have hg2_0 : g2 0 = .int 0 := (congrFun eg2 0).trans ((va_up_ne _ _ (Nat.ne_of_beq_eq_false rfl)).trans rfl)
  have hg2_1 : g2 1 = .int 0 := (congrFun eg2 1).trans ((va_up_ne _ _ (Nat.ne_of_beq_eq_false rfl)).trans rfl)
  have hg2_8 : g2 8 = .int 0 := (congrFun eg2 8).trans ((va_up_ne _ _ (Nat.ne_of_beq_eq_false rfl)).trans rfl)
  have hg2_9 : g2 9 = .int 0 := (congrFun eg2 9).trans ((va_up_ne _ _ (Nat.ne_of_beq_eq_false rfl)).trans rfl)
  have hg2_16 : g2 16 = .int 0 := (congrFun eg2 16).trans ((va_up_ne _ _ (Nat.ne_of_beq_eq_false rfl)).trans rfl)
  have hg2_17 : g2 17 = .int 0 := (congrFun eg2 17).trans ((va_up_ne _ _ (Nat.ne_of_beq_eq_false rfl)).trans rfl)
  have hg2_46 : g2 46 = .int 0 := (congrFun eg2 46).trans ((va_up_ne _ _ (Nat.ne_of_beq_eq_false rfl)).trans rfl)
  have hg2_47 : g2 47 = .int 0 := (congrFun eg2 47).trans ((va_up_ne _ _ (Nat.ne_of_beq_eq_false rfl)).trans rfl)
  have hg2_48 : g2 48 = .int 0 := (congrFun eg2 48).trans ((va_up_ne _ _ (Nat.ne_of_beq_eq_false rfl)).trans rfl)
  have hg2_74 : g2 74 = .int 0 := (congrFun eg2 74).trans ((va_up_ne _ _ (Nat.ne_of_beq_eq_false rfl)).trans rfl)
  have hg2_75 : g2 75 = .int 0 := (congrFun eg2 75).trans ((va_up_ne _ _ (Nat.ne_of_beq_eq_false rfl)).trans rfl)
  have hg2_55 : g2 55 = .int 0 := (congrFun eg2 55).trans ((va_up_ne _ _ (Nat.ne_of_beq_eq_false rfl)).trans rfl)
  have hg2_2 : g2 2 = .ref q1 := by rw [eg2]; exact va_up_self _ _ _
  replace hP := hP.sub (ws' := [(h, .inr (14, mL g2))]) [0] rfl
  replace hD := hD.sub (ws' := [(h, .inr (14, mL g2))]) [0] (by decide) rfl
  refine lv_aload_n hx hb dX13_init_12 rfl (lv_at hl 0 rfl) ?_
  refine lv_bipush (v := 80) hx hb dX13_init_13 (by decide) ?_
  refine va_newa (atype := .int) (ty := .int) (N' := 80) (a0 := (80, .inl (fun _ => (0 : Int32)))) hx hb (hts (.arrayClass .int) (List.mem_of_getElem? (i := 4) rfl)) rfl hK hP hD hS hA (fun _ => rfl) (by decide) (by decide) (Nat.le_of_ble_eq_true rfl) (Nat.le_of_ble_eq_true rfl) (Nat.le_of_ble_eq_true rfl) dX13_init_15 (fun q3 kq3 H hK hP hD hS => ?_)
  have hK : va_K (dC, dI) vwCl [(kq1, .int), (kq3, .int)] s := hK
  replace hP : va_P (dC, dI) vwCl [(h, .inr (14, mL g2)), (q3, .inl (kq3, 80, .inl (fun _ => (0 : Int32))))] H := hP
  replace hD : va_D A [(h, .inr (14, mL g2)), (q3, .inl (kq3, 80, .inl (fun _ => (0 : Int32))))] := hD
  refine W.widen (k := 2) (n := 160) (by omega) (by omega) ?_
  obtain rfl : kq1 = kq3 := ub_sa_int hK 0 1 rfl rfl
  have hK := hK.sub (tys' := [(kq1, .int)]) [0] rfl
  refine va_putF (D := (dC, dI)) (ci := 14) (v := .ref q3) (ty := .array .int) (C := RX13) (T := TX13) (N := 97) hx hb hts iw_m_init_X13 tyX13 tyX13_ok nmX13 hown hK hP hD hS 0 rfl rfl 3 (by decide) (hts (.fieldLink RX13 13 "UnlikeBoatsModel" "certFrom" "[I") (List.mem_of_getElem? (i := 6) rfl)) (fun _ h9 => h9) rfl hin rfl (by decide +kernel) rfl rfl (mL_lt (Nat.le_of_ble_eq_true rfl)) dX13_init_17 (fun H locs hP hD hS => ?_)
  have hP : va_P (dC, dI) vwCl [(h, .inr (14, (mL g2).set 3 (.ref q3))), (q3, .inl (kq1, 80, .inl (fun _ => (0 : Int32))))] H := hP
  have hD : va_D A [(h, .inr (14, (mL g2).set 3 (.ref q3))), (q3, .inl (kq1, 80, .inl (fun _ => (0 : Int32))))] := hD
  obtain ⟨g4, eg4⟩ : ∃ z9, z9 = va_up g2 3 (.ref q3) := ⟨_, rfl⟩
  rw [mL_upd, ← eg4] at hP hD
  have hg4_0 : g4 0 = .int 0 := (congrFun eg4 0).trans ((va_up_ne _ _ (Nat.ne_of_beq_eq_false rfl)).trans hg2_0)
  have hg4_1 : g4 1 = .int 0 := (congrFun eg4 1).trans ((va_up_ne _ _ (Nat.ne_of_beq_eq_false rfl)).trans hg2_1)
  have hg4_8 : g4 8 = .int 0 := (congrFun eg4 8).trans ((va_up_ne _ _ (Nat.ne_of_beq_eq_false rfl)).trans hg2_8)
  have hg4_9 : g4 9 = .int 0 := (congrFun eg4 9).trans ((va_up_ne _ _ (Nat.ne_of_beq_eq_false rfl)).trans hg2_9)
  have hg4_16 : g4 16 = .int 0 := (congrFun eg4 16).trans ((va_up_ne _ _ (Nat.ne_of_beq_eq_false rfl)).trans hg2_16)
  have hg4_17 : g4 17 = .int 0 := (congrFun eg4 17).trans ((va_up_ne _ _ (Nat.ne_of_beq_eq_false rfl)).trans hg2_17)
  have hg4_46 : g4 46 = .int 0 := (congrFun eg4 46).trans ((va_up_ne _ _ (Nat.ne_of_beq_eq_false rfl)).trans hg2_46)
  have hg4_47 : g4 47 = .int 0 := (congrFun eg4 47).trans ((va_up_ne _ _ (Nat.ne_of_beq_eq_false rfl)).trans hg2_47)
  have hg4_48 : g4 48 = .int 0 := (congrFun eg4 48).trans ((va_up_ne _ _ (Nat.ne_of_beq_eq_false rfl)).trans hg2_48)
  have hg4_74 : g4 74 = .int 0 := (congrFun eg4 74).trans ((va_up_ne _ _ (Nat.ne_of_beq_eq_false rfl)).trans hg2_74)
  have hg4_75 : g4 75 = .int 0 := (congrFun eg4 75).trans ((va_up_ne _ _ (Nat.ne_of_beq_eq_false rfl)).trans hg2_75)
  have hg4_55 : g4 55 = .int 0 := (congrFun eg4 55).trans ((va_up_ne _ _ (Nat.ne_of_beq_eq_false rfl)).trans hg2_55)
  clear hg2_0 hg2_1 hg2_8 hg2_9 hg2_16 hg2_17 hg2_46 hg2_47 hg2_48 hg2_74 hg2_75 hg2_55
  have hg4_3 : g4 3 = .ref q3 := by rw [eg4]; exact va_up_self _ _ _
  replace hP := hP.sub (ws' := [(h, .inr (14, mL g4))]) [0] rfl
  replace hD := hD.sub (ws' := [(h, .inr (14, mL g4))]) [0] (by decide) rfl
  refine lv_aload_n hx hb dX13_init_20 rfl (lv_at hl 0 rfl) ?_
  refine lv_bipush (v := 80) hx hb dX13_init_21 (by decide) ?_
  refine va_newa (atype := .int) (ty := .int) (N' := 80) (a0 := (80, .inl (fun _ => (0 : Int32)))) hx hb (hts (.arrayClass .int) (List.mem_of_getElem? (i := 4) rfl)) rfl hK hP hD hS hA (fun _ => rfl) (by decide) (by decide) (Nat.le_of_ble_eq_true rfl) (Nat.le_of_ble_eq_true rfl) (Nat.le_of_ble_eq_true rfl) dX13_init_23 (fun q5 kq5 H hK hP hD hS => ?_)
  have hK : va_K (dC, dI) vwCl [(kq1, .int), (kq5, .int)] s := hK
  replace hP : va_P (dC, dI) vwCl [(h, .inr (14, mL g4)), (q5, .inl (kq5, 80, .inl (fun _ => (0 : Int32))))] H := hP
  replace hD : va_D A [(h, .inr (14, mL g4)), (q5, .inl (kq5, 80, .inl (fun _ => (0 : Int32))))] := hD
  refine W.widen (k := 3) (n := 240) (by omega) (by omega) ?_
  obtain rfl : kq1 = kq5 := ub_sa_int hK 0 1 rfl rfl
  have hK := hK.sub (tys' := [(kq1, .int)]) [0] rfl
  refine va_putF (D := (dC, dI)) (ci := 14) (v := .ref q5) (ty := .array .int) (C := RX13) (T := TX13) (N := 97) hx hb hts iw_m_init_X13 tyX13 tyX13_ok nmX13 hown hK hP hD hS 0 rfl rfl 4 (by decide) (hts (.fieldLink RX13 16 "UnlikeBoatsModel" "certLong" "[I") (List.mem_of_getElem? (i := 7) rfl)) (fun _ h9 => h9) rfl hin rfl (by decide +kernel) rfl rfl (mL_lt (Nat.le_of_ble_eq_true rfl)) dX13_init_25 (fun H locs hP hD hS => ?_)
  have hP : va_P (dC, dI) vwCl [(h, .inr (14, (mL g4).set 4 (.ref q5))), (q5, .inl (kq1, 80, .inl (fun _ => (0 : Int32))))] H := hP
  have hD : va_D A [(h, .inr (14, (mL g4).set 4 (.ref q5))), (q5, .inl (kq1, 80, .inl (fun _ => (0 : Int32))))] := hD
  obtain ⟨g6, eg6⟩ : ∃ z9, z9 = va_up g4 4 (.ref q5) := ⟨_, rfl⟩
  rw [mL_upd, ← eg6] at hP hD
  have hg6_0 : g6 0 = .int 0 := (congrFun eg6 0).trans ((va_up_ne _ _ (Nat.ne_of_beq_eq_false rfl)).trans hg4_0)
  have hg6_1 : g6 1 = .int 0 := (congrFun eg6 1).trans ((va_up_ne _ _ (Nat.ne_of_beq_eq_false rfl)).trans hg4_1)
  have hg6_8 : g6 8 = .int 0 := (congrFun eg6 8).trans ((va_up_ne _ _ (Nat.ne_of_beq_eq_false rfl)).trans hg4_8)
  have hg6_9 : g6 9 = .int 0 := (congrFun eg6 9).trans ((va_up_ne _ _ (Nat.ne_of_beq_eq_false rfl)).trans hg4_9)
  have hg6_16 : g6 16 = .int 0 := (congrFun eg6 16).trans ((va_up_ne _ _ (Nat.ne_of_beq_eq_false rfl)).trans hg4_16)
  have hg6_17 : g6 17 = .int 0 := (congrFun eg6 17).trans ((va_up_ne _ _ (Nat.ne_of_beq_eq_false rfl)).trans hg4_17)
  have hg6_46 : g6 46 = .int 0 := (congrFun eg6 46).trans ((va_up_ne _ _ (Nat.ne_of_beq_eq_false rfl)).trans hg4_46)
  have hg6_47 : g6 47 = .int 0 := (congrFun eg6 47).trans ((va_up_ne _ _ (Nat.ne_of_beq_eq_false rfl)).trans hg4_47)
  have hg6_48 : g6 48 = .int 0 := (congrFun eg6 48).trans ((va_up_ne _ _ (Nat.ne_of_beq_eq_false rfl)).trans hg4_48)
  have hg6_74 : g6 74 = .int 0 := (congrFun eg6 74).trans ((va_up_ne _ _ (Nat.ne_of_beq_eq_false rfl)).trans hg4_74)
  have hg6_75 : g6 75 = .int 0 := (congrFun eg6 75).trans ((va_up_ne _ _ (Nat.ne_of_beq_eq_false rfl)).trans hg4_75)
  have hg6_55 : g6 55 = .int 0 := (congrFun eg6 55).trans ((va_up_ne _ _ (Nat.ne_of_beq_eq_false rfl)).trans hg4_55)
  clear hg4_0 hg4_1 hg4_8 hg4_9 hg4_16 hg4_17 hg4_46 hg4_47 hg4_48 hg4_74 hg4_75 hg4_55
  have hg6_4 : g6 4 = .ref q5 := by rw [eg6]; exact va_up_self _ _ _
  replace hP := hP.sub (ws' := [(h, .inr (14, mL g6))]) [0] rfl
  replace hD := hD.sub (ws' := [(h, .inr (14, mL g6))]) [0] (by decide) rfl
  refine lv_aload_n hx hb dX13_init_28 rfl (lv_at hl 0 rfl) ?_
  refine lv_bipush (v := 80) hx hb dX13_init_29 (by decide) ?_
  refine va_newa (atype := .int) (ty := .int) (N' := 80) (a0 := (80, .inl (fun _ => (0 : Int32)))) hx hb (hts (.arrayClass .int) (List.mem_of_getElem? (i := 4) rfl)) rfl hK hP hD hS hA (fun _ => rfl) (by decide) (by decide) (Nat.le_of_ble_eq_true rfl) (Nat.le_of_ble_eq_true rfl) (Nat.le_of_ble_eq_true rfl) dX13_init_31 (fun q7 kq7 H hK hP hD hS => ?_)
  have hK : va_K (dC, dI) vwCl [(kq1, .int), (kq7, .int)] s := hK
  replace hP : va_P (dC, dI) vwCl [(h, .inr (14, mL g6)), (q7, .inl (kq7, 80, .inl (fun _ => (0 : Int32))))] H := hP
  replace hD : va_D A [(h, .inr (14, mL g6)), (q7, .inl (kq7, 80, .inl (fun _ => (0 : Int32))))] := hD
  refine W.widen (k := 4) (n := 320) (by omega) (by omega) ?_
  obtain rfl : kq1 = kq7 := ub_sa_int hK 0 1 rfl rfl
  have hK := hK.sub (tys' := [(kq1, .int)]) [0] rfl
  refine va_putF (D := (dC, dI)) (ci := 14) (v := .ref q7) (ty := .array .int) (C := RX13) (T := TX13) (N := 97) hx hb hts iw_m_init_X13 tyX13 tyX13_ok nmX13 hown hK hP hD hS 0 rfl rfl 5 (by decide) (hts (.fieldLink RX13 19 "UnlikeBoatsModel" "certArea" "[I") (List.mem_of_getElem? (i := 8) rfl)) (fun _ h9 => h9) rfl hin rfl (by decide +kernel) rfl rfl (mL_lt (Nat.le_of_ble_eq_true rfl)) dX13_init_33 (fun H locs hP hD hS => ?_)
  have hP : va_P (dC, dI) vwCl [(h, .inr (14, (mL g6).set 5 (.ref q7))), (q7, .inl (kq1, 80, .inl (fun _ => (0 : Int32))))] H := hP
  have hD : va_D A [(h, .inr (14, (mL g6).set 5 (.ref q7))), (q7, .inl (kq1, 80, .inl (fun _ => (0 : Int32))))] := hD
  obtain ⟨g8, eg8⟩ : ∃ z9, z9 = va_up g6 5 (.ref q7) := ⟨_, rfl⟩
  rw [mL_upd, ← eg8] at hP hD
  have hg8_0 : g8 0 = .int 0 := (congrFun eg8 0).trans ((va_up_ne _ _ (Nat.ne_of_beq_eq_false rfl)).trans hg6_0)
  have hg8_1 : g8 1 = .int 0 := (congrFun eg8 1).trans ((va_up_ne _ _ (Nat.ne_of_beq_eq_false rfl)).trans hg6_1)
  have hg8_8 : g8 8 = .int 0 := (congrFun eg8 8).trans ((va_up_ne _ _ (Nat.ne_of_beq_eq_false rfl)).trans hg6_8)
  have hg8_9 : g8 9 = .int 0 := (congrFun eg8 9).trans ((va_up_ne _ _ (Nat.ne_of_beq_eq_false rfl)).trans hg6_9)
  have hg8_16 : g8 16 = .int 0 := (congrFun eg8 16).trans ((va_up_ne _ _ (Nat.ne_of_beq_eq_false rfl)).trans hg6_16)
  have hg8_17 : g8 17 = .int 0 := (congrFun eg8 17).trans ((va_up_ne _ _ (Nat.ne_of_beq_eq_false rfl)).trans hg6_17)
  have hg8_46 : g8 46 = .int 0 := (congrFun eg8 46).trans ((va_up_ne _ _ (Nat.ne_of_beq_eq_false rfl)).trans hg6_46)
  have hg8_47 : g8 47 = .int 0 := (congrFun eg8 47).trans ((va_up_ne _ _ (Nat.ne_of_beq_eq_false rfl)).trans hg6_47)
  have hg8_48 : g8 48 = .int 0 := (congrFun eg8 48).trans ((va_up_ne _ _ (Nat.ne_of_beq_eq_false rfl)).trans hg6_48)
  have hg8_74 : g8 74 = .int 0 := (congrFun eg8 74).trans ((va_up_ne _ _ (Nat.ne_of_beq_eq_false rfl)).trans hg6_74)
  have hg8_75 : g8 75 = .int 0 := (congrFun eg8 75).trans ((va_up_ne _ _ (Nat.ne_of_beq_eq_false rfl)).trans hg6_75)
  have hg8_55 : g8 55 = .int 0 := (congrFun eg8 55).trans ((va_up_ne _ _ (Nat.ne_of_beq_eq_false rfl)).trans hg6_55)
  clear hg6_0 hg6_1 hg6_8 hg6_9 hg6_16 hg6_17 hg6_46 hg6_47 hg6_48 hg6_74 hg6_75 hg6_55
  have hg8_5 : g8 5 = .ref q7 := by rw [eg8]; exact va_up_self _ _ _
  replace hP := hP.sub (ws' := [(h, .inr (14, mL g8))]) [0] rfl
  replace hD := hD.sub (ws' := [(h, .inr (14, mL g8))]) [0] (by decide) rfl
  refine lv_aload_n hx hb dX13_init_36 rfl (lv_at hl 0 rfl) ?_
  refine lv_bipush (v := 80) hx hb dX13_init_37 (by decide) ?_
  refine va_newa (atype := .int) (ty := .int) (N' := 80) (a0 := (80, .inl (fun _ => (0 : Int32)))) hx hb (hts (.arrayClass .int) (List.mem_of_getElem? (i := 4) rfl)) rfl hK hP hD hS hA (fun _ => rfl) (by decide) (by decide) (Nat.le_of_ble_eq_true rfl) (Nat.le_of_ble_eq_true rfl) (Nat.le_of_ble_eq_true rfl) dX13_init_39 (fun q9 kq9 H hK hP hD hS => ?_)
  have hK : va_K (dC, dI) vwCl [(kq1, .int), (kq9, .int)] s := hK
  replace hP : va_P (dC, dI) vwCl [(h, .inr (14, mL g8)), (q9, .inl (kq9, 80, .inl (fun _ => (0 : Int32))))] H := hP
  replace hD : va_D A [(h, .inr (14, mL g8)), (q9, .inl (kq9, 80, .inl (fun _ => (0 : Int32))))] := hD
  refine W.widen (k := 5) (n := 400) (by omega) (by omega) ?_
  obtain rfl : kq1 = kq9 := ub_sa_int hK 0 1 rfl rfl
  have hK := hK.sub (tys' := [(kq1, .int)]) [0] rfl
  refine va_putF (D := (dC, dI)) (ci := 14) (v := .ref q9) (ty := .array .int) (C := RX13) (T := TX13) (N := 97) hx hb hts iw_m_init_X13 tyX13 tyX13_ok nmX13 hown hK hP hD hS 0 rfl rfl 6 (by decide) (hts (.fieldLink RX13 22 "UnlikeBoatsModel" "certWeight" "[I") (List.mem_of_getElem? (i := 9) rfl)) (fun _ h9 => h9) rfl hin rfl (by decide +kernel) rfl rfl (mL_lt (Nat.le_of_ble_eq_true rfl)) dX13_init_41 (fun H locs hP hD hS => ?_)
  have hP : va_P (dC, dI) vwCl [(h, .inr (14, (mL g8).set 6 (.ref q9))), (q9, .inl (kq1, 80, .inl (fun _ => (0 : Int32))))] H := hP
  have hD : va_D A [(h, .inr (14, (mL g8).set 6 (.ref q9))), (q9, .inl (kq1, 80, .inl (fun _ => (0 : Int32))))] := hD
  obtain ⟨g10, eg10⟩ : ∃ z9, z9 = va_up g8 6 (.ref q9) := ⟨_, rfl⟩
  rw [mL_upd, ← eg10] at hP hD
  have hg10_0 : g10 0 = .int 0 := (congrFun eg10 0).trans ((va_up_ne _ _ (Nat.ne_of_beq_eq_false rfl)).trans hg8_0)
  have hg10_1 : g10 1 = .int 0 := (congrFun eg10 1).trans ((va_up_ne _ _ (Nat.ne_of_beq_eq_false rfl)).trans hg8_1)
  have hg10_8 : g10 8 = .int 0 := (congrFun eg10 8).trans ((va_up_ne _ _ (Nat.ne_of_beq_eq_false rfl)).trans hg8_8)
  have hg10_9 : g10 9 = .int 0 := (congrFun eg10 9).trans ((va_up_ne _ _ (Nat.ne_of_beq_eq_false rfl)).trans hg8_9)
  have hg10_16 : g10 16 = .int 0 := (congrFun eg10 16).trans ((va_up_ne _ _ (Nat.ne_of_beq_eq_false rfl)).trans hg8_16)
  have hg10_17 : g10 17 = .int 0 := (congrFun eg10 17).trans ((va_up_ne _ _ (Nat.ne_of_beq_eq_false rfl)).trans hg8_17)
  have hg10_46 : g10 46 = .int 0 := (congrFun eg10 46).trans ((va_up_ne _ _ (Nat.ne_of_beq_eq_false rfl)).trans hg8_46)
  have hg10_47 : g10 47 = .int 0 := (congrFun eg10 47).trans ((va_up_ne _ _ (Nat.ne_of_beq_eq_false rfl)).trans hg8_47)
  have hg10_48 : g10 48 = .int 0 := (congrFun eg10 48).trans ((va_up_ne _ _ (Nat.ne_of_beq_eq_false rfl)).trans hg8_48)
  have hg10_74 : g10 74 = .int 0 := (congrFun eg10 74).trans ((va_up_ne _ _ (Nat.ne_of_beq_eq_false rfl)).trans hg8_74)
  have hg10_75 : g10 75 = .int 0 := (congrFun eg10 75).trans ((va_up_ne _ _ (Nat.ne_of_beq_eq_false rfl)).trans hg8_75)
  have hg10_55 : g10 55 = .int 0 := (congrFun eg10 55).trans ((va_up_ne _ _ (Nat.ne_of_beq_eq_false rfl)).trans hg8_55)
  clear hg8_0 hg8_1 hg8_8 hg8_9 hg8_16 hg8_17 hg8_46 hg8_47 hg8_48 hg8_74 hg8_75 hg8_55
  have hg10_6 : g10 6 = .ref q9 := by rw [eg10]; exact va_up_self _ _ _
  replace hP := hP.sub (ws' := [(h, .inr (14, mL g10))]) [0] rfl
  replace hD := hD.sub (ws' := [(h, .inr (14, mL g10))]) [0] (by decide) rfl
  refine lv_aload_n hx hb dX13_init_44 rfl (lv_at hl 0 rfl) ?_
  refine lv_bipush (v := 80) hx hb dX13_init_45 (by decide) ?_
  refine va_newa (atype := .int) (ty := .int) (N' := 80) (a0 := (80, .inl (fun _ => (0 : Int32)))) hx hb (hts (.arrayClass .int) (List.mem_of_getElem? (i := 4) rfl)) rfl hK hP hD hS hA (fun _ => rfl) (by decide) (by decide) (Nat.le_of_ble_eq_true rfl) (Nat.le_of_ble_eq_true rfl) (Nat.le_of_ble_eq_true rfl) dX13_init_47 (fun q11 kq11 H hK hP hD hS => ?_)
  have hK : va_K (dC, dI) vwCl [(kq1, .int), (kq11, .int)] s := hK
  replace hP : va_P (dC, dI) vwCl [(h, .inr (14, mL g10)), (q11, .inl (kq11, 80, .inl (fun _ => (0 : Int32))))] H := hP
  replace hD : va_D A [(h, .inr (14, mL g10)), (q11, .inl (kq11, 80, .inl (fun _ => (0 : Int32))))] := hD
  refine W.widen (k := 6) (n := 480) (by omega) (by omega) ?_
  obtain rfl : kq1 = kq11 := ub_sa_int hK 0 1 rfl rfl
  have hK := hK.sub (tys' := [(kq1, .int)]) [0] rfl
  refine va_putF (D := (dC, dI)) (ci := 14) (v := .ref q11) (ty := .array .int) (C := RX13) (T := TX13) (N := 97) hx hb hts iw_m_init_X13 tyX13 tyX13_ok nmX13 hown hK hP hD hS 0 rfl rfl 7 (by decide) (hts (.fieldLink RX13 25 "UnlikeBoatsModel" "certTold" "[I") (List.mem_of_getElem? (i := 10) rfl)) (fun _ h9 => h9) rfl hin rfl (by decide +kernel) rfl rfl (mL_lt (Nat.le_of_ble_eq_true rfl)) dX13_init_49 (fun H locs hP hD hS => ?_)
  have hP : va_P (dC, dI) vwCl [(h, .inr (14, (mL g10).set 7 (.ref q11))), (q11, .inl (kq1, 80, .inl (fun _ => (0 : Int32))))] H := hP
  have hD : va_D A [(h, .inr (14, (mL g10).set 7 (.ref q11))), (q11, .inl (kq1, 80, .inl (fun _ => (0 : Int32))))] := hD
  obtain ⟨g12, eg12⟩ : ∃ z9, z9 = va_up g10 7 (.ref q11) := ⟨_, rfl⟩
  rw [mL_upd, ← eg12] at hP hD
  have hg12_0 : g12 0 = .int 0 := (congrFun eg12 0).trans ((va_up_ne _ _ (Nat.ne_of_beq_eq_false rfl)).trans hg10_0)
  have hg12_1 : g12 1 = .int 0 := (congrFun eg12 1).trans ((va_up_ne _ _ (Nat.ne_of_beq_eq_false rfl)).trans hg10_1)
  have hg12_8 : g12 8 = .int 0 := (congrFun eg12 8).trans ((va_up_ne _ _ (Nat.ne_of_beq_eq_false rfl)).trans hg10_8)
  have hg12_9 : g12 9 = .int 0 := (congrFun eg12 9).trans ((va_up_ne _ _ (Nat.ne_of_beq_eq_false rfl)).trans hg10_9)
  have hg12_16 : g12 16 = .int 0 := (congrFun eg12 16).trans ((va_up_ne _ _ (Nat.ne_of_beq_eq_false rfl)).trans hg10_16)
  have hg12_17 : g12 17 = .int 0 := (congrFun eg12 17).trans ((va_up_ne _ _ (Nat.ne_of_beq_eq_false rfl)).trans hg10_17)
  have hg12_46 : g12 46 = .int 0 := (congrFun eg12 46).trans ((va_up_ne _ _ (Nat.ne_of_beq_eq_false rfl)).trans hg10_46)
  have hg12_47 : g12 47 = .int 0 := (congrFun eg12 47).trans ((va_up_ne _ _ (Nat.ne_of_beq_eq_false rfl)).trans hg10_47)
  have hg12_48 : g12 48 = .int 0 := (congrFun eg12 48).trans ((va_up_ne _ _ (Nat.ne_of_beq_eq_false rfl)).trans hg10_48)
  have hg12_74 : g12 74 = .int 0 := (congrFun eg12 74).trans ((va_up_ne _ _ (Nat.ne_of_beq_eq_false rfl)).trans hg10_74)
  have hg12_75 : g12 75 = .int 0 := (congrFun eg12 75).trans ((va_up_ne _ _ (Nat.ne_of_beq_eq_false rfl)).trans hg10_75)
  have hg12_55 : g12 55 = .int 0 := (congrFun eg12 55).trans ((va_up_ne _ _ (Nat.ne_of_beq_eq_false rfl)).trans hg10_55)
  clear hg10_0 hg10_1 hg10_8 hg10_9 hg10_16 hg10_17 hg10_46 hg10_47 hg10_48 hg10_74 hg10_75 hg10_55
  have hg12_7 : g12 7 = .ref q11 := by rw [eg12]; exact va_up_self _ _ _
  replace hP := hP.sub (ws' := [(h, .inr (14, mL g12))]) [0] rfl
  replace hD := hD.sub (ws' := [(h, .inr (14, mL g12))]) [0] (by decide) rfl
  refine lv_aload_n hx hb dX13_init_52 rfl (lv_at hl 0 rfl) ?_
  refine lv_sipush (v := 200) hx hb dX13_init_53 (by decide) ?_
  refine va_newa (atype := .byte) (ty := .byte) (N' := 200) (a0 := (200, .inl (fun _ => (0 : Int32)))) hx hb (hts (.arrayClass .byte) (List.mem_of_getElem? (i := 11) rfl)) rfl hK hP hD hS hA (fun _ => rfl) (by decide) (by decide) (Nat.le_of_ble_eq_true rfl) (Nat.le_of_ble_eq_true rfl) (Nat.le_of_ble_eq_true rfl) dX13_init_56 (fun q13 kq13 H hK hP hD hS => ?_)
  have hK : va_K (dC, dI) vwCl [(kq1, .int), (kq13, .byte)] s := hK
  replace hP : va_P (dC, dI) vwCl [(h, .inr (14, mL g12)), (q13, .inl (kq13, 200, .inl (fun _ => (0 : Int32))))] H := hP
  replace hD : va_D A [(h, .inr (14, mL g12)), (q13, .inl (kq13, 200, .inl (fun _ => (0 : Int32))))] := hD
  refine W.widen (k := 7) (n := 680) (by omega) (by omega) ?_
  refine va_putF (D := (dC, dI)) (ci := 14) (v := .ref q13) (ty := .array .byte) (C := RX13) (T := TX13) (N := 97) hx hb hts iw_m_init_X13 tyX13 tyX13_ok nmX13 hown hK hP hD hS 0 rfl rfl 10 (by decide) (hts (.fieldLink RX13 28 "UnlikeBoatsModel" "tape" "[B") (List.mem_of_getElem? (i := 12) rfl)) (fun _ h9 => h9) rfl hin rfl (by decide +kernel) rfl rfl (mL_lt (Nat.le_of_ble_eq_true rfl)) dX13_init_58 (fun H locs hP hD hS => ?_)
  have hP : va_P (dC, dI) vwCl [(h, .inr (14, (mL g12).set 10 (.ref q13))), (q13, .inl (kq13, 200, .inl (fun _ => (0 : Int32))))] H := hP
  have hD : va_D A [(h, .inr (14, (mL g12).set 10 (.ref q13))), (q13, .inl (kq13, 200, .inl (fun _ => (0 : Int32))))] := hD
  obtain ⟨g14, eg14⟩ : ∃ z9, z9 = va_up g12 10 (.ref q13) := ⟨_, rfl⟩
  rw [mL_upd, ← eg14] at hP hD
  have hg14_0 : g14 0 = .int 0 := (congrFun eg14 0).trans ((va_up_ne _ _ (Nat.ne_of_beq_eq_false rfl)).trans hg12_0)
  have hg14_1 : g14 1 = .int 0 := (congrFun eg14 1).trans ((va_up_ne _ _ (Nat.ne_of_beq_eq_false rfl)).trans hg12_1)
  have hg14_8 : g14 8 = .int 0 := (congrFun eg14 8).trans ((va_up_ne _ _ (Nat.ne_of_beq_eq_false rfl)).trans hg12_8)
  have hg14_9 : g14 9 = .int 0 := (congrFun eg14 9).trans ((va_up_ne _ _ (Nat.ne_of_beq_eq_false rfl)).trans hg12_9)
  have hg14_16 : g14 16 = .int 0 := (congrFun eg14 16).trans ((va_up_ne _ _ (Nat.ne_of_beq_eq_false rfl)).trans hg12_16)
  have hg14_17 : g14 17 = .int 0 := (congrFun eg14 17).trans ((va_up_ne _ _ (Nat.ne_of_beq_eq_false rfl)).trans hg12_17)
  have hg14_46 : g14 46 = .int 0 := (congrFun eg14 46).trans ((va_up_ne _ _ (Nat.ne_of_beq_eq_false rfl)).trans hg12_46)
  have hg14_47 : g14 47 = .int 0 := (congrFun eg14 47).trans ((va_up_ne _ _ (Nat.ne_of_beq_eq_false rfl)).trans hg12_47)
  have hg14_48 : g14 48 = .int 0 := (congrFun eg14 48).trans ((va_up_ne _ _ (Nat.ne_of_beq_eq_false rfl)).trans hg12_48)
  have hg14_74 : g14 74 = .int 0 := (congrFun eg14 74).trans ((va_up_ne _ _ (Nat.ne_of_beq_eq_false rfl)).trans hg12_74)
  have hg14_75 : g14 75 = .int 0 := (congrFun eg14 75).trans ((va_up_ne _ _ (Nat.ne_of_beq_eq_false rfl)).trans hg12_75)
  have hg14_55 : g14 55 = .int 0 := (congrFun eg14 55).trans ((va_up_ne _ _ (Nat.ne_of_beq_eq_false rfl)).trans hg12_55)
  clear hg12_0 hg12_1 hg12_8 hg12_9 hg12_16 hg12_17 hg12_46 hg12_47 hg12_48 hg12_74 hg12_75 hg12_55
  have hg14_10 : g14 10 = .ref q13 := by rw [eg14]; exact va_up_self _ _ _
  refine lv_aload_n hx hb dX13_init_61 rfl (lv_at hl 0 rfl) ?_
  refine lv_sipush (v := 3200) hx hb dX13_init_62 (by decide) ?_
  refine va_newa (atype := .byte) (ty := .byte) (N' := 3200) (a0 := (3200, .inl (fun _ => (0 : Int32)))) hx hb (hts (.arrayClass .byte) (List.mem_of_getElem? (i := 11) rfl)) rfl hK hP hD hS hA (fun _ => rfl) (by decide) (by decide) (Nat.le_of_ble_eq_true rfl) (Nat.le_of_ble_eq_true rfl) (Nat.le_of_ble_eq_true rfl) dX13_init_65 (fun q15 kq15 H hK hP hD hS => ?_)
  have hK : va_K (dC, dI) vwCl [(kq1, .int), (kq13, .byte), (kq15, .byte)] s := hK
  replace hP : va_P (dC, dI) vwCl [(h, .inr (14, mL g14)), (q13, .inl (kq13, 200, .inl (fun _ => (0 : Int32)))), (q15, .inl (kq15, 3200, .inl (fun _ => (0 : Int32))))] H := hP
  replace hD : va_D A [(h, .inr (14, mL g14)), (q13, .inl (kq13, 200, .inl (fun _ => (0 : Int32)))), (q15, .inl (kq15, 3200, .inl (fun _ => (0 : Int32))))] := hD
  refine W.widen (k := 8) (n := 3880) (by omega) (by omega) ?_
  obtain rfl : kq13 = kq15 := ub_sa_byte hK 1 2 rfl rfl
  have hK := hK.sub (tys' := [(kq1, .int), (kq13, .byte)]) [0, 1] rfl
  refine va_putF (D := (dC, dI)) (ci := 14) (v := .ref q15) (ty := .array .byte) (C := RX13) (T := TX13) (N := 97) hx hb hts iw_m_init_X13 tyX13 tyX13_ok nmX13 hown hK hP hD hS 0 rfl rfl 11 (by decide) (hts (.fieldLink RX13 32 "UnlikeBoatsModel" "ruleText" "[B") (List.mem_of_getElem? (i := 13) rfl)) (fun _ h9 => h9) rfl hin rfl (by decide +kernel) rfl rfl (mL_lt (Nat.le_of_ble_eq_true rfl)) dX13_init_67 (fun H locs hP hD hS => ?_)
  have hP : va_P (dC, dI) vwCl [(h, .inr (14, (mL g14).set 11 (.ref q15))), (q13, .inl (kq13, 200, .inl (fun _ => (0 : Int32)))), (q15, .inl (kq13, 3200, .inl (fun _ => (0 : Int32))))] H := hP
  have hD : va_D A [(h, .inr (14, (mL g14).set 11 (.ref q15))), (q13, .inl (kq13, 200, .inl (fun _ => (0 : Int32)))), (q15, .inl (kq13, 3200, .inl (fun _ => (0 : Int32))))] := hD
  obtain ⟨g16, eg16⟩ : ∃ z9, z9 = va_up g14 11 (.ref q15) := ⟨_, rfl⟩
  rw [mL_upd, ← eg16] at hP hD
  have hg16_0 : g16 0 = .int 0 := (congrFun eg16 0).trans ((va_up_ne _ _ (Nat.ne_of_beq_eq_false rfl)).trans hg14_0)
  have hg16_1 : g16 1 = .int 0 := (congrFun eg16 1).trans ((va_up_ne _ _ (Nat.ne_of_beq_eq_false rfl)).trans hg14_1)
  have hg16_8 : g16 8 = .int 0 := (congrFun eg16 8).trans ((va_up_ne _ _ (Nat.ne_of_beq_eq_false rfl)).trans hg14_8)
  have hg16_9 : g16 9 = .int 0 := (congrFun eg16 9).trans ((va_up_ne _ _ (Nat.ne_of_beq_eq_false rfl)).trans hg14_9)
  have hg16_16 : g16 16 = .int 0 := (congrFun eg16 16).trans ((va_up_ne _ _ (Nat.ne_of_beq_eq_false rfl)).trans hg14_16)
  have hg16_17 : g16 17 = .int 0 := (congrFun eg16 17).trans ((va_up_ne _ _ (Nat.ne_of_beq_eq_false rfl)).trans hg14_17)
  have hg16_46 : g16 46 = .int 0 := (congrFun eg16 46).trans ((va_up_ne _ _ (Nat.ne_of_beq_eq_false rfl)).trans hg14_46)
  have hg16_47 : g16 47 = .int 0 := (congrFun eg16 47).trans ((va_up_ne _ _ (Nat.ne_of_beq_eq_false rfl)).trans hg14_47)
  have hg16_48 : g16 48 = .int 0 := (congrFun eg16 48).trans ((va_up_ne _ _ (Nat.ne_of_beq_eq_false rfl)).trans hg14_48)
  have hg16_74 : g16 74 = .int 0 := (congrFun eg16 74).trans ((va_up_ne _ _ (Nat.ne_of_beq_eq_false rfl)).trans hg14_74)
  have hg16_75 : g16 75 = .int 0 := (congrFun eg16 75).trans ((va_up_ne _ _ (Nat.ne_of_beq_eq_false rfl)).trans hg14_75)
  have hg16_55 : g16 55 = .int 0 := (congrFun eg16 55).trans ((va_up_ne _ _ (Nat.ne_of_beq_eq_false rfl)).trans hg14_55)
  have hg16_10 : g16 10 = .ref q13 := (congrFun eg16 10).trans ((va_up_ne _ _ (Nat.ne_of_beq_eq_false rfl)).trans hg14_10)
  clear hg14_0 hg14_1 hg14_8 hg14_9 hg14_16 hg14_17 hg14_46 hg14_47 hg14_48 hg14_74 hg14_75 hg14_55 hg14_10
  have hg16_11 : g16 11 = .ref q15 := by rw [eg16]; exact va_up_self _ _ _
  replace hP := hP.sub (ws' := [(h, .inr (14, mL g16)), (q13, .inl (kq13, 200, .inl (fun _ => (0 : Int32))))]) [0, 1] rfl
  replace hD := hD.sub (ws' := [(h, .inr (14, mL g16)), (q13, .inl (kq13, 200, .inl (fun _ => (0 : Int32))))]) [0, 1] (by decide) rfl
  refine lv_aload_n hx hb dX13_init_70 rfl (lv_at hl 0 rfl) ?_
  refine lv_bipush (v := 16) hx hb dX13_init_71 (by decide) ?_
  refine va_newa (atype := .int) (ty := .int) (N' := 16) (a0 := (16, .inl (fun _ => (0 : Int32)))) hx hb (hts (.arrayClass .int) (List.mem_of_getElem? (i := 4) rfl)) rfl hK hP hD hS hA (fun _ => rfl) (by decide) (by decide) (Nat.le_of_ble_eq_true rfl) (Nat.le_of_ble_eq_true rfl) (Nat.le_of_ble_eq_true rfl) dX13_init_73 (fun q17 kq17 H hK hP hD hS => ?_)
  have hK : va_K (dC, dI) vwCl [(kq1, .int), (kq13, .byte), (kq17, .int)] s := hK
  replace hP : va_P (dC, dI) vwCl [(h, .inr (14, mL g16)), (q13, .inl (kq13, 200, .inl (fun _ => (0 : Int32)))), (q17, .inl (kq17, 16, .inl (fun _ => (0 : Int32))))] H := hP
  replace hD : va_D A [(h, .inr (14, mL g16)), (q13, .inl (kq13, 200, .inl (fun _ => (0 : Int32)))), (q17, .inl (kq17, 16, .inl (fun _ => (0 : Int32))))] := hD
  refine W.widen (k := 9) (n := 3896) (by omega) (by omega) ?_
  obtain rfl : kq1 = kq17 := ub_sa_int hK 0 2 rfl rfl
  have hK := hK.sub (tys' := [(kq1, .int), (kq13, .byte)]) [0, 1] rfl
  refine va_putF (D := (dC, dI)) (ci := 14) (v := .ref q17) (ty := .array .int) (C := RX13) (T := TX13) (N := 97) hx hb hts iw_m_init_X13 tyX13 tyX13_ok nmX13 hown hK hP hD hS 0 rfl rfl 12 (by decide) (hts (.fieldLink RX13 35 "UnlikeBoatsModel" "ruleLong" "[I") (List.mem_of_getElem? (i := 14) rfl)) (fun _ h9 => h9) rfl hin rfl (by decide +kernel) rfl rfl (mL_lt (Nat.le_of_ble_eq_true rfl)) dX13_init_75 (fun H locs hP hD hS => ?_)
  have hP : va_P (dC, dI) vwCl [(h, .inr (14, (mL g16).set 12 (.ref q17))), (q13, .inl (kq13, 200, .inl (fun _ => (0 : Int32)))), (q17, .inl (kq1, 16, .inl (fun _ => (0 : Int32))))] H := hP
  have hD : va_D A [(h, .inr (14, (mL g16).set 12 (.ref q17))), (q13, .inl (kq13, 200, .inl (fun _ => (0 : Int32)))), (q17, .inl (kq1, 16, .inl (fun _ => (0 : Int32))))] := hD
  obtain ⟨g18, eg18⟩ : ∃ z9, z9 = va_up g16 12 (.ref q17) := ⟨_, rfl⟩
  rw [mL_upd, ← eg18] at hP hD
  have hg18_0 : g18 0 = .int 0 := (congrFun eg18 0).trans ((va_up_ne _ _ (Nat.ne_of_beq_eq_false rfl)).trans hg16_0)
  have hg18_1 : g18 1 = .int 0 := (congrFun eg18 1).trans ((va_up_ne _ _ (Nat.ne_of_beq_eq_false rfl)).trans hg16_1)
  have hg18_8 : g18 8 = .int 0 := (congrFun eg18 8).trans ((va_up_ne _ _ (Nat.ne_of_beq_eq_false rfl)).trans hg16_8)
  have hg18_9 : g18 9 = .int 0 := (congrFun eg18 9).trans ((va_up_ne _ _ (Nat.ne_of_beq_eq_false rfl)).trans hg16_9)
  have hg18_16 : g18 16 = .int 0 := (congrFun eg18 16).trans ((va_up_ne _ _ (Nat.ne_of_beq_eq_false rfl)).trans hg16_16)
  have hg18_17 : g18 17 = .int 0 := (congrFun eg18 17).trans ((va_up_ne _ _ (Nat.ne_of_beq_eq_false rfl)).trans hg16_17)
  have hg18_46 : g18 46 = .int 0 := (congrFun eg18 46).trans ((va_up_ne _ _ (Nat.ne_of_beq_eq_false rfl)).trans hg16_46)
  have hg18_47 : g18 47 = .int 0 := (congrFun eg18 47).trans ((va_up_ne _ _ (Nat.ne_of_beq_eq_false rfl)).trans hg16_47)
  have hg18_48 : g18 48 = .int 0 := (congrFun eg18 48).trans ((va_up_ne _ _ (Nat.ne_of_beq_eq_false rfl)).trans hg16_48)
  have hg18_74 : g18 74 = .int 0 := (congrFun eg18 74).trans ((va_up_ne _ _ (Nat.ne_of_beq_eq_false rfl)).trans hg16_74)
  have hg18_75 : g18 75 = .int 0 := (congrFun eg18 75).trans ((va_up_ne _ _ (Nat.ne_of_beq_eq_false rfl)).trans hg16_75)
  have hg18_55 : g18 55 = .int 0 := (congrFun eg18 55).trans ((va_up_ne _ _ (Nat.ne_of_beq_eq_false rfl)).trans hg16_55)
  have hg18_10 : g18 10 = .ref q13 := (congrFun eg18 10).trans ((va_up_ne _ _ (Nat.ne_of_beq_eq_false rfl)).trans hg16_10)
  clear hg16_0 hg16_1 hg16_8 hg16_9 hg16_16 hg16_17 hg16_46 hg16_47 hg16_48 hg16_74 hg16_75 hg16_55 hg16_10
  have hg18_12 : g18 12 = .ref q17 := by rw [eg18]; exact va_up_self _ _ _
  replace hP := hP.sub (ws' := [(h, .inr (14, mL g18)), (q13, .inl (kq13, 200, .inl (fun _ => (0 : Int32))))]) [0, 1] rfl
  replace hD := hD.sub (ws' := [(h, .inr (14, mL g18)), (q13, .inl (kq13, 200, .inl (fun _ => (0 : Int32))))]) [0, 1] (by decide) rfl
  refine lv_aload_n hx hb dX13_init_78 rfl (lv_at hl 0 rfl) ?_
  refine lv_bipush (v := 16) hx hb dX13_init_79 (by decide) ?_
  refine va_newa (atype := .int) (ty := .int) (N' := 16) (a0 := (16, .inl (fun _ => (0 : Int32)))) hx hb (hts (.arrayClass .int) (List.mem_of_getElem? (i := 4) rfl)) rfl hK hP hD hS hA (fun _ => rfl) (by decide) (by decide) (Nat.le_of_ble_eq_true rfl) (Nat.le_of_ble_eq_true rfl) (Nat.le_of_ble_eq_true rfl) dX13_init_81 (fun q19 kq19 H hK hP hD hS => ?_)
  have hK : va_K (dC, dI) vwCl [(kq1, .int), (kq13, .byte), (kq19, .int)] s := hK
  replace hP : va_P (dC, dI) vwCl [(h, .inr (14, mL g18)), (q13, .inl (kq13, 200, .inl (fun _ => (0 : Int32)))), (q19, .inl (kq19, 16, .inl (fun _ => (0 : Int32))))] H := hP
  replace hD : va_D A [(h, .inr (14, mL g18)), (q13, .inl (kq13, 200, .inl (fun _ => (0 : Int32)))), (q19, .inl (kq19, 16, .inl (fun _ => (0 : Int32))))] := hD
  refine W.widen (k := 10) (n := 3912) (by omega) (by omega) ?_
  obtain rfl : kq1 = kq19 := ub_sa_int hK 0 2 rfl rfl
  have hK := hK.sub (tys' := [(kq1, .int), (kq13, .byte)]) [0, 1] rfl
  refine va_putF (D := (dC, dI)) (ci := 14) (v := .ref q19) (ty := .array .int) (C := RX13) (T := TX13) (N := 97) hx hb hts iw_m_init_X13 tyX13 tyX13_ok nmX13 hown hK hP hD hS 0 rfl rfl 13 (by decide) (hts (.fieldLink RX13 38 "UnlikeBoatsModel" "ruleFrom" "[I") (List.mem_of_getElem? (i := 15) rfl)) (fun _ h9 => h9) rfl hin rfl (by decide +kernel) rfl rfl (mL_lt (Nat.le_of_ble_eq_true rfl)) dX13_init_83 (fun H locs hP hD hS => ?_)
  have hP : va_P (dC, dI) vwCl [(h, .inr (14, (mL g18).set 13 (.ref q19))), (q13, .inl (kq13, 200, .inl (fun _ => (0 : Int32)))), (q19, .inl (kq1, 16, .inl (fun _ => (0 : Int32))))] H := hP
  have hD : va_D A [(h, .inr (14, (mL g18).set 13 (.ref q19))), (q13, .inl (kq13, 200, .inl (fun _ => (0 : Int32)))), (q19, .inl (kq1, 16, .inl (fun _ => (0 : Int32))))] := hD
  obtain ⟨g20, eg20⟩ : ∃ z9, z9 = va_up g18 13 (.ref q19) := ⟨_, rfl⟩
  rw [mL_upd, ← eg20] at hP hD
  have hg20_0 : g20 0 = .int 0 := (congrFun eg20 0).trans ((va_up_ne _ _ (Nat.ne_of_beq_eq_false rfl)).trans hg18_0)
  have hg20_1 : g20 1 = .int 0 := (congrFun eg20 1).trans ((va_up_ne _ _ (Nat.ne_of_beq_eq_false rfl)).trans hg18_1)
  have hg20_8 : g20 8 = .int 0 := (congrFun eg20 8).trans ((va_up_ne _ _ (Nat.ne_of_beq_eq_false rfl)).trans hg18_8)
  have hg20_9 : g20 9 = .int 0 := (congrFun eg20 9).trans ((va_up_ne _ _ (Nat.ne_of_beq_eq_false rfl)).trans hg18_9)
  have hg20_16 : g20 16 = .int 0 := (congrFun eg20 16).trans ((va_up_ne _ _ (Nat.ne_of_beq_eq_false rfl)).trans hg18_16)
  have hg20_17 : g20 17 = .int 0 := (congrFun eg20 17).trans ((va_up_ne _ _ (Nat.ne_of_beq_eq_false rfl)).trans hg18_17)
  have hg20_46 : g20 46 = .int 0 := (congrFun eg20 46).trans ((va_up_ne _ _ (Nat.ne_of_beq_eq_false rfl)).trans hg18_46)
  have hg20_47 : g20 47 = .int 0 := (congrFun eg20 47).trans ((va_up_ne _ _ (Nat.ne_of_beq_eq_false rfl)).trans hg18_47)
  have hg20_48 : g20 48 = .int 0 := (congrFun eg20 48).trans ((va_up_ne _ _ (Nat.ne_of_beq_eq_false rfl)).trans hg18_48)
  have hg20_74 : g20 74 = .int 0 := (congrFun eg20 74).trans ((va_up_ne _ _ (Nat.ne_of_beq_eq_false rfl)).trans hg18_74)
  have hg20_75 : g20 75 = .int 0 := (congrFun eg20 75).trans ((va_up_ne _ _ (Nat.ne_of_beq_eq_false rfl)).trans hg18_75)
  have hg20_55 : g20 55 = .int 0 := (congrFun eg20 55).trans ((va_up_ne _ _ (Nat.ne_of_beq_eq_false rfl)).trans hg18_55)
  have hg20_10 : g20 10 = .ref q13 := (congrFun eg20 10).trans ((va_up_ne _ _ (Nat.ne_of_beq_eq_false rfl)).trans hg18_10)
  clear hg18_0 hg18_1 hg18_8 hg18_9 hg18_16 hg18_17 hg18_46 hg18_47 hg18_48 hg18_74 hg18_75 hg18_55 hg18_10
  have hg20_13 : g20 13 = .ref q19 := by rw [eg20]; exact va_up_self _ _ _
  replace hP := hP.sub (ws' := [(h, .inr (14, mL g20)), (q13, .inl (kq13, 200, .inl (fun _ => (0 : Int32))))]) [0, 1] rfl
  replace hD := hD.sub (ws' := [(h, .inr (14, mL g20)), (q13, .inl (kq13, 200, .inl (fun _ => (0 : Int32))))]) [0, 1] (by decide) rfl
  refine lv_aload_n hx hb dX13_init_86 rfl (lv_at hl 0 rfl) ?_
  refine lv_bipush (v := 16) hx hb dX13_init_87 (by decide) ?_
  refine va_newa (atype := .int) (ty := .int) (N' := 16) (a0 := (16, .inl (fun _ => (0 : Int32)))) hx hb (hts (.arrayClass .int) (List.mem_of_getElem? (i := 4) rfl)) rfl hK hP hD hS hA (fun _ => rfl) (by decide) (by decide) (Nat.le_of_ble_eq_true rfl) (Nat.le_of_ble_eq_true rfl) (Nat.le_of_ble_eq_true rfl) dX13_init_89 (fun q21 kq21 H hK hP hD hS => ?_)
  have hK : va_K (dC, dI) vwCl [(kq1, .int), (kq13, .byte), (kq21, .int)] s := hK
  replace hP : va_P (dC, dI) vwCl [(h, .inr (14, mL g20)), (q13, .inl (kq13, 200, .inl (fun _ => (0 : Int32)))), (q21, .inl (kq21, 16, .inl (fun _ => (0 : Int32))))] H := hP
  replace hD : va_D A [(h, .inr (14, mL g20)), (q13, .inl (kq13, 200, .inl (fun _ => (0 : Int32)))), (q21, .inl (kq21, 16, .inl (fun _ => (0 : Int32))))] := hD
  refine W.widen (k := 11) (n := 3928) (by omega) (by omega) ?_
  obtain rfl : kq1 = kq21 := ub_sa_int hK 0 2 rfl rfl
  have hK := hK.sub (tys' := [(kq1, .int), (kq13, .byte)]) [0, 1] rfl
  refine va_putF (D := (dC, dI)) (ci := 14) (v := .ref q21) (ty := .array .int) (C := RX13) (T := TX13) (N := 97) hx hb hts iw_m_init_X13 tyX13 tyX13_ok nmX13 hown hK hP hD hS 0 rfl rfl 14 (by decide) (hts (.fieldLink RX13 41 "UnlikeBoatsModel" "ruleTold" "[I") (List.mem_of_getElem? (i := 16) rfl)) (fun _ h9 => h9) rfl hin rfl (by decide +kernel) rfl rfl (mL_lt (Nat.le_of_ble_eq_true rfl)) dX13_init_91 (fun H locs hP hD hS => ?_)
  have hP : va_P (dC, dI) vwCl [(h, .inr (14, (mL g20).set 14 (.ref q21))), (q13, .inl (kq13, 200, .inl (fun _ => (0 : Int32)))), (q21, .inl (kq1, 16, .inl (fun _ => (0 : Int32))))] H := hP
  have hD : va_D A [(h, .inr (14, (mL g20).set 14 (.ref q21))), (q13, .inl (kq13, 200, .inl (fun _ => (0 : Int32)))), (q21, .inl (kq1, 16, .inl (fun _ => (0 : Int32))))] := hD
  obtain ⟨g22, eg22⟩ : ∃ z9, z9 = va_up g20 14 (.ref q21) := ⟨_, rfl⟩
  rw [mL_upd, ← eg22] at hP hD
  have hg22_0 : g22 0 = .int 0 := (congrFun eg22 0).trans ((va_up_ne _ _ (Nat.ne_of_beq_eq_false rfl)).trans hg20_0)
  have hg22_1 : g22 1 = .int 0 := (congrFun eg22 1).trans ((va_up_ne _ _ (Nat.ne_of_beq_eq_false rfl)).trans hg20_1)
  have hg22_8 : g22 8 = .int 0 := (congrFun eg22 8).trans ((va_up_ne _ _ (Nat.ne_of_beq_eq_false rfl)).trans hg20_8)
  have hg22_9 : g22 9 = .int 0 := (congrFun eg22 9).trans ((va_up_ne _ _ (Nat.ne_of_beq_eq_false rfl)).trans hg20_9)
  have hg22_16 : g22 16 = .int 0 := (congrFun eg22 16).trans ((va_up_ne _ _ (Nat.ne_of_beq_eq_false rfl)).trans hg20_16)
  have hg22_17 : g22 17 = .int 0 := (congrFun eg22 17).trans ((va_up_ne _ _ (Nat.ne_of_beq_eq_false rfl)).trans hg20_17)
  have hg22_46 : g22 46 = .int 0 := (congrFun eg22 46).trans ((va_up_ne _ _ (Nat.ne_of_beq_eq_false rfl)).trans hg20_46)
  have hg22_47 : g22 47 = .int 0 := (congrFun eg22 47).trans ((va_up_ne _ _ (Nat.ne_of_beq_eq_false rfl)).trans hg20_47)
  have hg22_48 : g22 48 = .int 0 := (congrFun eg22 48).trans ((va_up_ne _ _ (Nat.ne_of_beq_eq_false rfl)).trans hg20_48)
  have hg22_74 : g22 74 = .int 0 := (congrFun eg22 74).trans ((va_up_ne _ _ (Nat.ne_of_beq_eq_false rfl)).trans hg20_74)
  have hg22_75 : g22 75 = .int 0 := (congrFun eg22 75).trans ((va_up_ne _ _ (Nat.ne_of_beq_eq_false rfl)).trans hg20_75)
  have hg22_55 : g22 55 = .int 0 := (congrFun eg22 55).trans ((va_up_ne _ _ (Nat.ne_of_beq_eq_false rfl)).trans hg20_55)
  have hg22_10 : g22 10 = .ref q13 := (congrFun eg22 10).trans ((va_up_ne _ _ (Nat.ne_of_beq_eq_false rfl)).trans hg20_10)
  clear hg20_0 hg20_1 hg20_8 hg20_9 hg20_16 hg20_17 hg20_46 hg20_47 hg20_48 hg20_74 hg20_75 hg20_55 hg20_10
  have hg22_14 : g22 14 = .ref q21 := by rw [eg22]; exact va_up_self _ _ _
  replace hP := hP.sub (ws' := [(h, .inr (14, mL g22)), (q13, .inl (kq13, 200, .inl (fun _ => (0 : Int32))))]) [0, 1] rfl
  replace hD := hD.sub (ws' := [(h, .inr (14, mL g22)), (q13, .inl (kq13, 200, .inl (fun _ => (0 : Int32))))]) [0, 1] (by decide) rfl
  refine lv_aload_n hx hb dX13_init_94 rfl (lv_at hl 0 rfl) ?_
  refine lv_sipush (v := 128) hx hb dX13_init_95 (by decide) ?_
  refine va_newa (atype := .int) (ty := .int) (N' := 128) (a0 := (128, .inl (fun _ => (0 : Int32)))) hx hb (hts (.arrayClass .int) (List.mem_of_getElem? (i := 4) rfl)) rfl hK hP hD hS hA (fun _ => rfl) (by decide) (by decide) (Nat.le_of_ble_eq_true rfl) (Nat.le_of_ble_eq_true rfl) (Nat.le_of_ble_eq_true rfl) dX13_init_98 (fun q23 kq23 H hK hP hD hS => ?_)
  have hK : va_K (dC, dI) vwCl [(kq1, .int), (kq13, .byte), (kq23, .int)] s := hK
  replace hP : va_P (dC, dI) vwCl [(h, .inr (14, mL g22)), (q13, .inl (kq13, 200, .inl (fun _ => (0 : Int32)))), (q23, .inl (kq23, 128, .inl (fun _ => (0 : Int32))))] H := hP
  replace hD : va_D A [(h, .inr (14, mL g22)), (q13, .inl (kq13, 200, .inl (fun _ => (0 : Int32)))), (q23, .inl (kq23, 128, .inl (fun _ => (0 : Int32))))] := hD
  refine W.widen (k := 12) (n := 4056) (by omega) (by omega) ?_
  obtain rfl : kq1 = kq23 := ub_sa_int hK 0 2 rfl rfl
  have hK := hK.sub (tys' := [(kq1, .int), (kq13, .byte)]) [0, 1] rfl
  refine va_putF (D := (dC, dI)) (ci := 14) (v := .ref q23) (ty := .array .int) (C := RX13) (T := TX13) (N := 97) hx hb hts iw_m_init_X13 tyX13 tyX13_ok nmX13 hown hK hP hD hS 0 rfl rfl 15 (by decide) (hts (.fieldLink RX13 44 "UnlikeBoatsModel" "letters" "[I") (List.mem_of_getElem? (i := 17) rfl)) (fun _ h9 => h9) rfl hin rfl (by decide +kernel) rfl rfl (mL_lt (Nat.le_of_ble_eq_true rfl)) dX13_init_100 (fun H locs hP hD hS => ?_)
  have hP : va_P (dC, dI) vwCl [(h, .inr (14, (mL g22).set 15 (.ref q23))), (q13, .inl (kq13, 200, .inl (fun _ => (0 : Int32)))), (q23, .inl (kq1, 128, .inl (fun _ => (0 : Int32))))] H := hP
  have hD : va_D A [(h, .inr (14, (mL g22).set 15 (.ref q23))), (q13, .inl (kq13, 200, .inl (fun _ => (0 : Int32)))), (q23, .inl (kq1, 128, .inl (fun _ => (0 : Int32))))] := hD
  obtain ⟨g24, eg24⟩ : ∃ z9, z9 = va_up g22 15 (.ref q23) := ⟨_, rfl⟩
  rw [mL_upd, ← eg24] at hP hD
  have hg24_0 : g24 0 = .int 0 := (congrFun eg24 0).trans ((va_up_ne _ _ (Nat.ne_of_beq_eq_false rfl)).trans hg22_0)
  have hg24_1 : g24 1 = .int 0 := (congrFun eg24 1).trans ((va_up_ne _ _ (Nat.ne_of_beq_eq_false rfl)).trans hg22_1)
  have hg24_8 : g24 8 = .int 0 := (congrFun eg24 8).trans ((va_up_ne _ _ (Nat.ne_of_beq_eq_false rfl)).trans hg22_8)
  have hg24_9 : g24 9 = .int 0 := (congrFun eg24 9).trans ((va_up_ne _ _ (Nat.ne_of_beq_eq_false rfl)).trans hg22_9)
  have hg24_16 : g24 16 = .int 0 := (congrFun eg24 16).trans ((va_up_ne _ _ (Nat.ne_of_beq_eq_false rfl)).trans hg22_16)
  have hg24_17 : g24 17 = .int 0 := (congrFun eg24 17).trans ((va_up_ne _ _ (Nat.ne_of_beq_eq_false rfl)).trans hg22_17)
  have hg24_46 : g24 46 = .int 0 := (congrFun eg24 46).trans ((va_up_ne _ _ (Nat.ne_of_beq_eq_false rfl)).trans hg22_46)
  have hg24_47 : g24 47 = .int 0 := (congrFun eg24 47).trans ((va_up_ne _ _ (Nat.ne_of_beq_eq_false rfl)).trans hg22_47)
  have hg24_48 : g24 48 = .int 0 := (congrFun eg24 48).trans ((va_up_ne _ _ (Nat.ne_of_beq_eq_false rfl)).trans hg22_48)
  have hg24_74 : g24 74 = .int 0 := (congrFun eg24 74).trans ((va_up_ne _ _ (Nat.ne_of_beq_eq_false rfl)).trans hg22_74)
  have hg24_75 : g24 75 = .int 0 := (congrFun eg24 75).trans ((va_up_ne _ _ (Nat.ne_of_beq_eq_false rfl)).trans hg22_75)
  have hg24_55 : g24 55 = .int 0 := (congrFun eg24 55).trans ((va_up_ne _ _ (Nat.ne_of_beq_eq_false rfl)).trans hg22_55)
  have hg24_10 : g24 10 = .ref q13 := (congrFun eg24 10).trans ((va_up_ne _ _ (Nat.ne_of_beq_eq_false rfl)).trans hg22_10)
  clear hg22_0 hg22_1 hg22_8 hg22_9 hg22_16 hg22_17 hg22_46 hg22_47 hg22_48 hg22_74 hg22_75 hg22_55 hg22_10
  have hg24_15 : g24 15 = .ref q23 := by rw [eg24]; exact va_up_self _ _ _
  refine lv_aload_n hx hb dX13_init_103 rfl (lv_at hl 0 rfl) ?_
  refine lv_aload_n hx hb dX13_init_104 rfl (lv_at hl 0 rfl) ?_
  refine va_get (D := (dC, dI)) (ci := 14) (v := .ref q13) (C := RX13) (T := TX13) (N := 97) hx hb hts iw_m_init_X13 hown hK hP 0 rfl rfl 10 (by decide) (hts (.fieldLink RX13 28 "UnlikeBoatsModel" "tape" "[B") (List.mem_of_getElem? (i := 12) rfl)) (fun _ h9 => h9) (mL_some (Nat.le_of_ble_eq_true rfl) hg24_10) dX13_init_105 ?_
  refine va_put (D := (dC, dI)) (ci := 14) (v := .ref q13) (ty := .array .byte) (C := RX13) (T := TX13) (N := 97) hx hb hts iw_m_init_X13 tyX13 tyX13_ok nmX13 hown hK hP hD hS 0 rfl rfl 18 (by decide) (hts (.fieldLink RX13 47 "UnlikeBoatsModel" "text" "[B") (List.mem_of_getElem? (i := 18) rfl)) (fun _ h9 => h9) rfl (by decide +kernel) rfl rfl (mL_lt (Nat.le_of_ble_eq_true rfl)) dX13_init_108 (fun H locs hP hD hS => ?_)
  have hP : va_P (dC, dI) vwCl [(h, .inr (14, (mL g24).set 18 (.ref q13))), (q13, .inl (kq13, 200, .inl (fun _ => (0 : Int32)))), (q23, .inl (kq1, 128, .inl (fun _ => (0 : Int32))))] H := hP
  have hD : va_D A [(h, .inr (14, (mL g24).set 18 (.ref q13))), (q13, .inl (kq13, 200, .inl (fun _ => (0 : Int32)))), (q23, .inl (kq1, 128, .inl (fun _ => (0 : Int32))))] := hD
  obtain ⟨g25, eg25⟩ : ∃ z9, z9 = va_up g24 18 (.ref q13) := ⟨_, rfl⟩
  rw [mL_upd, ← eg25] at hP hD
  have hg25_0 : g25 0 = .int 0 := (congrFun eg25 0).trans ((va_up_ne _ _ (Nat.ne_of_beq_eq_false rfl)).trans hg24_0)
  have hg25_1 : g25 1 = .int 0 := (congrFun eg25 1).trans ((va_up_ne _ _ (Nat.ne_of_beq_eq_false rfl)).trans hg24_1)
  have hg25_8 : g25 8 = .int 0 := (congrFun eg25 8).trans ((va_up_ne _ _ (Nat.ne_of_beq_eq_false rfl)).trans hg24_8)
  have hg25_9 : g25 9 = .int 0 := (congrFun eg25 9).trans ((va_up_ne _ _ (Nat.ne_of_beq_eq_false rfl)).trans hg24_9)
  have hg25_16 : g25 16 = .int 0 := (congrFun eg25 16).trans ((va_up_ne _ _ (Nat.ne_of_beq_eq_false rfl)).trans hg24_16)
  have hg25_17 : g25 17 = .int 0 := (congrFun eg25 17).trans ((va_up_ne _ _ (Nat.ne_of_beq_eq_false rfl)).trans hg24_17)
  have hg25_46 : g25 46 = .int 0 := (congrFun eg25 46).trans ((va_up_ne _ _ (Nat.ne_of_beq_eq_false rfl)).trans hg24_46)
  have hg25_47 : g25 47 = .int 0 := (congrFun eg25 47).trans ((va_up_ne _ _ (Nat.ne_of_beq_eq_false rfl)).trans hg24_47)
  have hg25_48 : g25 48 = .int 0 := (congrFun eg25 48).trans ((va_up_ne _ _ (Nat.ne_of_beq_eq_false rfl)).trans hg24_48)
  have hg25_74 : g25 74 = .int 0 := (congrFun eg25 74).trans ((va_up_ne _ _ (Nat.ne_of_beq_eq_false rfl)).trans hg24_74)
  have hg25_75 : g25 75 = .int 0 := (congrFun eg25 75).trans ((va_up_ne _ _ (Nat.ne_of_beq_eq_false rfl)).trans hg24_75)
  have hg25_55 : g25 55 = .int 0 := (congrFun eg25 55).trans ((va_up_ne _ _ (Nat.ne_of_beq_eq_false rfl)).trans hg24_55)
  have hg25_10 : g25 10 = .ref q13 := (congrFun eg25 10).trans ((va_up_ne _ _ (Nat.ne_of_beq_eq_false rfl)).trans hg24_10)
  have hg25_15 : g25 15 = .ref q23 := (congrFun eg25 15).trans ((va_up_ne _ _ (Nat.ne_of_beq_eq_false rfl)).trans hg24_15)
  clear hg24_0 hg24_1 hg24_8 hg24_9 hg24_16 hg24_17 hg24_46 hg24_47 hg24_48 hg24_74 hg24_75 hg24_55 hg24_10 hg24_15
  have hg25_18 : g25 18 = .ref q13 := by rw [eg25]; exact va_up_self _ _ _
  refine lv_aload_n hx hb dX13_init_111 rfl (lv_at hl 0 rfl) ?_
  refine lv_bipush (v := 20) hx hb dX13_init_112 (by decide) ?_
  refine va_newa (atype := .int) (ty := .int) (N' := 20) (a0 := (20, .inl (fun _ => (0 : Int32)))) hx hb (hts (.arrayClass .int) (List.mem_of_getElem? (i := 4) rfl)) rfl hK hP hD hS hA (fun _ => rfl) (by decide) (by decide) (Nat.le_of_ble_eq_true rfl) (Nat.le_of_ble_eq_true rfl) (Nat.le_of_ble_eq_true rfl) dX13_init_114 (fun q26 kq26 H hK hP hD hS => ?_)
  have hK : va_K (dC, dI) vwCl [(kq1, .int), (kq13, .byte), (kq26, .int)] s := hK
  replace hP : va_P (dC, dI) vwCl [(h, .inr (14, mL g25)), (q13, .inl (kq13, 200, .inl (fun _ => (0 : Int32)))), (q23, .inl (kq1, 128, .inl (fun _ => (0 : Int32)))), (q26, .inl (kq26, 20, .inl (fun _ => (0 : Int32))))] H := hP
  replace hD : va_D A [(h, .inr (14, mL g25)), (q13, .inl (kq13, 200, .inl (fun _ => (0 : Int32)))), (q23, .inl (kq1, 128, .inl (fun _ => (0 : Int32)))), (q26, .inl (kq26, 20, .inl (fun _ => (0 : Int32))))] := hD
  refine W.widen (k := 13) (n := 4076) (by omega) (by omega) ?_
  obtain rfl : kq1 = kq26 := ub_sa_int hK 0 2 rfl rfl
  have hK := hK.sub (tys' := [(kq1, .int), (kq13, .byte)]) [0, 1] rfl
  refine va_putF (D := (dC, dI)) (ci := 14) (v := .ref q26) (ty := .array .int) (C := RX13) (T := TX13) (N := 97) hx hb hts iw_m_init_X13 tyX13 tyX13_ok nmX13 hown hK hP hD hS 0 rfl rfl 27 (by decide) (hts (.fieldLink RX13 50 "UnlikeBoatsModel" "raceDay" "[I") (List.mem_of_getElem? (i := 19) rfl)) (fun _ h9 => h9) rfl hin rfl (by decide +kernel) rfl rfl (mL_lt (Nat.le_of_ble_eq_true rfl)) dX13_init_116 (fun H locs hP hD hS => ?_)
  have hP : va_P (dC, dI) vwCl [(h, .inr (14, (mL g25).set 27 (.ref q26))), (q13, .inl (kq13, 200, .inl (fun _ => (0 : Int32)))), (q23, .inl (kq1, 128, .inl (fun _ => (0 : Int32)))), (q26, .inl (kq1, 20, .inl (fun _ => (0 : Int32))))] H := hP
  have hD : va_D A [(h, .inr (14, (mL g25).set 27 (.ref q26))), (q13, .inl (kq13, 200, .inl (fun _ => (0 : Int32)))), (q23, .inl (kq1, 128, .inl (fun _ => (0 : Int32)))), (q26, .inl (kq1, 20, .inl (fun _ => (0 : Int32))))] := hD
  obtain ⟨g27, eg27⟩ : ∃ z9, z9 = va_up g25 27 (.ref q26) := ⟨_, rfl⟩
  rw [mL_upd, ← eg27] at hP hD
  have hg27_0 : g27 0 = .int 0 := (congrFun eg27 0).trans ((va_up_ne _ _ (Nat.ne_of_beq_eq_false rfl)).trans hg25_0)
  have hg27_1 : g27 1 = .int 0 := (congrFun eg27 1).trans ((va_up_ne _ _ (Nat.ne_of_beq_eq_false rfl)).trans hg25_1)
  have hg27_8 : g27 8 = .int 0 := (congrFun eg27 8).trans ((va_up_ne _ _ (Nat.ne_of_beq_eq_false rfl)).trans hg25_8)
  have hg27_9 : g27 9 = .int 0 := (congrFun eg27 9).trans ((va_up_ne _ _ (Nat.ne_of_beq_eq_false rfl)).trans hg25_9)
  have hg27_16 : g27 16 = .int 0 := (congrFun eg27 16).trans ((va_up_ne _ _ (Nat.ne_of_beq_eq_false rfl)).trans hg25_16)
  have hg27_17 : g27 17 = .int 0 := (congrFun eg27 17).trans ((va_up_ne _ _ (Nat.ne_of_beq_eq_false rfl)).trans hg25_17)
  have hg27_46 : g27 46 = .int 0 := (congrFun eg27 46).trans ((va_up_ne _ _ (Nat.ne_of_beq_eq_false rfl)).trans hg25_46)
  have hg27_47 : g27 47 = .int 0 := (congrFun eg27 47).trans ((va_up_ne _ _ (Nat.ne_of_beq_eq_false rfl)).trans hg25_47)
  have hg27_48 : g27 48 = .int 0 := (congrFun eg27 48).trans ((va_up_ne _ _ (Nat.ne_of_beq_eq_false rfl)).trans hg25_48)
  have hg27_74 : g27 74 = .int 0 := (congrFun eg27 74).trans ((va_up_ne _ _ (Nat.ne_of_beq_eq_false rfl)).trans hg25_74)
  have hg27_75 : g27 75 = .int 0 := (congrFun eg27 75).trans ((va_up_ne _ _ (Nat.ne_of_beq_eq_false rfl)).trans hg25_75)
  have hg27_55 : g27 55 = .int 0 := (congrFun eg27 55).trans ((va_up_ne _ _ (Nat.ne_of_beq_eq_false rfl)).trans hg25_55)
  have hg27_10 : g27 10 = .ref q13 := (congrFun eg27 10).trans ((va_up_ne _ _ (Nat.ne_of_beq_eq_false rfl)).trans hg25_10)
  have hg27_15 : g27 15 = .ref q23 := (congrFun eg27 15).trans ((va_up_ne _ _ (Nat.ne_of_beq_eq_false rfl)).trans hg25_15)
  clear hg25_0 hg25_1 hg25_8 hg25_9 hg25_16 hg25_17 hg25_46 hg25_47 hg25_48 hg25_74 hg25_75 hg25_55 hg25_10 hg25_15
  have hg27_27 : g27 27 = .ref q26 := by rw [eg27]; exact va_up_self _ _ _
  refine lv_aload_n hx hb dX13_init_119 rfl (lv_at hl 0 rfl) ?_
  refine lv_bipush (v := 20) hx hb dX13_init_120 (by decide) ?_
  refine va_newa (atype := .int) (ty := .int) (N' := 20) (a0 := (20, .inl (fun _ => (0 : Int32)))) hx hb (hts (.arrayClass .int) (List.mem_of_getElem? (i := 4) rfl)) rfl hK hP hD hS hA (fun _ => rfl) (by decide) (by decide) (Nat.le_of_ble_eq_true rfl) (Nat.le_of_ble_eq_true rfl) (Nat.le_of_ble_eq_true rfl) dX13_init_122 (fun q28 kq28 H hK hP hD hS => ?_)
  have hK : va_K (dC, dI) vwCl [(kq1, .int), (kq13, .byte), (kq28, .int)] s := hK
  replace hP : va_P (dC, dI) vwCl [(h, .inr (14, mL g27)), (q13, .inl (kq13, 200, .inl (fun _ => (0 : Int32)))), (q23, .inl (kq1, 128, .inl (fun _ => (0 : Int32)))), (q26, .inl (kq1, 20, .inl (fun _ => (0 : Int32)))), (q28, .inl (kq28, 20, .inl (fun _ => (0 : Int32))))] H := hP
  replace hD : va_D A [(h, .inr (14, mL g27)), (q13, .inl (kq13, 200, .inl (fun _ => (0 : Int32)))), (q23, .inl (kq1, 128, .inl (fun _ => (0 : Int32)))), (q26, .inl (kq1, 20, .inl (fun _ => (0 : Int32)))), (q28, .inl (kq28, 20, .inl (fun _ => (0 : Int32))))] := hD
  refine W.widen (k := 14) (n := 4096) (by omega) (by omega) ?_
  obtain rfl : kq1 = kq28 := ub_sa_int hK 0 2 rfl rfl
  have hK := hK.sub (tys' := [(kq1, .int), (kq13, .byte)]) [0, 1] rfl
  refine va_putF (D := (dC, dI)) (ci := 14) (v := .ref q28) (ty := .array .int) (C := RX13) (T := TX13) (N := 97) hx hb hts iw_m_init_X13 tyX13 tyX13_ok nmX13 hown hK hP hD hS 0 rfl rfl 28 (by decide) (hts (.fieldLink RX13 53 "UnlikeBoatsModel" "raceMiles" "[I") (List.mem_of_getElem? (i := 20) rfl)) (fun _ h9 => h9) rfl hin rfl (by decide +kernel) rfl rfl (mL_lt (Nat.le_of_ble_eq_true rfl)) dX13_init_124 (fun H locs hP hD hS => ?_)
  have hP : va_P (dC, dI) vwCl [(h, .inr (14, (mL g27).set 28 (.ref q28))), (q13, .inl (kq13, 200, .inl (fun _ => (0 : Int32)))), (q23, .inl (kq1, 128, .inl (fun _ => (0 : Int32)))), (q26, .inl (kq1, 20, .inl (fun _ => (0 : Int32)))), (q28, .inl (kq1, 20, .inl (fun _ => (0 : Int32))))] H := hP
  have hD : va_D A [(h, .inr (14, (mL g27).set 28 (.ref q28))), (q13, .inl (kq13, 200, .inl (fun _ => (0 : Int32)))), (q23, .inl (kq1, 128, .inl (fun _ => (0 : Int32)))), (q26, .inl (kq1, 20, .inl (fun _ => (0 : Int32)))), (q28, .inl (kq1, 20, .inl (fun _ => (0 : Int32))))] := hD
  obtain ⟨g29, eg29⟩ : ∃ z9, z9 = va_up g27 28 (.ref q28) := ⟨_, rfl⟩
  rw [mL_upd, ← eg29] at hP hD
  have hg29_0 : g29 0 = .int 0 := (congrFun eg29 0).trans ((va_up_ne _ _ (Nat.ne_of_beq_eq_false rfl)).trans hg27_0)
  have hg29_1 : g29 1 = .int 0 := (congrFun eg29 1).trans ((va_up_ne _ _ (Nat.ne_of_beq_eq_false rfl)).trans hg27_1)
  have hg29_8 : g29 8 = .int 0 := (congrFun eg29 8).trans ((va_up_ne _ _ (Nat.ne_of_beq_eq_false rfl)).trans hg27_8)
  have hg29_9 : g29 9 = .int 0 := (congrFun eg29 9).trans ((va_up_ne _ _ (Nat.ne_of_beq_eq_false rfl)).trans hg27_9)
  have hg29_16 : g29 16 = .int 0 := (congrFun eg29 16).trans ((va_up_ne _ _ (Nat.ne_of_beq_eq_false rfl)).trans hg27_16)
  have hg29_17 : g29 17 = .int 0 := (congrFun eg29 17).trans ((va_up_ne _ _ (Nat.ne_of_beq_eq_false rfl)).trans hg27_17)
  have hg29_46 : g29 46 = .int 0 := (congrFun eg29 46).trans ((va_up_ne _ _ (Nat.ne_of_beq_eq_false rfl)).trans hg27_46)
  have hg29_47 : g29 47 = .int 0 := (congrFun eg29 47).trans ((va_up_ne _ _ (Nat.ne_of_beq_eq_false rfl)).trans hg27_47)
  have hg29_48 : g29 48 = .int 0 := (congrFun eg29 48).trans ((va_up_ne _ _ (Nat.ne_of_beq_eq_false rfl)).trans hg27_48)
  have hg29_74 : g29 74 = .int 0 := (congrFun eg29 74).trans ((va_up_ne _ _ (Nat.ne_of_beq_eq_false rfl)).trans hg27_74)
  have hg29_75 : g29 75 = .int 0 := (congrFun eg29 75).trans ((va_up_ne _ _ (Nat.ne_of_beq_eq_false rfl)).trans hg27_75)
  have hg29_55 : g29 55 = .int 0 := (congrFun eg29 55).trans ((va_up_ne _ _ (Nat.ne_of_beq_eq_false rfl)).trans hg27_55)
  have hg29_10 : g29 10 = .ref q13 := (congrFun eg29 10).trans ((va_up_ne _ _ (Nat.ne_of_beq_eq_false rfl)).trans hg27_10)
  have hg29_15 : g29 15 = .ref q23 := (congrFun eg29 15).trans ((va_up_ne _ _ (Nat.ne_of_beq_eq_false rfl)).trans hg27_15)
  have hg29_27 : g29 27 = .ref q26 := (congrFun eg29 27).trans ((va_up_ne _ _ (Nat.ne_of_beq_eq_false rfl)).trans hg27_27)
  clear hg27_0 hg27_1 hg27_8 hg27_9 hg27_16 hg27_17 hg27_46 hg27_47 hg27_48 hg27_74 hg27_75 hg27_55 hg27_10 hg27_15 hg27_27
  have hg29_28 : g29 28 = .ref q28 := by rw [eg29]; exact va_up_self _ _ _
  refine lv_aload_n hx hb dX13_init_127 rfl (lv_at hl 0 rfl) ?_
  refine lv_bipush (v := 20) hx hb dX13_init_128 (by decide) ?_
  refine va_newa (atype := .int) (ty := .int) (N' := 20) (a0 := (20, .inl (fun _ => (0 : Int32)))) hx hb (hts (.arrayClass .int) (List.mem_of_getElem? (i := 4) rfl)) rfl hK hP hD hS hA (fun _ => rfl) (by decide) (by decide) (Nat.le_of_ble_eq_true rfl) (Nat.le_of_ble_eq_true rfl) (Nat.le_of_ble_eq_true rfl) dX13_init_130 (fun q30 kq30 H hK hP hD hS => ?_)
  have hK : va_K (dC, dI) vwCl [(kq1, .int), (kq13, .byte), (kq30, .int)] s := hK
  replace hP : va_P (dC, dI) vwCl [(h, .inr (14, mL g29)), (q13, .inl (kq13, 200, .inl (fun _ => (0 : Int32)))), (q23, .inl (kq1, 128, .inl (fun _ => (0 : Int32)))), (q26, .inl (kq1, 20, .inl (fun _ => (0 : Int32)))), (q28, .inl (kq1, 20, .inl (fun _ => (0 : Int32)))), (q30, .inl (kq30, 20, .inl (fun _ => (0 : Int32))))] H := hP
  replace hD : va_D A [(h, .inr (14, mL g29)), (q13, .inl (kq13, 200, .inl (fun _ => (0 : Int32)))), (q23, .inl (kq1, 128, .inl (fun _ => (0 : Int32)))), (q26, .inl (kq1, 20, .inl (fun _ => (0 : Int32)))), (q28, .inl (kq1, 20, .inl (fun _ => (0 : Int32)))), (q30, .inl (kq30, 20, .inl (fun _ => (0 : Int32))))] := hD
  refine W.widen (k := 15) (n := 4116) (by omega) (by omega) ?_
  obtain rfl : kq1 = kq30 := ub_sa_int hK 0 2 rfl rfl
  have hK := hK.sub (tys' := [(kq1, .int), (kq13, .byte)]) [0, 1] rfl
  refine va_putF (D := (dC, dI)) (ci := 14) (v := .ref q30) (ty := .array .int) (C := RX13) (T := TX13) (N := 97) hx hb hts iw_m_init_X13 tyX13 tyX13_ok nmX13 hown hK hP hD hS 0 rfl rfl 29 (by decide) (hts (.fieldLink RX13 56 "UnlikeBoatsModel" "raceWay" "[I") (List.mem_of_getElem? (i := 21) rfl)) (fun _ h9 => h9) rfl hin rfl (by decide +kernel) rfl rfl (mL_lt (Nat.le_of_ble_eq_true rfl)) dX13_init_132 (fun H locs hP hD hS => ?_)
  have hP : va_P (dC, dI) vwCl [(h, .inr (14, (mL g29).set 29 (.ref q30))), (q13, .inl (kq13, 200, .inl (fun _ => (0 : Int32)))), (q23, .inl (kq1, 128, .inl (fun _ => (0 : Int32)))), (q26, .inl (kq1, 20, .inl (fun _ => (0 : Int32)))), (q28, .inl (kq1, 20, .inl (fun _ => (0 : Int32)))), (q30, .inl (kq1, 20, .inl (fun _ => (0 : Int32))))] H := hP
  have hD : va_D A [(h, .inr (14, (mL g29).set 29 (.ref q30))), (q13, .inl (kq13, 200, .inl (fun _ => (0 : Int32)))), (q23, .inl (kq1, 128, .inl (fun _ => (0 : Int32)))), (q26, .inl (kq1, 20, .inl (fun _ => (0 : Int32)))), (q28, .inl (kq1, 20, .inl (fun _ => (0 : Int32)))), (q30, .inl (kq1, 20, .inl (fun _ => (0 : Int32))))] := hD
  obtain ⟨g31, eg31⟩ : ∃ z9, z9 = va_up g29 29 (.ref q30) := ⟨_, rfl⟩
  rw [mL_upd, ← eg31] at hP hD
  have hg31_0 : g31 0 = .int 0 := (congrFun eg31 0).trans ((va_up_ne _ _ (Nat.ne_of_beq_eq_false rfl)).trans hg29_0)
  have hg31_1 : g31 1 = .int 0 := (congrFun eg31 1).trans ((va_up_ne _ _ (Nat.ne_of_beq_eq_false rfl)).trans hg29_1)
  have hg31_8 : g31 8 = .int 0 := (congrFun eg31 8).trans ((va_up_ne _ _ (Nat.ne_of_beq_eq_false rfl)).trans hg29_8)
  have hg31_9 : g31 9 = .int 0 := (congrFun eg31 9).trans ((va_up_ne _ _ (Nat.ne_of_beq_eq_false rfl)).trans hg29_9)
  have hg31_16 : g31 16 = .int 0 := (congrFun eg31 16).trans ((va_up_ne _ _ (Nat.ne_of_beq_eq_false rfl)).trans hg29_16)
  have hg31_17 : g31 17 = .int 0 := (congrFun eg31 17).trans ((va_up_ne _ _ (Nat.ne_of_beq_eq_false rfl)).trans hg29_17)
  have hg31_46 : g31 46 = .int 0 := (congrFun eg31 46).trans ((va_up_ne _ _ (Nat.ne_of_beq_eq_false rfl)).trans hg29_46)
  have hg31_47 : g31 47 = .int 0 := (congrFun eg31 47).trans ((va_up_ne _ _ (Nat.ne_of_beq_eq_false rfl)).trans hg29_47)
  have hg31_48 : g31 48 = .int 0 := (congrFun eg31 48).trans ((va_up_ne _ _ (Nat.ne_of_beq_eq_false rfl)).trans hg29_48)
  have hg31_74 : g31 74 = .int 0 := (congrFun eg31 74).trans ((va_up_ne _ _ (Nat.ne_of_beq_eq_false rfl)).trans hg29_74)
  have hg31_75 : g31 75 = .int 0 := (congrFun eg31 75).trans ((va_up_ne _ _ (Nat.ne_of_beq_eq_false rfl)).trans hg29_75)
  have hg31_55 : g31 55 = .int 0 := (congrFun eg31 55).trans ((va_up_ne _ _ (Nat.ne_of_beq_eq_false rfl)).trans hg29_55)
  have hg31_10 : g31 10 = .ref q13 := (congrFun eg31 10).trans ((va_up_ne _ _ (Nat.ne_of_beq_eq_false rfl)).trans hg29_10)
  have hg31_15 : g31 15 = .ref q23 := (congrFun eg31 15).trans ((va_up_ne _ _ (Nat.ne_of_beq_eq_false rfl)).trans hg29_15)
  have hg31_27 : g31 27 = .ref q26 := (congrFun eg31 27).trans ((va_up_ne _ _ (Nat.ne_of_beq_eq_false rfl)).trans hg29_27)
  have hg31_28 : g31 28 = .ref q28 := (congrFun eg31 28).trans ((va_up_ne _ _ (Nat.ne_of_beq_eq_false rfl)).trans hg29_28)
  clear hg29_0 hg29_1 hg29_8 hg29_9 hg29_16 hg29_17 hg29_46 hg29_47 hg29_48 hg29_74 hg29_75 hg29_55 hg29_10 hg29_15 hg29_27 hg29_28
  have hg31_29 : g31 29 = .ref q30 := by rw [eg31]; exact va_up_self _ _ _
  refine lv_aload_n hx hb dX13_init_135 rfl (lv_at hl 0 rfl) ?_
  refine lv_bipush (v := 20) hx hb dX13_init_136 (by decide) ?_
  refine va_newa (atype := .int) (ty := .int) (N' := 20) (a0 := (20, .inl (fun _ => (0 : Int32)))) hx hb (hts (.arrayClass .int) (List.mem_of_getElem? (i := 4) rfl)) rfl hK hP hD hS hA (fun _ => rfl) (by decide) (by decide) (Nat.le_of_ble_eq_true rfl) (Nat.le_of_ble_eq_true rfl) (Nat.le_of_ble_eq_true rfl) dX13_init_138 (fun q32 kq32 H hK hP hD hS => ?_)
  have hK : va_K (dC, dI) vwCl [(kq1, .int), (kq13, .byte), (kq32, .int)] s := hK
  replace hP : va_P (dC, dI) vwCl [(h, .inr (14, mL g31)), (q13, .inl (kq13, 200, .inl (fun _ => (0 : Int32)))), (q23, .inl (kq1, 128, .inl (fun _ => (0 : Int32)))), (q26, .inl (kq1, 20, .inl (fun _ => (0 : Int32)))), (q28, .inl (kq1, 20, .inl (fun _ => (0 : Int32)))), (q30, .inl (kq1, 20, .inl (fun _ => (0 : Int32)))), (q32, .inl (kq32, 20, .inl (fun _ => (0 : Int32))))] H := hP
  replace hD : va_D A [(h, .inr (14, mL g31)), (q13, .inl (kq13, 200, .inl (fun _ => (0 : Int32)))), (q23, .inl (kq1, 128, .inl (fun _ => (0 : Int32)))), (q26, .inl (kq1, 20, .inl (fun _ => (0 : Int32)))), (q28, .inl (kq1, 20, .inl (fun _ => (0 : Int32)))), (q30, .inl (kq1, 20, .inl (fun _ => (0 : Int32)))), (q32, .inl (kq32, 20, .inl (fun _ => (0 : Int32))))] := hD
  refine W.widen (k := 16) (n := 4136) (by omega) (by omega) ?_
  obtain rfl : kq1 = kq32 := ub_sa_int hK 0 2 rfl rfl
  have hK := hK.sub (tys' := [(kq1, .int), (kq13, .byte)]) [0, 1] rfl
  refine va_putF (D := (dC, dI)) (ci := 14) (v := .ref q32) (ty := .array .int) (C := RX13) (T := TX13) (N := 97) hx hb hts iw_m_init_X13 tyX13 tyX13_ok nmX13 hown hK hP hD hS 0 rfl rfl 30 (by decide) (hts (.fieldLink RX13 59 "UnlikeBoatsModel" "raceWind" "[I") (List.mem_of_getElem? (i := 22) rfl)) (fun _ h9 => h9) rfl hin rfl (by decide +kernel) rfl rfl (mL_lt (Nat.le_of_ble_eq_true rfl)) dX13_init_140 (fun H locs hP hD hS => ?_)
  have hP : va_P (dC, dI) vwCl [(h, .inr (14, (mL g31).set 30 (.ref q32))), (q13, .inl (kq13, 200, .inl (fun _ => (0 : Int32)))), (q23, .inl (kq1, 128, .inl (fun _ => (0 : Int32)))), (q26, .inl (kq1, 20, .inl (fun _ => (0 : Int32)))), (q28, .inl (kq1, 20, .inl (fun _ => (0 : Int32)))), (q30, .inl (kq1, 20, .inl (fun _ => (0 : Int32)))), (q32, .inl (kq1, 20, .inl (fun _ => (0 : Int32))))] H := hP
  have hD : va_D A [(h, .inr (14, (mL g31).set 30 (.ref q32))), (q13, .inl (kq13, 200, .inl (fun _ => (0 : Int32)))), (q23, .inl (kq1, 128, .inl (fun _ => (0 : Int32)))), (q26, .inl (kq1, 20, .inl (fun _ => (0 : Int32)))), (q28, .inl (kq1, 20, .inl (fun _ => (0 : Int32)))), (q30, .inl (kq1, 20, .inl (fun _ => (0 : Int32)))), (q32, .inl (kq1, 20, .inl (fun _ => (0 : Int32))))] := hD
  obtain ⟨g33, eg33⟩ : ∃ z9, z9 = va_up g31 30 (.ref q32) := ⟨_, rfl⟩
  rw [mL_upd, ← eg33] at hP hD
  have hg33_0 : g33 0 = .int 0 := (congrFun eg33 0).trans ((va_up_ne _ _ (Nat.ne_of_beq_eq_false rfl)).trans hg31_0)
  have hg33_1 : g33 1 = .int 0 := (congrFun eg33 1).trans ((va_up_ne _ _ (Nat.ne_of_beq_eq_false rfl)).trans hg31_1)
  have hg33_8 : g33 8 = .int 0 := (congrFun eg33 8).trans ((va_up_ne _ _ (Nat.ne_of_beq_eq_false rfl)).trans hg31_8)
  have hg33_9 : g33 9 = .int 0 := (congrFun eg33 9).trans ((va_up_ne _ _ (Nat.ne_of_beq_eq_false rfl)).trans hg31_9)
  have hg33_16 : g33 16 = .int 0 := (congrFun eg33 16).trans ((va_up_ne _ _ (Nat.ne_of_beq_eq_false rfl)).trans hg31_16)
  have hg33_17 : g33 17 = .int 0 := (congrFun eg33 17).trans ((va_up_ne _ _ (Nat.ne_of_beq_eq_false rfl)).trans hg31_17)
  have hg33_46 : g33 46 = .int 0 := (congrFun eg33 46).trans ((va_up_ne _ _ (Nat.ne_of_beq_eq_false rfl)).trans hg31_46)
  have hg33_47 : g33 47 = .int 0 := (congrFun eg33 47).trans ((va_up_ne _ _ (Nat.ne_of_beq_eq_false rfl)).trans hg31_47)
  have hg33_48 : g33 48 = .int 0 := (congrFun eg33 48).trans ((va_up_ne _ _ (Nat.ne_of_beq_eq_false rfl)).trans hg31_48)
  have hg33_74 : g33 74 = .int 0 := (congrFun eg33 74).trans ((va_up_ne _ _ (Nat.ne_of_beq_eq_false rfl)).trans hg31_74)
  have hg33_75 : g33 75 = .int 0 := (congrFun eg33 75).trans ((va_up_ne _ _ (Nat.ne_of_beq_eq_false rfl)).trans hg31_75)
  have hg33_55 : g33 55 = .int 0 := (congrFun eg33 55).trans ((va_up_ne _ _ (Nat.ne_of_beq_eq_false rfl)).trans hg31_55)
  have hg33_10 : g33 10 = .ref q13 := (congrFun eg33 10).trans ((va_up_ne _ _ (Nat.ne_of_beq_eq_false rfl)).trans hg31_10)
  have hg33_15 : g33 15 = .ref q23 := (congrFun eg33 15).trans ((va_up_ne _ _ (Nat.ne_of_beq_eq_false rfl)).trans hg31_15)
  have hg33_27 : g33 27 = .ref q26 := (congrFun eg33 27).trans ((va_up_ne _ _ (Nat.ne_of_beq_eq_false rfl)).trans hg31_27)
  have hg33_28 : g33 28 = .ref q28 := (congrFun eg33 28).trans ((va_up_ne _ _ (Nat.ne_of_beq_eq_false rfl)).trans hg31_28)
  have hg33_29 : g33 29 = .ref q30 := (congrFun eg33 29).trans ((va_up_ne _ _ (Nat.ne_of_beq_eq_false rfl)).trans hg31_29)
  clear hg31_0 hg31_1 hg31_8 hg31_9 hg31_16 hg31_17 hg31_46 hg31_47 hg31_48 hg31_74 hg31_75 hg31_55 hg31_10 hg31_15 hg31_27 hg31_28 hg31_29
  have hg33_30 : g33 30 = .ref q32 := by rw [eg33]; exact va_up_self _ _ _
  refine lv_aload_n hx hb dX13_init_143 rfl (lv_at hl 0 rfl) ?_
  refine lv_bipush (v := 20) hx hb dX13_init_144 (by decide) ?_
  refine va_newa (atype := .int) (ty := .int) (N' := 20) (a0 := (20, .inl (fun _ => (0 : Int32)))) hx hb (hts (.arrayClass .int) (List.mem_of_getElem? (i := 4) rfl)) rfl hK hP hD hS hA (fun _ => rfl) (by decide) (by decide) (Nat.le_of_ble_eq_true rfl) (Nat.le_of_ble_eq_true rfl) (Nat.le_of_ble_eq_true rfl) dX13_init_146 (fun q34 kq34 H hK hP hD hS => ?_)
  have hK : va_K (dC, dI) vwCl [(kq1, .int), (kq13, .byte), (kq34, .int)] s := hK
  replace hP : va_P (dC, dI) vwCl [(h, .inr (14, mL g33)), (q13, .inl (kq13, 200, .inl (fun _ => (0 : Int32)))), (q23, .inl (kq1, 128, .inl (fun _ => (0 : Int32)))), (q26, .inl (kq1, 20, .inl (fun _ => (0 : Int32)))), (q28, .inl (kq1, 20, .inl (fun _ => (0 : Int32)))), (q30, .inl (kq1, 20, .inl (fun _ => (0 : Int32)))), (q32, .inl (kq1, 20, .inl (fun _ => (0 : Int32)))), (q34, .inl (kq34, 20, .inl (fun _ => (0 : Int32))))] H := hP
  replace hD : va_D A [(h, .inr (14, mL g33)), (q13, .inl (kq13, 200, .inl (fun _ => (0 : Int32)))), (q23, .inl (kq1, 128, .inl (fun _ => (0 : Int32)))), (q26, .inl (kq1, 20, .inl (fun _ => (0 : Int32)))), (q28, .inl (kq1, 20, .inl (fun _ => (0 : Int32)))), (q30, .inl (kq1, 20, .inl (fun _ => (0 : Int32)))), (q32, .inl (kq1, 20, .inl (fun _ => (0 : Int32)))), (q34, .inl (kq34, 20, .inl (fun _ => (0 : Int32))))] := hD
  refine W.widen (k := 17) (n := 4156) (by omega) (by omega) ?_
  obtain rfl : kq1 = kq34 := ub_sa_int hK 0 2 rfl rfl
  have hK := hK.sub (tys' := [(kq1, .int), (kq13, .byte)]) [0, 1] rfl
  refine va_putF (D := (dC, dI)) (ci := 14) (v := .ref q34) (ty := .array .int) (C := RX13) (T := TX13) (N := 97) hx hb hts iw_m_init_X13 tyX13 tyX13_ok nmX13 hown hK hP hD hS 0 rfl rfl 31 (by decide) (hts (.fieldLink RX13 62 "UnlikeBoatsModel" "markX" "[I") (List.mem_of_getElem? (i := 23) rfl)) (fun _ h9 => h9) rfl hin rfl (by decide +kernel) rfl rfl (mL_lt (Nat.le_of_ble_eq_true rfl)) dX13_init_148 (fun H locs hP hD hS => ?_)
  have hP : va_P (dC, dI) vwCl [(h, .inr (14, (mL g33).set 31 (.ref q34))), (q13, .inl (kq13, 200, .inl (fun _ => (0 : Int32)))), (q23, .inl (kq1, 128, .inl (fun _ => (0 : Int32)))), (q26, .inl (kq1, 20, .inl (fun _ => (0 : Int32)))), (q28, .inl (kq1, 20, .inl (fun _ => (0 : Int32)))), (q30, .inl (kq1, 20, .inl (fun _ => (0 : Int32)))), (q32, .inl (kq1, 20, .inl (fun _ => (0 : Int32)))), (q34, .inl (kq1, 20, .inl (fun _ => (0 : Int32))))] H := hP
  have hD : va_D A [(h, .inr (14, (mL g33).set 31 (.ref q34))), (q13, .inl (kq13, 200, .inl (fun _ => (0 : Int32)))), (q23, .inl (kq1, 128, .inl (fun _ => (0 : Int32)))), (q26, .inl (kq1, 20, .inl (fun _ => (0 : Int32)))), (q28, .inl (kq1, 20, .inl (fun _ => (0 : Int32)))), (q30, .inl (kq1, 20, .inl (fun _ => (0 : Int32)))), (q32, .inl (kq1, 20, .inl (fun _ => (0 : Int32)))), (q34, .inl (kq1, 20, .inl (fun _ => (0 : Int32))))] := hD
  obtain ⟨g35, eg35⟩ : ∃ z9, z9 = va_up g33 31 (.ref q34) := ⟨_, rfl⟩
  rw [mL_upd, ← eg35] at hP hD
  have hg35_0 : g35 0 = .int 0 := (congrFun eg35 0).trans ((va_up_ne _ _ (Nat.ne_of_beq_eq_false rfl)).trans hg33_0)
  have hg35_1 : g35 1 = .int 0 := (congrFun eg35 1).trans ((va_up_ne _ _ (Nat.ne_of_beq_eq_false rfl)).trans hg33_1)
  have hg35_8 : g35 8 = .int 0 := (congrFun eg35 8).trans ((va_up_ne _ _ (Nat.ne_of_beq_eq_false rfl)).trans hg33_8)
  have hg35_9 : g35 9 = .int 0 := (congrFun eg35 9).trans ((va_up_ne _ _ (Nat.ne_of_beq_eq_false rfl)).trans hg33_9)
  have hg35_16 : g35 16 = .int 0 := (congrFun eg35 16).trans ((va_up_ne _ _ (Nat.ne_of_beq_eq_false rfl)).trans hg33_16)
  have hg35_17 : g35 17 = .int 0 := (congrFun eg35 17).trans ((va_up_ne _ _ (Nat.ne_of_beq_eq_false rfl)).trans hg33_17)
  have hg35_46 : g35 46 = .int 0 := (congrFun eg35 46).trans ((va_up_ne _ _ (Nat.ne_of_beq_eq_false rfl)).trans hg33_46)
  have hg35_47 : g35 47 = .int 0 := (congrFun eg35 47).trans ((va_up_ne _ _ (Nat.ne_of_beq_eq_false rfl)).trans hg33_47)
  have hg35_48 : g35 48 = .int 0 := (congrFun eg35 48).trans ((va_up_ne _ _ (Nat.ne_of_beq_eq_false rfl)).trans hg33_48)
  have hg35_74 : g35 74 = .int 0 := (congrFun eg35 74).trans ((va_up_ne _ _ (Nat.ne_of_beq_eq_false rfl)).trans hg33_74)
  have hg35_75 : g35 75 = .int 0 := (congrFun eg35 75).trans ((va_up_ne _ _ (Nat.ne_of_beq_eq_false rfl)).trans hg33_75)
  have hg35_55 : g35 55 = .int 0 := (congrFun eg35 55).trans ((va_up_ne _ _ (Nat.ne_of_beq_eq_false rfl)).trans hg33_55)
  have hg35_10 : g35 10 = .ref q13 := (congrFun eg35 10).trans ((va_up_ne _ _ (Nat.ne_of_beq_eq_false rfl)).trans hg33_10)
  have hg35_15 : g35 15 = .ref q23 := (congrFun eg35 15).trans ((va_up_ne _ _ (Nat.ne_of_beq_eq_false rfl)).trans hg33_15)
  have hg35_27 : g35 27 = .ref q26 := (congrFun eg35 27).trans ((va_up_ne _ _ (Nat.ne_of_beq_eq_false rfl)).trans hg33_27)
  have hg35_28 : g35 28 = .ref q28 := (congrFun eg35 28).trans ((va_up_ne _ _ (Nat.ne_of_beq_eq_false rfl)).trans hg33_28)
  have hg35_29 : g35 29 = .ref q30 := (congrFun eg35 29).trans ((va_up_ne _ _ (Nat.ne_of_beq_eq_false rfl)).trans hg33_29)
  have hg35_30 : g35 30 = .ref q32 := (congrFun eg35 30).trans ((va_up_ne _ _ (Nat.ne_of_beq_eq_false rfl)).trans hg33_30)
  clear hg33_0 hg33_1 hg33_8 hg33_9 hg33_16 hg33_17 hg33_46 hg33_47 hg33_48 hg33_74 hg33_75 hg33_55 hg33_10 hg33_15 hg33_27 hg33_28 hg33_29 hg33_30
  have hg35_31 : g35 31 = .ref q34 := by rw [eg35]; exact va_up_self _ _ _
  refine lv_aload_n hx hb dX13_init_151 rfl (lv_at hl 0 rfl) ?_
  refine lv_bipush (v := 20) hx hb dX13_init_152 (by decide) ?_
  refine va_newa (atype := .int) (ty := .int) (N' := 20) (a0 := (20, .inl (fun _ => (0 : Int32)))) hx hb (hts (.arrayClass .int) (List.mem_of_getElem? (i := 4) rfl)) rfl hK hP hD hS hA (fun _ => rfl) (by decide) (by decide) (Nat.le_of_ble_eq_true rfl) (Nat.le_of_ble_eq_true rfl) (Nat.le_of_ble_eq_true rfl) dX13_init_154 (fun q36 kq36 H hK hP hD hS => ?_)
  have hK : va_K (dC, dI) vwCl [(kq1, .int), (kq13, .byte), (kq36, .int)] s := hK
  replace hP : va_P (dC, dI) vwCl [(h, .inr (14, mL g35)), (q13, .inl (kq13, 200, .inl (fun _ => (0 : Int32)))), (q23, .inl (kq1, 128, .inl (fun _ => (0 : Int32)))), (q26, .inl (kq1, 20, .inl (fun _ => (0 : Int32)))), (q28, .inl (kq1, 20, .inl (fun _ => (0 : Int32)))), (q30, .inl (kq1, 20, .inl (fun _ => (0 : Int32)))), (q32, .inl (kq1, 20, .inl (fun _ => (0 : Int32)))), (q34, .inl (kq1, 20, .inl (fun _ => (0 : Int32)))), (q36, .inl (kq36, 20, .inl (fun _ => (0 : Int32))))] H := hP
  replace hD : va_D A [(h, .inr (14, mL g35)), (q13, .inl (kq13, 200, .inl (fun _ => (0 : Int32)))), (q23, .inl (kq1, 128, .inl (fun _ => (0 : Int32)))), (q26, .inl (kq1, 20, .inl (fun _ => (0 : Int32)))), (q28, .inl (kq1, 20, .inl (fun _ => (0 : Int32)))), (q30, .inl (kq1, 20, .inl (fun _ => (0 : Int32)))), (q32, .inl (kq1, 20, .inl (fun _ => (0 : Int32)))), (q34, .inl (kq1, 20, .inl (fun _ => (0 : Int32)))), (q36, .inl (kq36, 20, .inl (fun _ => (0 : Int32))))] := hD
  refine W.widen (k := 18) (n := 4176) (by omega) (by omega) ?_
  obtain rfl : kq1 = kq36 := ub_sa_int hK 0 2 rfl rfl
  have hK := hK.sub (tys' := [(kq1, .int), (kq13, .byte)]) [0, 1] rfl
  refine va_putF (D := (dC, dI)) (ci := 14) (v := .ref q36) (ty := .array .int) (C := RX13) (T := TX13) (N := 97) hx hb hts iw_m_init_X13 tyX13 tyX13_ok nmX13 hown hK hP hD hS 0 rfl rfl 32 (by decide) (hts (.fieldLink RX13 65 "UnlikeBoatsModel" "markY" "[I") (List.mem_of_getElem? (i := 24) rfl)) (fun _ h9 => h9) rfl hin rfl (by decide +kernel) rfl rfl (mL_lt (Nat.le_of_ble_eq_true rfl)) dX13_init_156 (fun H locs hP hD hS => ?_)
  have hP : va_P (dC, dI) vwCl [(h, .inr (14, (mL g35).set 32 (.ref q36))), (q13, .inl (kq13, 200, .inl (fun _ => (0 : Int32)))), (q23, .inl (kq1, 128, .inl (fun _ => (0 : Int32)))), (q26, .inl (kq1, 20, .inl (fun _ => (0 : Int32)))), (q28, .inl (kq1, 20, .inl (fun _ => (0 : Int32)))), (q30, .inl (kq1, 20, .inl (fun _ => (0 : Int32)))), (q32, .inl (kq1, 20, .inl (fun _ => (0 : Int32)))), (q34, .inl (kq1, 20, .inl (fun _ => (0 : Int32)))), (q36, .inl (kq1, 20, .inl (fun _ => (0 : Int32))))] H := hP
  have hD : va_D A [(h, .inr (14, (mL g35).set 32 (.ref q36))), (q13, .inl (kq13, 200, .inl (fun _ => (0 : Int32)))), (q23, .inl (kq1, 128, .inl (fun _ => (0 : Int32)))), (q26, .inl (kq1, 20, .inl (fun _ => (0 : Int32)))), (q28, .inl (kq1, 20, .inl (fun _ => (0 : Int32)))), (q30, .inl (kq1, 20, .inl (fun _ => (0 : Int32)))), (q32, .inl (kq1, 20, .inl (fun _ => (0 : Int32)))), (q34, .inl (kq1, 20, .inl (fun _ => (0 : Int32)))), (q36, .inl (kq1, 20, .inl (fun _ => (0 : Int32))))] := hD
  obtain ⟨g37, eg37⟩ : ∃ z9, z9 = va_up g35 32 (.ref q36) := ⟨_, rfl⟩
  rw [mL_upd, ← eg37] at hP hD
  have hg37_0 : g37 0 = .int 0 := (congrFun eg37 0).trans ((va_up_ne _ _ (Nat.ne_of_beq_eq_false rfl)).trans hg35_0)
  have hg37_1 : g37 1 = .int 0 := (congrFun eg37 1).trans ((va_up_ne _ _ (Nat.ne_of_beq_eq_false rfl)).trans hg35_1)
  have hg37_8 : g37 8 = .int 0 := (congrFun eg37 8).trans ((va_up_ne _ _ (Nat.ne_of_beq_eq_false rfl)).trans hg35_8)
  have hg37_9 : g37 9 = .int 0 := (congrFun eg37 9).trans ((va_up_ne _ _ (Nat.ne_of_beq_eq_false rfl)).trans hg35_9)
  have hg37_16 : g37 16 = .int 0 := (congrFun eg37 16).trans ((va_up_ne _ _ (Nat.ne_of_beq_eq_false rfl)).trans hg35_16)
  have hg37_17 : g37 17 = .int 0 := (congrFun eg37 17).trans ((va_up_ne _ _ (Nat.ne_of_beq_eq_false rfl)).trans hg35_17)
  have hg37_46 : g37 46 = .int 0 := (congrFun eg37 46).trans ((va_up_ne _ _ (Nat.ne_of_beq_eq_false rfl)).trans hg35_46)
  have hg37_47 : g37 47 = .int 0 := (congrFun eg37 47).trans ((va_up_ne _ _ (Nat.ne_of_beq_eq_false rfl)).trans hg35_47)
  have hg37_48 : g37 48 = .int 0 := (congrFun eg37 48).trans ((va_up_ne _ _ (Nat.ne_of_beq_eq_false rfl)).trans hg35_48)
  have hg37_74 : g37 74 = .int 0 := (congrFun eg37 74).trans ((va_up_ne _ _ (Nat.ne_of_beq_eq_false rfl)).trans hg35_74)
  have hg37_75 : g37 75 = .int 0 := (congrFun eg37 75).trans ((va_up_ne _ _ (Nat.ne_of_beq_eq_false rfl)).trans hg35_75)
  have hg37_55 : g37 55 = .int 0 := (congrFun eg37 55).trans ((va_up_ne _ _ (Nat.ne_of_beq_eq_false rfl)).trans hg35_55)
  have hg37_10 : g37 10 = .ref q13 := (congrFun eg37 10).trans ((va_up_ne _ _ (Nat.ne_of_beq_eq_false rfl)).trans hg35_10)
  have hg37_15 : g37 15 = .ref q23 := (congrFun eg37 15).trans ((va_up_ne _ _ (Nat.ne_of_beq_eq_false rfl)).trans hg35_15)
  have hg37_27 : g37 27 = .ref q26 := (congrFun eg37 27).trans ((va_up_ne _ _ (Nat.ne_of_beq_eq_false rfl)).trans hg35_27)
  have hg37_28 : g37 28 = .ref q28 := (congrFun eg37 28).trans ((va_up_ne _ _ (Nat.ne_of_beq_eq_false rfl)).trans hg35_28)
  have hg37_29 : g37 29 = .ref q30 := (congrFun eg37 29).trans ((va_up_ne _ _ (Nat.ne_of_beq_eq_false rfl)).trans hg35_29)
  have hg37_30 : g37 30 = .ref q32 := (congrFun eg37 30).trans ((va_up_ne _ _ (Nat.ne_of_beq_eq_false rfl)).trans hg35_30)
  have hg37_31 : g37 31 = .ref q34 := (congrFun eg37 31).trans ((va_up_ne _ _ (Nat.ne_of_beq_eq_false rfl)).trans hg35_31)
  clear hg35_0 hg35_1 hg35_8 hg35_9 hg35_16 hg35_17 hg35_46 hg35_47 hg35_48 hg35_74 hg35_75 hg35_55 hg35_10 hg35_15 hg35_27 hg35_28 hg35_29 hg35_30 hg35_31
  have hg37_32 : g37 32 = .ref q36 := by rw [eg37]; exact va_up_self _ _ _
  refine lv_aload_n hx hb dX13_init_159 rfl (lv_at hl 0 rfl) ?_
  refine lv_bipush (v := 20) hx hb dX13_init_160 (by decide) ?_
  refine va_newa (atype := .int) (ty := .int) (N' := 20) (a0 := (20, .inl (fun _ => (0 : Int32)))) hx hb (hts (.arrayClass .int) (List.mem_of_getElem? (i := 4) rfl)) rfl hK hP hD hS hA (fun _ => rfl) (by decide) (by decide) (Nat.le_of_ble_eq_true rfl) (Nat.le_of_ble_eq_true rfl) (Nat.le_of_ble_eq_true rfl) dX13_init_162 (fun q38 kq38 H hK hP hD hS => ?_)
  have hK : va_K (dC, dI) vwCl [(kq1, .int), (kq13, .byte), (kq38, .int)] s := hK
  replace hP : va_P (dC, dI) vwCl [(h, .inr (14, mL g37)), (q13, .inl (kq13, 200, .inl (fun _ => (0 : Int32)))), (q23, .inl (kq1, 128, .inl (fun _ => (0 : Int32)))), (q26, .inl (kq1, 20, .inl (fun _ => (0 : Int32)))), (q28, .inl (kq1, 20, .inl (fun _ => (0 : Int32)))), (q30, .inl (kq1, 20, .inl (fun _ => (0 : Int32)))), (q32, .inl (kq1, 20, .inl (fun _ => (0 : Int32)))), (q34, .inl (kq1, 20, .inl (fun _ => (0 : Int32)))), (q36, .inl (kq1, 20, .inl (fun _ => (0 : Int32)))), (q38, .inl (kq38, 20, .inl (fun _ => (0 : Int32))))] H := hP
  replace hD : va_D A [(h, .inr (14, mL g37)), (q13, .inl (kq13, 200, .inl (fun _ => (0 : Int32)))), (q23, .inl (kq1, 128, .inl (fun _ => (0 : Int32)))), (q26, .inl (kq1, 20, .inl (fun _ => (0 : Int32)))), (q28, .inl (kq1, 20, .inl (fun _ => (0 : Int32)))), (q30, .inl (kq1, 20, .inl (fun _ => (0 : Int32)))), (q32, .inl (kq1, 20, .inl (fun _ => (0 : Int32)))), (q34, .inl (kq1, 20, .inl (fun _ => (0 : Int32)))), (q36, .inl (kq1, 20, .inl (fun _ => (0 : Int32)))), (q38, .inl (kq38, 20, .inl (fun _ => (0 : Int32))))] := hD
  refine W.widen (k := 19) (n := 4196) (by omega) (by omega) ?_
  obtain rfl : kq1 = kq38 := ub_sa_int hK 0 2 rfl rfl
  have hK := hK.sub (tys' := [(kq1, .int), (kq13, .byte)]) [0, 1] rfl
  refine va_putF (D := (dC, dI)) (ci := 14) (v := .ref q38) (ty := .array .int) (C := RX13) (T := TX13) (N := 97) hx hb hts iw_m_init_X13 tyX13 tyX13_ok nmX13 hown hK hP hD hS 0 rfl rfl 33 (by decide) (hts (.fieldLink RX13 68 "UnlikeBoatsModel" "raceSwift" "[I") (List.mem_of_getElem? (i := 25) rfl)) (fun _ h9 => h9) rfl hin rfl (by decide +kernel) rfl rfl (mL_lt (Nat.le_of_ble_eq_true rfl)) dX13_init_164 (fun H locs hP hD hS => ?_)
  have hP : va_P (dC, dI) vwCl [(h, .inr (14, (mL g37).set 33 (.ref q38))), (q13, .inl (kq13, 200, .inl (fun _ => (0 : Int32)))), (q23, .inl (kq1, 128, .inl (fun _ => (0 : Int32)))), (q26, .inl (kq1, 20, .inl (fun _ => (0 : Int32)))), (q28, .inl (kq1, 20, .inl (fun _ => (0 : Int32)))), (q30, .inl (kq1, 20, .inl (fun _ => (0 : Int32)))), (q32, .inl (kq1, 20, .inl (fun _ => (0 : Int32)))), (q34, .inl (kq1, 20, .inl (fun _ => (0 : Int32)))), (q36, .inl (kq1, 20, .inl (fun _ => (0 : Int32)))), (q38, .inl (kq1, 20, .inl (fun _ => (0 : Int32))))] H := hP
  have hD : va_D A [(h, .inr (14, (mL g37).set 33 (.ref q38))), (q13, .inl (kq13, 200, .inl (fun _ => (0 : Int32)))), (q23, .inl (kq1, 128, .inl (fun _ => (0 : Int32)))), (q26, .inl (kq1, 20, .inl (fun _ => (0 : Int32)))), (q28, .inl (kq1, 20, .inl (fun _ => (0 : Int32)))), (q30, .inl (kq1, 20, .inl (fun _ => (0 : Int32)))), (q32, .inl (kq1, 20, .inl (fun _ => (0 : Int32)))), (q34, .inl (kq1, 20, .inl (fun _ => (0 : Int32)))), (q36, .inl (kq1, 20, .inl (fun _ => (0 : Int32)))), (q38, .inl (kq1, 20, .inl (fun _ => (0 : Int32))))] := hD
  obtain ⟨g39, eg39⟩ : ∃ z9, z9 = va_up g37 33 (.ref q38) := ⟨_, rfl⟩
  rw [mL_upd, ← eg39] at hP hD
  have hg39_0 : g39 0 = .int 0 := (congrFun eg39 0).trans ((va_up_ne _ _ (Nat.ne_of_beq_eq_false rfl)).trans hg37_0)
  have hg39_1 : g39 1 = .int 0 := (congrFun eg39 1).trans ((va_up_ne _ _ (Nat.ne_of_beq_eq_false rfl)).trans hg37_1)
  have hg39_8 : g39 8 = .int 0 := (congrFun eg39 8).trans ((va_up_ne _ _ (Nat.ne_of_beq_eq_false rfl)).trans hg37_8)
  have hg39_9 : g39 9 = .int 0 := (congrFun eg39 9).trans ((va_up_ne _ _ (Nat.ne_of_beq_eq_false rfl)).trans hg37_9)
  have hg39_16 : g39 16 = .int 0 := (congrFun eg39 16).trans ((va_up_ne _ _ (Nat.ne_of_beq_eq_false rfl)).trans hg37_16)
  have hg39_17 : g39 17 = .int 0 := (congrFun eg39 17).trans ((va_up_ne _ _ (Nat.ne_of_beq_eq_false rfl)).trans hg37_17)
  have hg39_46 : g39 46 = .int 0 := (congrFun eg39 46).trans ((va_up_ne _ _ (Nat.ne_of_beq_eq_false rfl)).trans hg37_46)
  have hg39_47 : g39 47 = .int 0 := (congrFun eg39 47).trans ((va_up_ne _ _ (Nat.ne_of_beq_eq_false rfl)).trans hg37_47)
  have hg39_48 : g39 48 = .int 0 := (congrFun eg39 48).trans ((va_up_ne _ _ (Nat.ne_of_beq_eq_false rfl)).trans hg37_48)
  have hg39_74 : g39 74 = .int 0 := (congrFun eg39 74).trans ((va_up_ne _ _ (Nat.ne_of_beq_eq_false rfl)).trans hg37_74)
  have hg39_75 : g39 75 = .int 0 := (congrFun eg39 75).trans ((va_up_ne _ _ (Nat.ne_of_beq_eq_false rfl)).trans hg37_75)
  have hg39_55 : g39 55 = .int 0 := (congrFun eg39 55).trans ((va_up_ne _ _ (Nat.ne_of_beq_eq_false rfl)).trans hg37_55)
  have hg39_10 : g39 10 = .ref q13 := (congrFun eg39 10).trans ((va_up_ne _ _ (Nat.ne_of_beq_eq_false rfl)).trans hg37_10)
  have hg39_15 : g39 15 = .ref q23 := (congrFun eg39 15).trans ((va_up_ne _ _ (Nat.ne_of_beq_eq_false rfl)).trans hg37_15)
  have hg39_27 : g39 27 = .ref q26 := (congrFun eg39 27).trans ((va_up_ne _ _ (Nat.ne_of_beq_eq_false rfl)).trans hg37_27)
  have hg39_28 : g39 28 = .ref q28 := (congrFun eg39 28).trans ((va_up_ne _ _ (Nat.ne_of_beq_eq_false rfl)).trans hg37_28)
  have hg39_29 : g39 29 = .ref q30 := (congrFun eg39 29).trans ((va_up_ne _ _ (Nat.ne_of_beq_eq_false rfl)).trans hg37_29)
  have hg39_30 : g39 30 = .ref q32 := (congrFun eg39 30).trans ((va_up_ne _ _ (Nat.ne_of_beq_eq_false rfl)).trans hg37_30)
  have hg39_31 : g39 31 = .ref q34 := (congrFun eg39 31).trans ((va_up_ne _ _ (Nat.ne_of_beq_eq_false rfl)).trans hg37_31)
  have hg39_32 : g39 32 = .ref q36 := (congrFun eg39 32).trans ((va_up_ne _ _ (Nat.ne_of_beq_eq_false rfl)).trans hg37_32)
  clear hg37_0 hg37_1 hg37_8 hg37_9 hg37_16 hg37_17 hg37_46 hg37_47 hg37_48 hg37_74 hg37_75 hg37_55 hg37_10 hg37_15 hg37_27 hg37_28 hg37_29 hg37_30 hg37_31 hg37_32
  have hg39_33 : g39 33 = .ref q38 := by rw [eg39]; exact va_up_self _ _ _
  refine lv_aload_n hx hb dX13_init_167 rfl (lv_at hl 0 rfl) ?_
  refine lv_bipush (v := 20) hx hb dX13_init_168 (by decide) ?_
  refine va_newa (atype := .int) (ty := .int) (N' := 20) (a0 := (20, .inl (fun _ => (0 : Int32)))) hx hb (hts (.arrayClass .int) (List.mem_of_getElem? (i := 4) rfl)) rfl hK hP hD hS hA (fun _ => rfl) (by decide) (by decide) (Nat.le_of_ble_eq_true rfl) (Nat.le_of_ble_eq_true rfl) (Nat.le_of_ble_eq_true rfl) dX13_init_170 (fun q40 kq40 H hK hP hD hS => ?_)
  have hK : va_K (dC, dI) vwCl [(kq1, .int), (kq13, .byte), (kq40, .int)] s := hK
  replace hP : va_P (dC, dI) vwCl [(h, .inr (14, mL g39)), (q13, .inl (kq13, 200, .inl (fun _ => (0 : Int32)))), (q23, .inl (kq1, 128, .inl (fun _ => (0 : Int32)))), (q26, .inl (kq1, 20, .inl (fun _ => (0 : Int32)))), (q28, .inl (kq1, 20, .inl (fun _ => (0 : Int32)))), (q30, .inl (kq1, 20, .inl (fun _ => (0 : Int32)))), (q32, .inl (kq1, 20, .inl (fun _ => (0 : Int32)))), (q34, .inl (kq1, 20, .inl (fun _ => (0 : Int32)))), (q36, .inl (kq1, 20, .inl (fun _ => (0 : Int32)))), (q38, .inl (kq1, 20, .inl (fun _ => (0 : Int32)))), (q40, .inl (kq40, 20, .inl (fun _ => (0 : Int32))))] H := hP
  replace hD : va_D A [(h, .inr (14, mL g39)), (q13, .inl (kq13, 200, .inl (fun _ => (0 : Int32)))), (q23, .inl (kq1, 128, .inl (fun _ => (0 : Int32)))), (q26, .inl (kq1, 20, .inl (fun _ => (0 : Int32)))), (q28, .inl (kq1, 20, .inl (fun _ => (0 : Int32)))), (q30, .inl (kq1, 20, .inl (fun _ => (0 : Int32)))), (q32, .inl (kq1, 20, .inl (fun _ => (0 : Int32)))), (q34, .inl (kq1, 20, .inl (fun _ => (0 : Int32)))), (q36, .inl (kq1, 20, .inl (fun _ => (0 : Int32)))), (q38, .inl (kq1, 20, .inl (fun _ => (0 : Int32)))), (q40, .inl (kq40, 20, .inl (fun _ => (0 : Int32))))] := hD
  refine W.widen (k := 20) (n := 4216) (by omega) (by omega) ?_
  obtain rfl : kq1 = kq40 := ub_sa_int hK 0 2 rfl rfl
  have hK := hK.sub (tys' := [(kq1, .int), (kq13, .byte)]) [0, 1] rfl
  refine va_putF (D := (dC, dI)) (ci := 14) (v := .ref q40) (ty := .array .int) (C := RX13) (T := TX13) (N := 97) hx hb hts iw_m_init_X13 tyX13 tyX13_ok nmX13 hown hK hP hD hS 0 rfl rfl 34 (by decide) (hts (.fieldLink RX13 71 "UnlikeBoatsModel" "raceTold" "[I") (List.mem_of_getElem? (i := 26) rfl)) (fun _ h9 => h9) rfl hin rfl (by decide +kernel) rfl rfl (mL_lt (Nat.le_of_ble_eq_true rfl)) dX13_init_172 (fun H locs hP hD hS => ?_)
  have hP : va_P (dC, dI) vwCl [(h, .inr (14, (mL g39).set 34 (.ref q40))), (q13, .inl (kq13, 200, .inl (fun _ => (0 : Int32)))), (q23, .inl (kq1, 128, .inl (fun _ => (0 : Int32)))), (q26, .inl (kq1, 20, .inl (fun _ => (0 : Int32)))), (q28, .inl (kq1, 20, .inl (fun _ => (0 : Int32)))), (q30, .inl (kq1, 20, .inl (fun _ => (0 : Int32)))), (q32, .inl (kq1, 20, .inl (fun _ => (0 : Int32)))), (q34, .inl (kq1, 20, .inl (fun _ => (0 : Int32)))), (q36, .inl (kq1, 20, .inl (fun _ => (0 : Int32)))), (q38, .inl (kq1, 20, .inl (fun _ => (0 : Int32)))), (q40, .inl (kq1, 20, .inl (fun _ => (0 : Int32))))] H := hP
  have hD : va_D A [(h, .inr (14, (mL g39).set 34 (.ref q40))), (q13, .inl (kq13, 200, .inl (fun _ => (0 : Int32)))), (q23, .inl (kq1, 128, .inl (fun _ => (0 : Int32)))), (q26, .inl (kq1, 20, .inl (fun _ => (0 : Int32)))), (q28, .inl (kq1, 20, .inl (fun _ => (0 : Int32)))), (q30, .inl (kq1, 20, .inl (fun _ => (0 : Int32)))), (q32, .inl (kq1, 20, .inl (fun _ => (0 : Int32)))), (q34, .inl (kq1, 20, .inl (fun _ => (0 : Int32)))), (q36, .inl (kq1, 20, .inl (fun _ => (0 : Int32)))), (q38, .inl (kq1, 20, .inl (fun _ => (0 : Int32)))), (q40, .inl (kq1, 20, .inl (fun _ => (0 : Int32))))] := hD
  obtain ⟨g41, eg41⟩ : ∃ z9, z9 = va_up g39 34 (.ref q40) := ⟨_, rfl⟩
  rw [mL_upd, ← eg41] at hP hD
  have hg41_0 : g41 0 = .int 0 := (congrFun eg41 0).trans ((va_up_ne _ _ (Nat.ne_of_beq_eq_false rfl)).trans hg39_0)
  have hg41_1 : g41 1 = .int 0 := (congrFun eg41 1).trans ((va_up_ne _ _ (Nat.ne_of_beq_eq_false rfl)).trans hg39_1)
  have hg41_8 : g41 8 = .int 0 := (congrFun eg41 8).trans ((va_up_ne _ _ (Nat.ne_of_beq_eq_false rfl)).trans hg39_8)
  have hg41_9 : g41 9 = .int 0 := (congrFun eg41 9).trans ((va_up_ne _ _ (Nat.ne_of_beq_eq_false rfl)).trans hg39_9)
  have hg41_16 : g41 16 = .int 0 := (congrFun eg41 16).trans ((va_up_ne _ _ (Nat.ne_of_beq_eq_false rfl)).trans hg39_16)
  have hg41_17 : g41 17 = .int 0 := (congrFun eg41 17).trans ((va_up_ne _ _ (Nat.ne_of_beq_eq_false rfl)).trans hg39_17)
  have hg41_46 : g41 46 = .int 0 := (congrFun eg41 46).trans ((va_up_ne _ _ (Nat.ne_of_beq_eq_false rfl)).trans hg39_46)
  have hg41_47 : g41 47 = .int 0 := (congrFun eg41 47).trans ((va_up_ne _ _ (Nat.ne_of_beq_eq_false rfl)).trans hg39_47)
  have hg41_48 : g41 48 = .int 0 := (congrFun eg41 48).trans ((va_up_ne _ _ (Nat.ne_of_beq_eq_false rfl)).trans hg39_48)
  have hg41_74 : g41 74 = .int 0 := (congrFun eg41 74).trans ((va_up_ne _ _ (Nat.ne_of_beq_eq_false rfl)).trans hg39_74)
  have hg41_75 : g41 75 = .int 0 := (congrFun eg41 75).trans ((va_up_ne _ _ (Nat.ne_of_beq_eq_false rfl)).trans hg39_75)
  have hg41_55 : g41 55 = .int 0 := (congrFun eg41 55).trans ((va_up_ne _ _ (Nat.ne_of_beq_eq_false rfl)).trans hg39_55)
  have hg41_10 : g41 10 = .ref q13 := (congrFun eg41 10).trans ((va_up_ne _ _ (Nat.ne_of_beq_eq_false rfl)).trans hg39_10)
  have hg41_15 : g41 15 = .ref q23 := (congrFun eg41 15).trans ((va_up_ne _ _ (Nat.ne_of_beq_eq_false rfl)).trans hg39_15)
  have hg41_27 : g41 27 = .ref q26 := (congrFun eg41 27).trans ((va_up_ne _ _ (Nat.ne_of_beq_eq_false rfl)).trans hg39_27)
  have hg41_28 : g41 28 = .ref q28 := (congrFun eg41 28).trans ((va_up_ne _ _ (Nat.ne_of_beq_eq_false rfl)).trans hg39_28)
  have hg41_29 : g41 29 = .ref q30 := (congrFun eg41 29).trans ((va_up_ne _ _ (Nat.ne_of_beq_eq_false rfl)).trans hg39_29)
  have hg41_30 : g41 30 = .ref q32 := (congrFun eg41 30).trans ((va_up_ne _ _ (Nat.ne_of_beq_eq_false rfl)).trans hg39_30)
  have hg41_31 : g41 31 = .ref q34 := (congrFun eg41 31).trans ((va_up_ne _ _ (Nat.ne_of_beq_eq_false rfl)).trans hg39_31)
  have hg41_32 : g41 32 = .ref q36 := (congrFun eg41 32).trans ((va_up_ne _ _ (Nat.ne_of_beq_eq_false rfl)).trans hg39_32)
  have hg41_33 : g41 33 = .ref q38 := (congrFun eg41 33).trans ((va_up_ne _ _ (Nat.ne_of_beq_eq_false rfl)).trans hg39_33)
  clear hg39_0 hg39_1 hg39_8 hg39_9 hg39_16 hg39_17 hg39_46 hg39_47 hg39_48 hg39_74 hg39_75 hg39_55 hg39_10 hg39_15 hg39_27 hg39_28 hg39_29 hg39_30 hg39_31 hg39_32 hg39_33
  have hg41_34 : g41 34 = .ref q40 := by rw [eg41]; exact va_up_self _ _ _
  refine lv_aload_n hx hb dX13_init_175 rfl (lv_at hl 0 rfl) ?_
  refine lv_sipush (v := 320) hx hb dX13_init_176 (by decide) ?_
  refine va_newa (atype := .int) (ty := .int) (N' := 320) (a0 := (320, .inl (fun _ => (0 : Int32)))) hx hb (hts (.arrayClass .int) (List.mem_of_getElem? (i := 4) rfl)) rfl hK hP hD hS hA (fun _ => rfl) (by decide) (by decide) (Nat.le_of_ble_eq_true rfl) (Nat.le_of_ble_eq_true rfl) (Nat.le_of_ble_eq_true rfl) dX13_init_179 (fun q42 kq42 H hK hP hD hS => ?_)
  have hK : va_K (dC, dI) vwCl [(kq1, .int), (kq13, .byte), (kq42, .int)] s := hK
  replace hP : va_P (dC, dI) vwCl [(h, .inr (14, mL g41)), (q13, .inl (kq13, 200, .inl (fun _ => (0 : Int32)))), (q23, .inl (kq1, 128, .inl (fun _ => (0 : Int32)))), (q26, .inl (kq1, 20, .inl (fun _ => (0 : Int32)))), (q28, .inl (kq1, 20, .inl (fun _ => (0 : Int32)))), (q30, .inl (kq1, 20, .inl (fun _ => (0 : Int32)))), (q32, .inl (kq1, 20, .inl (fun _ => (0 : Int32)))), (q34, .inl (kq1, 20, .inl (fun _ => (0 : Int32)))), (q36, .inl (kq1, 20, .inl (fun _ => (0 : Int32)))), (q38, .inl (kq1, 20, .inl (fun _ => (0 : Int32)))), (q40, .inl (kq1, 20, .inl (fun _ => (0 : Int32)))), (q42, .inl (kq42, 320, .inl (fun _ => (0 : Int32))))] H := hP
  replace hD : va_D A [(h, .inr (14, mL g41)), (q13, .inl (kq13, 200, .inl (fun _ => (0 : Int32)))), (q23, .inl (kq1, 128, .inl (fun _ => (0 : Int32)))), (q26, .inl (kq1, 20, .inl (fun _ => (0 : Int32)))), (q28, .inl (kq1, 20, .inl (fun _ => (0 : Int32)))), (q30, .inl (kq1, 20, .inl (fun _ => (0 : Int32)))), (q32, .inl (kq1, 20, .inl (fun _ => (0 : Int32)))), (q34, .inl (kq1, 20, .inl (fun _ => (0 : Int32)))), (q36, .inl (kq1, 20, .inl (fun _ => (0 : Int32)))), (q38, .inl (kq1, 20, .inl (fun _ => (0 : Int32)))), (q40, .inl (kq1, 20, .inl (fun _ => (0 : Int32)))), (q42, .inl (kq42, 320, .inl (fun _ => (0 : Int32))))] := hD
  refine W.widen (k := 21) (n := 4536) (by omega) (by omega) ?_
  obtain rfl : kq1 = kq42 := ub_sa_int hK 0 2 rfl rfl
  have hK := hK.sub (tys' := [(kq1, .int), (kq13, .byte)]) [0, 1] rfl
  refine va_putF (D := (dC, dI)) (ci := 14) (v := .ref q42) (ty := .array .int) (C := RX13) (T := TX13) (N := 97) hx hb hts iw_m_init_X13 tyX13 tyX13_ok nmX13 hown hK hP hD hS 0 rfl rfl 35 (by decide) (hts (.fieldLink RX13 74 "UnlikeBoatsModel" "entered" "[I") (List.mem_of_getElem? (i := 27) rfl)) (fun _ h9 => h9) rfl hin rfl (by decide +kernel) rfl rfl (mL_lt (Nat.le_of_ble_eq_true rfl)) dX13_init_181 (fun H locs hP hD hS => ?_)
  have hP : va_P (dC, dI) vwCl [(h, .inr (14, (mL g41).set 35 (.ref q42))), (q13, .inl (kq13, 200, .inl (fun _ => (0 : Int32)))), (q23, .inl (kq1, 128, .inl (fun _ => (0 : Int32)))), (q26, .inl (kq1, 20, .inl (fun _ => (0 : Int32)))), (q28, .inl (kq1, 20, .inl (fun _ => (0 : Int32)))), (q30, .inl (kq1, 20, .inl (fun _ => (0 : Int32)))), (q32, .inl (kq1, 20, .inl (fun _ => (0 : Int32)))), (q34, .inl (kq1, 20, .inl (fun _ => (0 : Int32)))), (q36, .inl (kq1, 20, .inl (fun _ => (0 : Int32)))), (q38, .inl (kq1, 20, .inl (fun _ => (0 : Int32)))), (q40, .inl (kq1, 20, .inl (fun _ => (0 : Int32)))), (q42, .inl (kq1, 320, .inl (fun _ => (0 : Int32))))] H := hP
  have hD : va_D A [(h, .inr (14, (mL g41).set 35 (.ref q42))), (q13, .inl (kq13, 200, .inl (fun _ => (0 : Int32)))), (q23, .inl (kq1, 128, .inl (fun _ => (0 : Int32)))), (q26, .inl (kq1, 20, .inl (fun _ => (0 : Int32)))), (q28, .inl (kq1, 20, .inl (fun _ => (0 : Int32)))), (q30, .inl (kq1, 20, .inl (fun _ => (0 : Int32)))), (q32, .inl (kq1, 20, .inl (fun _ => (0 : Int32)))), (q34, .inl (kq1, 20, .inl (fun _ => (0 : Int32)))), (q36, .inl (kq1, 20, .inl (fun _ => (0 : Int32)))), (q38, .inl (kq1, 20, .inl (fun _ => (0 : Int32)))), (q40, .inl (kq1, 20, .inl (fun _ => (0 : Int32)))), (q42, .inl (kq1, 320, .inl (fun _ => (0 : Int32))))] := hD
  obtain ⟨g43, eg43⟩ : ∃ z9, z9 = va_up g41 35 (.ref q42) := ⟨_, rfl⟩
  rw [mL_upd, ← eg43] at hP hD
  have hg43_0 : g43 0 = .int 0 := (congrFun eg43 0).trans ((va_up_ne _ _ (Nat.ne_of_beq_eq_false rfl)).trans hg41_0)
  have hg43_1 : g43 1 = .int 0 := (congrFun eg43 1).trans ((va_up_ne _ _ (Nat.ne_of_beq_eq_false rfl)).trans hg41_1)
  have hg43_8 : g43 8 = .int 0 := (congrFun eg43 8).trans ((va_up_ne _ _ (Nat.ne_of_beq_eq_false rfl)).trans hg41_8)
  have hg43_9 : g43 9 = .int 0 := (congrFun eg43 9).trans ((va_up_ne _ _ (Nat.ne_of_beq_eq_false rfl)).trans hg41_9)
  have hg43_16 : g43 16 = .int 0 := (congrFun eg43 16).trans ((va_up_ne _ _ (Nat.ne_of_beq_eq_false rfl)).trans hg41_16)
  have hg43_17 : g43 17 = .int 0 := (congrFun eg43 17).trans ((va_up_ne _ _ (Nat.ne_of_beq_eq_false rfl)).trans hg41_17)
  have hg43_46 : g43 46 = .int 0 := (congrFun eg43 46).trans ((va_up_ne _ _ (Nat.ne_of_beq_eq_false rfl)).trans hg41_46)
  have hg43_47 : g43 47 = .int 0 := (congrFun eg43 47).trans ((va_up_ne _ _ (Nat.ne_of_beq_eq_false rfl)).trans hg41_47)
  have hg43_48 : g43 48 = .int 0 := (congrFun eg43 48).trans ((va_up_ne _ _ (Nat.ne_of_beq_eq_false rfl)).trans hg41_48)
  have hg43_74 : g43 74 = .int 0 := (congrFun eg43 74).trans ((va_up_ne _ _ (Nat.ne_of_beq_eq_false rfl)).trans hg41_74)
  have hg43_75 : g43 75 = .int 0 := (congrFun eg43 75).trans ((va_up_ne _ _ (Nat.ne_of_beq_eq_false rfl)).trans hg41_75)
  have hg43_55 : g43 55 = .int 0 := (congrFun eg43 55).trans ((va_up_ne _ _ (Nat.ne_of_beq_eq_false rfl)).trans hg41_55)
  have hg43_10 : g43 10 = .ref q13 := (congrFun eg43 10).trans ((va_up_ne _ _ (Nat.ne_of_beq_eq_false rfl)).trans hg41_10)
  have hg43_15 : g43 15 = .ref q23 := (congrFun eg43 15).trans ((va_up_ne _ _ (Nat.ne_of_beq_eq_false rfl)).trans hg41_15)
  have hg43_27 : g43 27 = .ref q26 := (congrFun eg43 27).trans ((va_up_ne _ _ (Nat.ne_of_beq_eq_false rfl)).trans hg41_27)
  have hg43_28 : g43 28 = .ref q28 := (congrFun eg43 28).trans ((va_up_ne _ _ (Nat.ne_of_beq_eq_false rfl)).trans hg41_28)
  have hg43_29 : g43 29 = .ref q30 := (congrFun eg43 29).trans ((va_up_ne _ _ (Nat.ne_of_beq_eq_false rfl)).trans hg41_29)
  have hg43_30 : g43 30 = .ref q32 := (congrFun eg43 30).trans ((va_up_ne _ _ (Nat.ne_of_beq_eq_false rfl)).trans hg41_30)
  have hg43_31 : g43 31 = .ref q34 := (congrFun eg43 31).trans ((va_up_ne _ _ (Nat.ne_of_beq_eq_false rfl)).trans hg41_31)
  have hg43_32 : g43 32 = .ref q36 := (congrFun eg43 32).trans ((va_up_ne _ _ (Nat.ne_of_beq_eq_false rfl)).trans hg41_32)
  have hg43_33 : g43 33 = .ref q38 := (congrFun eg43 33).trans ((va_up_ne _ _ (Nat.ne_of_beq_eq_false rfl)).trans hg41_33)
  have hg43_34 : g43 34 = .ref q40 := (congrFun eg43 34).trans ((va_up_ne _ _ (Nat.ne_of_beq_eq_false rfl)).trans hg41_34)
  clear hg41_0 hg41_1 hg41_8 hg41_9 hg41_16 hg41_17 hg41_46 hg41_47 hg41_48 hg41_74 hg41_75 hg41_55 hg41_10 hg41_15 hg41_27 hg41_28 hg41_29 hg41_30 hg41_31 hg41_32 hg41_33 hg41_34
  have hg43_35 : g43 35 = .ref q42 := by rw [eg43]; exact va_up_self _ _ _
  refine lv_aload_n hx hb dX13_init_184 rfl (lv_at hl 0 rfl) ?_
  refine lv_sipush (v := 320) hx hb dX13_init_185 (by decide) ?_
  refine va_newa (atype := .int) (ty := .int) (N' := 320) (a0 := (320, .inl (fun _ => (0 : Int32)))) hx hb (hts (.arrayClass .int) (List.mem_of_getElem? (i := 4) rfl)) rfl hK hP hD hS hA (fun _ => rfl) (by decide) (by decide) (Nat.le_of_ble_eq_true rfl) (Nat.le_of_ble_eq_true rfl) (Nat.le_of_ble_eq_true rfl) dX13_init_188 (fun q44 kq44 H hK hP hD hS => ?_)
  have hK : va_K (dC, dI) vwCl [(kq1, .int), (kq13, .byte), (kq44, .int)] s := hK
  replace hP : va_P (dC, dI) vwCl [(h, .inr (14, mL g43)), (q13, .inl (kq13, 200, .inl (fun _ => (0 : Int32)))), (q23, .inl (kq1, 128, .inl (fun _ => (0 : Int32)))), (q26, .inl (kq1, 20, .inl (fun _ => (0 : Int32)))), (q28, .inl (kq1, 20, .inl (fun _ => (0 : Int32)))), (q30, .inl (kq1, 20, .inl (fun _ => (0 : Int32)))), (q32, .inl (kq1, 20, .inl (fun _ => (0 : Int32)))), (q34, .inl (kq1, 20, .inl (fun _ => (0 : Int32)))), (q36, .inl (kq1, 20, .inl (fun _ => (0 : Int32)))), (q38, .inl (kq1, 20, .inl (fun _ => (0 : Int32)))), (q40, .inl (kq1, 20, .inl (fun _ => (0 : Int32)))), (q42, .inl (kq1, 320, .inl (fun _ => (0 : Int32)))), (q44, .inl (kq44, 320, .inl (fun _ => (0 : Int32))))] H := hP
  replace hD : va_D A [(h, .inr (14, mL g43)), (q13, .inl (kq13, 200, .inl (fun _ => (0 : Int32)))), (q23, .inl (kq1, 128, .inl (fun _ => (0 : Int32)))), (q26, .inl (kq1, 20, .inl (fun _ => (0 : Int32)))), (q28, .inl (kq1, 20, .inl (fun _ => (0 : Int32)))), (q30, .inl (kq1, 20, .inl (fun _ => (0 : Int32)))), (q32, .inl (kq1, 20, .inl (fun _ => (0 : Int32)))), (q34, .inl (kq1, 20, .inl (fun _ => (0 : Int32)))), (q36, .inl (kq1, 20, .inl (fun _ => (0 : Int32)))), (q38, .inl (kq1, 20, .inl (fun _ => (0 : Int32)))), (q40, .inl (kq1, 20, .inl (fun _ => (0 : Int32)))), (q42, .inl (kq1, 320, .inl (fun _ => (0 : Int32)))), (q44, .inl (kq44, 320, .inl (fun _ => (0 : Int32))))] := hD
  refine W.widen (k := 22) (n := 4856) (by omega) (by omega) ?_
  obtain rfl : kq1 = kq44 := ub_sa_int hK 0 2 rfl rfl
  have hK := hK.sub (tys' := [(kq1, .int), (kq13, .byte)]) [0, 1] rfl
  refine va_putF (D := (dC, dI)) (ci := 14) (v := .ref q44) (ty := .array .int) (C := RX13) (T := TX13) (N := 97) hx hb hts iw_m_init_X13 tyX13 tyX13_ok nmX13 hown hK hP hD hS 0 rfl rfl 36 (by decide) (hts (.fieldLink RX13 77 "UnlikeBoatsModel" "startEnd" "[I") (List.mem_of_getElem? (i := 28) rfl)) (fun _ h9 => h9) rfl hin rfl (by decide +kernel) rfl rfl (mL_lt (Nat.le_of_ble_eq_true rfl)) dX13_init_190 (fun H locs hP hD hS => ?_)
  have hP : va_P (dC, dI) vwCl [(h, .inr (14, (mL g43).set 36 (.ref q44))), (q13, .inl (kq13, 200, .inl (fun _ => (0 : Int32)))), (q23, .inl (kq1, 128, .inl (fun _ => (0 : Int32)))), (q26, .inl (kq1, 20, .inl (fun _ => (0 : Int32)))), (q28, .inl (kq1, 20, .inl (fun _ => (0 : Int32)))), (q30, .inl (kq1, 20, .inl (fun _ => (0 : Int32)))), (q32, .inl (kq1, 20, .inl (fun _ => (0 : Int32)))), (q34, .inl (kq1, 20, .inl (fun _ => (0 : Int32)))), (q36, .inl (kq1, 20, .inl (fun _ => (0 : Int32)))), (q38, .inl (kq1, 20, .inl (fun _ => (0 : Int32)))), (q40, .inl (kq1, 20, .inl (fun _ => (0 : Int32)))), (q42, .inl (kq1, 320, .inl (fun _ => (0 : Int32)))), (q44, .inl (kq1, 320, .inl (fun _ => (0 : Int32))))] H := hP
  have hD : va_D A [(h, .inr (14, (mL g43).set 36 (.ref q44))), (q13, .inl (kq13, 200, .inl (fun _ => (0 : Int32)))), (q23, .inl (kq1, 128, .inl (fun _ => (0 : Int32)))), (q26, .inl (kq1, 20, .inl (fun _ => (0 : Int32)))), (q28, .inl (kq1, 20, .inl (fun _ => (0 : Int32)))), (q30, .inl (kq1, 20, .inl (fun _ => (0 : Int32)))), (q32, .inl (kq1, 20, .inl (fun _ => (0 : Int32)))), (q34, .inl (kq1, 20, .inl (fun _ => (0 : Int32)))), (q36, .inl (kq1, 20, .inl (fun _ => (0 : Int32)))), (q38, .inl (kq1, 20, .inl (fun _ => (0 : Int32)))), (q40, .inl (kq1, 20, .inl (fun _ => (0 : Int32)))), (q42, .inl (kq1, 320, .inl (fun _ => (0 : Int32)))), (q44, .inl (kq1, 320, .inl (fun _ => (0 : Int32))))] := hD
  obtain ⟨g45, eg45⟩ : ∃ z9, z9 = va_up g43 36 (.ref q44) := ⟨_, rfl⟩
  rw [mL_upd, ← eg45] at hP hD
  have hg45_0 : g45 0 = .int 0 := (congrFun eg45 0).trans ((va_up_ne _ _ (Nat.ne_of_beq_eq_false rfl)).trans hg43_0)
  have hg45_1 : g45 1 = .int 0 := (congrFun eg45 1).trans ((va_up_ne _ _ (Nat.ne_of_beq_eq_false rfl)).trans hg43_1)
  have hg45_8 : g45 8 = .int 0 := (congrFun eg45 8).trans ((va_up_ne _ _ (Nat.ne_of_beq_eq_false rfl)).trans hg43_8)
  have hg45_9 : g45 9 = .int 0 := (congrFun eg45 9).trans ((va_up_ne _ _ (Nat.ne_of_beq_eq_false rfl)).trans hg43_9)
  have hg45_16 : g45 16 = .int 0 := (congrFun eg45 16).trans ((va_up_ne _ _ (Nat.ne_of_beq_eq_false rfl)).trans hg43_16)
  have hg45_17 : g45 17 = .int 0 := (congrFun eg45 17).trans ((va_up_ne _ _ (Nat.ne_of_beq_eq_false rfl)).trans hg43_17)
  have hg45_46 : g45 46 = .int 0 := (congrFun eg45 46).trans ((va_up_ne _ _ (Nat.ne_of_beq_eq_false rfl)).trans hg43_46)
  have hg45_47 : g45 47 = .int 0 := (congrFun eg45 47).trans ((va_up_ne _ _ (Nat.ne_of_beq_eq_false rfl)).trans hg43_47)
  have hg45_48 : g45 48 = .int 0 := (congrFun eg45 48).trans ((va_up_ne _ _ (Nat.ne_of_beq_eq_false rfl)).trans hg43_48)
  have hg45_74 : g45 74 = .int 0 := (congrFun eg45 74).trans ((va_up_ne _ _ (Nat.ne_of_beq_eq_false rfl)).trans hg43_74)
  have hg45_75 : g45 75 = .int 0 := (congrFun eg45 75).trans ((va_up_ne _ _ (Nat.ne_of_beq_eq_false rfl)).trans hg43_75)
  have hg45_55 : g45 55 = .int 0 := (congrFun eg45 55).trans ((va_up_ne _ _ (Nat.ne_of_beq_eq_false rfl)).trans hg43_55)
  have hg45_10 : g45 10 = .ref q13 := (congrFun eg45 10).trans ((va_up_ne _ _ (Nat.ne_of_beq_eq_false rfl)).trans hg43_10)
  have hg45_15 : g45 15 = .ref q23 := (congrFun eg45 15).trans ((va_up_ne _ _ (Nat.ne_of_beq_eq_false rfl)).trans hg43_15)
  have hg45_27 : g45 27 = .ref q26 := (congrFun eg45 27).trans ((va_up_ne _ _ (Nat.ne_of_beq_eq_false rfl)).trans hg43_27)
  have hg45_28 : g45 28 = .ref q28 := (congrFun eg45 28).trans ((va_up_ne _ _ (Nat.ne_of_beq_eq_false rfl)).trans hg43_28)
  have hg45_29 : g45 29 = .ref q30 := (congrFun eg45 29).trans ((va_up_ne _ _ (Nat.ne_of_beq_eq_false rfl)).trans hg43_29)
  have hg45_30 : g45 30 = .ref q32 := (congrFun eg45 30).trans ((va_up_ne _ _ (Nat.ne_of_beq_eq_false rfl)).trans hg43_30)
  have hg45_31 : g45 31 = .ref q34 := (congrFun eg45 31).trans ((va_up_ne _ _ (Nat.ne_of_beq_eq_false rfl)).trans hg43_31)
  have hg45_32 : g45 32 = .ref q36 := (congrFun eg45 32).trans ((va_up_ne _ _ (Nat.ne_of_beq_eq_false rfl)).trans hg43_32)
  have hg45_33 : g45 33 = .ref q38 := (congrFun eg45 33).trans ((va_up_ne _ _ (Nat.ne_of_beq_eq_false rfl)).trans hg43_33)
  have hg45_34 : g45 34 = .ref q40 := (congrFun eg45 34).trans ((va_up_ne _ _ (Nat.ne_of_beq_eq_false rfl)).trans hg43_34)
  have hg45_35 : g45 35 = .ref q42 := (congrFun eg45 35).trans ((va_up_ne _ _ (Nat.ne_of_beq_eq_false rfl)).trans hg43_35)
  clear hg43_0 hg43_1 hg43_8 hg43_9 hg43_16 hg43_17 hg43_46 hg43_47 hg43_48 hg43_74 hg43_75 hg43_55 hg43_10 hg43_15 hg43_27 hg43_28 hg43_29 hg43_30 hg43_31 hg43_32 hg43_33 hg43_34 hg43_35
  have hg45_36 : g45 36 = .ref q44 := by rw [eg45]; exact va_up_self _ _ _
  refine lv_aload_n hx hb dX13_init_193 rfl (lv_at hl 0 rfl) ?_
  refine lv_sipush (v := 320) hx hb dX13_init_194 (by decide) ?_
  refine va_newa (atype := .int) (ty := .int) (N' := 320) (a0 := (320, .inl (fun _ => (0 : Int32)))) hx hb (hts (.arrayClass .int) (List.mem_of_getElem? (i := 4) rfl)) rfl hK hP hD hS hA (fun _ => rfl) (by decide) (by decide) (Nat.le_of_ble_eq_true rfl) (Nat.le_of_ble_eq_true rfl) (Nat.le_of_ble_eq_true rfl) dX13_init_197 (fun q46 kq46 H hK hP hD hS => ?_)
  have hK : va_K (dC, dI) vwCl [(kq1, .int), (kq13, .byte), (kq46, .int)] s := hK
  replace hP : va_P (dC, dI) vwCl [(h, .inr (14, mL g45)), (q13, .inl (kq13, 200, .inl (fun _ => (0 : Int32)))), (q23, .inl (kq1, 128, .inl (fun _ => (0 : Int32)))), (q26, .inl (kq1, 20, .inl (fun _ => (0 : Int32)))), (q28, .inl (kq1, 20, .inl (fun _ => (0 : Int32)))), (q30, .inl (kq1, 20, .inl (fun _ => (0 : Int32)))), (q32, .inl (kq1, 20, .inl (fun _ => (0 : Int32)))), (q34, .inl (kq1, 20, .inl (fun _ => (0 : Int32)))), (q36, .inl (kq1, 20, .inl (fun _ => (0 : Int32)))), (q38, .inl (kq1, 20, .inl (fun _ => (0 : Int32)))), (q40, .inl (kq1, 20, .inl (fun _ => (0 : Int32)))), (q42, .inl (kq1, 320, .inl (fun _ => (0 : Int32)))), (q44, .inl (kq1, 320, .inl (fun _ => (0 : Int32)))), (q46, .inl (kq46, 320, .inl (fun _ => (0 : Int32))))] H := hP
  replace hD : va_D A [(h, .inr (14, mL g45)), (q13, .inl (kq13, 200, .inl (fun _ => (0 : Int32)))), (q23, .inl (kq1, 128, .inl (fun _ => (0 : Int32)))), (q26, .inl (kq1, 20, .inl (fun _ => (0 : Int32)))), (q28, .inl (kq1, 20, .inl (fun _ => (0 : Int32)))), (q30, .inl (kq1, 20, .inl (fun _ => (0 : Int32)))), (q32, .inl (kq1, 20, .inl (fun _ => (0 : Int32)))), (q34, .inl (kq1, 20, .inl (fun _ => (0 : Int32)))), (q36, .inl (kq1, 20, .inl (fun _ => (0 : Int32)))), (q38, .inl (kq1, 20, .inl (fun _ => (0 : Int32)))), (q40, .inl (kq1, 20, .inl (fun _ => (0 : Int32)))), (q42, .inl (kq1, 320, .inl (fun _ => (0 : Int32)))), (q44, .inl (kq1, 320, .inl (fun _ => (0 : Int32)))), (q46, .inl (kq46, 320, .inl (fun _ => (0 : Int32))))] := hD
  refine W.widen (k := 23) (n := 5176) (by omega) (by omega) ?_
  obtain rfl : kq1 = kq46 := ub_sa_int hK 0 2 rfl rfl
  have hK := hK.sub (tys' := [(kq1, .int), (kq13, .byte)]) [0, 1] rfl
  refine va_putF (D := (dC, dI)) (ci := 14) (v := .ref q46) (ty := .array .int) (C := RX13) (T := TX13) (N := 97) hx hb hts iw_m_init_X13 tyX13 tyX13_ok nmX13 hown hK hP hD hS 0 rfl rfl 37 (by decide) (hts (.fieldLink RX13 80 "UnlikeBoatsModel" "startAt" "[I") (List.mem_of_getElem? (i := 29) rfl)) (fun _ h9 => h9) rfl hin rfl (by decide +kernel) rfl rfl (mL_lt (Nat.le_of_ble_eq_true rfl)) dX13_init_199 (fun H locs hP hD hS => ?_)
  have hP : va_P (dC, dI) vwCl [(h, .inr (14, (mL g45).set 37 (.ref q46))), (q13, .inl (kq13, 200, .inl (fun _ => (0 : Int32)))), (q23, .inl (kq1, 128, .inl (fun _ => (0 : Int32)))), (q26, .inl (kq1, 20, .inl (fun _ => (0 : Int32)))), (q28, .inl (kq1, 20, .inl (fun _ => (0 : Int32)))), (q30, .inl (kq1, 20, .inl (fun _ => (0 : Int32)))), (q32, .inl (kq1, 20, .inl (fun _ => (0 : Int32)))), (q34, .inl (kq1, 20, .inl (fun _ => (0 : Int32)))), (q36, .inl (kq1, 20, .inl (fun _ => (0 : Int32)))), (q38, .inl (kq1, 20, .inl (fun _ => (0 : Int32)))), (q40, .inl (kq1, 20, .inl (fun _ => (0 : Int32)))), (q42, .inl (kq1, 320, .inl (fun _ => (0 : Int32)))), (q44, .inl (kq1, 320, .inl (fun _ => (0 : Int32)))), (q46, .inl (kq1, 320, .inl (fun _ => (0 : Int32))))] H := hP
  have hD : va_D A [(h, .inr (14, (mL g45).set 37 (.ref q46))), (q13, .inl (kq13, 200, .inl (fun _ => (0 : Int32)))), (q23, .inl (kq1, 128, .inl (fun _ => (0 : Int32)))), (q26, .inl (kq1, 20, .inl (fun _ => (0 : Int32)))), (q28, .inl (kq1, 20, .inl (fun _ => (0 : Int32)))), (q30, .inl (kq1, 20, .inl (fun _ => (0 : Int32)))), (q32, .inl (kq1, 20, .inl (fun _ => (0 : Int32)))), (q34, .inl (kq1, 20, .inl (fun _ => (0 : Int32)))), (q36, .inl (kq1, 20, .inl (fun _ => (0 : Int32)))), (q38, .inl (kq1, 20, .inl (fun _ => (0 : Int32)))), (q40, .inl (kq1, 20, .inl (fun _ => (0 : Int32)))), (q42, .inl (kq1, 320, .inl (fun _ => (0 : Int32)))), (q44, .inl (kq1, 320, .inl (fun _ => (0 : Int32)))), (q46, .inl (kq1, 320, .inl (fun _ => (0 : Int32))))] := hD
  obtain ⟨g47, eg47⟩ : ∃ z9, z9 = va_up g45 37 (.ref q46) := ⟨_, rfl⟩
  rw [mL_upd, ← eg47] at hP hD
  have hg47_0 : g47 0 = .int 0 := (congrFun eg47 0).trans ((va_up_ne _ _ (Nat.ne_of_beq_eq_false rfl)).trans hg45_0)
  have hg47_1 : g47 1 = .int 0 := (congrFun eg47 1).trans ((va_up_ne _ _ (Nat.ne_of_beq_eq_false rfl)).trans hg45_1)
  have hg47_8 : g47 8 = .int 0 := (congrFun eg47 8).trans ((va_up_ne _ _ (Nat.ne_of_beq_eq_false rfl)).trans hg45_8)
  have hg47_9 : g47 9 = .int 0 := (congrFun eg47 9).trans ((va_up_ne _ _ (Nat.ne_of_beq_eq_false rfl)).trans hg45_9)
  have hg47_16 : g47 16 = .int 0 := (congrFun eg47 16).trans ((va_up_ne _ _ (Nat.ne_of_beq_eq_false rfl)).trans hg45_16)
  have hg47_17 : g47 17 = .int 0 := (congrFun eg47 17).trans ((va_up_ne _ _ (Nat.ne_of_beq_eq_false rfl)).trans hg45_17)
  have hg47_46 : g47 46 = .int 0 := (congrFun eg47 46).trans ((va_up_ne _ _ (Nat.ne_of_beq_eq_false rfl)).trans hg45_46)
  have hg47_47 : g47 47 = .int 0 := (congrFun eg47 47).trans ((va_up_ne _ _ (Nat.ne_of_beq_eq_false rfl)).trans hg45_47)
  have hg47_48 : g47 48 = .int 0 := (congrFun eg47 48).trans ((va_up_ne _ _ (Nat.ne_of_beq_eq_false rfl)).trans hg45_48)
  have hg47_74 : g47 74 = .int 0 := (congrFun eg47 74).trans ((va_up_ne _ _ (Nat.ne_of_beq_eq_false rfl)).trans hg45_74)
  have hg47_75 : g47 75 = .int 0 := (congrFun eg47 75).trans ((va_up_ne _ _ (Nat.ne_of_beq_eq_false rfl)).trans hg45_75)
  have hg47_55 : g47 55 = .int 0 := (congrFun eg47 55).trans ((va_up_ne _ _ (Nat.ne_of_beq_eq_false rfl)).trans hg45_55)
  have hg47_10 : g47 10 = .ref q13 := (congrFun eg47 10).trans ((va_up_ne _ _ (Nat.ne_of_beq_eq_false rfl)).trans hg45_10)
  have hg47_15 : g47 15 = .ref q23 := (congrFun eg47 15).trans ((va_up_ne _ _ (Nat.ne_of_beq_eq_false rfl)).trans hg45_15)
  have hg47_27 : g47 27 = .ref q26 := (congrFun eg47 27).trans ((va_up_ne _ _ (Nat.ne_of_beq_eq_false rfl)).trans hg45_27)
  have hg47_28 : g47 28 = .ref q28 := (congrFun eg47 28).trans ((va_up_ne _ _ (Nat.ne_of_beq_eq_false rfl)).trans hg45_28)
  have hg47_29 : g47 29 = .ref q30 := (congrFun eg47 29).trans ((va_up_ne _ _ (Nat.ne_of_beq_eq_false rfl)).trans hg45_29)
  have hg47_30 : g47 30 = .ref q32 := (congrFun eg47 30).trans ((va_up_ne _ _ (Nat.ne_of_beq_eq_false rfl)).trans hg45_30)
  have hg47_31 : g47 31 = .ref q34 := (congrFun eg47 31).trans ((va_up_ne _ _ (Nat.ne_of_beq_eq_false rfl)).trans hg45_31)
  have hg47_32 : g47 32 = .ref q36 := (congrFun eg47 32).trans ((va_up_ne _ _ (Nat.ne_of_beq_eq_false rfl)).trans hg45_32)
  have hg47_33 : g47 33 = .ref q38 := (congrFun eg47 33).trans ((va_up_ne _ _ (Nat.ne_of_beq_eq_false rfl)).trans hg45_33)
  have hg47_34 : g47 34 = .ref q40 := (congrFun eg47 34).trans ((va_up_ne _ _ (Nat.ne_of_beq_eq_false rfl)).trans hg45_34)
  have hg47_35 : g47 35 = .ref q42 := (congrFun eg47 35).trans ((va_up_ne _ _ (Nat.ne_of_beq_eq_false rfl)).trans hg45_35)
  have hg47_36 : g47 36 = .ref q44 := (congrFun eg47 36).trans ((va_up_ne _ _ (Nat.ne_of_beq_eq_false rfl)).trans hg45_36)
  clear hg45_0 hg45_1 hg45_8 hg45_9 hg45_16 hg45_17 hg45_46 hg45_47 hg45_48 hg45_74 hg45_75 hg45_55 hg45_10 hg45_15 hg45_27 hg45_28 hg45_29 hg45_30 hg45_31 hg45_32 hg45_33 hg45_34 hg45_35 hg45_36
  have hg47_37 : g47 37 = .ref q46 := by rw [eg47]; exact va_up_self _ _ _
  replace hP := hP.sub (ws' := [(h, .inr (14, mL g47)), (q13, .inl (kq13, 200, .inl (fun _ => (0 : Int32)))), (q23, .inl (kq1, 128, .inl (fun _ => (0 : Int32)))), (q26, .inl (kq1, 20, .inl (fun _ => (0 : Int32)))), (q28, .inl (kq1, 20, .inl (fun _ => (0 : Int32)))), (q30, .inl (kq1, 20, .inl (fun _ => (0 : Int32)))), (q32, .inl (kq1, 20, .inl (fun _ => (0 : Int32)))), (q34, .inl (kq1, 20, .inl (fun _ => (0 : Int32)))), (q36, .inl (kq1, 20, .inl (fun _ => (0 : Int32)))), (q38, .inl (kq1, 20, .inl (fun _ => (0 : Int32)))), (q40, .inl (kq1, 20, .inl (fun _ => (0 : Int32)))), (q42, .inl (kq1, 320, .inl (fun _ => (0 : Int32)))), (q44, .inl (kq1, 320, .inl (fun _ => (0 : Int32))))]) [0, 1, 2, 3, 4, 5, 6, 7, 8, 9, 10, 11, 12] rfl
  replace hD := hD.sub (ws' := [(h, .inr (14, mL g47)), (q13, .inl (kq13, 200, .inl (fun _ => (0 : Int32)))), (q23, .inl (kq1, 128, .inl (fun _ => (0 : Int32)))), (q26, .inl (kq1, 20, .inl (fun _ => (0 : Int32)))), (q28, .inl (kq1, 20, .inl (fun _ => (0 : Int32)))), (q30, .inl (kq1, 20, .inl (fun _ => (0 : Int32)))), (q32, .inl (kq1, 20, .inl (fun _ => (0 : Int32)))), (q34, .inl (kq1, 20, .inl (fun _ => (0 : Int32)))), (q36, .inl (kq1, 20, .inl (fun _ => (0 : Int32)))), (q38, .inl (kq1, 20, .inl (fun _ => (0 : Int32)))), (q40, .inl (kq1, 20, .inl (fun _ => (0 : Int32)))), (q42, .inl (kq1, 320, .inl (fun _ => (0 : Int32)))), (q44, .inl (kq1, 320, .inl (fun _ => (0 : Int32))))]) [0, 1, 2, 3, 4, 5, 6, 7, 8, 9, 10, 11, 12] (by decide) rfl
  refine lv_aload_n hx hb dX13_init_202 rfl (lv_at hl 0 rfl) ?_
  refine lv_sipush (v := 300) hx hb dX13_init_203 (by decide) ?_
  refine va_newa (atype := .int) (ty := .int) (N' := 300) (a0 := (300, .inl (fun _ => (0 : Int32)))) hx hb (hts (.arrayClass .int) (List.mem_of_getElem? (i := 4) rfl)) rfl hK hP hD hS hA (fun _ => rfl) (by decide) (by decide) (Nat.le_of_ble_eq_true rfl) (Nat.le_of_ble_eq_true rfl) (Nat.le_of_ble_eq_true rfl) dX13_init_206 (fun q48 kq48 H hK hP hD hS => ?_)
  have hK : va_K (dC, dI) vwCl [(kq1, .int), (kq13, .byte), (kq48, .int)] s := hK
  replace hP : va_P (dC, dI) vwCl [(h, .inr (14, mL g47)), (q13, .inl (kq13, 200, .inl (fun _ => (0 : Int32)))), (q23, .inl (kq1, 128, .inl (fun _ => (0 : Int32)))), (q26, .inl (kq1, 20, .inl (fun _ => (0 : Int32)))), (q28, .inl (kq1, 20, .inl (fun _ => (0 : Int32)))), (q30, .inl (kq1, 20, .inl (fun _ => (0 : Int32)))), (q32, .inl (kq1, 20, .inl (fun _ => (0 : Int32)))), (q34, .inl (kq1, 20, .inl (fun _ => (0 : Int32)))), (q36, .inl (kq1, 20, .inl (fun _ => (0 : Int32)))), (q38, .inl (kq1, 20, .inl (fun _ => (0 : Int32)))), (q40, .inl (kq1, 20, .inl (fun _ => (0 : Int32)))), (q42, .inl (kq1, 320, .inl (fun _ => (0 : Int32)))), (q44, .inl (kq1, 320, .inl (fun _ => (0 : Int32)))), (q48, .inl (kq48, 300, .inl (fun _ => (0 : Int32))))] H := hP
  replace hD : va_D A [(h, .inr (14, mL g47)), (q13, .inl (kq13, 200, .inl (fun _ => (0 : Int32)))), (q23, .inl (kq1, 128, .inl (fun _ => (0 : Int32)))), (q26, .inl (kq1, 20, .inl (fun _ => (0 : Int32)))), (q28, .inl (kq1, 20, .inl (fun _ => (0 : Int32)))), (q30, .inl (kq1, 20, .inl (fun _ => (0 : Int32)))), (q32, .inl (kq1, 20, .inl (fun _ => (0 : Int32)))), (q34, .inl (kq1, 20, .inl (fun _ => (0 : Int32)))), (q36, .inl (kq1, 20, .inl (fun _ => (0 : Int32)))), (q38, .inl (kq1, 20, .inl (fun _ => (0 : Int32)))), (q40, .inl (kq1, 20, .inl (fun _ => (0 : Int32)))), (q42, .inl (kq1, 320, .inl (fun _ => (0 : Int32)))), (q44, .inl (kq1, 320, .inl (fun _ => (0 : Int32)))), (q48, .inl (kq48, 300, .inl (fun _ => (0 : Int32))))] := hD
  refine W.widen (k := 24) (n := 5476) (by omega) (by omega) ?_
  obtain rfl : kq1 = kq48 := ub_sa_int hK 0 2 rfl rfl
  have hK := hK.sub (tys' := [(kq1, .int), (kq13, .byte)]) [0, 1] rfl
  refine va_putF (D := (dC, dI)) (ci := 14) (v := .ref q48) (ty := .array .int) (C := RX13) (T := TX13) (N := 97) hx hb hts iw_m_init_X13 tyX13 tyX13_ok nmX13 hown hK hP hD hS 0 rfl rfl 38 (by decide) (hts (.fieldLink RX13 83 "UnlikeBoatsModel" "resultRace" "[I") (List.mem_of_getElem? (i := 30) rfl)) (fun _ h9 => h9) rfl hin rfl (by decide +kernel) rfl rfl (mL_lt (Nat.le_of_ble_eq_true rfl)) dX13_init_208 (fun H locs hP hD hS => ?_)
  have hP : va_P (dC, dI) vwCl [(h, .inr (14, (mL g47).set 38 (.ref q48))), (q13, .inl (kq13, 200, .inl (fun _ => (0 : Int32)))), (q23, .inl (kq1, 128, .inl (fun _ => (0 : Int32)))), (q26, .inl (kq1, 20, .inl (fun _ => (0 : Int32)))), (q28, .inl (kq1, 20, .inl (fun _ => (0 : Int32)))), (q30, .inl (kq1, 20, .inl (fun _ => (0 : Int32)))), (q32, .inl (kq1, 20, .inl (fun _ => (0 : Int32)))), (q34, .inl (kq1, 20, .inl (fun _ => (0 : Int32)))), (q36, .inl (kq1, 20, .inl (fun _ => (0 : Int32)))), (q38, .inl (kq1, 20, .inl (fun _ => (0 : Int32)))), (q40, .inl (kq1, 20, .inl (fun _ => (0 : Int32)))), (q42, .inl (kq1, 320, .inl (fun _ => (0 : Int32)))), (q44, .inl (kq1, 320, .inl (fun _ => (0 : Int32)))), (q48, .inl (kq1, 300, .inl (fun _ => (0 : Int32))))] H := hP
  have hD : va_D A [(h, .inr (14, (mL g47).set 38 (.ref q48))), (q13, .inl (kq13, 200, .inl (fun _ => (0 : Int32)))), (q23, .inl (kq1, 128, .inl (fun _ => (0 : Int32)))), (q26, .inl (kq1, 20, .inl (fun _ => (0 : Int32)))), (q28, .inl (kq1, 20, .inl (fun _ => (0 : Int32)))), (q30, .inl (kq1, 20, .inl (fun _ => (0 : Int32)))), (q32, .inl (kq1, 20, .inl (fun _ => (0 : Int32)))), (q34, .inl (kq1, 20, .inl (fun _ => (0 : Int32)))), (q36, .inl (kq1, 20, .inl (fun _ => (0 : Int32)))), (q38, .inl (kq1, 20, .inl (fun _ => (0 : Int32)))), (q40, .inl (kq1, 20, .inl (fun _ => (0 : Int32)))), (q42, .inl (kq1, 320, .inl (fun _ => (0 : Int32)))), (q44, .inl (kq1, 320, .inl (fun _ => (0 : Int32)))), (q48, .inl (kq1, 300, .inl (fun _ => (0 : Int32))))] := hD
  obtain ⟨g49, eg49⟩ : ∃ z9, z9 = va_up g47 38 (.ref q48) := ⟨_, rfl⟩
  rw [mL_upd, ← eg49] at hP hD
  have hg49_0 : g49 0 = .int 0 := (congrFun eg49 0).trans ((va_up_ne _ _ (Nat.ne_of_beq_eq_false rfl)).trans hg47_0)
  have hg49_1 : g49 1 = .int 0 := (congrFun eg49 1).trans ((va_up_ne _ _ (Nat.ne_of_beq_eq_false rfl)).trans hg47_1)
  have hg49_8 : g49 8 = .int 0 := (congrFun eg49 8).trans ((va_up_ne _ _ (Nat.ne_of_beq_eq_false rfl)).trans hg47_8)
  have hg49_9 : g49 9 = .int 0 := (congrFun eg49 9).trans ((va_up_ne _ _ (Nat.ne_of_beq_eq_false rfl)).trans hg47_9)
  have hg49_16 : g49 16 = .int 0 := (congrFun eg49 16).trans ((va_up_ne _ _ (Nat.ne_of_beq_eq_false rfl)).trans hg47_16)
  have hg49_17 : g49 17 = .int 0 := (congrFun eg49 17).trans ((va_up_ne _ _ (Nat.ne_of_beq_eq_false rfl)).trans hg47_17)
  have hg49_46 : g49 46 = .int 0 := (congrFun eg49 46).trans ((va_up_ne _ _ (Nat.ne_of_beq_eq_false rfl)).trans hg47_46)
  have hg49_47 : g49 47 = .int 0 := (congrFun eg49 47).trans ((va_up_ne _ _ (Nat.ne_of_beq_eq_false rfl)).trans hg47_47)
  have hg49_48 : g49 48 = .int 0 := (congrFun eg49 48).trans ((va_up_ne _ _ (Nat.ne_of_beq_eq_false rfl)).trans hg47_48)
  have hg49_74 : g49 74 = .int 0 := (congrFun eg49 74).trans ((va_up_ne _ _ (Nat.ne_of_beq_eq_false rfl)).trans hg47_74)
  have hg49_75 : g49 75 = .int 0 := (congrFun eg49 75).trans ((va_up_ne _ _ (Nat.ne_of_beq_eq_false rfl)).trans hg47_75)
  have hg49_55 : g49 55 = .int 0 := (congrFun eg49 55).trans ((va_up_ne _ _ (Nat.ne_of_beq_eq_false rfl)).trans hg47_55)
  have hg49_10 : g49 10 = .ref q13 := (congrFun eg49 10).trans ((va_up_ne _ _ (Nat.ne_of_beq_eq_false rfl)).trans hg47_10)
  have hg49_15 : g49 15 = .ref q23 := (congrFun eg49 15).trans ((va_up_ne _ _ (Nat.ne_of_beq_eq_false rfl)).trans hg47_15)
  have hg49_27 : g49 27 = .ref q26 := (congrFun eg49 27).trans ((va_up_ne _ _ (Nat.ne_of_beq_eq_false rfl)).trans hg47_27)
  have hg49_28 : g49 28 = .ref q28 := (congrFun eg49 28).trans ((va_up_ne _ _ (Nat.ne_of_beq_eq_false rfl)).trans hg47_28)
  have hg49_29 : g49 29 = .ref q30 := (congrFun eg49 29).trans ((va_up_ne _ _ (Nat.ne_of_beq_eq_false rfl)).trans hg47_29)
  have hg49_30 : g49 30 = .ref q32 := (congrFun eg49 30).trans ((va_up_ne _ _ (Nat.ne_of_beq_eq_false rfl)).trans hg47_30)
  have hg49_31 : g49 31 = .ref q34 := (congrFun eg49 31).trans ((va_up_ne _ _ (Nat.ne_of_beq_eq_false rfl)).trans hg47_31)
  have hg49_32 : g49 32 = .ref q36 := (congrFun eg49 32).trans ((va_up_ne _ _ (Nat.ne_of_beq_eq_false rfl)).trans hg47_32)
  have hg49_33 : g49 33 = .ref q38 := (congrFun eg49 33).trans ((va_up_ne _ _ (Nat.ne_of_beq_eq_false rfl)).trans hg47_33)
  have hg49_34 : g49 34 = .ref q40 := (congrFun eg49 34).trans ((va_up_ne _ _ (Nat.ne_of_beq_eq_false rfl)).trans hg47_34)
  have hg49_35 : g49 35 = .ref q42 := (congrFun eg49 35).trans ((va_up_ne _ _ (Nat.ne_of_beq_eq_false rfl)).trans hg47_35)
  have hg49_36 : g49 36 = .ref q44 := (congrFun eg49 36).trans ((va_up_ne _ _ (Nat.ne_of_beq_eq_false rfl)).trans hg47_36)
  clear hg47_0 hg47_1 hg47_8 hg47_9 hg47_16 hg47_17 hg47_46 hg47_47 hg47_48 hg47_74 hg47_75 hg47_55 hg47_10 hg47_15 hg47_27 hg47_28 hg47_29 hg47_30 hg47_31 hg47_32 hg47_33 hg47_34 hg47_35 hg47_36
  have hg49_38 : g49 38 = .ref q48 := by rw [eg49]; exact va_up_self _ _ _
  replace hP := hP.sub (ws' := [(h, .inr (14, mL g49)), (q13, .inl (kq13, 200, .inl (fun _ => (0 : Int32)))), (q23, .inl (kq1, 128, .inl (fun _ => (0 : Int32)))), (q26, .inl (kq1, 20, .inl (fun _ => (0 : Int32)))), (q28, .inl (kq1, 20, .inl (fun _ => (0 : Int32)))), (q30, .inl (kq1, 20, .inl (fun _ => (0 : Int32)))), (q32, .inl (kq1, 20, .inl (fun _ => (0 : Int32)))), (q34, .inl (kq1, 20, .inl (fun _ => (0 : Int32)))), (q36, .inl (kq1, 20, .inl (fun _ => (0 : Int32)))), (q38, .inl (kq1, 20, .inl (fun _ => (0 : Int32)))), (q40, .inl (kq1, 20, .inl (fun _ => (0 : Int32)))), (q42, .inl (kq1, 320, .inl (fun _ => (0 : Int32)))), (q44, .inl (kq1, 320, .inl (fun _ => (0 : Int32))))]) [0, 1, 2, 3, 4, 5, 6, 7, 8, 9, 10, 11, 12] rfl
  replace hD := hD.sub (ws' := [(h, .inr (14, mL g49)), (q13, .inl (kq13, 200, .inl (fun _ => (0 : Int32)))), (q23, .inl (kq1, 128, .inl (fun _ => (0 : Int32)))), (q26, .inl (kq1, 20, .inl (fun _ => (0 : Int32)))), (q28, .inl (kq1, 20, .inl (fun _ => (0 : Int32)))), (q30, .inl (kq1, 20, .inl (fun _ => (0 : Int32)))), (q32, .inl (kq1, 20, .inl (fun _ => (0 : Int32)))), (q34, .inl (kq1, 20, .inl (fun _ => (0 : Int32)))), (q36, .inl (kq1, 20, .inl (fun _ => (0 : Int32)))), (q38, .inl (kq1, 20, .inl (fun _ => (0 : Int32)))), (q40, .inl (kq1, 20, .inl (fun _ => (0 : Int32)))), (q42, .inl (kq1, 320, .inl (fun _ => (0 : Int32)))), (q44, .inl (kq1, 320, .inl (fun _ => (0 : Int32))))]) [0, 1, 2, 3, 4, 5, 6, 7, 8, 9, 10, 11, 12] (by decide) rfl
  refine lv_aload_n hx hb dX13_init_211 rfl (lv_at hl 0 rfl) ?_
  refine lv_sipush (v := 300) hx hb dX13_init_212 (by decide) ?_
  refine va_newa (atype := .int) (ty := .int) (N' := 300) (a0 := (300, .inl (fun _ => (0 : Int32)))) hx hb (hts (.arrayClass .int) (List.mem_of_getElem? (i := 4) rfl)) rfl hK hP hD hS hA (fun _ => rfl) (by decide) (by decide) (Nat.le_of_ble_eq_true rfl) (Nat.le_of_ble_eq_true rfl) (Nat.le_of_ble_eq_true rfl) dX13_init_215 (fun q50 kq50 H hK hP hD hS => ?_)
  have hK : va_K (dC, dI) vwCl [(kq1, .int), (kq13, .byte), (kq50, .int)] s := hK
  replace hP : va_P (dC, dI) vwCl [(h, .inr (14, mL g49)), (q13, .inl (kq13, 200, .inl (fun _ => (0 : Int32)))), (q23, .inl (kq1, 128, .inl (fun _ => (0 : Int32)))), (q26, .inl (kq1, 20, .inl (fun _ => (0 : Int32)))), (q28, .inl (kq1, 20, .inl (fun _ => (0 : Int32)))), (q30, .inl (kq1, 20, .inl (fun _ => (0 : Int32)))), (q32, .inl (kq1, 20, .inl (fun _ => (0 : Int32)))), (q34, .inl (kq1, 20, .inl (fun _ => (0 : Int32)))), (q36, .inl (kq1, 20, .inl (fun _ => (0 : Int32)))), (q38, .inl (kq1, 20, .inl (fun _ => (0 : Int32)))), (q40, .inl (kq1, 20, .inl (fun _ => (0 : Int32)))), (q42, .inl (kq1, 320, .inl (fun _ => (0 : Int32)))), (q44, .inl (kq1, 320, .inl (fun _ => (0 : Int32)))), (q50, .inl (kq50, 300, .inl (fun _ => (0 : Int32))))] H := hP
  replace hD : va_D A [(h, .inr (14, mL g49)), (q13, .inl (kq13, 200, .inl (fun _ => (0 : Int32)))), (q23, .inl (kq1, 128, .inl (fun _ => (0 : Int32)))), (q26, .inl (kq1, 20, .inl (fun _ => (0 : Int32)))), (q28, .inl (kq1, 20, .inl (fun _ => (0 : Int32)))), (q30, .inl (kq1, 20, .inl (fun _ => (0 : Int32)))), (q32, .inl (kq1, 20, .inl (fun _ => (0 : Int32)))), (q34, .inl (kq1, 20, .inl (fun _ => (0 : Int32)))), (q36, .inl (kq1, 20, .inl (fun _ => (0 : Int32)))), (q38, .inl (kq1, 20, .inl (fun _ => (0 : Int32)))), (q40, .inl (kq1, 20, .inl (fun _ => (0 : Int32)))), (q42, .inl (kq1, 320, .inl (fun _ => (0 : Int32)))), (q44, .inl (kq1, 320, .inl (fun _ => (0 : Int32)))), (q50, .inl (kq50, 300, .inl (fun _ => (0 : Int32))))] := hD
  refine W.widen (k := 25) (n := 5776) (by omega) (by omega) ?_
  obtain rfl : kq1 = kq50 := ub_sa_int hK 0 2 rfl rfl
  have hK := hK.sub (tys' := [(kq1, .int), (kq13, .byte)]) [0, 1] rfl
  refine va_putF (D := (dC, dI)) (ci := 14) (v := .ref q50) (ty := .array .int) (C := RX13) (T := TX13) (N := 97) hx hb hts iw_m_init_X13 tyX13 tyX13_ok nmX13 hown hK hP hD hS 0 rfl rfl 39 (by decide) (hts (.fieldLink RX13 86 "UnlikeBoatsModel" "resultBoat" "[I") (List.mem_of_getElem? (i := 31) rfl)) (fun _ h9 => h9) rfl hin rfl (by decide +kernel) rfl rfl (mL_lt (Nat.le_of_ble_eq_true rfl)) dX13_init_217 (fun H locs hP hD hS => ?_)
  have hP : va_P (dC, dI) vwCl [(h, .inr (14, (mL g49).set 39 (.ref q50))), (q13, .inl (kq13, 200, .inl (fun _ => (0 : Int32)))), (q23, .inl (kq1, 128, .inl (fun _ => (0 : Int32)))), (q26, .inl (kq1, 20, .inl (fun _ => (0 : Int32)))), (q28, .inl (kq1, 20, .inl (fun _ => (0 : Int32)))), (q30, .inl (kq1, 20, .inl (fun _ => (0 : Int32)))), (q32, .inl (kq1, 20, .inl (fun _ => (0 : Int32)))), (q34, .inl (kq1, 20, .inl (fun _ => (0 : Int32)))), (q36, .inl (kq1, 20, .inl (fun _ => (0 : Int32)))), (q38, .inl (kq1, 20, .inl (fun _ => (0 : Int32)))), (q40, .inl (kq1, 20, .inl (fun _ => (0 : Int32)))), (q42, .inl (kq1, 320, .inl (fun _ => (0 : Int32)))), (q44, .inl (kq1, 320, .inl (fun _ => (0 : Int32)))), (q50, .inl (kq1, 300, .inl (fun _ => (0 : Int32))))] H := hP
  have hD : va_D A [(h, .inr (14, (mL g49).set 39 (.ref q50))), (q13, .inl (kq13, 200, .inl (fun _ => (0 : Int32)))), (q23, .inl (kq1, 128, .inl (fun _ => (0 : Int32)))), (q26, .inl (kq1, 20, .inl (fun _ => (0 : Int32)))), (q28, .inl (kq1, 20, .inl (fun _ => (0 : Int32)))), (q30, .inl (kq1, 20, .inl (fun _ => (0 : Int32)))), (q32, .inl (kq1, 20, .inl (fun _ => (0 : Int32)))), (q34, .inl (kq1, 20, .inl (fun _ => (0 : Int32)))), (q36, .inl (kq1, 20, .inl (fun _ => (0 : Int32)))), (q38, .inl (kq1, 20, .inl (fun _ => (0 : Int32)))), (q40, .inl (kq1, 20, .inl (fun _ => (0 : Int32)))), (q42, .inl (kq1, 320, .inl (fun _ => (0 : Int32)))), (q44, .inl (kq1, 320, .inl (fun _ => (0 : Int32)))), (q50, .inl (kq1, 300, .inl (fun _ => (0 : Int32))))] := hD
  obtain ⟨g51, eg51⟩ : ∃ z9, z9 = va_up g49 39 (.ref q50) := ⟨_, rfl⟩
  rw [mL_upd, ← eg51] at hP hD
  have hg51_0 : g51 0 = .int 0 := (congrFun eg51 0).trans ((va_up_ne _ _ (Nat.ne_of_beq_eq_false rfl)).trans hg49_0)
  have hg51_1 : g51 1 = .int 0 := (congrFun eg51 1).trans ((va_up_ne _ _ (Nat.ne_of_beq_eq_false rfl)).trans hg49_1)
  have hg51_8 : g51 8 = .int 0 := (congrFun eg51 8).trans ((va_up_ne _ _ (Nat.ne_of_beq_eq_false rfl)).trans hg49_8)
  have hg51_9 : g51 9 = .int 0 := (congrFun eg51 9).trans ((va_up_ne _ _ (Nat.ne_of_beq_eq_false rfl)).trans hg49_9)
  have hg51_16 : g51 16 = .int 0 := (congrFun eg51 16).trans ((va_up_ne _ _ (Nat.ne_of_beq_eq_false rfl)).trans hg49_16)
  have hg51_17 : g51 17 = .int 0 := (congrFun eg51 17).trans ((va_up_ne _ _ (Nat.ne_of_beq_eq_false rfl)).trans hg49_17)
  have hg51_46 : g51 46 = .int 0 := (congrFun eg51 46).trans ((va_up_ne _ _ (Nat.ne_of_beq_eq_false rfl)).trans hg49_46)
  have hg51_47 : g51 47 = .int 0 := (congrFun eg51 47).trans ((va_up_ne _ _ (Nat.ne_of_beq_eq_false rfl)).trans hg49_47)
  have hg51_48 : g51 48 = .int 0 := (congrFun eg51 48).trans ((va_up_ne _ _ (Nat.ne_of_beq_eq_false rfl)).trans hg49_48)
  have hg51_74 : g51 74 = .int 0 := (congrFun eg51 74).trans ((va_up_ne _ _ (Nat.ne_of_beq_eq_false rfl)).trans hg49_74)
  have hg51_75 : g51 75 = .int 0 := (congrFun eg51 75).trans ((va_up_ne _ _ (Nat.ne_of_beq_eq_false rfl)).trans hg49_75)
  have hg51_55 : g51 55 = .int 0 := (congrFun eg51 55).trans ((va_up_ne _ _ (Nat.ne_of_beq_eq_false rfl)).trans hg49_55)
  have hg51_10 : g51 10 = .ref q13 := (congrFun eg51 10).trans ((va_up_ne _ _ (Nat.ne_of_beq_eq_false rfl)).trans hg49_10)
  have hg51_15 : g51 15 = .ref q23 := (congrFun eg51 15).trans ((va_up_ne _ _ (Nat.ne_of_beq_eq_false rfl)).trans hg49_15)
  have hg51_27 : g51 27 = .ref q26 := (congrFun eg51 27).trans ((va_up_ne _ _ (Nat.ne_of_beq_eq_false rfl)).trans hg49_27)
  have hg51_28 : g51 28 = .ref q28 := (congrFun eg51 28).trans ((va_up_ne _ _ (Nat.ne_of_beq_eq_false rfl)).trans hg49_28)
  have hg51_29 : g51 29 = .ref q30 := (congrFun eg51 29).trans ((va_up_ne _ _ (Nat.ne_of_beq_eq_false rfl)).trans hg49_29)
  have hg51_30 : g51 30 = .ref q32 := (congrFun eg51 30).trans ((va_up_ne _ _ (Nat.ne_of_beq_eq_false rfl)).trans hg49_30)
  have hg51_31 : g51 31 = .ref q34 := (congrFun eg51 31).trans ((va_up_ne _ _ (Nat.ne_of_beq_eq_false rfl)).trans hg49_31)
  have hg51_32 : g51 32 = .ref q36 := (congrFun eg51 32).trans ((va_up_ne _ _ (Nat.ne_of_beq_eq_false rfl)).trans hg49_32)
  have hg51_33 : g51 33 = .ref q38 := (congrFun eg51 33).trans ((va_up_ne _ _ (Nat.ne_of_beq_eq_false rfl)).trans hg49_33)
  have hg51_34 : g51 34 = .ref q40 := (congrFun eg51 34).trans ((va_up_ne _ _ (Nat.ne_of_beq_eq_false rfl)).trans hg49_34)
  have hg51_35 : g51 35 = .ref q42 := (congrFun eg51 35).trans ((va_up_ne _ _ (Nat.ne_of_beq_eq_false rfl)).trans hg49_35)
  have hg51_36 : g51 36 = .ref q44 := (congrFun eg51 36).trans ((va_up_ne _ _ (Nat.ne_of_beq_eq_false rfl)).trans hg49_36)
  clear hg49_0 hg49_1 hg49_8 hg49_9 hg49_16 hg49_17 hg49_46 hg49_47 hg49_48 hg49_74 hg49_75 hg49_55 hg49_10 hg49_15 hg49_27 hg49_28 hg49_29 hg49_30 hg49_31 hg49_32 hg49_33 hg49_34 hg49_35 hg49_36
  have hg51_39 : g51 39 = .ref q50 := by rw [eg51]; exact va_up_self _ _ _
  replace hP := hP.sub (ws' := [(h, .inr (14, mL g51)), (q13, .inl (kq13, 200, .inl (fun _ => (0 : Int32)))), (q23, .inl (kq1, 128, .inl (fun _ => (0 : Int32)))), (q26, .inl (kq1, 20, .inl (fun _ => (0 : Int32)))), (q28, .inl (kq1, 20, .inl (fun _ => (0 : Int32)))), (q30, .inl (kq1, 20, .inl (fun _ => (0 : Int32)))), (q32, .inl (kq1, 20, .inl (fun _ => (0 : Int32)))), (q34, .inl (kq1, 20, .inl (fun _ => (0 : Int32)))), (q36, .inl (kq1, 20, .inl (fun _ => (0 : Int32)))), (q38, .inl (kq1, 20, .inl (fun _ => (0 : Int32)))), (q40, .inl (kq1, 20, .inl (fun _ => (0 : Int32)))), (q42, .inl (kq1, 320, .inl (fun _ => (0 : Int32)))), (q44, .inl (kq1, 320, .inl (fun _ => (0 : Int32))))]) [0, 1, 2, 3, 4, 5, 6, 7, 8, 9, 10, 11, 12] rfl
  replace hD := hD.sub (ws' := [(h, .inr (14, mL g51)), (q13, .inl (kq13, 200, .inl (fun _ => (0 : Int32)))), (q23, .inl (kq1, 128, .inl (fun _ => (0 : Int32)))), (q26, .inl (kq1, 20, .inl (fun _ => (0 : Int32)))), (q28, .inl (kq1, 20, .inl (fun _ => (0 : Int32)))), (q30, .inl (kq1, 20, .inl (fun _ => (0 : Int32)))), (q32, .inl (kq1, 20, .inl (fun _ => (0 : Int32)))), (q34, .inl (kq1, 20, .inl (fun _ => (0 : Int32)))), (q36, .inl (kq1, 20, .inl (fun _ => (0 : Int32)))), (q38, .inl (kq1, 20, .inl (fun _ => (0 : Int32)))), (q40, .inl (kq1, 20, .inl (fun _ => (0 : Int32)))), (q42, .inl (kq1, 320, .inl (fun _ => (0 : Int32)))), (q44, .inl (kq1, 320, .inl (fun _ => (0 : Int32))))]) [0, 1, 2, 3, 4, 5, 6, 7, 8, 9, 10, 11, 12] (by decide) rfl
  refine lv_aload_n hx hb dX13_init_220 rfl (lv_at hl 0 rfl) ?_
  refine lv_sipush (v := 300) hx hb dX13_init_221 (by decide) ?_
  refine va_newa (atype := .int) (ty := .int) (N' := 300) (a0 := (300, .inl (fun _ => (0 : Int32)))) hx hb (hts (.arrayClass .int) (List.mem_of_getElem? (i := 4) rfl)) rfl hK hP hD hS hA (fun _ => rfl) (by decide) (by decide) (Nat.le_of_ble_eq_true rfl) (Nat.le_of_ble_eq_true rfl) (Nat.le_of_ble_eq_true rfl) dX13_init_224 (fun q52 kq52 H hK hP hD hS => ?_)
  have hK : va_K (dC, dI) vwCl [(kq1, .int), (kq13, .byte), (kq52, .int)] s := hK
  replace hP : va_P (dC, dI) vwCl [(h, .inr (14, mL g51)), (q13, .inl (kq13, 200, .inl (fun _ => (0 : Int32)))), (q23, .inl (kq1, 128, .inl (fun _ => (0 : Int32)))), (q26, .inl (kq1, 20, .inl (fun _ => (0 : Int32)))), (q28, .inl (kq1, 20, .inl (fun _ => (0 : Int32)))), (q30, .inl (kq1, 20, .inl (fun _ => (0 : Int32)))), (q32, .inl (kq1, 20, .inl (fun _ => (0 : Int32)))), (q34, .inl (kq1, 20, .inl (fun _ => (0 : Int32)))), (q36, .inl (kq1, 20, .inl (fun _ => (0 : Int32)))), (q38, .inl (kq1, 20, .inl (fun _ => (0 : Int32)))), (q40, .inl (kq1, 20, .inl (fun _ => (0 : Int32)))), (q42, .inl (kq1, 320, .inl (fun _ => (0 : Int32)))), (q44, .inl (kq1, 320, .inl (fun _ => (0 : Int32)))), (q52, .inl (kq52, 300, .inl (fun _ => (0 : Int32))))] H := hP
  replace hD : va_D A [(h, .inr (14, mL g51)), (q13, .inl (kq13, 200, .inl (fun _ => (0 : Int32)))), (q23, .inl (kq1, 128, .inl (fun _ => (0 : Int32)))), (q26, .inl (kq1, 20, .inl (fun _ => (0 : Int32)))), (q28, .inl (kq1, 20, .inl (fun _ => (0 : Int32)))), (q30, .inl (kq1, 20, .inl (fun _ => (0 : Int32)))), (q32, .inl (kq1, 20, .inl (fun _ => (0 : Int32)))), (q34, .inl (kq1, 20, .inl (fun _ => (0 : Int32)))), (q36, .inl (kq1, 20, .inl (fun _ => (0 : Int32)))), (q38, .inl (kq1, 20, .inl (fun _ => (0 : Int32)))), (q40, .inl (kq1, 20, .inl (fun _ => (0 : Int32)))), (q42, .inl (kq1, 320, .inl (fun _ => (0 : Int32)))), (q44, .inl (kq1, 320, .inl (fun _ => (0 : Int32)))), (q52, .inl (kq52, 300, .inl (fun _ => (0 : Int32))))] := hD
  refine W.widen (k := 26) (n := 6076) (by omega) (by omega) ?_
  obtain rfl : kq1 = kq52 := ub_sa_int hK 0 2 rfl rfl
  have hK := hK.sub (tys' := [(kq1, .int), (kq13, .byte)]) [0, 1] rfl
  refine va_putF (D := (dC, dI)) (ci := 14) (v := .ref q52) (ty := .array .int) (C := RX13) (T := TX13) (N := 97) hx hb hts iw_m_init_X13 tyX13 tyX13_ok nmX13 hown hK hP hD hS 0 rfl rfl 40 (by decide) (hts (.fieldLink RX13 89 "UnlikeBoatsModel" "resultCode" "[I") (List.mem_of_getElem? (i := 32) rfl)) (fun _ h9 => h9) rfl hin rfl (by decide +kernel) rfl rfl (mL_lt (Nat.le_of_ble_eq_true rfl)) dX13_init_226 (fun H locs hP hD hS => ?_)
  have hP : va_P (dC, dI) vwCl [(h, .inr (14, (mL g51).set 40 (.ref q52))), (q13, .inl (kq13, 200, .inl (fun _ => (0 : Int32)))), (q23, .inl (kq1, 128, .inl (fun _ => (0 : Int32)))), (q26, .inl (kq1, 20, .inl (fun _ => (0 : Int32)))), (q28, .inl (kq1, 20, .inl (fun _ => (0 : Int32)))), (q30, .inl (kq1, 20, .inl (fun _ => (0 : Int32)))), (q32, .inl (kq1, 20, .inl (fun _ => (0 : Int32)))), (q34, .inl (kq1, 20, .inl (fun _ => (0 : Int32)))), (q36, .inl (kq1, 20, .inl (fun _ => (0 : Int32)))), (q38, .inl (kq1, 20, .inl (fun _ => (0 : Int32)))), (q40, .inl (kq1, 20, .inl (fun _ => (0 : Int32)))), (q42, .inl (kq1, 320, .inl (fun _ => (0 : Int32)))), (q44, .inl (kq1, 320, .inl (fun _ => (0 : Int32)))), (q52, .inl (kq1, 300, .inl (fun _ => (0 : Int32))))] H := hP
  have hD : va_D A [(h, .inr (14, (mL g51).set 40 (.ref q52))), (q13, .inl (kq13, 200, .inl (fun _ => (0 : Int32)))), (q23, .inl (kq1, 128, .inl (fun _ => (0 : Int32)))), (q26, .inl (kq1, 20, .inl (fun _ => (0 : Int32)))), (q28, .inl (kq1, 20, .inl (fun _ => (0 : Int32)))), (q30, .inl (kq1, 20, .inl (fun _ => (0 : Int32)))), (q32, .inl (kq1, 20, .inl (fun _ => (0 : Int32)))), (q34, .inl (kq1, 20, .inl (fun _ => (0 : Int32)))), (q36, .inl (kq1, 20, .inl (fun _ => (0 : Int32)))), (q38, .inl (kq1, 20, .inl (fun _ => (0 : Int32)))), (q40, .inl (kq1, 20, .inl (fun _ => (0 : Int32)))), (q42, .inl (kq1, 320, .inl (fun _ => (0 : Int32)))), (q44, .inl (kq1, 320, .inl (fun _ => (0 : Int32)))), (q52, .inl (kq1, 300, .inl (fun _ => (0 : Int32))))] := hD
  obtain ⟨g53, eg53⟩ : ∃ z9, z9 = va_up g51 40 (.ref q52) := ⟨_, rfl⟩
  rw [mL_upd, ← eg53] at hP hD
  have hg53_0 : g53 0 = .int 0 := (congrFun eg53 0).trans ((va_up_ne _ _ (Nat.ne_of_beq_eq_false rfl)).trans hg51_0)
  have hg53_1 : g53 1 = .int 0 := (congrFun eg53 1).trans ((va_up_ne _ _ (Nat.ne_of_beq_eq_false rfl)).trans hg51_1)
  have hg53_8 : g53 8 = .int 0 := (congrFun eg53 8).trans ((va_up_ne _ _ (Nat.ne_of_beq_eq_false rfl)).trans hg51_8)
  have hg53_9 : g53 9 = .int 0 := (congrFun eg53 9).trans ((va_up_ne _ _ (Nat.ne_of_beq_eq_false rfl)).trans hg51_9)
  have hg53_16 : g53 16 = .int 0 := (congrFun eg53 16).trans ((va_up_ne _ _ (Nat.ne_of_beq_eq_false rfl)).trans hg51_16)
  have hg53_17 : g53 17 = .int 0 := (congrFun eg53 17).trans ((va_up_ne _ _ (Nat.ne_of_beq_eq_false rfl)).trans hg51_17)
  have hg53_46 : g53 46 = .int 0 := (congrFun eg53 46).trans ((va_up_ne _ _ (Nat.ne_of_beq_eq_false rfl)).trans hg51_46)
  have hg53_47 : g53 47 = .int 0 := (congrFun eg53 47).trans ((va_up_ne _ _ (Nat.ne_of_beq_eq_false rfl)).trans hg51_47)
  have hg53_48 : g53 48 = .int 0 := (congrFun eg53 48).trans ((va_up_ne _ _ (Nat.ne_of_beq_eq_false rfl)).trans hg51_48)
  have hg53_74 : g53 74 = .int 0 := (congrFun eg53 74).trans ((va_up_ne _ _ (Nat.ne_of_beq_eq_false rfl)).trans hg51_74)
  have hg53_75 : g53 75 = .int 0 := (congrFun eg53 75).trans ((va_up_ne _ _ (Nat.ne_of_beq_eq_false rfl)).trans hg51_75)
  have hg53_55 : g53 55 = .int 0 := (congrFun eg53 55).trans ((va_up_ne _ _ (Nat.ne_of_beq_eq_false rfl)).trans hg51_55)
  have hg53_10 : g53 10 = .ref q13 := (congrFun eg53 10).trans ((va_up_ne _ _ (Nat.ne_of_beq_eq_false rfl)).trans hg51_10)
  have hg53_15 : g53 15 = .ref q23 := (congrFun eg53 15).trans ((va_up_ne _ _ (Nat.ne_of_beq_eq_false rfl)).trans hg51_15)
  have hg53_27 : g53 27 = .ref q26 := (congrFun eg53 27).trans ((va_up_ne _ _ (Nat.ne_of_beq_eq_false rfl)).trans hg51_27)
  have hg53_28 : g53 28 = .ref q28 := (congrFun eg53 28).trans ((va_up_ne _ _ (Nat.ne_of_beq_eq_false rfl)).trans hg51_28)
  have hg53_29 : g53 29 = .ref q30 := (congrFun eg53 29).trans ((va_up_ne _ _ (Nat.ne_of_beq_eq_false rfl)).trans hg51_29)
  have hg53_30 : g53 30 = .ref q32 := (congrFun eg53 30).trans ((va_up_ne _ _ (Nat.ne_of_beq_eq_false rfl)).trans hg51_30)
  have hg53_31 : g53 31 = .ref q34 := (congrFun eg53 31).trans ((va_up_ne _ _ (Nat.ne_of_beq_eq_false rfl)).trans hg51_31)
  have hg53_32 : g53 32 = .ref q36 := (congrFun eg53 32).trans ((va_up_ne _ _ (Nat.ne_of_beq_eq_false rfl)).trans hg51_32)
  have hg53_33 : g53 33 = .ref q38 := (congrFun eg53 33).trans ((va_up_ne _ _ (Nat.ne_of_beq_eq_false rfl)).trans hg51_33)
  have hg53_34 : g53 34 = .ref q40 := (congrFun eg53 34).trans ((va_up_ne _ _ (Nat.ne_of_beq_eq_false rfl)).trans hg51_34)
  have hg53_35 : g53 35 = .ref q42 := (congrFun eg53 35).trans ((va_up_ne _ _ (Nat.ne_of_beq_eq_false rfl)).trans hg51_35)
  have hg53_36 : g53 36 = .ref q44 := (congrFun eg53 36).trans ((va_up_ne _ _ (Nat.ne_of_beq_eq_false rfl)).trans hg51_36)
  clear hg51_0 hg51_1 hg51_8 hg51_9 hg51_16 hg51_17 hg51_46 hg51_47 hg51_48 hg51_74 hg51_75 hg51_55 hg51_10 hg51_15 hg51_27 hg51_28 hg51_29 hg51_30 hg51_31 hg51_32 hg51_33 hg51_34 hg51_35 hg51_36
  have hg53_40 : g53 40 = .ref q52 := by rw [eg53]; exact va_up_self _ _ _
  replace hP := hP.sub (ws' := [(h, .inr (14, mL g53)), (q13, .inl (kq13, 200, .inl (fun _ => (0 : Int32)))), (q23, .inl (kq1, 128, .inl (fun _ => (0 : Int32)))), (q26, .inl (kq1, 20, .inl (fun _ => (0 : Int32)))), (q28, .inl (kq1, 20, .inl (fun _ => (0 : Int32)))), (q30, .inl (kq1, 20, .inl (fun _ => (0 : Int32)))), (q32, .inl (kq1, 20, .inl (fun _ => (0 : Int32)))), (q34, .inl (kq1, 20, .inl (fun _ => (0 : Int32)))), (q36, .inl (kq1, 20, .inl (fun _ => (0 : Int32)))), (q38, .inl (kq1, 20, .inl (fun _ => (0 : Int32)))), (q40, .inl (kq1, 20, .inl (fun _ => (0 : Int32)))), (q42, .inl (kq1, 320, .inl (fun _ => (0 : Int32)))), (q44, .inl (kq1, 320, .inl (fun _ => (0 : Int32))))]) [0, 1, 2, 3, 4, 5, 6, 7, 8, 9, 10, 11, 12] rfl
  replace hD := hD.sub (ws' := [(h, .inr (14, mL g53)), (q13, .inl (kq13, 200, .inl (fun _ => (0 : Int32)))), (q23, .inl (kq1, 128, .inl (fun _ => (0 : Int32)))), (q26, .inl (kq1, 20, .inl (fun _ => (0 : Int32)))), (q28, .inl (kq1, 20, .inl (fun _ => (0 : Int32)))), (q30, .inl (kq1, 20, .inl (fun _ => (0 : Int32)))), (q32, .inl (kq1, 20, .inl (fun _ => (0 : Int32)))), (q34, .inl (kq1, 20, .inl (fun _ => (0 : Int32)))), (q36, .inl (kq1, 20, .inl (fun _ => (0 : Int32)))), (q38, .inl (kq1, 20, .inl (fun _ => (0 : Int32)))), (q40, .inl (kq1, 20, .inl (fun _ => (0 : Int32)))), (q42, .inl (kq1, 320, .inl (fun _ => (0 : Int32)))), (q44, .inl (kq1, 320, .inl (fun _ => (0 : Int32))))]) [0, 1, 2, 3, 4, 5, 6, 7, 8, 9, 10, 11, 12] (by decide) rfl
  refine lv_aload_n hx hb dX13_init_229 rfl (lv_at hl 0 rfl) ?_
  refine lv_sipush (v := 300) hx hb dX13_init_230 (by decide) ?_
  refine va_newa (atype := .int) (ty := .int) (N' := 300) (a0 := (300, .inl (fun _ => (0 : Int32)))) hx hb (hts (.arrayClass .int) (List.mem_of_getElem? (i := 4) rfl)) rfl hK hP hD hS hA (fun _ => rfl) (by decide) (by decide) (Nat.le_of_ble_eq_true rfl) (Nat.le_of_ble_eq_true rfl) (Nat.le_of_ble_eq_true rfl) dX13_init_233 (fun q54 kq54 H hK hP hD hS => ?_)
  have hK : va_K (dC, dI) vwCl [(kq1, .int), (kq13, .byte), (kq54, .int)] s := hK
  replace hP : va_P (dC, dI) vwCl [(h, .inr (14, mL g53)), (q13, .inl (kq13, 200, .inl (fun _ => (0 : Int32)))), (q23, .inl (kq1, 128, .inl (fun _ => (0 : Int32)))), (q26, .inl (kq1, 20, .inl (fun _ => (0 : Int32)))), (q28, .inl (kq1, 20, .inl (fun _ => (0 : Int32)))), (q30, .inl (kq1, 20, .inl (fun _ => (0 : Int32)))), (q32, .inl (kq1, 20, .inl (fun _ => (0 : Int32)))), (q34, .inl (kq1, 20, .inl (fun _ => (0 : Int32)))), (q36, .inl (kq1, 20, .inl (fun _ => (0 : Int32)))), (q38, .inl (kq1, 20, .inl (fun _ => (0 : Int32)))), (q40, .inl (kq1, 20, .inl (fun _ => (0 : Int32)))), (q42, .inl (kq1, 320, .inl (fun _ => (0 : Int32)))), (q44, .inl (kq1, 320, .inl (fun _ => (0 : Int32)))), (q54, .inl (kq54, 300, .inl (fun _ => (0 : Int32))))] H := hP
  replace hD : va_D A [(h, .inr (14, mL g53)), (q13, .inl (kq13, 200, .inl (fun _ => (0 : Int32)))), (q23, .inl (kq1, 128, .inl (fun _ => (0 : Int32)))), (q26, .inl (kq1, 20, .inl (fun _ => (0 : Int32)))), (q28, .inl (kq1, 20, .inl (fun _ => (0 : Int32)))), (q30, .inl (kq1, 20, .inl (fun _ => (0 : Int32)))), (q32, .inl (kq1, 20, .inl (fun _ => (0 : Int32)))), (q34, .inl (kq1, 20, .inl (fun _ => (0 : Int32)))), (q36, .inl (kq1, 20, .inl (fun _ => (0 : Int32)))), (q38, .inl (kq1, 20, .inl (fun _ => (0 : Int32)))), (q40, .inl (kq1, 20, .inl (fun _ => (0 : Int32)))), (q42, .inl (kq1, 320, .inl (fun _ => (0 : Int32)))), (q44, .inl (kq1, 320, .inl (fun _ => (0 : Int32)))), (q54, .inl (kq54, 300, .inl (fun _ => (0 : Int32))))] := hD
  refine W.widen (k := 27) (n := 6376) (by omega) (by omega) ?_
  obtain rfl : kq1 = kq54 := ub_sa_int hK 0 2 rfl rfl
  have hK := hK.sub (tys' := [(kq1, .int), (kq13, .byte)]) [0, 1] rfl
  refine va_putF (D := (dC, dI)) (ci := 14) (v := .ref q54) (ty := .array .int) (C := RX13) (T := TX13) (N := 97) hx hb hts iw_m_init_X13 tyX13 tyX13_ok nmX13 hown hK hP hD hS 0 rfl rfl 41 (by decide) (hts (.fieldLink RX13 92 "UnlikeBoatsModel" "resultSeconds" "[I") (List.mem_of_getElem? (i := 33) rfl)) (fun _ h9 => h9) rfl hin rfl (by decide +kernel) rfl rfl (mL_lt (Nat.le_of_ble_eq_true rfl)) dX13_init_235 (fun H locs hP hD hS => ?_)
  have hP : va_P (dC, dI) vwCl [(h, .inr (14, (mL g53).set 41 (.ref q54))), (q13, .inl (kq13, 200, .inl (fun _ => (0 : Int32)))), (q23, .inl (kq1, 128, .inl (fun _ => (0 : Int32)))), (q26, .inl (kq1, 20, .inl (fun _ => (0 : Int32)))), (q28, .inl (kq1, 20, .inl (fun _ => (0 : Int32)))), (q30, .inl (kq1, 20, .inl (fun _ => (0 : Int32)))), (q32, .inl (kq1, 20, .inl (fun _ => (0 : Int32)))), (q34, .inl (kq1, 20, .inl (fun _ => (0 : Int32)))), (q36, .inl (kq1, 20, .inl (fun _ => (0 : Int32)))), (q38, .inl (kq1, 20, .inl (fun _ => (0 : Int32)))), (q40, .inl (kq1, 20, .inl (fun _ => (0 : Int32)))), (q42, .inl (kq1, 320, .inl (fun _ => (0 : Int32)))), (q44, .inl (kq1, 320, .inl (fun _ => (0 : Int32)))), (q54, .inl (kq1, 300, .inl (fun _ => (0 : Int32))))] H := hP
  have hD : va_D A [(h, .inr (14, (mL g53).set 41 (.ref q54))), (q13, .inl (kq13, 200, .inl (fun _ => (0 : Int32)))), (q23, .inl (kq1, 128, .inl (fun _ => (0 : Int32)))), (q26, .inl (kq1, 20, .inl (fun _ => (0 : Int32)))), (q28, .inl (kq1, 20, .inl (fun _ => (0 : Int32)))), (q30, .inl (kq1, 20, .inl (fun _ => (0 : Int32)))), (q32, .inl (kq1, 20, .inl (fun _ => (0 : Int32)))), (q34, .inl (kq1, 20, .inl (fun _ => (0 : Int32)))), (q36, .inl (kq1, 20, .inl (fun _ => (0 : Int32)))), (q38, .inl (kq1, 20, .inl (fun _ => (0 : Int32)))), (q40, .inl (kq1, 20, .inl (fun _ => (0 : Int32)))), (q42, .inl (kq1, 320, .inl (fun _ => (0 : Int32)))), (q44, .inl (kq1, 320, .inl (fun _ => (0 : Int32)))), (q54, .inl (kq1, 300, .inl (fun _ => (0 : Int32))))] := hD
  obtain ⟨g55, eg55⟩ : ∃ z9, z9 = va_up g53 41 (.ref q54) := ⟨_, rfl⟩
  rw [mL_upd, ← eg55] at hP hD
  have hg55_0 : g55 0 = .int 0 := (congrFun eg55 0).trans ((va_up_ne _ _ (Nat.ne_of_beq_eq_false rfl)).trans hg53_0)
  have hg55_1 : g55 1 = .int 0 := (congrFun eg55 1).trans ((va_up_ne _ _ (Nat.ne_of_beq_eq_false rfl)).trans hg53_1)
  have hg55_8 : g55 8 = .int 0 := (congrFun eg55 8).trans ((va_up_ne _ _ (Nat.ne_of_beq_eq_false rfl)).trans hg53_8)
  have hg55_9 : g55 9 = .int 0 := (congrFun eg55 9).trans ((va_up_ne _ _ (Nat.ne_of_beq_eq_false rfl)).trans hg53_9)
  have hg55_16 : g55 16 = .int 0 := (congrFun eg55 16).trans ((va_up_ne _ _ (Nat.ne_of_beq_eq_false rfl)).trans hg53_16)
  have hg55_17 : g55 17 = .int 0 := (congrFun eg55 17).trans ((va_up_ne _ _ (Nat.ne_of_beq_eq_false rfl)).trans hg53_17)
  have hg55_46 : g55 46 = .int 0 := (congrFun eg55 46).trans ((va_up_ne _ _ (Nat.ne_of_beq_eq_false rfl)).trans hg53_46)
  have hg55_47 : g55 47 = .int 0 := (congrFun eg55 47).trans ((va_up_ne _ _ (Nat.ne_of_beq_eq_false rfl)).trans hg53_47)
  have hg55_48 : g55 48 = .int 0 := (congrFun eg55 48).trans ((va_up_ne _ _ (Nat.ne_of_beq_eq_false rfl)).trans hg53_48)
  have hg55_74 : g55 74 = .int 0 := (congrFun eg55 74).trans ((va_up_ne _ _ (Nat.ne_of_beq_eq_false rfl)).trans hg53_74)
  have hg55_75 : g55 75 = .int 0 := (congrFun eg55 75).trans ((va_up_ne _ _ (Nat.ne_of_beq_eq_false rfl)).trans hg53_75)
  have hg55_55 : g55 55 = .int 0 := (congrFun eg55 55).trans ((va_up_ne _ _ (Nat.ne_of_beq_eq_false rfl)).trans hg53_55)
  have hg55_10 : g55 10 = .ref q13 := (congrFun eg55 10).trans ((va_up_ne _ _ (Nat.ne_of_beq_eq_false rfl)).trans hg53_10)
  have hg55_15 : g55 15 = .ref q23 := (congrFun eg55 15).trans ((va_up_ne _ _ (Nat.ne_of_beq_eq_false rfl)).trans hg53_15)
  have hg55_27 : g55 27 = .ref q26 := (congrFun eg55 27).trans ((va_up_ne _ _ (Nat.ne_of_beq_eq_false rfl)).trans hg53_27)
  have hg55_28 : g55 28 = .ref q28 := (congrFun eg55 28).trans ((va_up_ne _ _ (Nat.ne_of_beq_eq_false rfl)).trans hg53_28)
  have hg55_29 : g55 29 = .ref q30 := (congrFun eg55 29).trans ((va_up_ne _ _ (Nat.ne_of_beq_eq_false rfl)).trans hg53_29)
  have hg55_30 : g55 30 = .ref q32 := (congrFun eg55 30).trans ((va_up_ne _ _ (Nat.ne_of_beq_eq_false rfl)).trans hg53_30)
  have hg55_31 : g55 31 = .ref q34 := (congrFun eg55 31).trans ((va_up_ne _ _ (Nat.ne_of_beq_eq_false rfl)).trans hg53_31)
  have hg55_32 : g55 32 = .ref q36 := (congrFun eg55 32).trans ((va_up_ne _ _ (Nat.ne_of_beq_eq_false rfl)).trans hg53_32)
  have hg55_33 : g55 33 = .ref q38 := (congrFun eg55 33).trans ((va_up_ne _ _ (Nat.ne_of_beq_eq_false rfl)).trans hg53_33)
  have hg55_34 : g55 34 = .ref q40 := (congrFun eg55 34).trans ((va_up_ne _ _ (Nat.ne_of_beq_eq_false rfl)).trans hg53_34)
  have hg55_35 : g55 35 = .ref q42 := (congrFun eg55 35).trans ((va_up_ne _ _ (Nat.ne_of_beq_eq_false rfl)).trans hg53_35)
  have hg55_36 : g55 36 = .ref q44 := (congrFun eg55 36).trans ((va_up_ne _ _ (Nat.ne_of_beq_eq_false rfl)).trans hg53_36)
  clear hg53_0 hg53_1 hg53_8 hg53_9 hg53_16 hg53_17 hg53_46 hg53_47 hg53_48 hg53_74 hg53_75 hg53_55 hg53_10 hg53_15 hg53_27 hg53_28 hg53_29 hg53_30 hg53_31 hg53_32 hg53_33 hg53_34 hg53_35 hg53_36
  have hg55_41 : g55 41 = .ref q54 := by rw [eg55]; exact va_up_self _ _ _
  replace hP := hP.sub (ws' := [(h, .inr (14, mL g55)), (q13, .inl (kq13, 200, .inl (fun _ => (0 : Int32)))), (q23, .inl (kq1, 128, .inl (fun _ => (0 : Int32)))), (q26, .inl (kq1, 20, .inl (fun _ => (0 : Int32)))), (q28, .inl (kq1, 20, .inl (fun _ => (0 : Int32)))), (q30, .inl (kq1, 20, .inl (fun _ => (0 : Int32)))), (q32, .inl (kq1, 20, .inl (fun _ => (0 : Int32)))), (q34, .inl (kq1, 20, .inl (fun _ => (0 : Int32)))), (q36, .inl (kq1, 20, .inl (fun _ => (0 : Int32)))), (q38, .inl (kq1, 20, .inl (fun _ => (0 : Int32)))), (q40, .inl (kq1, 20, .inl (fun _ => (0 : Int32)))), (q42, .inl (kq1, 320, .inl (fun _ => (0 : Int32)))), (q44, .inl (kq1, 320, .inl (fun _ => (0 : Int32))))]) [0, 1, 2, 3, 4, 5, 6, 7, 8, 9, 10, 11, 12] rfl
  replace hD := hD.sub (ws' := [(h, .inr (14, mL g55)), (q13, .inl (kq13, 200, .inl (fun _ => (0 : Int32)))), (q23, .inl (kq1, 128, .inl (fun _ => (0 : Int32)))), (q26, .inl (kq1, 20, .inl (fun _ => (0 : Int32)))), (q28, .inl (kq1, 20, .inl (fun _ => (0 : Int32)))), (q30, .inl (kq1, 20, .inl (fun _ => (0 : Int32)))), (q32, .inl (kq1, 20, .inl (fun _ => (0 : Int32)))), (q34, .inl (kq1, 20, .inl (fun _ => (0 : Int32)))), (q36, .inl (kq1, 20, .inl (fun _ => (0 : Int32)))), (q38, .inl (kq1, 20, .inl (fun _ => (0 : Int32)))), (q40, .inl (kq1, 20, .inl (fun _ => (0 : Int32)))), (q42, .inl (kq1, 320, .inl (fun _ => (0 : Int32)))), (q44, .inl (kq1, 320, .inl (fun _ => (0 : Int32))))]) [0, 1, 2, 3, 4, 5, 6, 7, 8, 9, 10, 11, 12] (by decide) rfl
  refine lv_aload_n hx hb dX13_init_238 rfl (lv_at hl 0 rfl) ?_
  refine lv_sipush (v := 300) hx hb dX13_init_239 (by decide) ?_
  refine va_newa (atype := .int) (ty := .int) (N' := 300) (a0 := (300, .inl (fun _ => (0 : Int32)))) hx hb (hts (.arrayClass .int) (List.mem_of_getElem? (i := 4) rfl)) rfl hK hP hD hS hA (fun _ => rfl) (by decide) (by decide) (Nat.le_of_ble_eq_true rfl) (Nat.le_of_ble_eq_true rfl) (Nat.le_of_ble_eq_true rfl) dX13_init_242 (fun q56 kq56 H hK hP hD hS => ?_)
  have hK : va_K (dC, dI) vwCl [(kq1, .int), (kq13, .byte), (kq56, .int)] s := hK
  replace hP : va_P (dC, dI) vwCl [(h, .inr (14, mL g55)), (q13, .inl (kq13, 200, .inl (fun _ => (0 : Int32)))), (q23, .inl (kq1, 128, .inl (fun _ => (0 : Int32)))), (q26, .inl (kq1, 20, .inl (fun _ => (0 : Int32)))), (q28, .inl (kq1, 20, .inl (fun _ => (0 : Int32)))), (q30, .inl (kq1, 20, .inl (fun _ => (0 : Int32)))), (q32, .inl (kq1, 20, .inl (fun _ => (0 : Int32)))), (q34, .inl (kq1, 20, .inl (fun _ => (0 : Int32)))), (q36, .inl (kq1, 20, .inl (fun _ => (0 : Int32)))), (q38, .inl (kq1, 20, .inl (fun _ => (0 : Int32)))), (q40, .inl (kq1, 20, .inl (fun _ => (0 : Int32)))), (q42, .inl (kq1, 320, .inl (fun _ => (0 : Int32)))), (q44, .inl (kq1, 320, .inl (fun _ => (0 : Int32)))), (q56, .inl (kq56, 300, .inl (fun _ => (0 : Int32))))] H := hP
  replace hD : va_D A [(h, .inr (14, mL g55)), (q13, .inl (kq13, 200, .inl (fun _ => (0 : Int32)))), (q23, .inl (kq1, 128, .inl (fun _ => (0 : Int32)))), (q26, .inl (kq1, 20, .inl (fun _ => (0 : Int32)))), (q28, .inl (kq1, 20, .inl (fun _ => (0 : Int32)))), (q30, .inl (kq1, 20, .inl (fun _ => (0 : Int32)))), (q32, .inl (kq1, 20, .inl (fun _ => (0 : Int32)))), (q34, .inl (kq1, 20, .inl (fun _ => (0 : Int32)))), (q36, .inl (kq1, 20, .inl (fun _ => (0 : Int32)))), (q38, .inl (kq1, 20, .inl (fun _ => (0 : Int32)))), (q40, .inl (kq1, 20, .inl (fun _ => (0 : Int32)))), (q42, .inl (kq1, 320, .inl (fun _ => (0 : Int32)))), (q44, .inl (kq1, 320, .inl (fun _ => (0 : Int32)))), (q56, .inl (kq56, 300, .inl (fun _ => (0 : Int32))))] := hD
  refine W.widen (k := 28) (n := 6676) (by omega) (by omega) ?_
  obtain rfl : kq1 = kq56 := ub_sa_int hK 0 2 rfl rfl
  have hK := hK.sub (tys' := [(kq1, .int), (kq13, .byte)]) [0, 1] rfl
  refine va_putF (D := (dC, dI)) (ci := 14) (v := .ref q56) (ty := .array .int) (C := RX13) (T := TX13) (N := 97) hx hb hts iw_m_init_X13 tyX13 tyX13_ok nmX13 hown hK hP hD hS 0 rfl rfl 42 (by decide) (hts (.fieldLink RX13 95 "UnlikeBoatsModel" "resultTold" "[I") (List.mem_of_getElem? (i := 34) rfl)) (fun _ h9 => h9) rfl hin rfl (by decide +kernel) rfl rfl (mL_lt (Nat.le_of_ble_eq_true rfl)) dX13_init_244 (fun H locs hP hD hS => ?_)
  have hP : va_P (dC, dI) vwCl [(h, .inr (14, (mL g55).set 42 (.ref q56))), (q13, .inl (kq13, 200, .inl (fun _ => (0 : Int32)))), (q23, .inl (kq1, 128, .inl (fun _ => (0 : Int32)))), (q26, .inl (kq1, 20, .inl (fun _ => (0 : Int32)))), (q28, .inl (kq1, 20, .inl (fun _ => (0 : Int32)))), (q30, .inl (kq1, 20, .inl (fun _ => (0 : Int32)))), (q32, .inl (kq1, 20, .inl (fun _ => (0 : Int32)))), (q34, .inl (kq1, 20, .inl (fun _ => (0 : Int32)))), (q36, .inl (kq1, 20, .inl (fun _ => (0 : Int32)))), (q38, .inl (kq1, 20, .inl (fun _ => (0 : Int32)))), (q40, .inl (kq1, 20, .inl (fun _ => (0 : Int32)))), (q42, .inl (kq1, 320, .inl (fun _ => (0 : Int32)))), (q44, .inl (kq1, 320, .inl (fun _ => (0 : Int32)))), (q56, .inl (kq1, 300, .inl (fun _ => (0 : Int32))))] H := hP
  have hD : va_D A [(h, .inr (14, (mL g55).set 42 (.ref q56))), (q13, .inl (kq13, 200, .inl (fun _ => (0 : Int32)))), (q23, .inl (kq1, 128, .inl (fun _ => (0 : Int32)))), (q26, .inl (kq1, 20, .inl (fun _ => (0 : Int32)))), (q28, .inl (kq1, 20, .inl (fun _ => (0 : Int32)))), (q30, .inl (kq1, 20, .inl (fun _ => (0 : Int32)))), (q32, .inl (kq1, 20, .inl (fun _ => (0 : Int32)))), (q34, .inl (kq1, 20, .inl (fun _ => (0 : Int32)))), (q36, .inl (kq1, 20, .inl (fun _ => (0 : Int32)))), (q38, .inl (kq1, 20, .inl (fun _ => (0 : Int32)))), (q40, .inl (kq1, 20, .inl (fun _ => (0 : Int32)))), (q42, .inl (kq1, 320, .inl (fun _ => (0 : Int32)))), (q44, .inl (kq1, 320, .inl (fun _ => (0 : Int32)))), (q56, .inl (kq1, 300, .inl (fun _ => (0 : Int32))))] := hD
  obtain ⟨g57, eg57⟩ : ∃ z9, z9 = va_up g55 42 (.ref q56) := ⟨_, rfl⟩
  rw [mL_upd, ← eg57] at hP hD
  have hg57_0 : g57 0 = .int 0 := (congrFun eg57 0).trans ((va_up_ne _ _ (Nat.ne_of_beq_eq_false rfl)).trans hg55_0)
  have hg57_1 : g57 1 = .int 0 := (congrFun eg57 1).trans ((va_up_ne _ _ (Nat.ne_of_beq_eq_false rfl)).trans hg55_1)
  have hg57_8 : g57 8 = .int 0 := (congrFun eg57 8).trans ((va_up_ne _ _ (Nat.ne_of_beq_eq_false rfl)).trans hg55_8)
  have hg57_9 : g57 9 = .int 0 := (congrFun eg57 9).trans ((va_up_ne _ _ (Nat.ne_of_beq_eq_false rfl)).trans hg55_9)
  have hg57_16 : g57 16 = .int 0 := (congrFun eg57 16).trans ((va_up_ne _ _ (Nat.ne_of_beq_eq_false rfl)).trans hg55_16)
  have hg57_17 : g57 17 = .int 0 := (congrFun eg57 17).trans ((va_up_ne _ _ (Nat.ne_of_beq_eq_false rfl)).trans hg55_17)
  have hg57_46 : g57 46 = .int 0 := (congrFun eg57 46).trans ((va_up_ne _ _ (Nat.ne_of_beq_eq_false rfl)).trans hg55_46)
  have hg57_47 : g57 47 = .int 0 := (congrFun eg57 47).trans ((va_up_ne _ _ (Nat.ne_of_beq_eq_false rfl)).trans hg55_47)
  have hg57_48 : g57 48 = .int 0 := (congrFun eg57 48).trans ((va_up_ne _ _ (Nat.ne_of_beq_eq_false rfl)).trans hg55_48)
  have hg57_74 : g57 74 = .int 0 := (congrFun eg57 74).trans ((va_up_ne _ _ (Nat.ne_of_beq_eq_false rfl)).trans hg55_74)
  have hg57_75 : g57 75 = .int 0 := (congrFun eg57 75).trans ((va_up_ne _ _ (Nat.ne_of_beq_eq_false rfl)).trans hg55_75)
  have hg57_55 : g57 55 = .int 0 := (congrFun eg57 55).trans ((va_up_ne _ _ (Nat.ne_of_beq_eq_false rfl)).trans hg55_55)
  have hg57_10 : g57 10 = .ref q13 := (congrFun eg57 10).trans ((va_up_ne _ _ (Nat.ne_of_beq_eq_false rfl)).trans hg55_10)
  have hg57_15 : g57 15 = .ref q23 := (congrFun eg57 15).trans ((va_up_ne _ _ (Nat.ne_of_beq_eq_false rfl)).trans hg55_15)
  have hg57_27 : g57 27 = .ref q26 := (congrFun eg57 27).trans ((va_up_ne _ _ (Nat.ne_of_beq_eq_false rfl)).trans hg55_27)
  have hg57_28 : g57 28 = .ref q28 := (congrFun eg57 28).trans ((va_up_ne _ _ (Nat.ne_of_beq_eq_false rfl)).trans hg55_28)
  have hg57_29 : g57 29 = .ref q30 := (congrFun eg57 29).trans ((va_up_ne _ _ (Nat.ne_of_beq_eq_false rfl)).trans hg55_29)
  have hg57_30 : g57 30 = .ref q32 := (congrFun eg57 30).trans ((va_up_ne _ _ (Nat.ne_of_beq_eq_false rfl)).trans hg55_30)
  have hg57_31 : g57 31 = .ref q34 := (congrFun eg57 31).trans ((va_up_ne _ _ (Nat.ne_of_beq_eq_false rfl)).trans hg55_31)
  have hg57_32 : g57 32 = .ref q36 := (congrFun eg57 32).trans ((va_up_ne _ _ (Nat.ne_of_beq_eq_false rfl)).trans hg55_32)
  have hg57_33 : g57 33 = .ref q38 := (congrFun eg57 33).trans ((va_up_ne _ _ (Nat.ne_of_beq_eq_false rfl)).trans hg55_33)
  have hg57_34 : g57 34 = .ref q40 := (congrFun eg57 34).trans ((va_up_ne _ _ (Nat.ne_of_beq_eq_false rfl)).trans hg55_34)
  have hg57_35 : g57 35 = .ref q42 := (congrFun eg57 35).trans ((va_up_ne _ _ (Nat.ne_of_beq_eq_false rfl)).trans hg55_35)
  have hg57_36 : g57 36 = .ref q44 := (congrFun eg57 36).trans ((va_up_ne _ _ (Nat.ne_of_beq_eq_false rfl)).trans hg55_36)
  clear hg55_0 hg55_1 hg55_8 hg55_9 hg55_16 hg55_17 hg55_46 hg55_47 hg55_48 hg55_74 hg55_75 hg55_55 hg55_10 hg55_15 hg55_27 hg55_28 hg55_29 hg55_30 hg55_31 hg55_32 hg55_33 hg55_34 hg55_35 hg55_36
  have hg57_42 : g57 42 = .ref q56 := by rw [eg57]; exact va_up_self _ _ _
  replace hP := hP.sub (ws' := [(h, .inr (14, mL g57)), (q13, .inl (kq13, 200, .inl (fun _ => (0 : Int32)))), (q23, .inl (kq1, 128, .inl (fun _ => (0 : Int32)))), (q26, .inl (kq1, 20, .inl (fun _ => (0 : Int32)))), (q28, .inl (kq1, 20, .inl (fun _ => (0 : Int32)))), (q30, .inl (kq1, 20, .inl (fun _ => (0 : Int32)))), (q32, .inl (kq1, 20, .inl (fun _ => (0 : Int32)))), (q34, .inl (kq1, 20, .inl (fun _ => (0 : Int32)))), (q36, .inl (kq1, 20, .inl (fun _ => (0 : Int32)))), (q38, .inl (kq1, 20, .inl (fun _ => (0 : Int32)))), (q40, .inl (kq1, 20, .inl (fun _ => (0 : Int32)))), (q42, .inl (kq1, 320, .inl (fun _ => (0 : Int32)))), (q44, .inl (kq1, 320, .inl (fun _ => (0 : Int32))))]) [0, 1, 2, 3, 4, 5, 6, 7, 8, 9, 10, 11, 12] rfl
  replace hD := hD.sub (ws' := [(h, .inr (14, mL g57)), (q13, .inl (kq13, 200, .inl (fun _ => (0 : Int32)))), (q23, .inl (kq1, 128, .inl (fun _ => (0 : Int32)))), (q26, .inl (kq1, 20, .inl (fun _ => (0 : Int32)))), (q28, .inl (kq1, 20, .inl (fun _ => (0 : Int32)))), (q30, .inl (kq1, 20, .inl (fun _ => (0 : Int32)))), (q32, .inl (kq1, 20, .inl (fun _ => (0 : Int32)))), (q34, .inl (kq1, 20, .inl (fun _ => (0 : Int32)))), (q36, .inl (kq1, 20, .inl (fun _ => (0 : Int32)))), (q38, .inl (kq1, 20, .inl (fun _ => (0 : Int32)))), (q40, .inl (kq1, 20, .inl (fun _ => (0 : Int32)))), (q42, .inl (kq1, 320, .inl (fun _ => (0 : Int32)))), (q44, .inl (kq1, 320, .inl (fun _ => (0 : Int32))))]) [0, 1, 2, 3, 4, 5, 6, 7, 8, 9, 10, 11, 12] (by decide) rfl
  refine lv_aload_n hx hb dX13_init_247 rfl (lv_at hl 0 rfl) ?_
  refine lv_bipush (v := 20) hx hb dX13_init_248 (by decide) ?_
  refine va_newa (atype := .int) (ty := .int) (N' := 20) (a0 := (20, .inl (fun _ => (0 : Int32)))) hx hb (hts (.arrayClass .int) (List.mem_of_getElem? (i := 4) rfl)) rfl hK hP hD hS hA (fun _ => rfl) (by decide) (by decide) (Nat.le_of_ble_eq_true rfl) (Nat.le_of_ble_eq_true rfl) (Nat.le_of_ble_eq_true rfl) dX13_init_250 (fun q58 kq58 H hK hP hD hS => ?_)
  have hK : va_K (dC, dI) vwCl [(kq1, .int), (kq13, .byte), (kq58, .int)] s := hK
  replace hP : va_P (dC, dI) vwCl [(h, .inr (14, mL g57)), (q13, .inl (kq13, 200, .inl (fun _ => (0 : Int32)))), (q23, .inl (kq1, 128, .inl (fun _ => (0 : Int32)))), (q26, .inl (kq1, 20, .inl (fun _ => (0 : Int32)))), (q28, .inl (kq1, 20, .inl (fun _ => (0 : Int32)))), (q30, .inl (kq1, 20, .inl (fun _ => (0 : Int32)))), (q32, .inl (kq1, 20, .inl (fun _ => (0 : Int32)))), (q34, .inl (kq1, 20, .inl (fun _ => (0 : Int32)))), (q36, .inl (kq1, 20, .inl (fun _ => (0 : Int32)))), (q38, .inl (kq1, 20, .inl (fun _ => (0 : Int32)))), (q40, .inl (kq1, 20, .inl (fun _ => (0 : Int32)))), (q42, .inl (kq1, 320, .inl (fun _ => (0 : Int32)))), (q44, .inl (kq1, 320, .inl (fun _ => (0 : Int32)))), (q58, .inl (kq58, 20, .inl (fun _ => (0 : Int32))))] H := hP
  replace hD : va_D A [(h, .inr (14, mL g57)), (q13, .inl (kq13, 200, .inl (fun _ => (0 : Int32)))), (q23, .inl (kq1, 128, .inl (fun _ => (0 : Int32)))), (q26, .inl (kq1, 20, .inl (fun _ => (0 : Int32)))), (q28, .inl (kq1, 20, .inl (fun _ => (0 : Int32)))), (q30, .inl (kq1, 20, .inl (fun _ => (0 : Int32)))), (q32, .inl (kq1, 20, .inl (fun _ => (0 : Int32)))), (q34, .inl (kq1, 20, .inl (fun _ => (0 : Int32)))), (q36, .inl (kq1, 20, .inl (fun _ => (0 : Int32)))), (q38, .inl (kq1, 20, .inl (fun _ => (0 : Int32)))), (q40, .inl (kq1, 20, .inl (fun _ => (0 : Int32)))), (q42, .inl (kq1, 320, .inl (fun _ => (0 : Int32)))), (q44, .inl (kq1, 320, .inl (fun _ => (0 : Int32)))), (q58, .inl (kq58, 20, .inl (fun _ => (0 : Int32))))] := hD
  refine W.widen (k := 29) (n := 6696) (by omega) (by omega) ?_
  obtain rfl : kq1 = kq58 := ub_sa_int hK 0 2 rfl rfl
  have hK := hK.sub (tys' := [(kq1, .int), (kq13, .byte)]) [0, 1] rfl
  refine va_putF (D := (dC, dI)) (ci := 14) (v := .ref q58) (ty := .array .int) (C := RX13) (T := TX13) (N := 97) hx hb hts iw_m_init_X13 tyX13 tyX13_ok nmX13 hown hK hP hD hS 0 rfl rfl 43 (by decide) (hts (.fieldLink RX13 98 "UnlikeBoatsModel" "redressRace" "[I") (List.mem_of_getElem? (i := 35) rfl)) (fun _ h9 => h9) rfl hin rfl (by decide +kernel) rfl rfl (mL_lt (Nat.le_of_ble_eq_true rfl)) dX13_init_252 (fun H locs hP hD hS => ?_)
  have hP : va_P (dC, dI) vwCl [(h, .inr (14, (mL g57).set 43 (.ref q58))), (q13, .inl (kq13, 200, .inl (fun _ => (0 : Int32)))), (q23, .inl (kq1, 128, .inl (fun _ => (0 : Int32)))), (q26, .inl (kq1, 20, .inl (fun _ => (0 : Int32)))), (q28, .inl (kq1, 20, .inl (fun _ => (0 : Int32)))), (q30, .inl (kq1, 20, .inl (fun _ => (0 : Int32)))), (q32, .inl (kq1, 20, .inl (fun _ => (0 : Int32)))), (q34, .inl (kq1, 20, .inl (fun _ => (0 : Int32)))), (q36, .inl (kq1, 20, .inl (fun _ => (0 : Int32)))), (q38, .inl (kq1, 20, .inl (fun _ => (0 : Int32)))), (q40, .inl (kq1, 20, .inl (fun _ => (0 : Int32)))), (q42, .inl (kq1, 320, .inl (fun _ => (0 : Int32)))), (q44, .inl (kq1, 320, .inl (fun _ => (0 : Int32)))), (q58, .inl (kq1, 20, .inl (fun _ => (0 : Int32))))] H := hP
  have hD : va_D A [(h, .inr (14, (mL g57).set 43 (.ref q58))), (q13, .inl (kq13, 200, .inl (fun _ => (0 : Int32)))), (q23, .inl (kq1, 128, .inl (fun _ => (0 : Int32)))), (q26, .inl (kq1, 20, .inl (fun _ => (0 : Int32)))), (q28, .inl (kq1, 20, .inl (fun _ => (0 : Int32)))), (q30, .inl (kq1, 20, .inl (fun _ => (0 : Int32)))), (q32, .inl (kq1, 20, .inl (fun _ => (0 : Int32)))), (q34, .inl (kq1, 20, .inl (fun _ => (0 : Int32)))), (q36, .inl (kq1, 20, .inl (fun _ => (0 : Int32)))), (q38, .inl (kq1, 20, .inl (fun _ => (0 : Int32)))), (q40, .inl (kq1, 20, .inl (fun _ => (0 : Int32)))), (q42, .inl (kq1, 320, .inl (fun _ => (0 : Int32)))), (q44, .inl (kq1, 320, .inl (fun _ => (0 : Int32)))), (q58, .inl (kq1, 20, .inl (fun _ => (0 : Int32))))] := hD
  obtain ⟨g59, eg59⟩ : ∃ z9, z9 = va_up g57 43 (.ref q58) := ⟨_, rfl⟩
  rw [mL_upd, ← eg59] at hP hD
  have hg59_0 : g59 0 = .int 0 := (congrFun eg59 0).trans ((va_up_ne _ _ (Nat.ne_of_beq_eq_false rfl)).trans hg57_0)
  have hg59_1 : g59 1 = .int 0 := (congrFun eg59 1).trans ((va_up_ne _ _ (Nat.ne_of_beq_eq_false rfl)).trans hg57_1)
  have hg59_8 : g59 8 = .int 0 := (congrFun eg59 8).trans ((va_up_ne _ _ (Nat.ne_of_beq_eq_false rfl)).trans hg57_8)
  have hg59_9 : g59 9 = .int 0 := (congrFun eg59 9).trans ((va_up_ne _ _ (Nat.ne_of_beq_eq_false rfl)).trans hg57_9)
  have hg59_16 : g59 16 = .int 0 := (congrFun eg59 16).trans ((va_up_ne _ _ (Nat.ne_of_beq_eq_false rfl)).trans hg57_16)
  have hg59_17 : g59 17 = .int 0 := (congrFun eg59 17).trans ((va_up_ne _ _ (Nat.ne_of_beq_eq_false rfl)).trans hg57_17)
  have hg59_46 : g59 46 = .int 0 := (congrFun eg59 46).trans ((va_up_ne _ _ (Nat.ne_of_beq_eq_false rfl)).trans hg57_46)
  have hg59_47 : g59 47 = .int 0 := (congrFun eg59 47).trans ((va_up_ne _ _ (Nat.ne_of_beq_eq_false rfl)).trans hg57_47)
  have hg59_48 : g59 48 = .int 0 := (congrFun eg59 48).trans ((va_up_ne _ _ (Nat.ne_of_beq_eq_false rfl)).trans hg57_48)
  have hg59_74 : g59 74 = .int 0 := (congrFun eg59 74).trans ((va_up_ne _ _ (Nat.ne_of_beq_eq_false rfl)).trans hg57_74)
  have hg59_75 : g59 75 = .int 0 := (congrFun eg59 75).trans ((va_up_ne _ _ (Nat.ne_of_beq_eq_false rfl)).trans hg57_75)
  have hg59_55 : g59 55 = .int 0 := (congrFun eg59 55).trans ((va_up_ne _ _ (Nat.ne_of_beq_eq_false rfl)).trans hg57_55)
  have hg59_10 : g59 10 = .ref q13 := (congrFun eg59 10).trans ((va_up_ne _ _ (Nat.ne_of_beq_eq_false rfl)).trans hg57_10)
  have hg59_15 : g59 15 = .ref q23 := (congrFun eg59 15).trans ((va_up_ne _ _ (Nat.ne_of_beq_eq_false rfl)).trans hg57_15)
  have hg59_27 : g59 27 = .ref q26 := (congrFun eg59 27).trans ((va_up_ne _ _ (Nat.ne_of_beq_eq_false rfl)).trans hg57_27)
  have hg59_28 : g59 28 = .ref q28 := (congrFun eg59 28).trans ((va_up_ne _ _ (Nat.ne_of_beq_eq_false rfl)).trans hg57_28)
  have hg59_29 : g59 29 = .ref q30 := (congrFun eg59 29).trans ((va_up_ne _ _ (Nat.ne_of_beq_eq_false rfl)).trans hg57_29)
  have hg59_30 : g59 30 = .ref q32 := (congrFun eg59 30).trans ((va_up_ne _ _ (Nat.ne_of_beq_eq_false rfl)).trans hg57_30)
  have hg59_31 : g59 31 = .ref q34 := (congrFun eg59 31).trans ((va_up_ne _ _ (Nat.ne_of_beq_eq_false rfl)).trans hg57_31)
  have hg59_32 : g59 32 = .ref q36 := (congrFun eg59 32).trans ((va_up_ne _ _ (Nat.ne_of_beq_eq_false rfl)).trans hg57_32)
  have hg59_33 : g59 33 = .ref q38 := (congrFun eg59 33).trans ((va_up_ne _ _ (Nat.ne_of_beq_eq_false rfl)).trans hg57_33)
  have hg59_34 : g59 34 = .ref q40 := (congrFun eg59 34).trans ((va_up_ne _ _ (Nat.ne_of_beq_eq_false rfl)).trans hg57_34)
  have hg59_35 : g59 35 = .ref q42 := (congrFun eg59 35).trans ((va_up_ne _ _ (Nat.ne_of_beq_eq_false rfl)).trans hg57_35)
  have hg59_36 : g59 36 = .ref q44 := (congrFun eg59 36).trans ((va_up_ne _ _ (Nat.ne_of_beq_eq_false rfl)).trans hg57_36)
  clear hg57_0 hg57_1 hg57_8 hg57_9 hg57_16 hg57_17 hg57_46 hg57_47 hg57_48 hg57_74 hg57_75 hg57_55 hg57_10 hg57_15 hg57_27 hg57_28 hg57_29 hg57_30 hg57_31 hg57_32 hg57_33 hg57_34 hg57_35 hg57_36
  have hg59_43 : g59 43 = .ref q58 := by rw [eg59]; exact va_up_self _ _ _
  replace hP := hP.sub (ws' := [(h, .inr (14, mL g59)), (q13, .inl (kq13, 200, .inl (fun _ => (0 : Int32)))), (q23, .inl (kq1, 128, .inl (fun _ => (0 : Int32)))), (q26, .inl (kq1, 20, .inl (fun _ => (0 : Int32)))), (q28, .inl (kq1, 20, .inl (fun _ => (0 : Int32)))), (q30, .inl (kq1, 20, .inl (fun _ => (0 : Int32)))), (q32, .inl (kq1, 20, .inl (fun _ => (0 : Int32)))), (q34, .inl (kq1, 20, .inl (fun _ => (0 : Int32)))), (q36, .inl (kq1, 20, .inl (fun _ => (0 : Int32)))), (q38, .inl (kq1, 20, .inl (fun _ => (0 : Int32)))), (q40, .inl (kq1, 20, .inl (fun _ => (0 : Int32)))), (q42, .inl (kq1, 320, .inl (fun _ => (0 : Int32)))), (q44, .inl (kq1, 320, .inl (fun _ => (0 : Int32))))]) [0, 1, 2, 3, 4, 5, 6, 7, 8, 9, 10, 11, 12] rfl
  replace hD := hD.sub (ws' := [(h, .inr (14, mL g59)), (q13, .inl (kq13, 200, .inl (fun _ => (0 : Int32)))), (q23, .inl (kq1, 128, .inl (fun _ => (0 : Int32)))), (q26, .inl (kq1, 20, .inl (fun _ => (0 : Int32)))), (q28, .inl (kq1, 20, .inl (fun _ => (0 : Int32)))), (q30, .inl (kq1, 20, .inl (fun _ => (0 : Int32)))), (q32, .inl (kq1, 20, .inl (fun _ => (0 : Int32)))), (q34, .inl (kq1, 20, .inl (fun _ => (0 : Int32)))), (q36, .inl (kq1, 20, .inl (fun _ => (0 : Int32)))), (q38, .inl (kq1, 20, .inl (fun _ => (0 : Int32)))), (q40, .inl (kq1, 20, .inl (fun _ => (0 : Int32)))), (q42, .inl (kq1, 320, .inl (fun _ => (0 : Int32)))), (q44, .inl (kq1, 320, .inl (fun _ => (0 : Int32))))]) [0, 1, 2, 3, 4, 5, 6, 7, 8, 9, 10, 11, 12] (by decide) rfl
  refine lv_aload_n hx hb dX13_init_255 rfl (lv_at hl 0 rfl) ?_
  refine lv_bipush (v := 20) hx hb dX13_init_256 (by decide) ?_
  refine va_newa (atype := .int) (ty := .int) (N' := 20) (a0 := (20, .inl (fun _ => (0 : Int32)))) hx hb (hts (.arrayClass .int) (List.mem_of_getElem? (i := 4) rfl)) rfl hK hP hD hS hA (fun _ => rfl) (by decide) (by decide) (Nat.le_of_ble_eq_true rfl) (Nat.le_of_ble_eq_true rfl) (Nat.le_of_ble_eq_true rfl) dX13_init_258 (fun q60 kq60 H hK hP hD hS => ?_)
  have hK : va_K (dC, dI) vwCl [(kq1, .int), (kq13, .byte), (kq60, .int)] s := hK
  replace hP : va_P (dC, dI) vwCl [(h, .inr (14, mL g59)), (q13, .inl (kq13, 200, .inl (fun _ => (0 : Int32)))), (q23, .inl (kq1, 128, .inl (fun _ => (0 : Int32)))), (q26, .inl (kq1, 20, .inl (fun _ => (0 : Int32)))), (q28, .inl (kq1, 20, .inl (fun _ => (0 : Int32)))), (q30, .inl (kq1, 20, .inl (fun _ => (0 : Int32)))), (q32, .inl (kq1, 20, .inl (fun _ => (0 : Int32)))), (q34, .inl (kq1, 20, .inl (fun _ => (0 : Int32)))), (q36, .inl (kq1, 20, .inl (fun _ => (0 : Int32)))), (q38, .inl (kq1, 20, .inl (fun _ => (0 : Int32)))), (q40, .inl (kq1, 20, .inl (fun _ => (0 : Int32)))), (q42, .inl (kq1, 320, .inl (fun _ => (0 : Int32)))), (q44, .inl (kq1, 320, .inl (fun _ => (0 : Int32)))), (q60, .inl (kq60, 20, .inl (fun _ => (0 : Int32))))] H := hP
  replace hD : va_D A [(h, .inr (14, mL g59)), (q13, .inl (kq13, 200, .inl (fun _ => (0 : Int32)))), (q23, .inl (kq1, 128, .inl (fun _ => (0 : Int32)))), (q26, .inl (kq1, 20, .inl (fun _ => (0 : Int32)))), (q28, .inl (kq1, 20, .inl (fun _ => (0 : Int32)))), (q30, .inl (kq1, 20, .inl (fun _ => (0 : Int32)))), (q32, .inl (kq1, 20, .inl (fun _ => (0 : Int32)))), (q34, .inl (kq1, 20, .inl (fun _ => (0 : Int32)))), (q36, .inl (kq1, 20, .inl (fun _ => (0 : Int32)))), (q38, .inl (kq1, 20, .inl (fun _ => (0 : Int32)))), (q40, .inl (kq1, 20, .inl (fun _ => (0 : Int32)))), (q42, .inl (kq1, 320, .inl (fun _ => (0 : Int32)))), (q44, .inl (kq1, 320, .inl (fun _ => (0 : Int32)))), (q60, .inl (kq60, 20, .inl (fun _ => (0 : Int32))))] := hD
  refine W.widen (k := 30) (n := 6716) (by omega) (by omega) ?_
  obtain rfl : kq1 = kq60 := ub_sa_int hK 0 2 rfl rfl
  have hK := hK.sub (tys' := [(kq1, .int), (kq13, .byte)]) [0, 1] rfl
  refine va_putF (D := (dC, dI)) (ci := 14) (v := .ref q60) (ty := .array .int) (C := RX13) (T := TX13) (N := 97) hx hb hts iw_m_init_X13 tyX13 tyX13_ok nmX13 hown hK hP hD hS 0 rfl rfl 44 (by decide) (hts (.fieldLink RX13 101 "UnlikeBoatsModel" "redressBoat" "[I") (List.mem_of_getElem? (i := 36) rfl)) (fun _ h9 => h9) rfl hin rfl (by decide +kernel) rfl rfl (mL_lt (Nat.le_of_ble_eq_true rfl)) dX13_init_260 (fun H locs hP hD hS => ?_)
  have hP : va_P (dC, dI) vwCl [(h, .inr (14, (mL g59).set 44 (.ref q60))), (q13, .inl (kq13, 200, .inl (fun _ => (0 : Int32)))), (q23, .inl (kq1, 128, .inl (fun _ => (0 : Int32)))), (q26, .inl (kq1, 20, .inl (fun _ => (0 : Int32)))), (q28, .inl (kq1, 20, .inl (fun _ => (0 : Int32)))), (q30, .inl (kq1, 20, .inl (fun _ => (0 : Int32)))), (q32, .inl (kq1, 20, .inl (fun _ => (0 : Int32)))), (q34, .inl (kq1, 20, .inl (fun _ => (0 : Int32)))), (q36, .inl (kq1, 20, .inl (fun _ => (0 : Int32)))), (q38, .inl (kq1, 20, .inl (fun _ => (0 : Int32)))), (q40, .inl (kq1, 20, .inl (fun _ => (0 : Int32)))), (q42, .inl (kq1, 320, .inl (fun _ => (0 : Int32)))), (q44, .inl (kq1, 320, .inl (fun _ => (0 : Int32)))), (q60, .inl (kq1, 20, .inl (fun _ => (0 : Int32))))] H := hP
  have hD : va_D A [(h, .inr (14, (mL g59).set 44 (.ref q60))), (q13, .inl (kq13, 200, .inl (fun _ => (0 : Int32)))), (q23, .inl (kq1, 128, .inl (fun _ => (0 : Int32)))), (q26, .inl (kq1, 20, .inl (fun _ => (0 : Int32)))), (q28, .inl (kq1, 20, .inl (fun _ => (0 : Int32)))), (q30, .inl (kq1, 20, .inl (fun _ => (0 : Int32)))), (q32, .inl (kq1, 20, .inl (fun _ => (0 : Int32)))), (q34, .inl (kq1, 20, .inl (fun _ => (0 : Int32)))), (q36, .inl (kq1, 20, .inl (fun _ => (0 : Int32)))), (q38, .inl (kq1, 20, .inl (fun _ => (0 : Int32)))), (q40, .inl (kq1, 20, .inl (fun _ => (0 : Int32)))), (q42, .inl (kq1, 320, .inl (fun _ => (0 : Int32)))), (q44, .inl (kq1, 320, .inl (fun _ => (0 : Int32)))), (q60, .inl (kq1, 20, .inl (fun _ => (0 : Int32))))] := hD
  obtain ⟨g61, eg61⟩ : ∃ z9, z9 = va_up g59 44 (.ref q60) := ⟨_, rfl⟩
  rw [mL_upd, ← eg61] at hP hD
  have hg61_0 : g61 0 = .int 0 := (congrFun eg61 0).trans ((va_up_ne _ _ (Nat.ne_of_beq_eq_false rfl)).trans hg59_0)
  have hg61_1 : g61 1 = .int 0 := (congrFun eg61 1).trans ((va_up_ne _ _ (Nat.ne_of_beq_eq_false rfl)).trans hg59_1)
  have hg61_8 : g61 8 = .int 0 := (congrFun eg61 8).trans ((va_up_ne _ _ (Nat.ne_of_beq_eq_false rfl)).trans hg59_8)
  have hg61_9 : g61 9 = .int 0 := (congrFun eg61 9).trans ((va_up_ne _ _ (Nat.ne_of_beq_eq_false rfl)).trans hg59_9)
  have hg61_16 : g61 16 = .int 0 := (congrFun eg61 16).trans ((va_up_ne _ _ (Nat.ne_of_beq_eq_false rfl)).trans hg59_16)
  have hg61_17 : g61 17 = .int 0 := (congrFun eg61 17).trans ((va_up_ne _ _ (Nat.ne_of_beq_eq_false rfl)).trans hg59_17)
  have hg61_46 : g61 46 = .int 0 := (congrFun eg61 46).trans ((va_up_ne _ _ (Nat.ne_of_beq_eq_false rfl)).trans hg59_46)
  have hg61_47 : g61 47 = .int 0 := (congrFun eg61 47).trans ((va_up_ne _ _ (Nat.ne_of_beq_eq_false rfl)).trans hg59_47)
  have hg61_48 : g61 48 = .int 0 := (congrFun eg61 48).trans ((va_up_ne _ _ (Nat.ne_of_beq_eq_false rfl)).trans hg59_48)
  have hg61_74 : g61 74 = .int 0 := (congrFun eg61 74).trans ((va_up_ne _ _ (Nat.ne_of_beq_eq_false rfl)).trans hg59_74)
  have hg61_75 : g61 75 = .int 0 := (congrFun eg61 75).trans ((va_up_ne _ _ (Nat.ne_of_beq_eq_false rfl)).trans hg59_75)
  have hg61_55 : g61 55 = .int 0 := (congrFun eg61 55).trans ((va_up_ne _ _ (Nat.ne_of_beq_eq_false rfl)).trans hg59_55)
  have hg61_10 : g61 10 = .ref q13 := (congrFun eg61 10).trans ((va_up_ne _ _ (Nat.ne_of_beq_eq_false rfl)).trans hg59_10)
  have hg61_15 : g61 15 = .ref q23 := (congrFun eg61 15).trans ((va_up_ne _ _ (Nat.ne_of_beq_eq_false rfl)).trans hg59_15)
  have hg61_27 : g61 27 = .ref q26 := (congrFun eg61 27).trans ((va_up_ne _ _ (Nat.ne_of_beq_eq_false rfl)).trans hg59_27)
  have hg61_28 : g61 28 = .ref q28 := (congrFun eg61 28).trans ((va_up_ne _ _ (Nat.ne_of_beq_eq_false rfl)).trans hg59_28)
  have hg61_29 : g61 29 = .ref q30 := (congrFun eg61 29).trans ((va_up_ne _ _ (Nat.ne_of_beq_eq_false rfl)).trans hg59_29)
  have hg61_30 : g61 30 = .ref q32 := (congrFun eg61 30).trans ((va_up_ne _ _ (Nat.ne_of_beq_eq_false rfl)).trans hg59_30)
  have hg61_31 : g61 31 = .ref q34 := (congrFun eg61 31).trans ((va_up_ne _ _ (Nat.ne_of_beq_eq_false rfl)).trans hg59_31)
  have hg61_32 : g61 32 = .ref q36 := (congrFun eg61 32).trans ((va_up_ne _ _ (Nat.ne_of_beq_eq_false rfl)).trans hg59_32)
  have hg61_33 : g61 33 = .ref q38 := (congrFun eg61 33).trans ((va_up_ne _ _ (Nat.ne_of_beq_eq_false rfl)).trans hg59_33)
  have hg61_34 : g61 34 = .ref q40 := (congrFun eg61 34).trans ((va_up_ne _ _ (Nat.ne_of_beq_eq_false rfl)).trans hg59_34)
  have hg61_35 : g61 35 = .ref q42 := (congrFun eg61 35).trans ((va_up_ne _ _ (Nat.ne_of_beq_eq_false rfl)).trans hg59_35)
  have hg61_36 : g61 36 = .ref q44 := (congrFun eg61 36).trans ((va_up_ne _ _ (Nat.ne_of_beq_eq_false rfl)).trans hg59_36)
  clear hg59_0 hg59_1 hg59_8 hg59_9 hg59_16 hg59_17 hg59_46 hg59_47 hg59_48 hg59_74 hg59_75 hg59_55 hg59_10 hg59_15 hg59_27 hg59_28 hg59_29 hg59_30 hg59_31 hg59_32 hg59_33 hg59_34 hg59_35 hg59_36
  have hg61_44 : g61 44 = .ref q60 := by rw [eg61]; exact va_up_self _ _ _
  replace hP := hP.sub (ws' := [(h, .inr (14, mL g61)), (q13, .inl (kq13, 200, .inl (fun _ => (0 : Int32)))), (q23, .inl (kq1, 128, .inl (fun _ => (0 : Int32)))), (q26, .inl (kq1, 20, .inl (fun _ => (0 : Int32)))), (q28, .inl (kq1, 20, .inl (fun _ => (0 : Int32)))), (q30, .inl (kq1, 20, .inl (fun _ => (0 : Int32)))), (q32, .inl (kq1, 20, .inl (fun _ => (0 : Int32)))), (q34, .inl (kq1, 20, .inl (fun _ => (0 : Int32)))), (q36, .inl (kq1, 20, .inl (fun _ => (0 : Int32)))), (q38, .inl (kq1, 20, .inl (fun _ => (0 : Int32)))), (q40, .inl (kq1, 20, .inl (fun _ => (0 : Int32)))), (q42, .inl (kq1, 320, .inl (fun _ => (0 : Int32)))), (q44, .inl (kq1, 320, .inl (fun _ => (0 : Int32))))]) [0, 1, 2, 3, 4, 5, 6, 7, 8, 9, 10, 11, 12] rfl
  replace hD := hD.sub (ws' := [(h, .inr (14, mL g61)), (q13, .inl (kq13, 200, .inl (fun _ => (0 : Int32)))), (q23, .inl (kq1, 128, .inl (fun _ => (0 : Int32)))), (q26, .inl (kq1, 20, .inl (fun _ => (0 : Int32)))), (q28, .inl (kq1, 20, .inl (fun _ => (0 : Int32)))), (q30, .inl (kq1, 20, .inl (fun _ => (0 : Int32)))), (q32, .inl (kq1, 20, .inl (fun _ => (0 : Int32)))), (q34, .inl (kq1, 20, .inl (fun _ => (0 : Int32)))), (q36, .inl (kq1, 20, .inl (fun _ => (0 : Int32)))), (q38, .inl (kq1, 20, .inl (fun _ => (0 : Int32)))), (q40, .inl (kq1, 20, .inl (fun _ => (0 : Int32)))), (q42, .inl (kq1, 320, .inl (fun _ => (0 : Int32)))), (q44, .inl (kq1, 320, .inl (fun _ => (0 : Int32))))]) [0, 1, 2, 3, 4, 5, 6, 7, 8, 9, 10, 11, 12] (by decide) rfl
  refine lv_aload_n hx hb dX13_init_263 rfl (lv_at hl 0 rfl) ?_
  refine lv_bipush (v := 20) hx hb dX13_init_264 (by decide) ?_
  refine va_newa (atype := .int) (ty := .int) (N' := 20) (a0 := (20, .inl (fun _ => (0 : Int32)))) hx hb (hts (.arrayClass .int) (List.mem_of_getElem? (i := 4) rfl)) rfl hK hP hD hS hA (fun _ => rfl) (by decide) (by decide) (Nat.le_of_ble_eq_true rfl) (Nat.le_of_ble_eq_true rfl) (Nat.le_of_ble_eq_true rfl) dX13_init_266 (fun q62 kq62 H hK hP hD hS => ?_)
  have hK : va_K (dC, dI) vwCl [(kq1, .int), (kq13, .byte), (kq62, .int)] s := hK
  replace hP : va_P (dC, dI) vwCl [(h, .inr (14, mL g61)), (q13, .inl (kq13, 200, .inl (fun _ => (0 : Int32)))), (q23, .inl (kq1, 128, .inl (fun _ => (0 : Int32)))), (q26, .inl (kq1, 20, .inl (fun _ => (0 : Int32)))), (q28, .inl (kq1, 20, .inl (fun _ => (0 : Int32)))), (q30, .inl (kq1, 20, .inl (fun _ => (0 : Int32)))), (q32, .inl (kq1, 20, .inl (fun _ => (0 : Int32)))), (q34, .inl (kq1, 20, .inl (fun _ => (0 : Int32)))), (q36, .inl (kq1, 20, .inl (fun _ => (0 : Int32)))), (q38, .inl (kq1, 20, .inl (fun _ => (0 : Int32)))), (q40, .inl (kq1, 20, .inl (fun _ => (0 : Int32)))), (q42, .inl (kq1, 320, .inl (fun _ => (0 : Int32)))), (q44, .inl (kq1, 320, .inl (fun _ => (0 : Int32)))), (q62, .inl (kq62, 20, .inl (fun _ => (0 : Int32))))] H := hP
  replace hD : va_D A [(h, .inr (14, mL g61)), (q13, .inl (kq13, 200, .inl (fun _ => (0 : Int32)))), (q23, .inl (kq1, 128, .inl (fun _ => (0 : Int32)))), (q26, .inl (kq1, 20, .inl (fun _ => (0 : Int32)))), (q28, .inl (kq1, 20, .inl (fun _ => (0 : Int32)))), (q30, .inl (kq1, 20, .inl (fun _ => (0 : Int32)))), (q32, .inl (kq1, 20, .inl (fun _ => (0 : Int32)))), (q34, .inl (kq1, 20, .inl (fun _ => (0 : Int32)))), (q36, .inl (kq1, 20, .inl (fun _ => (0 : Int32)))), (q38, .inl (kq1, 20, .inl (fun _ => (0 : Int32)))), (q40, .inl (kq1, 20, .inl (fun _ => (0 : Int32)))), (q42, .inl (kq1, 320, .inl (fun _ => (0 : Int32)))), (q44, .inl (kq1, 320, .inl (fun _ => (0 : Int32)))), (q62, .inl (kq62, 20, .inl (fun _ => (0 : Int32))))] := hD
  refine W.widen (k := 31) (n := 6736) (by omega) (by omega) ?_
  obtain rfl : kq1 = kq62 := ub_sa_int hK 0 2 rfl rfl
  have hK := hK.sub (tys' := [(kq1, .int), (kq13, .byte)]) [0, 1] rfl
  refine va_putF (D := (dC, dI)) (ci := 14) (v := .ref q62) (ty := .array .int) (C := RX13) (T := TX13) (N := 97) hx hb hts iw_m_init_X13 tyX13 tyX13_ok nmX13 hown hK hP hD hS 0 rfl rfl 45 (by decide) (hts (.fieldLink RX13 104 "UnlikeBoatsModel" "redressTold" "[I") (List.mem_of_getElem? (i := 37) rfl)) (fun _ h9 => h9) rfl hin rfl (by decide +kernel) rfl rfl (mL_lt (Nat.le_of_ble_eq_true rfl)) dX13_init_268 (fun H locs hP hD hS => ?_)
  have hP : va_P (dC, dI) vwCl [(h, .inr (14, (mL g61).set 45 (.ref q62))), (q13, .inl (kq13, 200, .inl (fun _ => (0 : Int32)))), (q23, .inl (kq1, 128, .inl (fun _ => (0 : Int32)))), (q26, .inl (kq1, 20, .inl (fun _ => (0 : Int32)))), (q28, .inl (kq1, 20, .inl (fun _ => (0 : Int32)))), (q30, .inl (kq1, 20, .inl (fun _ => (0 : Int32)))), (q32, .inl (kq1, 20, .inl (fun _ => (0 : Int32)))), (q34, .inl (kq1, 20, .inl (fun _ => (0 : Int32)))), (q36, .inl (kq1, 20, .inl (fun _ => (0 : Int32)))), (q38, .inl (kq1, 20, .inl (fun _ => (0 : Int32)))), (q40, .inl (kq1, 20, .inl (fun _ => (0 : Int32)))), (q42, .inl (kq1, 320, .inl (fun _ => (0 : Int32)))), (q44, .inl (kq1, 320, .inl (fun _ => (0 : Int32)))), (q62, .inl (kq1, 20, .inl (fun _ => (0 : Int32))))] H := hP
  have hD : va_D A [(h, .inr (14, (mL g61).set 45 (.ref q62))), (q13, .inl (kq13, 200, .inl (fun _ => (0 : Int32)))), (q23, .inl (kq1, 128, .inl (fun _ => (0 : Int32)))), (q26, .inl (kq1, 20, .inl (fun _ => (0 : Int32)))), (q28, .inl (kq1, 20, .inl (fun _ => (0 : Int32)))), (q30, .inl (kq1, 20, .inl (fun _ => (0 : Int32)))), (q32, .inl (kq1, 20, .inl (fun _ => (0 : Int32)))), (q34, .inl (kq1, 20, .inl (fun _ => (0 : Int32)))), (q36, .inl (kq1, 20, .inl (fun _ => (0 : Int32)))), (q38, .inl (kq1, 20, .inl (fun _ => (0 : Int32)))), (q40, .inl (kq1, 20, .inl (fun _ => (0 : Int32)))), (q42, .inl (kq1, 320, .inl (fun _ => (0 : Int32)))), (q44, .inl (kq1, 320, .inl (fun _ => (0 : Int32)))), (q62, .inl (kq1, 20, .inl (fun _ => (0 : Int32))))] := hD
  obtain ⟨g63, eg63⟩ : ∃ z9, z9 = va_up g61 45 (.ref q62) := ⟨_, rfl⟩
  rw [mL_upd, ← eg63] at hP hD
  have hg63_0 : g63 0 = .int 0 := (congrFun eg63 0).trans ((va_up_ne _ _ (Nat.ne_of_beq_eq_false rfl)).trans hg61_0)
  have hg63_1 : g63 1 = .int 0 := (congrFun eg63 1).trans ((va_up_ne _ _ (Nat.ne_of_beq_eq_false rfl)).trans hg61_1)
  have hg63_8 : g63 8 = .int 0 := (congrFun eg63 8).trans ((va_up_ne _ _ (Nat.ne_of_beq_eq_false rfl)).trans hg61_8)
  have hg63_9 : g63 9 = .int 0 := (congrFun eg63 9).trans ((va_up_ne _ _ (Nat.ne_of_beq_eq_false rfl)).trans hg61_9)
  have hg63_16 : g63 16 = .int 0 := (congrFun eg63 16).trans ((va_up_ne _ _ (Nat.ne_of_beq_eq_false rfl)).trans hg61_16)
  have hg63_17 : g63 17 = .int 0 := (congrFun eg63 17).trans ((va_up_ne _ _ (Nat.ne_of_beq_eq_false rfl)).trans hg61_17)
  have hg63_46 : g63 46 = .int 0 := (congrFun eg63 46).trans ((va_up_ne _ _ (Nat.ne_of_beq_eq_false rfl)).trans hg61_46)
  have hg63_47 : g63 47 = .int 0 := (congrFun eg63 47).trans ((va_up_ne _ _ (Nat.ne_of_beq_eq_false rfl)).trans hg61_47)
  have hg63_48 : g63 48 = .int 0 := (congrFun eg63 48).trans ((va_up_ne _ _ (Nat.ne_of_beq_eq_false rfl)).trans hg61_48)
  have hg63_74 : g63 74 = .int 0 := (congrFun eg63 74).trans ((va_up_ne _ _ (Nat.ne_of_beq_eq_false rfl)).trans hg61_74)
  have hg63_75 : g63 75 = .int 0 := (congrFun eg63 75).trans ((va_up_ne _ _ (Nat.ne_of_beq_eq_false rfl)).trans hg61_75)
  have hg63_55 : g63 55 = .int 0 := (congrFun eg63 55).trans ((va_up_ne _ _ (Nat.ne_of_beq_eq_false rfl)).trans hg61_55)
  have hg63_10 : g63 10 = .ref q13 := (congrFun eg63 10).trans ((va_up_ne _ _ (Nat.ne_of_beq_eq_false rfl)).trans hg61_10)
  have hg63_15 : g63 15 = .ref q23 := (congrFun eg63 15).trans ((va_up_ne _ _ (Nat.ne_of_beq_eq_false rfl)).trans hg61_15)
  have hg63_27 : g63 27 = .ref q26 := (congrFun eg63 27).trans ((va_up_ne _ _ (Nat.ne_of_beq_eq_false rfl)).trans hg61_27)
  have hg63_28 : g63 28 = .ref q28 := (congrFun eg63 28).trans ((va_up_ne _ _ (Nat.ne_of_beq_eq_false rfl)).trans hg61_28)
  have hg63_29 : g63 29 = .ref q30 := (congrFun eg63 29).trans ((va_up_ne _ _ (Nat.ne_of_beq_eq_false rfl)).trans hg61_29)
  have hg63_30 : g63 30 = .ref q32 := (congrFun eg63 30).trans ((va_up_ne _ _ (Nat.ne_of_beq_eq_false rfl)).trans hg61_30)
  have hg63_31 : g63 31 = .ref q34 := (congrFun eg63 31).trans ((va_up_ne _ _ (Nat.ne_of_beq_eq_false rfl)).trans hg61_31)
  have hg63_32 : g63 32 = .ref q36 := (congrFun eg63 32).trans ((va_up_ne _ _ (Nat.ne_of_beq_eq_false rfl)).trans hg61_32)
  have hg63_33 : g63 33 = .ref q38 := (congrFun eg63 33).trans ((va_up_ne _ _ (Nat.ne_of_beq_eq_false rfl)).trans hg61_33)
  have hg63_34 : g63 34 = .ref q40 := (congrFun eg63 34).trans ((va_up_ne _ _ (Nat.ne_of_beq_eq_false rfl)).trans hg61_34)
  have hg63_35 : g63 35 = .ref q42 := (congrFun eg63 35).trans ((va_up_ne _ _ (Nat.ne_of_beq_eq_false rfl)).trans hg61_35)
  have hg63_36 : g63 36 = .ref q44 := (congrFun eg63 36).trans ((va_up_ne _ _ (Nat.ne_of_beq_eq_false rfl)).trans hg61_36)
  clear hg61_0 hg61_1 hg61_8 hg61_9 hg61_16 hg61_17 hg61_46 hg61_47 hg61_48 hg61_74 hg61_75 hg61_55 hg61_10 hg61_15 hg61_27 hg61_28 hg61_29 hg61_30 hg61_31 hg61_32 hg61_33 hg61_34 hg61_35 hg61_36
  have hg63_45 : g63 45 = .ref q62 := by rw [eg63]; exact va_up_self _ _ _
  replace hP := hP.sub (ws' := [(h, .inr (14, mL g63)), (q13, .inl (kq13, 200, .inl (fun _ => (0 : Int32)))), (q23, .inl (kq1, 128, .inl (fun _ => (0 : Int32)))), (q26, .inl (kq1, 20, .inl (fun _ => (0 : Int32)))), (q28, .inl (kq1, 20, .inl (fun _ => (0 : Int32)))), (q30, .inl (kq1, 20, .inl (fun _ => (0 : Int32)))), (q32, .inl (kq1, 20, .inl (fun _ => (0 : Int32)))), (q34, .inl (kq1, 20, .inl (fun _ => (0 : Int32)))), (q36, .inl (kq1, 20, .inl (fun _ => (0 : Int32)))), (q38, .inl (kq1, 20, .inl (fun _ => (0 : Int32)))), (q40, .inl (kq1, 20, .inl (fun _ => (0 : Int32)))), (q42, .inl (kq1, 320, .inl (fun _ => (0 : Int32)))), (q44, .inl (kq1, 320, .inl (fun _ => (0 : Int32))))]) [0, 1, 2, 3, 4, 5, 6, 7, 8, 9, 10, 11, 12] rfl
  replace hD := hD.sub (ws' := [(h, .inr (14, mL g63)), (q13, .inl (kq13, 200, .inl (fun _ => (0 : Int32)))), (q23, .inl (kq1, 128, .inl (fun _ => (0 : Int32)))), (q26, .inl (kq1, 20, .inl (fun _ => (0 : Int32)))), (q28, .inl (kq1, 20, .inl (fun _ => (0 : Int32)))), (q30, .inl (kq1, 20, .inl (fun _ => (0 : Int32)))), (q32, .inl (kq1, 20, .inl (fun _ => (0 : Int32)))), (q34, .inl (kq1, 20, .inl (fun _ => (0 : Int32)))), (q36, .inl (kq1, 20, .inl (fun _ => (0 : Int32)))), (q38, .inl (kq1, 20, .inl (fun _ => (0 : Int32)))), (q40, .inl (kq1, 20, .inl (fun _ => (0 : Int32)))), (q42, .inl (kq1, 320, .inl (fun _ => (0 : Int32)))), (q44, .inl (kq1, 320, .inl (fun _ => (0 : Int32))))]) [0, 1, 2, 3, 4, 5, 6, 7, 8, 9, 10, 11, 12] (by decide) rfl
  refine lv_aload_n hx hb dX13_init_271 rfl (lv_at hl 0 rfl) ?_
  refine lv_sipush (v := 320) hx hb dX13_init_272 (by decide) ?_
  refine va_newa (atype := .int) (ty := .int) (N' := 320) (a0 := (320, .inl (fun _ => (0 : Int32)))) hx hb (hts (.arrayClass .int) (List.mem_of_getElem? (i := 4) rfl)) rfl hK hP hD hS hA (fun _ => rfl) (by decide) (by decide) (Nat.le_of_ble_eq_true rfl) (Nat.le_of_ble_eq_true rfl) (Nat.le_of_ble_eq_true rfl) dX13_init_275 (fun q64 kq64 H hK hP hD hS => ?_)
  have hK : va_K (dC, dI) vwCl [(kq1, .int), (kq13, .byte), (kq64, .int)] s := hK
  replace hP : va_P (dC, dI) vwCl [(h, .inr (14, mL g63)), (q13, .inl (kq13, 200, .inl (fun _ => (0 : Int32)))), (q23, .inl (kq1, 128, .inl (fun _ => (0 : Int32)))), (q26, .inl (kq1, 20, .inl (fun _ => (0 : Int32)))), (q28, .inl (kq1, 20, .inl (fun _ => (0 : Int32)))), (q30, .inl (kq1, 20, .inl (fun _ => (0 : Int32)))), (q32, .inl (kq1, 20, .inl (fun _ => (0 : Int32)))), (q34, .inl (kq1, 20, .inl (fun _ => (0 : Int32)))), (q36, .inl (kq1, 20, .inl (fun _ => (0 : Int32)))), (q38, .inl (kq1, 20, .inl (fun _ => (0 : Int32)))), (q40, .inl (kq1, 20, .inl (fun _ => (0 : Int32)))), (q42, .inl (kq1, 320, .inl (fun _ => (0 : Int32)))), (q44, .inl (kq1, 320, .inl (fun _ => (0 : Int32)))), (q64, .inl (kq64, 320, .inl (fun _ => (0 : Int32))))] H := hP
  replace hD : va_D A [(h, .inr (14, mL g63)), (q13, .inl (kq13, 200, .inl (fun _ => (0 : Int32)))), (q23, .inl (kq1, 128, .inl (fun _ => (0 : Int32)))), (q26, .inl (kq1, 20, .inl (fun _ => (0 : Int32)))), (q28, .inl (kq1, 20, .inl (fun _ => (0 : Int32)))), (q30, .inl (kq1, 20, .inl (fun _ => (0 : Int32)))), (q32, .inl (kq1, 20, .inl (fun _ => (0 : Int32)))), (q34, .inl (kq1, 20, .inl (fun _ => (0 : Int32)))), (q36, .inl (kq1, 20, .inl (fun _ => (0 : Int32)))), (q38, .inl (kq1, 20, .inl (fun _ => (0 : Int32)))), (q40, .inl (kq1, 20, .inl (fun _ => (0 : Int32)))), (q42, .inl (kq1, 320, .inl (fun _ => (0 : Int32)))), (q44, .inl (kq1, 320, .inl (fun _ => (0 : Int32)))), (q64, .inl (kq64, 320, .inl (fun _ => (0 : Int32))))] := hD
  refine W.widen (k := 32) (n := 7056) (by omega) (by omega) ?_
  obtain rfl : kq1 = kq64 := ub_sa_int hK 0 2 rfl rfl
  have hK := hK.sub (tys' := [(kq1, .int), (kq13, .byte)]) [0, 1] rfl
  refine va_putF (D := (dC, dI)) (ci := 14) (v := .ref q64) (ty := .array .int) (C := RX13) (T := TX13) (N := 97) hx hb hts iw_m_init_X13 tyX13 tyX13_ok nmX13 hown hK hP hD hS 0 rfl rfl 49 (by decide) (hts (.fieldLink RX13 107 "UnlikeBoatsModel" "points" "[I") (List.mem_of_getElem? (i := 38) rfl)) (fun _ h9 => h9) rfl hin rfl (by decide +kernel) rfl rfl (mL_lt (Nat.le_of_ble_eq_true rfl)) dX13_init_277 (fun H locs hP hD hS => ?_)
  have hP : va_P (dC, dI) vwCl [(h, .inr (14, (mL g63).set 49 (.ref q64))), (q13, .inl (kq13, 200, .inl (fun _ => (0 : Int32)))), (q23, .inl (kq1, 128, .inl (fun _ => (0 : Int32)))), (q26, .inl (kq1, 20, .inl (fun _ => (0 : Int32)))), (q28, .inl (kq1, 20, .inl (fun _ => (0 : Int32)))), (q30, .inl (kq1, 20, .inl (fun _ => (0 : Int32)))), (q32, .inl (kq1, 20, .inl (fun _ => (0 : Int32)))), (q34, .inl (kq1, 20, .inl (fun _ => (0 : Int32)))), (q36, .inl (kq1, 20, .inl (fun _ => (0 : Int32)))), (q38, .inl (kq1, 20, .inl (fun _ => (0 : Int32)))), (q40, .inl (kq1, 20, .inl (fun _ => (0 : Int32)))), (q42, .inl (kq1, 320, .inl (fun _ => (0 : Int32)))), (q44, .inl (kq1, 320, .inl (fun _ => (0 : Int32)))), (q64, .inl (kq1, 320, .inl (fun _ => (0 : Int32))))] H := hP
  have hD : va_D A [(h, .inr (14, (mL g63).set 49 (.ref q64))), (q13, .inl (kq13, 200, .inl (fun _ => (0 : Int32)))), (q23, .inl (kq1, 128, .inl (fun _ => (0 : Int32)))), (q26, .inl (kq1, 20, .inl (fun _ => (0 : Int32)))), (q28, .inl (kq1, 20, .inl (fun _ => (0 : Int32)))), (q30, .inl (kq1, 20, .inl (fun _ => (0 : Int32)))), (q32, .inl (kq1, 20, .inl (fun _ => (0 : Int32)))), (q34, .inl (kq1, 20, .inl (fun _ => (0 : Int32)))), (q36, .inl (kq1, 20, .inl (fun _ => (0 : Int32)))), (q38, .inl (kq1, 20, .inl (fun _ => (0 : Int32)))), (q40, .inl (kq1, 20, .inl (fun _ => (0 : Int32)))), (q42, .inl (kq1, 320, .inl (fun _ => (0 : Int32)))), (q44, .inl (kq1, 320, .inl (fun _ => (0 : Int32)))), (q64, .inl (kq1, 320, .inl (fun _ => (0 : Int32))))] := hD
  obtain ⟨g65, eg65⟩ : ∃ z9, z9 = va_up g63 49 (.ref q64) := ⟨_, rfl⟩
  rw [mL_upd, ← eg65] at hP hD
  have hg65_0 : g65 0 = .int 0 := (congrFun eg65 0).trans ((va_up_ne _ _ (Nat.ne_of_beq_eq_false rfl)).trans hg63_0)
  have hg65_1 : g65 1 = .int 0 := (congrFun eg65 1).trans ((va_up_ne _ _ (Nat.ne_of_beq_eq_false rfl)).trans hg63_1)
  have hg65_8 : g65 8 = .int 0 := (congrFun eg65 8).trans ((va_up_ne _ _ (Nat.ne_of_beq_eq_false rfl)).trans hg63_8)
  have hg65_9 : g65 9 = .int 0 := (congrFun eg65 9).trans ((va_up_ne _ _ (Nat.ne_of_beq_eq_false rfl)).trans hg63_9)
  have hg65_16 : g65 16 = .int 0 := (congrFun eg65 16).trans ((va_up_ne _ _ (Nat.ne_of_beq_eq_false rfl)).trans hg63_16)
  have hg65_17 : g65 17 = .int 0 := (congrFun eg65 17).trans ((va_up_ne _ _ (Nat.ne_of_beq_eq_false rfl)).trans hg63_17)
  have hg65_46 : g65 46 = .int 0 := (congrFun eg65 46).trans ((va_up_ne _ _ (Nat.ne_of_beq_eq_false rfl)).trans hg63_46)
  have hg65_47 : g65 47 = .int 0 := (congrFun eg65 47).trans ((va_up_ne _ _ (Nat.ne_of_beq_eq_false rfl)).trans hg63_47)
  have hg65_48 : g65 48 = .int 0 := (congrFun eg65 48).trans ((va_up_ne _ _ (Nat.ne_of_beq_eq_false rfl)).trans hg63_48)
  have hg65_74 : g65 74 = .int 0 := (congrFun eg65 74).trans ((va_up_ne _ _ (Nat.ne_of_beq_eq_false rfl)).trans hg63_74)
  have hg65_75 : g65 75 = .int 0 := (congrFun eg65 75).trans ((va_up_ne _ _ (Nat.ne_of_beq_eq_false rfl)).trans hg63_75)
  have hg65_55 : g65 55 = .int 0 := (congrFun eg65 55).trans ((va_up_ne _ _ (Nat.ne_of_beq_eq_false rfl)).trans hg63_55)
  have hg65_10 : g65 10 = .ref q13 := (congrFun eg65 10).trans ((va_up_ne _ _ (Nat.ne_of_beq_eq_false rfl)).trans hg63_10)
  have hg65_15 : g65 15 = .ref q23 := (congrFun eg65 15).trans ((va_up_ne _ _ (Nat.ne_of_beq_eq_false rfl)).trans hg63_15)
  have hg65_27 : g65 27 = .ref q26 := (congrFun eg65 27).trans ((va_up_ne _ _ (Nat.ne_of_beq_eq_false rfl)).trans hg63_27)
  have hg65_28 : g65 28 = .ref q28 := (congrFun eg65 28).trans ((va_up_ne _ _ (Nat.ne_of_beq_eq_false rfl)).trans hg63_28)
  have hg65_29 : g65 29 = .ref q30 := (congrFun eg65 29).trans ((va_up_ne _ _ (Nat.ne_of_beq_eq_false rfl)).trans hg63_29)
  have hg65_30 : g65 30 = .ref q32 := (congrFun eg65 30).trans ((va_up_ne _ _ (Nat.ne_of_beq_eq_false rfl)).trans hg63_30)
  have hg65_31 : g65 31 = .ref q34 := (congrFun eg65 31).trans ((va_up_ne _ _ (Nat.ne_of_beq_eq_false rfl)).trans hg63_31)
  have hg65_32 : g65 32 = .ref q36 := (congrFun eg65 32).trans ((va_up_ne _ _ (Nat.ne_of_beq_eq_false rfl)).trans hg63_32)
  have hg65_33 : g65 33 = .ref q38 := (congrFun eg65 33).trans ((va_up_ne _ _ (Nat.ne_of_beq_eq_false rfl)).trans hg63_33)
  have hg65_34 : g65 34 = .ref q40 := (congrFun eg65 34).trans ((va_up_ne _ _ (Nat.ne_of_beq_eq_false rfl)).trans hg63_34)
  have hg65_35 : g65 35 = .ref q42 := (congrFun eg65 35).trans ((va_up_ne _ _ (Nat.ne_of_beq_eq_false rfl)).trans hg63_35)
  have hg65_36 : g65 36 = .ref q44 := (congrFun eg65 36).trans ((va_up_ne _ _ (Nat.ne_of_beq_eq_false rfl)).trans hg63_36)
  clear hg63_0 hg63_1 hg63_8 hg63_9 hg63_16 hg63_17 hg63_46 hg63_47 hg63_48 hg63_74 hg63_75 hg63_55 hg63_10 hg63_15 hg63_27 hg63_28 hg63_29 hg63_30 hg63_31 hg63_32 hg63_33 hg63_34 hg63_35 hg63_36
  have hg65_49 : g65 49 = .ref q64 := by rw [eg65]; exact va_up_self _ _ _
  replace hP := hP.sub (ws' := [(h, .inr (14, mL g65)), (q13, .inl (kq13, 200, .inl (fun _ => (0 : Int32)))), (q23, .inl (kq1, 128, .inl (fun _ => (0 : Int32)))), (q26, .inl (kq1, 20, .inl (fun _ => (0 : Int32)))), (q28, .inl (kq1, 20, .inl (fun _ => (0 : Int32)))), (q30, .inl (kq1, 20, .inl (fun _ => (0 : Int32)))), (q32, .inl (kq1, 20, .inl (fun _ => (0 : Int32)))), (q34, .inl (kq1, 20, .inl (fun _ => (0 : Int32)))), (q36, .inl (kq1, 20, .inl (fun _ => (0 : Int32)))), (q38, .inl (kq1, 20, .inl (fun _ => (0 : Int32)))), (q40, .inl (kq1, 20, .inl (fun _ => (0 : Int32)))), (q42, .inl (kq1, 320, .inl (fun _ => (0 : Int32)))), (q44, .inl (kq1, 320, .inl (fun _ => (0 : Int32))))]) [0, 1, 2, 3, 4, 5, 6, 7, 8, 9, 10, 11, 12] rfl
  replace hD := hD.sub (ws' := [(h, .inr (14, mL g65)), (q13, .inl (kq13, 200, .inl (fun _ => (0 : Int32)))), (q23, .inl (kq1, 128, .inl (fun _ => (0 : Int32)))), (q26, .inl (kq1, 20, .inl (fun _ => (0 : Int32)))), (q28, .inl (kq1, 20, .inl (fun _ => (0 : Int32)))), (q30, .inl (kq1, 20, .inl (fun _ => (0 : Int32)))), (q32, .inl (kq1, 20, .inl (fun _ => (0 : Int32)))), (q34, .inl (kq1, 20, .inl (fun _ => (0 : Int32)))), (q36, .inl (kq1, 20, .inl (fun _ => (0 : Int32)))), (q38, .inl (kq1, 20, .inl (fun _ => (0 : Int32)))), (q40, .inl (kq1, 20, .inl (fun _ => (0 : Int32)))), (q42, .inl (kq1, 320, .inl (fun _ => (0 : Int32)))), (q44, .inl (kq1, 320, .inl (fun _ => (0 : Int32))))]) [0, 1, 2, 3, 4, 5, 6, 7, 8, 9, 10, 11, 12] (by decide) rfl
  refine lv_aload_n hx hb dX13_init_280 rfl (lv_at hl 0 rfl) ?_
  refine lv_bipush (v := 16) hx hb dX13_init_281 (by decide) ?_
  refine va_newa (atype := .int) (ty := .int) (N' := 16) (a0 := (16, .inl (fun _ => (0 : Int32)))) hx hb (hts (.arrayClass .int) (List.mem_of_getElem? (i := 4) rfl)) rfl hK hP hD hS hA (fun _ => rfl) (by decide) (by decide) (Nat.le_of_ble_eq_true rfl) (Nat.le_of_ble_eq_true rfl) (Nat.le_of_ble_eq_true rfl) dX13_init_283 (fun q66 kq66 H hK hP hD hS => ?_)
  have hK : va_K (dC, dI) vwCl [(kq1, .int), (kq13, .byte), (kq66, .int)] s := hK
  replace hP : va_P (dC, dI) vwCl [(h, .inr (14, mL g65)), (q13, .inl (kq13, 200, .inl (fun _ => (0 : Int32)))), (q23, .inl (kq1, 128, .inl (fun _ => (0 : Int32)))), (q26, .inl (kq1, 20, .inl (fun _ => (0 : Int32)))), (q28, .inl (kq1, 20, .inl (fun _ => (0 : Int32)))), (q30, .inl (kq1, 20, .inl (fun _ => (0 : Int32)))), (q32, .inl (kq1, 20, .inl (fun _ => (0 : Int32)))), (q34, .inl (kq1, 20, .inl (fun _ => (0 : Int32)))), (q36, .inl (kq1, 20, .inl (fun _ => (0 : Int32)))), (q38, .inl (kq1, 20, .inl (fun _ => (0 : Int32)))), (q40, .inl (kq1, 20, .inl (fun _ => (0 : Int32)))), (q42, .inl (kq1, 320, .inl (fun _ => (0 : Int32)))), (q44, .inl (kq1, 320, .inl (fun _ => (0 : Int32)))), (q66, .inl (kq66, 16, .inl (fun _ => (0 : Int32))))] H := hP
  replace hD : va_D A [(h, .inr (14, mL g65)), (q13, .inl (kq13, 200, .inl (fun _ => (0 : Int32)))), (q23, .inl (kq1, 128, .inl (fun _ => (0 : Int32)))), (q26, .inl (kq1, 20, .inl (fun _ => (0 : Int32)))), (q28, .inl (kq1, 20, .inl (fun _ => (0 : Int32)))), (q30, .inl (kq1, 20, .inl (fun _ => (0 : Int32)))), (q32, .inl (kq1, 20, .inl (fun _ => (0 : Int32)))), (q34, .inl (kq1, 20, .inl (fun _ => (0 : Int32)))), (q36, .inl (kq1, 20, .inl (fun _ => (0 : Int32)))), (q38, .inl (kq1, 20, .inl (fun _ => (0 : Int32)))), (q40, .inl (kq1, 20, .inl (fun _ => (0 : Int32)))), (q42, .inl (kq1, 320, .inl (fun _ => (0 : Int32)))), (q44, .inl (kq1, 320, .inl (fun _ => (0 : Int32)))), (q66, .inl (kq66, 16, .inl (fun _ => (0 : Int32))))] := hD
  refine W.widen (k := 33) (n := 7072) (by omega) (by omega) ?_
  obtain rfl : kq1 = kq66 := ub_sa_int hK 0 2 rfl rfl
  have hK := hK.sub (tys' := [(kq1, .int), (kq13, .byte)]) [0, 1] rfl
  refine va_putF (D := (dC, dI)) (ci := 14) (v := .ref q66) (ty := .array .int) (C := RX13) (T := TX13) (N := 97) hx hb hts iw_m_init_X13 tyX13 tyX13_ok nmX13 hown hK hP hD hS 0 rfl rfl 50 (by decide) (hts (.fieldLink RX13 110 "UnlikeBoatsModel" "totals" "[I") (List.mem_of_getElem? (i := 39) rfl)) (fun _ h9 => h9) rfl hin rfl (by decide +kernel) rfl rfl (mL_lt (Nat.le_of_ble_eq_true rfl)) dX13_init_285 (fun H locs hP hD hS => ?_)
  have hP : va_P (dC, dI) vwCl [(h, .inr (14, (mL g65).set 50 (.ref q66))), (q13, .inl (kq13, 200, .inl (fun _ => (0 : Int32)))), (q23, .inl (kq1, 128, .inl (fun _ => (0 : Int32)))), (q26, .inl (kq1, 20, .inl (fun _ => (0 : Int32)))), (q28, .inl (kq1, 20, .inl (fun _ => (0 : Int32)))), (q30, .inl (kq1, 20, .inl (fun _ => (0 : Int32)))), (q32, .inl (kq1, 20, .inl (fun _ => (0 : Int32)))), (q34, .inl (kq1, 20, .inl (fun _ => (0 : Int32)))), (q36, .inl (kq1, 20, .inl (fun _ => (0 : Int32)))), (q38, .inl (kq1, 20, .inl (fun _ => (0 : Int32)))), (q40, .inl (kq1, 20, .inl (fun _ => (0 : Int32)))), (q42, .inl (kq1, 320, .inl (fun _ => (0 : Int32)))), (q44, .inl (kq1, 320, .inl (fun _ => (0 : Int32)))), (q66, .inl (kq1, 16, .inl (fun _ => (0 : Int32))))] H := hP
  have hD : va_D A [(h, .inr (14, (mL g65).set 50 (.ref q66))), (q13, .inl (kq13, 200, .inl (fun _ => (0 : Int32)))), (q23, .inl (kq1, 128, .inl (fun _ => (0 : Int32)))), (q26, .inl (kq1, 20, .inl (fun _ => (0 : Int32)))), (q28, .inl (kq1, 20, .inl (fun _ => (0 : Int32)))), (q30, .inl (kq1, 20, .inl (fun _ => (0 : Int32)))), (q32, .inl (kq1, 20, .inl (fun _ => (0 : Int32)))), (q34, .inl (kq1, 20, .inl (fun _ => (0 : Int32)))), (q36, .inl (kq1, 20, .inl (fun _ => (0 : Int32)))), (q38, .inl (kq1, 20, .inl (fun _ => (0 : Int32)))), (q40, .inl (kq1, 20, .inl (fun _ => (0 : Int32)))), (q42, .inl (kq1, 320, .inl (fun _ => (0 : Int32)))), (q44, .inl (kq1, 320, .inl (fun _ => (0 : Int32)))), (q66, .inl (kq1, 16, .inl (fun _ => (0 : Int32))))] := hD
  obtain ⟨g67, eg67⟩ : ∃ z9, z9 = va_up g65 50 (.ref q66) := ⟨_, rfl⟩
  rw [mL_upd, ← eg67] at hP hD
  have hg67_0 : g67 0 = .int 0 := (congrFun eg67 0).trans ((va_up_ne _ _ (Nat.ne_of_beq_eq_false rfl)).trans hg65_0)
  have hg67_1 : g67 1 = .int 0 := (congrFun eg67 1).trans ((va_up_ne _ _ (Nat.ne_of_beq_eq_false rfl)).trans hg65_1)
  have hg67_8 : g67 8 = .int 0 := (congrFun eg67 8).trans ((va_up_ne _ _ (Nat.ne_of_beq_eq_false rfl)).trans hg65_8)
  have hg67_9 : g67 9 = .int 0 := (congrFun eg67 9).trans ((va_up_ne _ _ (Nat.ne_of_beq_eq_false rfl)).trans hg65_9)
  have hg67_16 : g67 16 = .int 0 := (congrFun eg67 16).trans ((va_up_ne _ _ (Nat.ne_of_beq_eq_false rfl)).trans hg65_16)
  have hg67_17 : g67 17 = .int 0 := (congrFun eg67 17).trans ((va_up_ne _ _ (Nat.ne_of_beq_eq_false rfl)).trans hg65_17)
  have hg67_46 : g67 46 = .int 0 := (congrFun eg67 46).trans ((va_up_ne _ _ (Nat.ne_of_beq_eq_false rfl)).trans hg65_46)
  have hg67_47 : g67 47 = .int 0 := (congrFun eg67 47).trans ((va_up_ne _ _ (Nat.ne_of_beq_eq_false rfl)).trans hg65_47)
  have hg67_48 : g67 48 = .int 0 := (congrFun eg67 48).trans ((va_up_ne _ _ (Nat.ne_of_beq_eq_false rfl)).trans hg65_48)
  have hg67_74 : g67 74 = .int 0 := (congrFun eg67 74).trans ((va_up_ne _ _ (Nat.ne_of_beq_eq_false rfl)).trans hg65_74)
  have hg67_75 : g67 75 = .int 0 := (congrFun eg67 75).trans ((va_up_ne _ _ (Nat.ne_of_beq_eq_false rfl)).trans hg65_75)
  have hg67_55 : g67 55 = .int 0 := (congrFun eg67 55).trans ((va_up_ne _ _ (Nat.ne_of_beq_eq_false rfl)).trans hg65_55)
  have hg67_10 : g67 10 = .ref q13 := (congrFun eg67 10).trans ((va_up_ne _ _ (Nat.ne_of_beq_eq_false rfl)).trans hg65_10)
  have hg67_15 : g67 15 = .ref q23 := (congrFun eg67 15).trans ((va_up_ne _ _ (Nat.ne_of_beq_eq_false rfl)).trans hg65_15)
  have hg67_27 : g67 27 = .ref q26 := (congrFun eg67 27).trans ((va_up_ne _ _ (Nat.ne_of_beq_eq_false rfl)).trans hg65_27)
  have hg67_28 : g67 28 = .ref q28 := (congrFun eg67 28).trans ((va_up_ne _ _ (Nat.ne_of_beq_eq_false rfl)).trans hg65_28)
  have hg67_29 : g67 29 = .ref q30 := (congrFun eg67 29).trans ((va_up_ne _ _ (Nat.ne_of_beq_eq_false rfl)).trans hg65_29)
  have hg67_30 : g67 30 = .ref q32 := (congrFun eg67 30).trans ((va_up_ne _ _ (Nat.ne_of_beq_eq_false rfl)).trans hg65_30)
  have hg67_31 : g67 31 = .ref q34 := (congrFun eg67 31).trans ((va_up_ne _ _ (Nat.ne_of_beq_eq_false rfl)).trans hg65_31)
  have hg67_32 : g67 32 = .ref q36 := (congrFun eg67 32).trans ((va_up_ne _ _ (Nat.ne_of_beq_eq_false rfl)).trans hg65_32)
  have hg67_33 : g67 33 = .ref q38 := (congrFun eg67 33).trans ((va_up_ne _ _ (Nat.ne_of_beq_eq_false rfl)).trans hg65_33)
  have hg67_34 : g67 34 = .ref q40 := (congrFun eg67 34).trans ((va_up_ne _ _ (Nat.ne_of_beq_eq_false rfl)).trans hg65_34)
  have hg67_35 : g67 35 = .ref q42 := (congrFun eg67 35).trans ((va_up_ne _ _ (Nat.ne_of_beq_eq_false rfl)).trans hg65_35)
  have hg67_36 : g67 36 = .ref q44 := (congrFun eg67 36).trans ((va_up_ne _ _ (Nat.ne_of_beq_eq_false rfl)).trans hg65_36)
  clear hg65_0 hg65_1 hg65_8 hg65_9 hg65_16 hg65_17 hg65_46 hg65_47 hg65_48 hg65_74 hg65_75 hg65_55 hg65_10 hg65_15 hg65_27 hg65_28 hg65_29 hg65_30 hg65_31 hg65_32 hg65_33 hg65_34 hg65_35 hg65_36
  have hg67_50 : g67 50 = .ref q66 := by rw [eg67]; exact va_up_self _ _ _
  replace hP := hP.sub (ws' := [(h, .inr (14, mL g67)), (q13, .inl (kq13, 200, .inl (fun _ => (0 : Int32)))), (q23, .inl (kq1, 128, .inl (fun _ => (0 : Int32)))), (q26, .inl (kq1, 20, .inl (fun _ => (0 : Int32)))), (q28, .inl (kq1, 20, .inl (fun _ => (0 : Int32)))), (q30, .inl (kq1, 20, .inl (fun _ => (0 : Int32)))), (q32, .inl (kq1, 20, .inl (fun _ => (0 : Int32)))), (q34, .inl (kq1, 20, .inl (fun _ => (0 : Int32)))), (q36, .inl (kq1, 20, .inl (fun _ => (0 : Int32)))), (q38, .inl (kq1, 20, .inl (fun _ => (0 : Int32)))), (q40, .inl (kq1, 20, .inl (fun _ => (0 : Int32)))), (q42, .inl (kq1, 320, .inl (fun _ => (0 : Int32)))), (q44, .inl (kq1, 320, .inl (fun _ => (0 : Int32))))]) [0, 1, 2, 3, 4, 5, 6, 7, 8, 9, 10, 11, 12] rfl
  replace hD := hD.sub (ws' := [(h, .inr (14, mL g67)), (q13, .inl (kq13, 200, .inl (fun _ => (0 : Int32)))), (q23, .inl (kq1, 128, .inl (fun _ => (0 : Int32)))), (q26, .inl (kq1, 20, .inl (fun _ => (0 : Int32)))), (q28, .inl (kq1, 20, .inl (fun _ => (0 : Int32)))), (q30, .inl (kq1, 20, .inl (fun _ => (0 : Int32)))), (q32, .inl (kq1, 20, .inl (fun _ => (0 : Int32)))), (q34, .inl (kq1, 20, .inl (fun _ => (0 : Int32)))), (q36, .inl (kq1, 20, .inl (fun _ => (0 : Int32)))), (q38, .inl (kq1, 20, .inl (fun _ => (0 : Int32)))), (q40, .inl (kq1, 20, .inl (fun _ => (0 : Int32)))), (q42, .inl (kq1, 320, .inl (fun _ => (0 : Int32)))), (q44, .inl (kq1, 320, .inl (fun _ => (0 : Int32))))]) [0, 1, 2, 3, 4, 5, 6, 7, 8, 9, 10, 11, 12] (by decide) rfl
  refine lv_aload_n hx hb dX13_init_288 rfl (lv_at hl 0 rfl) ?_
  refine lv_bipush (v := 20) hx hb dX13_init_289 (by decide) ?_
  refine va_newa (atype := .int) (ty := .int) (N' := 20) (a0 := (20, .inl (fun _ => (0 : Int32)))) hx hb (hts (.arrayClass .int) (List.mem_of_getElem? (i := 4) rfl)) rfl hK hP hD hS hA (fun _ => rfl) (by decide) (by decide) (Nat.le_of_ble_eq_true rfl) (Nat.le_of_ble_eq_true rfl) (Nat.le_of_ble_eq_true rfl) dX13_init_291 (fun q68 kq68 H hK hP hD hS => ?_)
  have hK : va_K (dC, dI) vwCl [(kq1, .int), (kq13, .byte), (kq68, .int)] s := hK
  replace hP : va_P (dC, dI) vwCl [(h, .inr (14, mL g67)), (q13, .inl (kq13, 200, .inl (fun _ => (0 : Int32)))), (q23, .inl (kq1, 128, .inl (fun _ => (0 : Int32)))), (q26, .inl (kq1, 20, .inl (fun _ => (0 : Int32)))), (q28, .inl (kq1, 20, .inl (fun _ => (0 : Int32)))), (q30, .inl (kq1, 20, .inl (fun _ => (0 : Int32)))), (q32, .inl (kq1, 20, .inl (fun _ => (0 : Int32)))), (q34, .inl (kq1, 20, .inl (fun _ => (0 : Int32)))), (q36, .inl (kq1, 20, .inl (fun _ => (0 : Int32)))), (q38, .inl (kq1, 20, .inl (fun _ => (0 : Int32)))), (q40, .inl (kq1, 20, .inl (fun _ => (0 : Int32)))), (q42, .inl (kq1, 320, .inl (fun _ => (0 : Int32)))), (q44, .inl (kq1, 320, .inl (fun _ => (0 : Int32)))), (q68, .inl (kq68, 20, .inl (fun _ => (0 : Int32))))] H := hP
  replace hD : va_D A [(h, .inr (14, mL g67)), (q13, .inl (kq13, 200, .inl (fun _ => (0 : Int32)))), (q23, .inl (kq1, 128, .inl (fun _ => (0 : Int32)))), (q26, .inl (kq1, 20, .inl (fun _ => (0 : Int32)))), (q28, .inl (kq1, 20, .inl (fun _ => (0 : Int32)))), (q30, .inl (kq1, 20, .inl (fun _ => (0 : Int32)))), (q32, .inl (kq1, 20, .inl (fun _ => (0 : Int32)))), (q34, .inl (kq1, 20, .inl (fun _ => (0 : Int32)))), (q36, .inl (kq1, 20, .inl (fun _ => (0 : Int32)))), (q38, .inl (kq1, 20, .inl (fun _ => (0 : Int32)))), (q40, .inl (kq1, 20, .inl (fun _ => (0 : Int32)))), (q42, .inl (kq1, 320, .inl (fun _ => (0 : Int32)))), (q44, .inl (kq1, 320, .inl (fun _ => (0 : Int32)))), (q68, .inl (kq68, 20, .inl (fun _ => (0 : Int32))))] := hD
  refine W.widen (k := 34) (n := 7092) (by omega) (by omega) ?_
  obtain rfl : kq1 = kq68 := ub_sa_int hK 0 2 rfl rfl
  have hK := hK.sub (tys' := [(kq1, .int), (kq13, .byte)]) [0, 1] rfl
  refine va_putF (D := (dC, dI)) (ci := 14) (v := .ref q68) (ty := .array .int) (C := RX13) (T := TX13) (N := 97) hx hb hts iw_m_init_X13 tyX13 tyX13_ok nmX13 hown hK hP hD hS 0 rfl rfl 51 (by decide) (hts (.fieldLink RX13 113 "UnlikeBoatsModel" "left" "[I") (List.mem_of_getElem? (i := 40) rfl)) (fun _ h9 => h9) rfl hin rfl (by decide +kernel) rfl rfl (mL_lt (Nat.le_of_ble_eq_true rfl)) dX13_init_293 (fun H locs hP hD hS => ?_)
  have hP : va_P (dC, dI) vwCl [(h, .inr (14, (mL g67).set 51 (.ref q68))), (q13, .inl (kq13, 200, .inl (fun _ => (0 : Int32)))), (q23, .inl (kq1, 128, .inl (fun _ => (0 : Int32)))), (q26, .inl (kq1, 20, .inl (fun _ => (0 : Int32)))), (q28, .inl (kq1, 20, .inl (fun _ => (0 : Int32)))), (q30, .inl (kq1, 20, .inl (fun _ => (0 : Int32)))), (q32, .inl (kq1, 20, .inl (fun _ => (0 : Int32)))), (q34, .inl (kq1, 20, .inl (fun _ => (0 : Int32)))), (q36, .inl (kq1, 20, .inl (fun _ => (0 : Int32)))), (q38, .inl (kq1, 20, .inl (fun _ => (0 : Int32)))), (q40, .inl (kq1, 20, .inl (fun _ => (0 : Int32)))), (q42, .inl (kq1, 320, .inl (fun _ => (0 : Int32)))), (q44, .inl (kq1, 320, .inl (fun _ => (0 : Int32)))), (q68, .inl (kq1, 20, .inl (fun _ => (0 : Int32))))] H := hP
  have hD : va_D A [(h, .inr (14, (mL g67).set 51 (.ref q68))), (q13, .inl (kq13, 200, .inl (fun _ => (0 : Int32)))), (q23, .inl (kq1, 128, .inl (fun _ => (0 : Int32)))), (q26, .inl (kq1, 20, .inl (fun _ => (0 : Int32)))), (q28, .inl (kq1, 20, .inl (fun _ => (0 : Int32)))), (q30, .inl (kq1, 20, .inl (fun _ => (0 : Int32)))), (q32, .inl (kq1, 20, .inl (fun _ => (0 : Int32)))), (q34, .inl (kq1, 20, .inl (fun _ => (0 : Int32)))), (q36, .inl (kq1, 20, .inl (fun _ => (0 : Int32)))), (q38, .inl (kq1, 20, .inl (fun _ => (0 : Int32)))), (q40, .inl (kq1, 20, .inl (fun _ => (0 : Int32)))), (q42, .inl (kq1, 320, .inl (fun _ => (0 : Int32)))), (q44, .inl (kq1, 320, .inl (fun _ => (0 : Int32)))), (q68, .inl (kq1, 20, .inl (fun _ => (0 : Int32))))] := hD
  obtain ⟨g69, eg69⟩ : ∃ z9, z9 = va_up g67 51 (.ref q68) := ⟨_, rfl⟩
  rw [mL_upd, ← eg69] at hP hD
  have hg69_0 : g69 0 = .int 0 := (congrFun eg69 0).trans ((va_up_ne _ _ (Nat.ne_of_beq_eq_false rfl)).trans hg67_0)
  have hg69_1 : g69 1 = .int 0 := (congrFun eg69 1).trans ((va_up_ne _ _ (Nat.ne_of_beq_eq_false rfl)).trans hg67_1)
  have hg69_8 : g69 8 = .int 0 := (congrFun eg69 8).trans ((va_up_ne _ _ (Nat.ne_of_beq_eq_false rfl)).trans hg67_8)
  have hg69_9 : g69 9 = .int 0 := (congrFun eg69 9).trans ((va_up_ne _ _ (Nat.ne_of_beq_eq_false rfl)).trans hg67_9)
  have hg69_16 : g69 16 = .int 0 := (congrFun eg69 16).trans ((va_up_ne _ _ (Nat.ne_of_beq_eq_false rfl)).trans hg67_16)
  have hg69_17 : g69 17 = .int 0 := (congrFun eg69 17).trans ((va_up_ne _ _ (Nat.ne_of_beq_eq_false rfl)).trans hg67_17)
  have hg69_46 : g69 46 = .int 0 := (congrFun eg69 46).trans ((va_up_ne _ _ (Nat.ne_of_beq_eq_false rfl)).trans hg67_46)
  have hg69_47 : g69 47 = .int 0 := (congrFun eg69 47).trans ((va_up_ne _ _ (Nat.ne_of_beq_eq_false rfl)).trans hg67_47)
  have hg69_48 : g69 48 = .int 0 := (congrFun eg69 48).trans ((va_up_ne _ _ (Nat.ne_of_beq_eq_false rfl)).trans hg67_48)
  have hg69_74 : g69 74 = .int 0 := (congrFun eg69 74).trans ((va_up_ne _ _ (Nat.ne_of_beq_eq_false rfl)).trans hg67_74)
  have hg69_75 : g69 75 = .int 0 := (congrFun eg69 75).trans ((va_up_ne _ _ (Nat.ne_of_beq_eq_false rfl)).trans hg67_75)
  have hg69_55 : g69 55 = .int 0 := (congrFun eg69 55).trans ((va_up_ne _ _ (Nat.ne_of_beq_eq_false rfl)).trans hg67_55)
  have hg69_10 : g69 10 = .ref q13 := (congrFun eg69 10).trans ((va_up_ne _ _ (Nat.ne_of_beq_eq_false rfl)).trans hg67_10)
  have hg69_15 : g69 15 = .ref q23 := (congrFun eg69 15).trans ((va_up_ne _ _ (Nat.ne_of_beq_eq_false rfl)).trans hg67_15)
  have hg69_27 : g69 27 = .ref q26 := (congrFun eg69 27).trans ((va_up_ne _ _ (Nat.ne_of_beq_eq_false rfl)).trans hg67_27)
  have hg69_28 : g69 28 = .ref q28 := (congrFun eg69 28).trans ((va_up_ne _ _ (Nat.ne_of_beq_eq_false rfl)).trans hg67_28)
  have hg69_29 : g69 29 = .ref q30 := (congrFun eg69 29).trans ((va_up_ne _ _ (Nat.ne_of_beq_eq_false rfl)).trans hg67_29)
  have hg69_30 : g69 30 = .ref q32 := (congrFun eg69 30).trans ((va_up_ne _ _ (Nat.ne_of_beq_eq_false rfl)).trans hg67_30)
  have hg69_31 : g69 31 = .ref q34 := (congrFun eg69 31).trans ((va_up_ne _ _ (Nat.ne_of_beq_eq_false rfl)).trans hg67_31)
  have hg69_32 : g69 32 = .ref q36 := (congrFun eg69 32).trans ((va_up_ne _ _ (Nat.ne_of_beq_eq_false rfl)).trans hg67_32)
  have hg69_33 : g69 33 = .ref q38 := (congrFun eg69 33).trans ((va_up_ne _ _ (Nat.ne_of_beq_eq_false rfl)).trans hg67_33)
  have hg69_34 : g69 34 = .ref q40 := (congrFun eg69 34).trans ((va_up_ne _ _ (Nat.ne_of_beq_eq_false rfl)).trans hg67_34)
  have hg69_35 : g69 35 = .ref q42 := (congrFun eg69 35).trans ((va_up_ne _ _ (Nat.ne_of_beq_eq_false rfl)).trans hg67_35)
  have hg69_36 : g69 36 = .ref q44 := (congrFun eg69 36).trans ((va_up_ne _ _ (Nat.ne_of_beq_eq_false rfl)).trans hg67_36)
  clear hg67_0 hg67_1 hg67_8 hg67_9 hg67_16 hg67_17 hg67_46 hg67_47 hg67_48 hg67_74 hg67_75 hg67_55 hg67_10 hg67_15 hg67_27 hg67_28 hg67_29 hg67_30 hg67_31 hg67_32 hg67_33 hg67_34 hg67_35 hg67_36
  have hg69_51 : g69 51 = .ref q68 := by rw [eg69]; exact va_up_self _ _ _
  replace hP := hP.sub (ws' := [(h, .inr (14, mL g69)), (q13, .inl (kq13, 200, .inl (fun _ => (0 : Int32)))), (q23, .inl (kq1, 128, .inl (fun _ => (0 : Int32)))), (q26, .inl (kq1, 20, .inl (fun _ => (0 : Int32)))), (q28, .inl (kq1, 20, .inl (fun _ => (0 : Int32)))), (q30, .inl (kq1, 20, .inl (fun _ => (0 : Int32)))), (q32, .inl (kq1, 20, .inl (fun _ => (0 : Int32)))), (q34, .inl (kq1, 20, .inl (fun _ => (0 : Int32)))), (q36, .inl (kq1, 20, .inl (fun _ => (0 : Int32)))), (q38, .inl (kq1, 20, .inl (fun _ => (0 : Int32)))), (q40, .inl (kq1, 20, .inl (fun _ => (0 : Int32)))), (q42, .inl (kq1, 320, .inl (fun _ => (0 : Int32)))), (q44, .inl (kq1, 320, .inl (fun _ => (0 : Int32))))]) [0, 1, 2, 3, 4, 5, 6, 7, 8, 9, 10, 11, 12] rfl
  replace hD := hD.sub (ws' := [(h, .inr (14, mL g69)), (q13, .inl (kq13, 200, .inl (fun _ => (0 : Int32)))), (q23, .inl (kq1, 128, .inl (fun _ => (0 : Int32)))), (q26, .inl (kq1, 20, .inl (fun _ => (0 : Int32)))), (q28, .inl (kq1, 20, .inl (fun _ => (0 : Int32)))), (q30, .inl (kq1, 20, .inl (fun _ => (0 : Int32)))), (q32, .inl (kq1, 20, .inl (fun _ => (0 : Int32)))), (q34, .inl (kq1, 20, .inl (fun _ => (0 : Int32)))), (q36, .inl (kq1, 20, .inl (fun _ => (0 : Int32)))), (q38, .inl (kq1, 20, .inl (fun _ => (0 : Int32)))), (q40, .inl (kq1, 20, .inl (fun _ => (0 : Int32)))), (q42, .inl (kq1, 320, .inl (fun _ => (0 : Int32)))), (q44, .inl (kq1, 320, .inl (fun _ => (0 : Int32))))]) [0, 1, 2, 3, 4, 5, 6, 7, 8, 9, 10, 11, 12] (by decide) rfl
  refine lv_aload_n hx hb dX13_init_296 rfl (lv_at hl 0 rfl) ?_
  refine lv_bipush (v := 20) hx hb dX13_init_297 (by decide) ?_
  refine va_newa (atype := .int) (ty := .int) (N' := 20) (a0 := (20, .inl (fun _ => (0 : Int32)))) hx hb (hts (.arrayClass .int) (List.mem_of_getElem? (i := 4) rfl)) rfl hK hP hD hS hA (fun _ => rfl) (by decide) (by decide) (Nat.le_of_ble_eq_true rfl) (Nat.le_of_ble_eq_true rfl) (Nat.le_of_ble_eq_true rfl) dX13_init_299 (fun q70 kq70 H hK hP hD hS => ?_)
  have hK : va_K (dC, dI) vwCl [(kq1, .int), (kq13, .byte), (kq70, .int)] s := hK
  replace hP : va_P (dC, dI) vwCl [(h, .inr (14, mL g69)), (q13, .inl (kq13, 200, .inl (fun _ => (0 : Int32)))), (q23, .inl (kq1, 128, .inl (fun _ => (0 : Int32)))), (q26, .inl (kq1, 20, .inl (fun _ => (0 : Int32)))), (q28, .inl (kq1, 20, .inl (fun _ => (0 : Int32)))), (q30, .inl (kq1, 20, .inl (fun _ => (0 : Int32)))), (q32, .inl (kq1, 20, .inl (fun _ => (0 : Int32)))), (q34, .inl (kq1, 20, .inl (fun _ => (0 : Int32)))), (q36, .inl (kq1, 20, .inl (fun _ => (0 : Int32)))), (q38, .inl (kq1, 20, .inl (fun _ => (0 : Int32)))), (q40, .inl (kq1, 20, .inl (fun _ => (0 : Int32)))), (q42, .inl (kq1, 320, .inl (fun _ => (0 : Int32)))), (q44, .inl (kq1, 320, .inl (fun _ => (0 : Int32)))), (q70, .inl (kq70, 20, .inl (fun _ => (0 : Int32))))] H := hP
  replace hD : va_D A [(h, .inr (14, mL g69)), (q13, .inl (kq13, 200, .inl (fun _ => (0 : Int32)))), (q23, .inl (kq1, 128, .inl (fun _ => (0 : Int32)))), (q26, .inl (kq1, 20, .inl (fun _ => (0 : Int32)))), (q28, .inl (kq1, 20, .inl (fun _ => (0 : Int32)))), (q30, .inl (kq1, 20, .inl (fun _ => (0 : Int32)))), (q32, .inl (kq1, 20, .inl (fun _ => (0 : Int32)))), (q34, .inl (kq1, 20, .inl (fun _ => (0 : Int32)))), (q36, .inl (kq1, 20, .inl (fun _ => (0 : Int32)))), (q38, .inl (kq1, 20, .inl (fun _ => (0 : Int32)))), (q40, .inl (kq1, 20, .inl (fun _ => (0 : Int32)))), (q42, .inl (kq1, 320, .inl (fun _ => (0 : Int32)))), (q44, .inl (kq1, 320, .inl (fun _ => (0 : Int32)))), (q70, .inl (kq70, 20, .inl (fun _ => (0 : Int32))))] := hD
  refine W.widen (k := 35) (n := 7112) (by omega) (by omega) ?_
  obtain rfl : kq1 = kq70 := ub_sa_int hK 0 2 rfl rfl
  have hK := hK.sub (tys' := [(kq1, .int), (kq13, .byte)]) [0, 1] rfl
  refine va_putF (D := (dC, dI)) (ci := 14) (v := .ref q70) (ty := .array .int) (C := RX13) (T := TX13) (N := 97) hx hb hts iw_m_init_X13 tyX13 tyX13_ok nmX13 hown hK hP hD hS 0 rfl rfl 52 (by decide) (hts (.fieldLink RX13 116 "UnlikeBoatsModel" "otherLeft" "[I") (List.mem_of_getElem? (i := 41) rfl)) (fun _ h9 => h9) rfl hin rfl (by decide +kernel) rfl rfl (mL_lt (Nat.le_of_ble_eq_true rfl)) dX13_init_301 (fun H locs hP hD hS => ?_)
  have hP : va_P (dC, dI) vwCl [(h, .inr (14, (mL g69).set 52 (.ref q70))), (q13, .inl (kq13, 200, .inl (fun _ => (0 : Int32)))), (q23, .inl (kq1, 128, .inl (fun _ => (0 : Int32)))), (q26, .inl (kq1, 20, .inl (fun _ => (0 : Int32)))), (q28, .inl (kq1, 20, .inl (fun _ => (0 : Int32)))), (q30, .inl (kq1, 20, .inl (fun _ => (0 : Int32)))), (q32, .inl (kq1, 20, .inl (fun _ => (0 : Int32)))), (q34, .inl (kq1, 20, .inl (fun _ => (0 : Int32)))), (q36, .inl (kq1, 20, .inl (fun _ => (0 : Int32)))), (q38, .inl (kq1, 20, .inl (fun _ => (0 : Int32)))), (q40, .inl (kq1, 20, .inl (fun _ => (0 : Int32)))), (q42, .inl (kq1, 320, .inl (fun _ => (0 : Int32)))), (q44, .inl (kq1, 320, .inl (fun _ => (0 : Int32)))), (q70, .inl (kq1, 20, .inl (fun _ => (0 : Int32))))] H := hP
  have hD : va_D A [(h, .inr (14, (mL g69).set 52 (.ref q70))), (q13, .inl (kq13, 200, .inl (fun _ => (0 : Int32)))), (q23, .inl (kq1, 128, .inl (fun _ => (0 : Int32)))), (q26, .inl (kq1, 20, .inl (fun _ => (0 : Int32)))), (q28, .inl (kq1, 20, .inl (fun _ => (0 : Int32)))), (q30, .inl (kq1, 20, .inl (fun _ => (0 : Int32)))), (q32, .inl (kq1, 20, .inl (fun _ => (0 : Int32)))), (q34, .inl (kq1, 20, .inl (fun _ => (0 : Int32)))), (q36, .inl (kq1, 20, .inl (fun _ => (0 : Int32)))), (q38, .inl (kq1, 20, .inl (fun _ => (0 : Int32)))), (q40, .inl (kq1, 20, .inl (fun _ => (0 : Int32)))), (q42, .inl (kq1, 320, .inl (fun _ => (0 : Int32)))), (q44, .inl (kq1, 320, .inl (fun _ => (0 : Int32)))), (q70, .inl (kq1, 20, .inl (fun _ => (0 : Int32))))] := hD
  obtain ⟨g71, eg71⟩ : ∃ z9, z9 = va_up g69 52 (.ref q70) := ⟨_, rfl⟩
  rw [mL_upd, ← eg71] at hP hD
  have hg71_0 : g71 0 = .int 0 := (congrFun eg71 0).trans ((va_up_ne _ _ (Nat.ne_of_beq_eq_false rfl)).trans hg69_0)
  have hg71_1 : g71 1 = .int 0 := (congrFun eg71 1).trans ((va_up_ne _ _ (Nat.ne_of_beq_eq_false rfl)).trans hg69_1)
  have hg71_8 : g71 8 = .int 0 := (congrFun eg71 8).trans ((va_up_ne _ _ (Nat.ne_of_beq_eq_false rfl)).trans hg69_8)
  have hg71_9 : g71 9 = .int 0 := (congrFun eg71 9).trans ((va_up_ne _ _ (Nat.ne_of_beq_eq_false rfl)).trans hg69_9)
  have hg71_16 : g71 16 = .int 0 := (congrFun eg71 16).trans ((va_up_ne _ _ (Nat.ne_of_beq_eq_false rfl)).trans hg69_16)
  have hg71_17 : g71 17 = .int 0 := (congrFun eg71 17).trans ((va_up_ne _ _ (Nat.ne_of_beq_eq_false rfl)).trans hg69_17)
  have hg71_46 : g71 46 = .int 0 := (congrFun eg71 46).trans ((va_up_ne _ _ (Nat.ne_of_beq_eq_false rfl)).trans hg69_46)
  have hg71_47 : g71 47 = .int 0 := (congrFun eg71 47).trans ((va_up_ne _ _ (Nat.ne_of_beq_eq_false rfl)).trans hg69_47)
  have hg71_48 : g71 48 = .int 0 := (congrFun eg71 48).trans ((va_up_ne _ _ (Nat.ne_of_beq_eq_false rfl)).trans hg69_48)
  have hg71_74 : g71 74 = .int 0 := (congrFun eg71 74).trans ((va_up_ne _ _ (Nat.ne_of_beq_eq_false rfl)).trans hg69_74)
  have hg71_75 : g71 75 = .int 0 := (congrFun eg71 75).trans ((va_up_ne _ _ (Nat.ne_of_beq_eq_false rfl)).trans hg69_75)
  have hg71_55 : g71 55 = .int 0 := (congrFun eg71 55).trans ((va_up_ne _ _ (Nat.ne_of_beq_eq_false rfl)).trans hg69_55)
  have hg71_10 : g71 10 = .ref q13 := (congrFun eg71 10).trans ((va_up_ne _ _ (Nat.ne_of_beq_eq_false rfl)).trans hg69_10)
  have hg71_15 : g71 15 = .ref q23 := (congrFun eg71 15).trans ((va_up_ne _ _ (Nat.ne_of_beq_eq_false rfl)).trans hg69_15)
  have hg71_27 : g71 27 = .ref q26 := (congrFun eg71 27).trans ((va_up_ne _ _ (Nat.ne_of_beq_eq_false rfl)).trans hg69_27)
  have hg71_28 : g71 28 = .ref q28 := (congrFun eg71 28).trans ((va_up_ne _ _ (Nat.ne_of_beq_eq_false rfl)).trans hg69_28)
  have hg71_29 : g71 29 = .ref q30 := (congrFun eg71 29).trans ((va_up_ne _ _ (Nat.ne_of_beq_eq_false rfl)).trans hg69_29)
  have hg71_30 : g71 30 = .ref q32 := (congrFun eg71 30).trans ((va_up_ne _ _ (Nat.ne_of_beq_eq_false rfl)).trans hg69_30)
  have hg71_31 : g71 31 = .ref q34 := (congrFun eg71 31).trans ((va_up_ne _ _ (Nat.ne_of_beq_eq_false rfl)).trans hg69_31)
  have hg71_32 : g71 32 = .ref q36 := (congrFun eg71 32).trans ((va_up_ne _ _ (Nat.ne_of_beq_eq_false rfl)).trans hg69_32)
  have hg71_33 : g71 33 = .ref q38 := (congrFun eg71 33).trans ((va_up_ne _ _ (Nat.ne_of_beq_eq_false rfl)).trans hg69_33)
  have hg71_34 : g71 34 = .ref q40 := (congrFun eg71 34).trans ((va_up_ne _ _ (Nat.ne_of_beq_eq_false rfl)).trans hg69_34)
  have hg71_35 : g71 35 = .ref q42 := (congrFun eg71 35).trans ((va_up_ne _ _ (Nat.ne_of_beq_eq_false rfl)).trans hg69_35)
  have hg71_36 : g71 36 = .ref q44 := (congrFun eg71 36).trans ((va_up_ne _ _ (Nat.ne_of_beq_eq_false rfl)).trans hg69_36)
  clear hg69_0 hg69_1 hg69_8 hg69_9 hg69_16 hg69_17 hg69_46 hg69_47 hg69_48 hg69_74 hg69_75 hg69_55 hg69_10 hg69_15 hg69_27 hg69_28 hg69_29 hg69_30 hg69_31 hg69_32 hg69_33 hg69_34 hg69_35 hg69_36
  have hg71_52 : g71 52 = .ref q70 := by rw [eg71]; exact va_up_self _ _ _
  replace hP := hP.sub (ws' := [(h, .inr (14, mL g71)), (q13, .inl (kq13, 200, .inl (fun _ => (0 : Int32)))), (q23, .inl (kq1, 128, .inl (fun _ => (0 : Int32)))), (q26, .inl (kq1, 20, .inl (fun _ => (0 : Int32)))), (q28, .inl (kq1, 20, .inl (fun _ => (0 : Int32)))), (q30, .inl (kq1, 20, .inl (fun _ => (0 : Int32)))), (q32, .inl (kq1, 20, .inl (fun _ => (0 : Int32)))), (q34, .inl (kq1, 20, .inl (fun _ => (0 : Int32)))), (q36, .inl (kq1, 20, .inl (fun _ => (0 : Int32)))), (q38, .inl (kq1, 20, .inl (fun _ => (0 : Int32)))), (q40, .inl (kq1, 20, .inl (fun _ => (0 : Int32)))), (q42, .inl (kq1, 320, .inl (fun _ => (0 : Int32)))), (q44, .inl (kq1, 320, .inl (fun _ => (0 : Int32))))]) [0, 1, 2, 3, 4, 5, 6, 7, 8, 9, 10, 11, 12] rfl
  replace hD := hD.sub (ws' := [(h, .inr (14, mL g71)), (q13, .inl (kq13, 200, .inl (fun _ => (0 : Int32)))), (q23, .inl (kq1, 128, .inl (fun _ => (0 : Int32)))), (q26, .inl (kq1, 20, .inl (fun _ => (0 : Int32)))), (q28, .inl (kq1, 20, .inl (fun _ => (0 : Int32)))), (q30, .inl (kq1, 20, .inl (fun _ => (0 : Int32)))), (q32, .inl (kq1, 20, .inl (fun _ => (0 : Int32)))), (q34, .inl (kq1, 20, .inl (fun _ => (0 : Int32)))), (q36, .inl (kq1, 20, .inl (fun _ => (0 : Int32)))), (q38, .inl (kq1, 20, .inl (fun _ => (0 : Int32)))), (q40, .inl (kq1, 20, .inl (fun _ => (0 : Int32)))), (q42, .inl (kq1, 320, .inl (fun _ => (0 : Int32)))), (q44, .inl (kq1, 320, .inl (fun _ => (0 : Int32))))]) [0, 1, 2, 3, 4, 5, 6, 7, 8, 9, 10, 11, 12] (by decide) rfl
  refine lv_aload_n hx hb dX13_init_304 rfl (lv_at hl 0 rfl) ?_
  refine lv_sipush (v := 320) hx hb dX13_init_305 (by decide) ?_
  refine va_newa (atype := .boolean) (ty := .boolean) (N' := 320) (a0 := (320, .inl (fun _ => (0 : Int32)))) hx hb (hts (.arrayClass .boolean) (List.mem_of_getElem? (i := 42) rfl)) rfl hK hP hD hS hA (fun _ => rfl) (by decide) (by decide) (Nat.le_of_ble_eq_true rfl) (Nat.le_of_ble_eq_true rfl) (Nat.le_of_ble_eq_true rfl) dX13_init_308 (fun q72 kq72 H hK hP hD hS => ?_)
  have hK : va_K (dC, dI) vwCl [(kq1, .int), (kq13, .byte), (kq72, .boolean)] s := hK
  replace hP : va_P (dC, dI) vwCl [(h, .inr (14, mL g71)), (q13, .inl (kq13, 200, .inl (fun _ => (0 : Int32)))), (q23, .inl (kq1, 128, .inl (fun _ => (0 : Int32)))), (q26, .inl (kq1, 20, .inl (fun _ => (0 : Int32)))), (q28, .inl (kq1, 20, .inl (fun _ => (0 : Int32)))), (q30, .inl (kq1, 20, .inl (fun _ => (0 : Int32)))), (q32, .inl (kq1, 20, .inl (fun _ => (0 : Int32)))), (q34, .inl (kq1, 20, .inl (fun _ => (0 : Int32)))), (q36, .inl (kq1, 20, .inl (fun _ => (0 : Int32)))), (q38, .inl (kq1, 20, .inl (fun _ => (0 : Int32)))), (q40, .inl (kq1, 20, .inl (fun _ => (0 : Int32)))), (q42, .inl (kq1, 320, .inl (fun _ => (0 : Int32)))), (q44, .inl (kq1, 320, .inl (fun _ => (0 : Int32)))), (q72, .inl (kq72, 320, .inl (fun _ => (0 : Int32))))] H := hP
  replace hD : va_D A [(h, .inr (14, mL g71)), (q13, .inl (kq13, 200, .inl (fun _ => (0 : Int32)))), (q23, .inl (kq1, 128, .inl (fun _ => (0 : Int32)))), (q26, .inl (kq1, 20, .inl (fun _ => (0 : Int32)))), (q28, .inl (kq1, 20, .inl (fun _ => (0 : Int32)))), (q30, .inl (kq1, 20, .inl (fun _ => (0 : Int32)))), (q32, .inl (kq1, 20, .inl (fun _ => (0 : Int32)))), (q34, .inl (kq1, 20, .inl (fun _ => (0 : Int32)))), (q36, .inl (kq1, 20, .inl (fun _ => (0 : Int32)))), (q38, .inl (kq1, 20, .inl (fun _ => (0 : Int32)))), (q40, .inl (kq1, 20, .inl (fun _ => (0 : Int32)))), (q42, .inl (kq1, 320, .inl (fun _ => (0 : Int32)))), (q44, .inl (kq1, 320, .inl (fun _ => (0 : Int32)))), (q72, .inl (kq72, 320, .inl (fun _ => (0 : Int32))))] := hD
  refine W.widen (k := 36) (n := 7432) (by omega) (by omega) ?_
  refine va_putF (D := (dC, dI)) (ci := 14) (v := .ref q72) (ty := .array .boolean) (C := RX13) (T := TX13) (N := 97) hx hb hts iw_m_init_X13 tyX13 tyX13_ok nmX13 hown hK hP hD hS 0 rfl rfl 53 (by decide) (hts (.fieldLink RX13 119 "UnlikeBoatsModel" "isThrown" "[Z") (List.mem_of_getElem? (i := 43) rfl)) (fun _ h9 => h9) rfl hin rfl (by decide +kernel) rfl rfl (mL_lt (Nat.le_of_ble_eq_true rfl)) dX13_init_310 (fun H locs hP hD hS => ?_)
  have hP : va_P (dC, dI) vwCl [(h, .inr (14, (mL g71).set 53 (.ref q72))), (q13, .inl (kq13, 200, .inl (fun _ => (0 : Int32)))), (q23, .inl (kq1, 128, .inl (fun _ => (0 : Int32)))), (q26, .inl (kq1, 20, .inl (fun _ => (0 : Int32)))), (q28, .inl (kq1, 20, .inl (fun _ => (0 : Int32)))), (q30, .inl (kq1, 20, .inl (fun _ => (0 : Int32)))), (q32, .inl (kq1, 20, .inl (fun _ => (0 : Int32)))), (q34, .inl (kq1, 20, .inl (fun _ => (0 : Int32)))), (q36, .inl (kq1, 20, .inl (fun _ => (0 : Int32)))), (q38, .inl (kq1, 20, .inl (fun _ => (0 : Int32)))), (q40, .inl (kq1, 20, .inl (fun _ => (0 : Int32)))), (q42, .inl (kq1, 320, .inl (fun _ => (0 : Int32)))), (q44, .inl (kq1, 320, .inl (fun _ => (0 : Int32)))), (q72, .inl (kq72, 320, .inl (fun _ => (0 : Int32))))] H := hP
  have hD : va_D A [(h, .inr (14, (mL g71).set 53 (.ref q72))), (q13, .inl (kq13, 200, .inl (fun _ => (0 : Int32)))), (q23, .inl (kq1, 128, .inl (fun _ => (0 : Int32)))), (q26, .inl (kq1, 20, .inl (fun _ => (0 : Int32)))), (q28, .inl (kq1, 20, .inl (fun _ => (0 : Int32)))), (q30, .inl (kq1, 20, .inl (fun _ => (0 : Int32)))), (q32, .inl (kq1, 20, .inl (fun _ => (0 : Int32)))), (q34, .inl (kq1, 20, .inl (fun _ => (0 : Int32)))), (q36, .inl (kq1, 20, .inl (fun _ => (0 : Int32)))), (q38, .inl (kq1, 20, .inl (fun _ => (0 : Int32)))), (q40, .inl (kq1, 20, .inl (fun _ => (0 : Int32)))), (q42, .inl (kq1, 320, .inl (fun _ => (0 : Int32)))), (q44, .inl (kq1, 320, .inl (fun _ => (0 : Int32)))), (q72, .inl (kq72, 320, .inl (fun _ => (0 : Int32))))] := hD
  obtain ⟨g73, eg73⟩ : ∃ z9, z9 = va_up g71 53 (.ref q72) := ⟨_, rfl⟩
  rw [mL_upd, ← eg73] at hP hD
  have hg73_0 : g73 0 = .int 0 := (congrFun eg73 0).trans ((va_up_ne _ _ (Nat.ne_of_beq_eq_false rfl)).trans hg71_0)
  have hg73_1 : g73 1 = .int 0 := (congrFun eg73 1).trans ((va_up_ne _ _ (Nat.ne_of_beq_eq_false rfl)).trans hg71_1)
  have hg73_8 : g73 8 = .int 0 := (congrFun eg73 8).trans ((va_up_ne _ _ (Nat.ne_of_beq_eq_false rfl)).trans hg71_8)
  have hg73_9 : g73 9 = .int 0 := (congrFun eg73 9).trans ((va_up_ne _ _ (Nat.ne_of_beq_eq_false rfl)).trans hg71_9)
  have hg73_16 : g73 16 = .int 0 := (congrFun eg73 16).trans ((va_up_ne _ _ (Nat.ne_of_beq_eq_false rfl)).trans hg71_16)
  have hg73_17 : g73 17 = .int 0 := (congrFun eg73 17).trans ((va_up_ne _ _ (Nat.ne_of_beq_eq_false rfl)).trans hg71_17)
  have hg73_46 : g73 46 = .int 0 := (congrFun eg73 46).trans ((va_up_ne _ _ (Nat.ne_of_beq_eq_false rfl)).trans hg71_46)
  have hg73_47 : g73 47 = .int 0 := (congrFun eg73 47).trans ((va_up_ne _ _ (Nat.ne_of_beq_eq_false rfl)).trans hg71_47)
  have hg73_48 : g73 48 = .int 0 := (congrFun eg73 48).trans ((va_up_ne _ _ (Nat.ne_of_beq_eq_false rfl)).trans hg71_48)
  have hg73_74 : g73 74 = .int 0 := (congrFun eg73 74).trans ((va_up_ne _ _ (Nat.ne_of_beq_eq_false rfl)).trans hg71_74)
  have hg73_75 : g73 75 = .int 0 := (congrFun eg73 75).trans ((va_up_ne _ _ (Nat.ne_of_beq_eq_false rfl)).trans hg71_75)
  have hg73_55 : g73 55 = .int 0 := (congrFun eg73 55).trans ((va_up_ne _ _ (Nat.ne_of_beq_eq_false rfl)).trans hg71_55)
  have hg73_10 : g73 10 = .ref q13 := (congrFun eg73 10).trans ((va_up_ne _ _ (Nat.ne_of_beq_eq_false rfl)).trans hg71_10)
  have hg73_15 : g73 15 = .ref q23 := (congrFun eg73 15).trans ((va_up_ne _ _ (Nat.ne_of_beq_eq_false rfl)).trans hg71_15)
  have hg73_27 : g73 27 = .ref q26 := (congrFun eg73 27).trans ((va_up_ne _ _ (Nat.ne_of_beq_eq_false rfl)).trans hg71_27)
  have hg73_28 : g73 28 = .ref q28 := (congrFun eg73 28).trans ((va_up_ne _ _ (Nat.ne_of_beq_eq_false rfl)).trans hg71_28)
  have hg73_29 : g73 29 = .ref q30 := (congrFun eg73 29).trans ((va_up_ne _ _ (Nat.ne_of_beq_eq_false rfl)).trans hg71_29)
  have hg73_30 : g73 30 = .ref q32 := (congrFun eg73 30).trans ((va_up_ne _ _ (Nat.ne_of_beq_eq_false rfl)).trans hg71_30)
  have hg73_31 : g73 31 = .ref q34 := (congrFun eg73 31).trans ((va_up_ne _ _ (Nat.ne_of_beq_eq_false rfl)).trans hg71_31)
  have hg73_32 : g73 32 = .ref q36 := (congrFun eg73 32).trans ((va_up_ne _ _ (Nat.ne_of_beq_eq_false rfl)).trans hg71_32)
  have hg73_33 : g73 33 = .ref q38 := (congrFun eg73 33).trans ((va_up_ne _ _ (Nat.ne_of_beq_eq_false rfl)).trans hg71_33)
  have hg73_34 : g73 34 = .ref q40 := (congrFun eg73 34).trans ((va_up_ne _ _ (Nat.ne_of_beq_eq_false rfl)).trans hg71_34)
  have hg73_35 : g73 35 = .ref q42 := (congrFun eg73 35).trans ((va_up_ne _ _ (Nat.ne_of_beq_eq_false rfl)).trans hg71_35)
  have hg73_36 : g73 36 = .ref q44 := (congrFun eg73 36).trans ((va_up_ne _ _ (Nat.ne_of_beq_eq_false rfl)).trans hg71_36)
  clear hg71_0 hg71_1 hg71_8 hg71_9 hg71_16 hg71_17 hg71_46 hg71_47 hg71_48 hg71_74 hg71_75 hg71_55 hg71_10 hg71_15 hg71_27 hg71_28 hg71_29 hg71_30 hg71_31 hg71_32 hg71_33 hg71_34 hg71_35 hg71_36
  have hg73_53 : g73 53 = .ref q72 := by rw [eg73]; exact va_up_self _ _ _
  replace hP := hP.sub (ws' := [(h, .inr (14, mL g73)), (q13, .inl (kq13, 200, .inl (fun _ => (0 : Int32)))), (q23, .inl (kq1, 128, .inl (fun _ => (0 : Int32)))), (q26, .inl (kq1, 20, .inl (fun _ => (0 : Int32)))), (q28, .inl (kq1, 20, .inl (fun _ => (0 : Int32)))), (q30, .inl (kq1, 20, .inl (fun _ => (0 : Int32)))), (q32, .inl (kq1, 20, .inl (fun _ => (0 : Int32)))), (q34, .inl (kq1, 20, .inl (fun _ => (0 : Int32)))), (q36, .inl (kq1, 20, .inl (fun _ => (0 : Int32)))), (q38, .inl (kq1, 20, .inl (fun _ => (0 : Int32)))), (q40, .inl (kq1, 20, .inl (fun _ => (0 : Int32)))), (q42, .inl (kq1, 320, .inl (fun _ => (0 : Int32)))), (q44, .inl (kq1, 320, .inl (fun _ => (0 : Int32))))]) [0, 1, 2, 3, 4, 5, 6, 7, 8, 9, 10, 11, 12] rfl
  replace hD := hD.sub (ws' := [(h, .inr (14, mL g73)), (q13, .inl (kq13, 200, .inl (fun _ => (0 : Int32)))), (q23, .inl (kq1, 128, .inl (fun _ => (0 : Int32)))), (q26, .inl (kq1, 20, .inl (fun _ => (0 : Int32)))), (q28, .inl (kq1, 20, .inl (fun _ => (0 : Int32)))), (q30, .inl (kq1, 20, .inl (fun _ => (0 : Int32)))), (q32, .inl (kq1, 20, .inl (fun _ => (0 : Int32)))), (q34, .inl (kq1, 20, .inl (fun _ => (0 : Int32)))), (q36, .inl (kq1, 20, .inl (fun _ => (0 : Int32)))), (q38, .inl (kq1, 20, .inl (fun _ => (0 : Int32)))), (q40, .inl (kq1, 20, .inl (fun _ => (0 : Int32)))), (q42, .inl (kq1, 320, .inl (fun _ => (0 : Int32)))), (q44, .inl (kq1, 320, .inl (fun _ => (0 : Int32))))]) [0, 1, 2, 3, 4, 5, 6, 7, 8, 9, 10, 11, 12] (by decide) rfl
  refine lv_aload_n hx hb dX13_init_313 rfl (lv_at hl 0 rfl) ?_
  refine lv_bipush (v := 16) hx hb dX13_init_314 (by decide) ?_
  refine va_newa (atype := .boolean) (ty := .boolean) (N' := 16) (a0 := (16, .inl (fun _ => (0 : Int32)))) hx hb (hts (.arrayClass .boolean) (List.mem_of_getElem? (i := 42) rfl)) rfl hK hP hD hS hA (fun _ => rfl) (by decide) (by decide) (Nat.le_of_ble_eq_true rfl) (Nat.le_of_ble_eq_true rfl) (Nat.le_of_ble_eq_true rfl) dX13_init_316 (fun q74 kq74 H hK hP hD hS => ?_)
  have hK : va_K (dC, dI) vwCl [(kq1, .int), (kq13, .byte), (kq72, .boolean), (kq74, .boolean)] s := hK
  replace hP : va_P (dC, dI) vwCl [(h, .inr (14, mL g73)), (q13, .inl (kq13, 200, .inl (fun _ => (0 : Int32)))), (q23, .inl (kq1, 128, .inl (fun _ => (0 : Int32)))), (q26, .inl (kq1, 20, .inl (fun _ => (0 : Int32)))), (q28, .inl (kq1, 20, .inl (fun _ => (0 : Int32)))), (q30, .inl (kq1, 20, .inl (fun _ => (0 : Int32)))), (q32, .inl (kq1, 20, .inl (fun _ => (0 : Int32)))), (q34, .inl (kq1, 20, .inl (fun _ => (0 : Int32)))), (q36, .inl (kq1, 20, .inl (fun _ => (0 : Int32)))), (q38, .inl (kq1, 20, .inl (fun _ => (0 : Int32)))), (q40, .inl (kq1, 20, .inl (fun _ => (0 : Int32)))), (q42, .inl (kq1, 320, .inl (fun _ => (0 : Int32)))), (q44, .inl (kq1, 320, .inl (fun _ => (0 : Int32)))), (q74, .inl (kq74, 16, .inl (fun _ => (0 : Int32))))] H := hP
  replace hD : va_D A [(h, .inr (14, mL g73)), (q13, .inl (kq13, 200, .inl (fun _ => (0 : Int32)))), (q23, .inl (kq1, 128, .inl (fun _ => (0 : Int32)))), (q26, .inl (kq1, 20, .inl (fun _ => (0 : Int32)))), (q28, .inl (kq1, 20, .inl (fun _ => (0 : Int32)))), (q30, .inl (kq1, 20, .inl (fun _ => (0 : Int32)))), (q32, .inl (kq1, 20, .inl (fun _ => (0 : Int32)))), (q34, .inl (kq1, 20, .inl (fun _ => (0 : Int32)))), (q36, .inl (kq1, 20, .inl (fun _ => (0 : Int32)))), (q38, .inl (kq1, 20, .inl (fun _ => (0 : Int32)))), (q40, .inl (kq1, 20, .inl (fun _ => (0 : Int32)))), (q42, .inl (kq1, 320, .inl (fun _ => (0 : Int32)))), (q44, .inl (kq1, 320, .inl (fun _ => (0 : Int32)))), (q74, .inl (kq74, 16, .inl (fun _ => (0 : Int32))))] := hD
  refine W.widen (k := 37) (n := 7448) (by omega) (by omega) ?_
  obtain rfl : kq72 = kq74 := ub_sa_boolean hK 2 3 rfl rfl
  have hK := hK.sub (tys' := [(kq1, .int), (kq13, .byte), (kq72, .boolean)]) [0, 1, 2] rfl
  refine va_putF (D := (dC, dI)) (ci := 14) (v := .ref q74) (ty := .array .boolean) (C := RX13) (T := TX13) (N := 97) hx hb hts iw_m_init_X13 tyX13 tyX13_ok nmX13 hown hK hP hD hS 0 rfl rfl 54 (by decide) (hts (.fieldLink RX13 123 "UnlikeBoatsModel" "isScored" "[Z") (List.mem_of_getElem? (i := 44) rfl)) (fun _ h9 => h9) rfl hin rfl (by decide +kernel) rfl rfl (mL_lt (Nat.le_of_ble_eq_true rfl)) dX13_init_318 (fun H locs hP hD hS => ?_)
  have hP : va_P (dC, dI) vwCl [(h, .inr (14, (mL g73).set 54 (.ref q74))), (q13, .inl (kq13, 200, .inl (fun _ => (0 : Int32)))), (q23, .inl (kq1, 128, .inl (fun _ => (0 : Int32)))), (q26, .inl (kq1, 20, .inl (fun _ => (0 : Int32)))), (q28, .inl (kq1, 20, .inl (fun _ => (0 : Int32)))), (q30, .inl (kq1, 20, .inl (fun _ => (0 : Int32)))), (q32, .inl (kq1, 20, .inl (fun _ => (0 : Int32)))), (q34, .inl (kq1, 20, .inl (fun _ => (0 : Int32)))), (q36, .inl (kq1, 20, .inl (fun _ => (0 : Int32)))), (q38, .inl (kq1, 20, .inl (fun _ => (0 : Int32)))), (q40, .inl (kq1, 20, .inl (fun _ => (0 : Int32)))), (q42, .inl (kq1, 320, .inl (fun _ => (0 : Int32)))), (q44, .inl (kq1, 320, .inl (fun _ => (0 : Int32)))), (q74, .inl (kq72, 16, .inl (fun _ => (0 : Int32))))] H := hP
  have hD : va_D A [(h, .inr (14, (mL g73).set 54 (.ref q74))), (q13, .inl (kq13, 200, .inl (fun _ => (0 : Int32)))), (q23, .inl (kq1, 128, .inl (fun _ => (0 : Int32)))), (q26, .inl (kq1, 20, .inl (fun _ => (0 : Int32)))), (q28, .inl (kq1, 20, .inl (fun _ => (0 : Int32)))), (q30, .inl (kq1, 20, .inl (fun _ => (0 : Int32)))), (q32, .inl (kq1, 20, .inl (fun _ => (0 : Int32)))), (q34, .inl (kq1, 20, .inl (fun _ => (0 : Int32)))), (q36, .inl (kq1, 20, .inl (fun _ => (0 : Int32)))), (q38, .inl (kq1, 20, .inl (fun _ => (0 : Int32)))), (q40, .inl (kq1, 20, .inl (fun _ => (0 : Int32)))), (q42, .inl (kq1, 320, .inl (fun _ => (0 : Int32)))), (q44, .inl (kq1, 320, .inl (fun _ => (0 : Int32)))), (q74, .inl (kq72, 16, .inl (fun _ => (0 : Int32))))] := hD
  obtain ⟨g75, eg75⟩ : ∃ z9, z9 = va_up g73 54 (.ref q74) := ⟨_, rfl⟩
  rw [mL_upd, ← eg75] at hP hD
  have hg75_0 : g75 0 = .int 0 := (congrFun eg75 0).trans ((va_up_ne _ _ (Nat.ne_of_beq_eq_false rfl)).trans hg73_0)
  have hg75_1 : g75 1 = .int 0 := (congrFun eg75 1).trans ((va_up_ne _ _ (Nat.ne_of_beq_eq_false rfl)).trans hg73_1)
  have hg75_8 : g75 8 = .int 0 := (congrFun eg75 8).trans ((va_up_ne _ _ (Nat.ne_of_beq_eq_false rfl)).trans hg73_8)
  have hg75_9 : g75 9 = .int 0 := (congrFun eg75 9).trans ((va_up_ne _ _ (Nat.ne_of_beq_eq_false rfl)).trans hg73_9)
  have hg75_16 : g75 16 = .int 0 := (congrFun eg75 16).trans ((va_up_ne _ _ (Nat.ne_of_beq_eq_false rfl)).trans hg73_16)
  have hg75_17 : g75 17 = .int 0 := (congrFun eg75 17).trans ((va_up_ne _ _ (Nat.ne_of_beq_eq_false rfl)).trans hg73_17)
  have hg75_46 : g75 46 = .int 0 := (congrFun eg75 46).trans ((va_up_ne _ _ (Nat.ne_of_beq_eq_false rfl)).trans hg73_46)
  have hg75_47 : g75 47 = .int 0 := (congrFun eg75 47).trans ((va_up_ne _ _ (Nat.ne_of_beq_eq_false rfl)).trans hg73_47)
  have hg75_48 : g75 48 = .int 0 := (congrFun eg75 48).trans ((va_up_ne _ _ (Nat.ne_of_beq_eq_false rfl)).trans hg73_48)
  have hg75_74 : g75 74 = .int 0 := (congrFun eg75 74).trans ((va_up_ne _ _ (Nat.ne_of_beq_eq_false rfl)).trans hg73_74)
  have hg75_75 : g75 75 = .int 0 := (congrFun eg75 75).trans ((va_up_ne _ _ (Nat.ne_of_beq_eq_false rfl)).trans hg73_75)
  have hg75_55 : g75 55 = .int 0 := (congrFun eg75 55).trans ((va_up_ne _ _ (Nat.ne_of_beq_eq_false rfl)).trans hg73_55)
  have hg75_10 : g75 10 = .ref q13 := (congrFun eg75 10).trans ((va_up_ne _ _ (Nat.ne_of_beq_eq_false rfl)).trans hg73_10)
  have hg75_15 : g75 15 = .ref q23 := (congrFun eg75 15).trans ((va_up_ne _ _ (Nat.ne_of_beq_eq_false rfl)).trans hg73_15)
  have hg75_27 : g75 27 = .ref q26 := (congrFun eg75 27).trans ((va_up_ne _ _ (Nat.ne_of_beq_eq_false rfl)).trans hg73_27)
  have hg75_28 : g75 28 = .ref q28 := (congrFun eg75 28).trans ((va_up_ne _ _ (Nat.ne_of_beq_eq_false rfl)).trans hg73_28)
  have hg75_29 : g75 29 = .ref q30 := (congrFun eg75 29).trans ((va_up_ne _ _ (Nat.ne_of_beq_eq_false rfl)).trans hg73_29)
  have hg75_30 : g75 30 = .ref q32 := (congrFun eg75 30).trans ((va_up_ne _ _ (Nat.ne_of_beq_eq_false rfl)).trans hg73_30)
  have hg75_31 : g75 31 = .ref q34 := (congrFun eg75 31).trans ((va_up_ne _ _ (Nat.ne_of_beq_eq_false rfl)).trans hg73_31)
  have hg75_32 : g75 32 = .ref q36 := (congrFun eg75 32).trans ((va_up_ne _ _ (Nat.ne_of_beq_eq_false rfl)).trans hg73_32)
  have hg75_33 : g75 33 = .ref q38 := (congrFun eg75 33).trans ((va_up_ne _ _ (Nat.ne_of_beq_eq_false rfl)).trans hg73_33)
  have hg75_34 : g75 34 = .ref q40 := (congrFun eg75 34).trans ((va_up_ne _ _ (Nat.ne_of_beq_eq_false rfl)).trans hg73_34)
  have hg75_35 : g75 35 = .ref q42 := (congrFun eg75 35).trans ((va_up_ne _ _ (Nat.ne_of_beq_eq_false rfl)).trans hg73_35)
  have hg75_36 : g75 36 = .ref q44 := (congrFun eg75 36).trans ((va_up_ne _ _ (Nat.ne_of_beq_eq_false rfl)).trans hg73_36)
  clear hg73_0 hg73_1 hg73_8 hg73_9 hg73_16 hg73_17 hg73_46 hg73_47 hg73_48 hg73_74 hg73_75 hg73_55 hg73_10 hg73_15 hg73_27 hg73_28 hg73_29 hg73_30 hg73_31 hg73_32 hg73_33 hg73_34 hg73_35 hg73_36
  have hg75_54 : g75 54 = .ref q74 := by rw [eg75]; exact va_up_self _ _ _
  replace hP := hP.sub (ws' := [(h, .inr (14, mL g75)), (q13, .inl (kq13, 200, .inl (fun _ => (0 : Int32)))), (q23, .inl (kq1, 128, .inl (fun _ => (0 : Int32)))), (q26, .inl (kq1, 20, .inl (fun _ => (0 : Int32)))), (q28, .inl (kq1, 20, .inl (fun _ => (0 : Int32)))), (q30, .inl (kq1, 20, .inl (fun _ => (0 : Int32)))), (q32, .inl (kq1, 20, .inl (fun _ => (0 : Int32)))), (q34, .inl (kq1, 20, .inl (fun _ => (0 : Int32)))), (q36, .inl (kq1, 20, .inl (fun _ => (0 : Int32)))), (q38, .inl (kq1, 20, .inl (fun _ => (0 : Int32)))), (q40, .inl (kq1, 20, .inl (fun _ => (0 : Int32)))), (q42, .inl (kq1, 320, .inl (fun _ => (0 : Int32)))), (q44, .inl (kq1, 320, .inl (fun _ => (0 : Int32))))]) [0, 1, 2, 3, 4, 5, 6, 7, 8, 9, 10, 11, 12] rfl
  replace hD := hD.sub (ws' := [(h, .inr (14, mL g75)), (q13, .inl (kq13, 200, .inl (fun _ => (0 : Int32)))), (q23, .inl (kq1, 128, .inl (fun _ => (0 : Int32)))), (q26, .inl (kq1, 20, .inl (fun _ => (0 : Int32)))), (q28, .inl (kq1, 20, .inl (fun _ => (0 : Int32)))), (q30, .inl (kq1, 20, .inl (fun _ => (0 : Int32)))), (q32, .inl (kq1, 20, .inl (fun _ => (0 : Int32)))), (q34, .inl (kq1, 20, .inl (fun _ => (0 : Int32)))), (q36, .inl (kq1, 20, .inl (fun _ => (0 : Int32)))), (q38, .inl (kq1, 20, .inl (fun _ => (0 : Int32)))), (q40, .inl (kq1, 20, .inl (fun _ => (0 : Int32)))), (q42, .inl (kq1, 320, .inl (fun _ => (0 : Int32)))), (q44, .inl (kq1, 320, .inl (fun _ => (0 : Int32))))]) [0, 1, 2, 3, 4, 5, 6, 7, 8, 9, 10, 11, 12] (by decide) rfl
  refine lv_aload_n hx hb dX13_init_321 rfl (lv_at hl 0 rfl) ?_
  refine lv_sipush (v := 200) hx hb dX13_init_322 (by decide) ?_
  refine va_newa (atype := .int) (ty := .int) (N' := 200) (a0 := (200, .inl (fun _ => (0 : Int32)))) hx hb (hts (.arrayClass .int) (List.mem_of_getElem? (i := 4) rfl)) rfl hK hP hD hS hA (fun _ => rfl) (by decide) (by decide) (Nat.le_of_ble_eq_true rfl) (Nat.le_of_ble_eq_true rfl) (Nat.le_of_ble_eq_true rfl) dX13_init_325 (fun q76 kq76 H hK hP hD hS => ?_)
  have hK : va_K (dC, dI) vwCl [(kq1, .int), (kq13, .byte), (kq72, .boolean), (kq76, .int)] s := hK
  replace hP : va_P (dC, dI) vwCl [(h, .inr (14, mL g75)), (q13, .inl (kq13, 200, .inl (fun _ => (0 : Int32)))), (q23, .inl (kq1, 128, .inl (fun _ => (0 : Int32)))), (q26, .inl (kq1, 20, .inl (fun _ => (0 : Int32)))), (q28, .inl (kq1, 20, .inl (fun _ => (0 : Int32)))), (q30, .inl (kq1, 20, .inl (fun _ => (0 : Int32)))), (q32, .inl (kq1, 20, .inl (fun _ => (0 : Int32)))), (q34, .inl (kq1, 20, .inl (fun _ => (0 : Int32)))), (q36, .inl (kq1, 20, .inl (fun _ => (0 : Int32)))), (q38, .inl (kq1, 20, .inl (fun _ => (0 : Int32)))), (q40, .inl (kq1, 20, .inl (fun _ => (0 : Int32)))), (q42, .inl (kq1, 320, .inl (fun _ => (0 : Int32)))), (q44, .inl (kq1, 320, .inl (fun _ => (0 : Int32)))), (q76, .inl (kq76, 200, .inl (fun _ => (0 : Int32))))] H := hP
  replace hD : va_D A [(h, .inr (14, mL g75)), (q13, .inl (kq13, 200, .inl (fun _ => (0 : Int32)))), (q23, .inl (kq1, 128, .inl (fun _ => (0 : Int32)))), (q26, .inl (kq1, 20, .inl (fun _ => (0 : Int32)))), (q28, .inl (kq1, 20, .inl (fun _ => (0 : Int32)))), (q30, .inl (kq1, 20, .inl (fun _ => (0 : Int32)))), (q32, .inl (kq1, 20, .inl (fun _ => (0 : Int32)))), (q34, .inl (kq1, 20, .inl (fun _ => (0 : Int32)))), (q36, .inl (kq1, 20, .inl (fun _ => (0 : Int32)))), (q38, .inl (kq1, 20, .inl (fun _ => (0 : Int32)))), (q40, .inl (kq1, 20, .inl (fun _ => (0 : Int32)))), (q42, .inl (kq1, 320, .inl (fun _ => (0 : Int32)))), (q44, .inl (kq1, 320, .inl (fun _ => (0 : Int32)))), (q76, .inl (kq76, 200, .inl (fun _ => (0 : Int32))))] := hD
  refine W.widen (k := 38) (n := 7648) (by omega) (by omega) ?_
  obtain rfl : kq1 = kq76 := ub_sa_int hK 0 3 rfl rfl
  have hK := hK.sub (tys' := [(kq1, .int), (kq13, .byte), (kq72, .boolean)]) [0, 1, 2] rfl
  refine va_putF (D := (dC, dI)) (ci := 14) (v := .ref q76) (ty := .array .int) (C := RX13) (T := TX13) (N := 97) hx hb hts iw_m_init_X13 tyX13 tyX13_ok nmX13 hown hK hP hD hS 0 rfl rfl 56 (by decide) (hts (.fieldLink RX13 126 "UnlikeBoatsModel" "wordRace" "[I") (List.mem_of_getElem? (i := 45) rfl)) (fun _ h9 => h9) rfl hin rfl (by decide +kernel) rfl rfl (mL_lt (Nat.le_of_ble_eq_true rfl)) dX13_init_327 (fun H locs hP hD hS => ?_)
  have hP : va_P (dC, dI) vwCl [(h, .inr (14, (mL g75).set 56 (.ref q76))), (q13, .inl (kq13, 200, .inl (fun _ => (0 : Int32)))), (q23, .inl (kq1, 128, .inl (fun _ => (0 : Int32)))), (q26, .inl (kq1, 20, .inl (fun _ => (0 : Int32)))), (q28, .inl (kq1, 20, .inl (fun _ => (0 : Int32)))), (q30, .inl (kq1, 20, .inl (fun _ => (0 : Int32)))), (q32, .inl (kq1, 20, .inl (fun _ => (0 : Int32)))), (q34, .inl (kq1, 20, .inl (fun _ => (0 : Int32)))), (q36, .inl (kq1, 20, .inl (fun _ => (0 : Int32)))), (q38, .inl (kq1, 20, .inl (fun _ => (0 : Int32)))), (q40, .inl (kq1, 20, .inl (fun _ => (0 : Int32)))), (q42, .inl (kq1, 320, .inl (fun _ => (0 : Int32)))), (q44, .inl (kq1, 320, .inl (fun _ => (0 : Int32)))), (q76, .inl (kq1, 200, .inl (fun _ => (0 : Int32))))] H := hP
  have hD : va_D A [(h, .inr (14, (mL g75).set 56 (.ref q76))), (q13, .inl (kq13, 200, .inl (fun _ => (0 : Int32)))), (q23, .inl (kq1, 128, .inl (fun _ => (0 : Int32)))), (q26, .inl (kq1, 20, .inl (fun _ => (0 : Int32)))), (q28, .inl (kq1, 20, .inl (fun _ => (0 : Int32)))), (q30, .inl (kq1, 20, .inl (fun _ => (0 : Int32)))), (q32, .inl (kq1, 20, .inl (fun _ => (0 : Int32)))), (q34, .inl (kq1, 20, .inl (fun _ => (0 : Int32)))), (q36, .inl (kq1, 20, .inl (fun _ => (0 : Int32)))), (q38, .inl (kq1, 20, .inl (fun _ => (0 : Int32)))), (q40, .inl (kq1, 20, .inl (fun _ => (0 : Int32)))), (q42, .inl (kq1, 320, .inl (fun _ => (0 : Int32)))), (q44, .inl (kq1, 320, .inl (fun _ => (0 : Int32)))), (q76, .inl (kq1, 200, .inl (fun _ => (0 : Int32))))] := hD
  obtain ⟨g77, eg77⟩ : ∃ z9, z9 = va_up g75 56 (.ref q76) := ⟨_, rfl⟩
  rw [mL_upd, ← eg77] at hP hD
  have hg77_0 : g77 0 = .int 0 := (congrFun eg77 0).trans ((va_up_ne _ _ (Nat.ne_of_beq_eq_false rfl)).trans hg75_0)
  have hg77_1 : g77 1 = .int 0 := (congrFun eg77 1).trans ((va_up_ne _ _ (Nat.ne_of_beq_eq_false rfl)).trans hg75_1)
  have hg77_8 : g77 8 = .int 0 := (congrFun eg77 8).trans ((va_up_ne _ _ (Nat.ne_of_beq_eq_false rfl)).trans hg75_8)
  have hg77_9 : g77 9 = .int 0 := (congrFun eg77 9).trans ((va_up_ne _ _ (Nat.ne_of_beq_eq_false rfl)).trans hg75_9)
  have hg77_16 : g77 16 = .int 0 := (congrFun eg77 16).trans ((va_up_ne _ _ (Nat.ne_of_beq_eq_false rfl)).trans hg75_16)
  have hg77_17 : g77 17 = .int 0 := (congrFun eg77 17).trans ((va_up_ne _ _ (Nat.ne_of_beq_eq_false rfl)).trans hg75_17)
  have hg77_46 : g77 46 = .int 0 := (congrFun eg77 46).trans ((va_up_ne _ _ (Nat.ne_of_beq_eq_false rfl)).trans hg75_46)
  have hg77_47 : g77 47 = .int 0 := (congrFun eg77 47).trans ((va_up_ne _ _ (Nat.ne_of_beq_eq_false rfl)).trans hg75_47)
  have hg77_48 : g77 48 = .int 0 := (congrFun eg77 48).trans ((va_up_ne _ _ (Nat.ne_of_beq_eq_false rfl)).trans hg75_48)
  have hg77_74 : g77 74 = .int 0 := (congrFun eg77 74).trans ((va_up_ne _ _ (Nat.ne_of_beq_eq_false rfl)).trans hg75_74)
  have hg77_75 : g77 75 = .int 0 := (congrFun eg77 75).trans ((va_up_ne _ _ (Nat.ne_of_beq_eq_false rfl)).trans hg75_75)
  have hg77_55 : g77 55 = .int 0 := (congrFun eg77 55).trans ((va_up_ne _ _ (Nat.ne_of_beq_eq_false rfl)).trans hg75_55)
  have hg77_10 : g77 10 = .ref q13 := (congrFun eg77 10).trans ((va_up_ne _ _ (Nat.ne_of_beq_eq_false rfl)).trans hg75_10)
  have hg77_15 : g77 15 = .ref q23 := (congrFun eg77 15).trans ((va_up_ne _ _ (Nat.ne_of_beq_eq_false rfl)).trans hg75_15)
  have hg77_27 : g77 27 = .ref q26 := (congrFun eg77 27).trans ((va_up_ne _ _ (Nat.ne_of_beq_eq_false rfl)).trans hg75_27)
  have hg77_28 : g77 28 = .ref q28 := (congrFun eg77 28).trans ((va_up_ne _ _ (Nat.ne_of_beq_eq_false rfl)).trans hg75_28)
  have hg77_29 : g77 29 = .ref q30 := (congrFun eg77 29).trans ((va_up_ne _ _ (Nat.ne_of_beq_eq_false rfl)).trans hg75_29)
  have hg77_30 : g77 30 = .ref q32 := (congrFun eg77 30).trans ((va_up_ne _ _ (Nat.ne_of_beq_eq_false rfl)).trans hg75_30)
  have hg77_31 : g77 31 = .ref q34 := (congrFun eg77 31).trans ((va_up_ne _ _ (Nat.ne_of_beq_eq_false rfl)).trans hg75_31)
  have hg77_32 : g77 32 = .ref q36 := (congrFun eg77 32).trans ((va_up_ne _ _ (Nat.ne_of_beq_eq_false rfl)).trans hg75_32)
  have hg77_33 : g77 33 = .ref q38 := (congrFun eg77 33).trans ((va_up_ne _ _ (Nat.ne_of_beq_eq_false rfl)).trans hg75_33)
  have hg77_34 : g77 34 = .ref q40 := (congrFun eg77 34).trans ((va_up_ne _ _ (Nat.ne_of_beq_eq_false rfl)).trans hg75_34)
  have hg77_35 : g77 35 = .ref q42 := (congrFun eg77 35).trans ((va_up_ne _ _ (Nat.ne_of_beq_eq_false rfl)).trans hg75_35)
  have hg77_36 : g77 36 = .ref q44 := (congrFun eg77 36).trans ((va_up_ne _ _ (Nat.ne_of_beq_eq_false rfl)).trans hg75_36)
  clear hg75_0 hg75_1 hg75_8 hg75_9 hg75_16 hg75_17 hg75_46 hg75_47 hg75_48 hg75_74 hg75_75 hg75_55 hg75_10 hg75_15 hg75_27 hg75_28 hg75_29 hg75_30 hg75_31 hg75_32 hg75_33 hg75_34 hg75_35 hg75_36
  have hg77_56 : g77 56 = .ref q76 := by rw [eg77]; exact va_up_self _ _ _
  replace hP := hP.sub (ws' := [(h, .inr (14, mL g77)), (q13, .inl (kq13, 200, .inl (fun _ => (0 : Int32)))), (q23, .inl (kq1, 128, .inl (fun _ => (0 : Int32)))), (q26, .inl (kq1, 20, .inl (fun _ => (0 : Int32)))), (q28, .inl (kq1, 20, .inl (fun _ => (0 : Int32)))), (q30, .inl (kq1, 20, .inl (fun _ => (0 : Int32)))), (q32, .inl (kq1, 20, .inl (fun _ => (0 : Int32)))), (q34, .inl (kq1, 20, .inl (fun _ => (0 : Int32)))), (q36, .inl (kq1, 20, .inl (fun _ => (0 : Int32)))), (q38, .inl (kq1, 20, .inl (fun _ => (0 : Int32)))), (q40, .inl (kq1, 20, .inl (fun _ => (0 : Int32)))), (q42, .inl (kq1, 320, .inl (fun _ => (0 : Int32)))), (q44, .inl (kq1, 320, .inl (fun _ => (0 : Int32))))]) [0, 1, 2, 3, 4, 5, 6, 7, 8, 9, 10, 11, 12] rfl
  replace hD := hD.sub (ws' := [(h, .inr (14, mL g77)), (q13, .inl (kq13, 200, .inl (fun _ => (0 : Int32)))), (q23, .inl (kq1, 128, .inl (fun _ => (0 : Int32)))), (q26, .inl (kq1, 20, .inl (fun _ => (0 : Int32)))), (q28, .inl (kq1, 20, .inl (fun _ => (0 : Int32)))), (q30, .inl (kq1, 20, .inl (fun _ => (0 : Int32)))), (q32, .inl (kq1, 20, .inl (fun _ => (0 : Int32)))), (q34, .inl (kq1, 20, .inl (fun _ => (0 : Int32)))), (q36, .inl (kq1, 20, .inl (fun _ => (0 : Int32)))), (q38, .inl (kq1, 20, .inl (fun _ => (0 : Int32)))), (q40, .inl (kq1, 20, .inl (fun _ => (0 : Int32)))), (q42, .inl (kq1, 320, .inl (fun _ => (0 : Int32)))), (q44, .inl (kq1, 320, .inl (fun _ => (0 : Int32))))]) [0, 1, 2, 3, 4, 5, 6, 7, 8, 9, 10, 11, 12] (by decide) rfl
  refine lv_aload_n hx hb dX13_init_330 rfl (lv_at hl 0 rfl) ?_
  refine lv_sipush (v := 200) hx hb dX13_init_331 (by decide) ?_
  refine va_newa (atype := .int) (ty := .int) (N' := 200) (a0 := (200, .inl (fun _ => (0 : Int32)))) hx hb (hts (.arrayClass .int) (List.mem_of_getElem? (i := 4) rfl)) rfl hK hP hD hS hA (fun _ => rfl) (by decide) (by decide) (Nat.le_of_ble_eq_true rfl) (Nat.le_of_ble_eq_true rfl) (Nat.le_of_ble_eq_true rfl) dX13_init_334 (fun q78 kq78 H hK hP hD hS => ?_)
  have hK : va_K (dC, dI) vwCl [(kq1, .int), (kq13, .byte), (kq72, .boolean), (kq78, .int)] s := hK
  replace hP : va_P (dC, dI) vwCl [(h, .inr (14, mL g77)), (q13, .inl (kq13, 200, .inl (fun _ => (0 : Int32)))), (q23, .inl (kq1, 128, .inl (fun _ => (0 : Int32)))), (q26, .inl (kq1, 20, .inl (fun _ => (0 : Int32)))), (q28, .inl (kq1, 20, .inl (fun _ => (0 : Int32)))), (q30, .inl (kq1, 20, .inl (fun _ => (0 : Int32)))), (q32, .inl (kq1, 20, .inl (fun _ => (0 : Int32)))), (q34, .inl (kq1, 20, .inl (fun _ => (0 : Int32)))), (q36, .inl (kq1, 20, .inl (fun _ => (0 : Int32)))), (q38, .inl (kq1, 20, .inl (fun _ => (0 : Int32)))), (q40, .inl (kq1, 20, .inl (fun _ => (0 : Int32)))), (q42, .inl (kq1, 320, .inl (fun _ => (0 : Int32)))), (q44, .inl (kq1, 320, .inl (fun _ => (0 : Int32)))), (q78, .inl (kq78, 200, .inl (fun _ => (0 : Int32))))] H := hP
  replace hD : va_D A [(h, .inr (14, mL g77)), (q13, .inl (kq13, 200, .inl (fun _ => (0 : Int32)))), (q23, .inl (kq1, 128, .inl (fun _ => (0 : Int32)))), (q26, .inl (kq1, 20, .inl (fun _ => (0 : Int32)))), (q28, .inl (kq1, 20, .inl (fun _ => (0 : Int32)))), (q30, .inl (kq1, 20, .inl (fun _ => (0 : Int32)))), (q32, .inl (kq1, 20, .inl (fun _ => (0 : Int32)))), (q34, .inl (kq1, 20, .inl (fun _ => (0 : Int32)))), (q36, .inl (kq1, 20, .inl (fun _ => (0 : Int32)))), (q38, .inl (kq1, 20, .inl (fun _ => (0 : Int32)))), (q40, .inl (kq1, 20, .inl (fun _ => (0 : Int32)))), (q42, .inl (kq1, 320, .inl (fun _ => (0 : Int32)))), (q44, .inl (kq1, 320, .inl (fun _ => (0 : Int32)))), (q78, .inl (kq78, 200, .inl (fun _ => (0 : Int32))))] := hD
  refine W.widen (k := 39) (n := 7848) (by omega) (by omega) ?_
  obtain rfl : kq1 = kq78 := ub_sa_int hK 0 3 rfl rfl
  have hK := hK.sub (tys' := [(kq1, .int), (kq13, .byte), (kq72, .boolean)]) [0, 1, 2] rfl
  refine va_putF (D := (dC, dI)) (ci := 14) (v := .ref q78) (ty := .array .int) (C := RX13) (T := TX13) (N := 97) hx hb hts iw_m_init_X13 tyX13 tyX13_ok nmX13 hown hK hP hD hS 0 rfl rfl 57 (by decide) (hts (.fieldLink RX13 129 "UnlikeBoatsModel" "wordBoat" "[I") (List.mem_of_getElem? (i := 46) rfl)) (fun _ h9 => h9) rfl hin rfl (by decide +kernel) rfl rfl (mL_lt (Nat.le_of_ble_eq_true rfl)) dX13_init_336 (fun H locs hP hD hS => ?_)
  have hP : va_P (dC, dI) vwCl [(h, .inr (14, (mL g77).set 57 (.ref q78))), (q13, .inl (kq13, 200, .inl (fun _ => (0 : Int32)))), (q23, .inl (kq1, 128, .inl (fun _ => (0 : Int32)))), (q26, .inl (kq1, 20, .inl (fun _ => (0 : Int32)))), (q28, .inl (kq1, 20, .inl (fun _ => (0 : Int32)))), (q30, .inl (kq1, 20, .inl (fun _ => (0 : Int32)))), (q32, .inl (kq1, 20, .inl (fun _ => (0 : Int32)))), (q34, .inl (kq1, 20, .inl (fun _ => (0 : Int32)))), (q36, .inl (kq1, 20, .inl (fun _ => (0 : Int32)))), (q38, .inl (kq1, 20, .inl (fun _ => (0 : Int32)))), (q40, .inl (kq1, 20, .inl (fun _ => (0 : Int32)))), (q42, .inl (kq1, 320, .inl (fun _ => (0 : Int32)))), (q44, .inl (kq1, 320, .inl (fun _ => (0 : Int32)))), (q78, .inl (kq1, 200, .inl (fun _ => (0 : Int32))))] H := hP
  have hD : va_D A [(h, .inr (14, (mL g77).set 57 (.ref q78))), (q13, .inl (kq13, 200, .inl (fun _ => (0 : Int32)))), (q23, .inl (kq1, 128, .inl (fun _ => (0 : Int32)))), (q26, .inl (kq1, 20, .inl (fun _ => (0 : Int32)))), (q28, .inl (kq1, 20, .inl (fun _ => (0 : Int32)))), (q30, .inl (kq1, 20, .inl (fun _ => (0 : Int32)))), (q32, .inl (kq1, 20, .inl (fun _ => (0 : Int32)))), (q34, .inl (kq1, 20, .inl (fun _ => (0 : Int32)))), (q36, .inl (kq1, 20, .inl (fun _ => (0 : Int32)))), (q38, .inl (kq1, 20, .inl (fun _ => (0 : Int32)))), (q40, .inl (kq1, 20, .inl (fun _ => (0 : Int32)))), (q42, .inl (kq1, 320, .inl (fun _ => (0 : Int32)))), (q44, .inl (kq1, 320, .inl (fun _ => (0 : Int32)))), (q78, .inl (kq1, 200, .inl (fun _ => (0 : Int32))))] := hD
  obtain ⟨g79, eg79⟩ : ∃ z9, z9 = va_up g77 57 (.ref q78) := ⟨_, rfl⟩
  rw [mL_upd, ← eg79] at hP hD
  have hg79_0 : g79 0 = .int 0 := (congrFun eg79 0).trans ((va_up_ne _ _ (Nat.ne_of_beq_eq_false rfl)).trans hg77_0)
  have hg79_1 : g79 1 = .int 0 := (congrFun eg79 1).trans ((va_up_ne _ _ (Nat.ne_of_beq_eq_false rfl)).trans hg77_1)
  have hg79_8 : g79 8 = .int 0 := (congrFun eg79 8).trans ((va_up_ne _ _ (Nat.ne_of_beq_eq_false rfl)).trans hg77_8)
  have hg79_9 : g79 9 = .int 0 := (congrFun eg79 9).trans ((va_up_ne _ _ (Nat.ne_of_beq_eq_false rfl)).trans hg77_9)
  have hg79_16 : g79 16 = .int 0 := (congrFun eg79 16).trans ((va_up_ne _ _ (Nat.ne_of_beq_eq_false rfl)).trans hg77_16)
  have hg79_17 : g79 17 = .int 0 := (congrFun eg79 17).trans ((va_up_ne _ _ (Nat.ne_of_beq_eq_false rfl)).trans hg77_17)
  have hg79_46 : g79 46 = .int 0 := (congrFun eg79 46).trans ((va_up_ne _ _ (Nat.ne_of_beq_eq_false rfl)).trans hg77_46)
  have hg79_47 : g79 47 = .int 0 := (congrFun eg79 47).trans ((va_up_ne _ _ (Nat.ne_of_beq_eq_false rfl)).trans hg77_47)
  have hg79_48 : g79 48 = .int 0 := (congrFun eg79 48).trans ((va_up_ne _ _ (Nat.ne_of_beq_eq_false rfl)).trans hg77_48)
  have hg79_74 : g79 74 = .int 0 := (congrFun eg79 74).trans ((va_up_ne _ _ (Nat.ne_of_beq_eq_false rfl)).trans hg77_74)
  have hg79_75 : g79 75 = .int 0 := (congrFun eg79 75).trans ((va_up_ne _ _ (Nat.ne_of_beq_eq_false rfl)).trans hg77_75)
  have hg79_55 : g79 55 = .int 0 := (congrFun eg79 55).trans ((va_up_ne _ _ (Nat.ne_of_beq_eq_false rfl)).trans hg77_55)
  have hg79_10 : g79 10 = .ref q13 := (congrFun eg79 10).trans ((va_up_ne _ _ (Nat.ne_of_beq_eq_false rfl)).trans hg77_10)
  have hg79_15 : g79 15 = .ref q23 := (congrFun eg79 15).trans ((va_up_ne _ _ (Nat.ne_of_beq_eq_false rfl)).trans hg77_15)
  have hg79_27 : g79 27 = .ref q26 := (congrFun eg79 27).trans ((va_up_ne _ _ (Nat.ne_of_beq_eq_false rfl)).trans hg77_27)
  have hg79_28 : g79 28 = .ref q28 := (congrFun eg79 28).trans ((va_up_ne _ _ (Nat.ne_of_beq_eq_false rfl)).trans hg77_28)
  have hg79_29 : g79 29 = .ref q30 := (congrFun eg79 29).trans ((va_up_ne _ _ (Nat.ne_of_beq_eq_false rfl)).trans hg77_29)
  have hg79_30 : g79 30 = .ref q32 := (congrFun eg79 30).trans ((va_up_ne _ _ (Nat.ne_of_beq_eq_false rfl)).trans hg77_30)
  have hg79_31 : g79 31 = .ref q34 := (congrFun eg79 31).trans ((va_up_ne _ _ (Nat.ne_of_beq_eq_false rfl)).trans hg77_31)
  have hg79_32 : g79 32 = .ref q36 := (congrFun eg79 32).trans ((va_up_ne _ _ (Nat.ne_of_beq_eq_false rfl)).trans hg77_32)
  have hg79_33 : g79 33 = .ref q38 := (congrFun eg79 33).trans ((va_up_ne _ _ (Nat.ne_of_beq_eq_false rfl)).trans hg77_33)
  have hg79_34 : g79 34 = .ref q40 := (congrFun eg79 34).trans ((va_up_ne _ _ (Nat.ne_of_beq_eq_false rfl)).trans hg77_34)
  have hg79_35 : g79 35 = .ref q42 := (congrFun eg79 35).trans ((va_up_ne _ _ (Nat.ne_of_beq_eq_false rfl)).trans hg77_35)
  have hg79_36 : g79 36 = .ref q44 := (congrFun eg79 36).trans ((va_up_ne _ _ (Nat.ne_of_beq_eq_false rfl)).trans hg77_36)
  clear hg77_0 hg77_1 hg77_8 hg77_9 hg77_16 hg77_17 hg77_46 hg77_47 hg77_48 hg77_74 hg77_75 hg77_55 hg77_10 hg77_15 hg77_27 hg77_28 hg77_29 hg77_30 hg77_31 hg77_32 hg77_33 hg77_34 hg77_35 hg77_36
  have hg79_57 : g79 57 = .ref q78 := by rw [eg79]; exact va_up_self _ _ _
  replace hP := hP.sub (ws' := [(h, .inr (14, mL g79)), (q13, .inl (kq13, 200, .inl (fun _ => (0 : Int32)))), (q23, .inl (kq1, 128, .inl (fun _ => (0 : Int32)))), (q26, .inl (kq1, 20, .inl (fun _ => (0 : Int32)))), (q28, .inl (kq1, 20, .inl (fun _ => (0 : Int32)))), (q30, .inl (kq1, 20, .inl (fun _ => (0 : Int32)))), (q32, .inl (kq1, 20, .inl (fun _ => (0 : Int32)))), (q34, .inl (kq1, 20, .inl (fun _ => (0 : Int32)))), (q36, .inl (kq1, 20, .inl (fun _ => (0 : Int32)))), (q38, .inl (kq1, 20, .inl (fun _ => (0 : Int32)))), (q40, .inl (kq1, 20, .inl (fun _ => (0 : Int32)))), (q42, .inl (kq1, 320, .inl (fun _ => (0 : Int32)))), (q44, .inl (kq1, 320, .inl (fun _ => (0 : Int32))))]) [0, 1, 2, 3, 4, 5, 6, 7, 8, 9, 10, 11, 12] rfl
  replace hD := hD.sub (ws' := [(h, .inr (14, mL g79)), (q13, .inl (kq13, 200, .inl (fun _ => (0 : Int32)))), (q23, .inl (kq1, 128, .inl (fun _ => (0 : Int32)))), (q26, .inl (kq1, 20, .inl (fun _ => (0 : Int32)))), (q28, .inl (kq1, 20, .inl (fun _ => (0 : Int32)))), (q30, .inl (kq1, 20, .inl (fun _ => (0 : Int32)))), (q32, .inl (kq1, 20, .inl (fun _ => (0 : Int32)))), (q34, .inl (kq1, 20, .inl (fun _ => (0 : Int32)))), (q36, .inl (kq1, 20, .inl (fun _ => (0 : Int32)))), (q38, .inl (kq1, 20, .inl (fun _ => (0 : Int32)))), (q40, .inl (kq1, 20, .inl (fun _ => (0 : Int32)))), (q42, .inl (kq1, 320, .inl (fun _ => (0 : Int32)))), (q44, .inl (kq1, 320, .inl (fun _ => (0 : Int32))))]) [0, 1, 2, 3, 4, 5, 6, 7, 8, 9, 10, 11, 12] (by decide) rfl
  refine lv_aload_n hx hb dX13_init_339 rfl (lv_at hl 0 rfl) ?_
  refine lv_sipush (v := 200) hx hb dX13_init_340 (by decide) ?_
  refine va_newa (atype := .int) (ty := .int) (N' := 200) (a0 := (200, .inl (fun _ => (0 : Int32)))) hx hb (hts (.arrayClass .int) (List.mem_of_getElem? (i := 4) rfl)) rfl hK hP hD hS hA (fun _ => rfl) (by decide) (by decide) (Nat.le_of_ble_eq_true rfl) (Nat.le_of_ble_eq_true rfl) (Nat.le_of_ble_eq_true rfl) dX13_init_343 (fun q80 kq80 H hK hP hD hS => ?_)
  have hK : va_K (dC, dI) vwCl [(kq1, .int), (kq13, .byte), (kq72, .boolean), (kq80, .int)] s := hK
  replace hP : va_P (dC, dI) vwCl [(h, .inr (14, mL g79)), (q13, .inl (kq13, 200, .inl (fun _ => (0 : Int32)))), (q23, .inl (kq1, 128, .inl (fun _ => (0 : Int32)))), (q26, .inl (kq1, 20, .inl (fun _ => (0 : Int32)))), (q28, .inl (kq1, 20, .inl (fun _ => (0 : Int32)))), (q30, .inl (kq1, 20, .inl (fun _ => (0 : Int32)))), (q32, .inl (kq1, 20, .inl (fun _ => (0 : Int32)))), (q34, .inl (kq1, 20, .inl (fun _ => (0 : Int32)))), (q36, .inl (kq1, 20, .inl (fun _ => (0 : Int32)))), (q38, .inl (kq1, 20, .inl (fun _ => (0 : Int32)))), (q40, .inl (kq1, 20, .inl (fun _ => (0 : Int32)))), (q42, .inl (kq1, 320, .inl (fun _ => (0 : Int32)))), (q44, .inl (kq1, 320, .inl (fun _ => (0 : Int32)))), (q80, .inl (kq80, 200, .inl (fun _ => (0 : Int32))))] H := hP
  replace hD : va_D A [(h, .inr (14, mL g79)), (q13, .inl (kq13, 200, .inl (fun _ => (0 : Int32)))), (q23, .inl (kq1, 128, .inl (fun _ => (0 : Int32)))), (q26, .inl (kq1, 20, .inl (fun _ => (0 : Int32)))), (q28, .inl (kq1, 20, .inl (fun _ => (0 : Int32)))), (q30, .inl (kq1, 20, .inl (fun _ => (0 : Int32)))), (q32, .inl (kq1, 20, .inl (fun _ => (0 : Int32)))), (q34, .inl (kq1, 20, .inl (fun _ => (0 : Int32)))), (q36, .inl (kq1, 20, .inl (fun _ => (0 : Int32)))), (q38, .inl (kq1, 20, .inl (fun _ => (0 : Int32)))), (q40, .inl (kq1, 20, .inl (fun _ => (0 : Int32)))), (q42, .inl (kq1, 320, .inl (fun _ => (0 : Int32)))), (q44, .inl (kq1, 320, .inl (fun _ => (0 : Int32)))), (q80, .inl (kq80, 200, .inl (fun _ => (0 : Int32))))] := hD
  refine W.widen (k := 40) (n := 8048) (by omega) (by omega) ?_
  obtain rfl : kq1 = kq80 := ub_sa_int hK 0 3 rfl rfl
  have hK := hK.sub (tys' := [(kq1, .int), (kq13, .byte), (kq72, .boolean)]) [0, 1, 2] rfl
  refine va_putF (D := (dC, dI)) (ci := 14) (v := .ref q80) (ty := .array .int) (C := RX13) (T := TX13) (N := 97) hx hb hts iw_m_init_X13 tyX13 tyX13_ok nmX13 hown hK hP hD hS 0 rfl rfl 58 (by decide) (hts (.fieldLink RX13 132 "UnlikeBoatsModel" "wordAt" "[I") (List.mem_of_getElem? (i := 47) rfl)) (fun _ h9 => h9) rfl hin rfl (by decide +kernel) rfl rfl (mL_lt (Nat.le_of_ble_eq_true rfl)) dX13_init_345 (fun H locs hP hD hS => ?_)
  have hP : va_P (dC, dI) vwCl [(h, .inr (14, (mL g79).set 58 (.ref q80))), (q13, .inl (kq13, 200, .inl (fun _ => (0 : Int32)))), (q23, .inl (kq1, 128, .inl (fun _ => (0 : Int32)))), (q26, .inl (kq1, 20, .inl (fun _ => (0 : Int32)))), (q28, .inl (kq1, 20, .inl (fun _ => (0 : Int32)))), (q30, .inl (kq1, 20, .inl (fun _ => (0 : Int32)))), (q32, .inl (kq1, 20, .inl (fun _ => (0 : Int32)))), (q34, .inl (kq1, 20, .inl (fun _ => (0 : Int32)))), (q36, .inl (kq1, 20, .inl (fun _ => (0 : Int32)))), (q38, .inl (kq1, 20, .inl (fun _ => (0 : Int32)))), (q40, .inl (kq1, 20, .inl (fun _ => (0 : Int32)))), (q42, .inl (kq1, 320, .inl (fun _ => (0 : Int32)))), (q44, .inl (kq1, 320, .inl (fun _ => (0 : Int32)))), (q80, .inl (kq1, 200, .inl (fun _ => (0 : Int32))))] H := hP
  have hD : va_D A [(h, .inr (14, (mL g79).set 58 (.ref q80))), (q13, .inl (kq13, 200, .inl (fun _ => (0 : Int32)))), (q23, .inl (kq1, 128, .inl (fun _ => (0 : Int32)))), (q26, .inl (kq1, 20, .inl (fun _ => (0 : Int32)))), (q28, .inl (kq1, 20, .inl (fun _ => (0 : Int32)))), (q30, .inl (kq1, 20, .inl (fun _ => (0 : Int32)))), (q32, .inl (kq1, 20, .inl (fun _ => (0 : Int32)))), (q34, .inl (kq1, 20, .inl (fun _ => (0 : Int32)))), (q36, .inl (kq1, 20, .inl (fun _ => (0 : Int32)))), (q38, .inl (kq1, 20, .inl (fun _ => (0 : Int32)))), (q40, .inl (kq1, 20, .inl (fun _ => (0 : Int32)))), (q42, .inl (kq1, 320, .inl (fun _ => (0 : Int32)))), (q44, .inl (kq1, 320, .inl (fun _ => (0 : Int32)))), (q80, .inl (kq1, 200, .inl (fun _ => (0 : Int32))))] := hD
  obtain ⟨g81, eg81⟩ : ∃ z9, z9 = va_up g79 58 (.ref q80) := ⟨_, rfl⟩
  rw [mL_upd, ← eg81] at hP hD
  have hg81_0 : g81 0 = .int 0 := (congrFun eg81 0).trans ((va_up_ne _ _ (Nat.ne_of_beq_eq_false rfl)).trans hg79_0)
  have hg81_1 : g81 1 = .int 0 := (congrFun eg81 1).trans ((va_up_ne _ _ (Nat.ne_of_beq_eq_false rfl)).trans hg79_1)
  have hg81_8 : g81 8 = .int 0 := (congrFun eg81 8).trans ((va_up_ne _ _ (Nat.ne_of_beq_eq_false rfl)).trans hg79_8)
  have hg81_9 : g81 9 = .int 0 := (congrFun eg81 9).trans ((va_up_ne _ _ (Nat.ne_of_beq_eq_false rfl)).trans hg79_9)
  have hg81_16 : g81 16 = .int 0 := (congrFun eg81 16).trans ((va_up_ne _ _ (Nat.ne_of_beq_eq_false rfl)).trans hg79_16)
  have hg81_17 : g81 17 = .int 0 := (congrFun eg81 17).trans ((va_up_ne _ _ (Nat.ne_of_beq_eq_false rfl)).trans hg79_17)
  have hg81_46 : g81 46 = .int 0 := (congrFun eg81 46).trans ((va_up_ne _ _ (Nat.ne_of_beq_eq_false rfl)).trans hg79_46)
  have hg81_47 : g81 47 = .int 0 := (congrFun eg81 47).trans ((va_up_ne _ _ (Nat.ne_of_beq_eq_false rfl)).trans hg79_47)
  have hg81_48 : g81 48 = .int 0 := (congrFun eg81 48).trans ((va_up_ne _ _ (Nat.ne_of_beq_eq_false rfl)).trans hg79_48)
  have hg81_74 : g81 74 = .int 0 := (congrFun eg81 74).trans ((va_up_ne _ _ (Nat.ne_of_beq_eq_false rfl)).trans hg79_74)
  have hg81_75 : g81 75 = .int 0 := (congrFun eg81 75).trans ((va_up_ne _ _ (Nat.ne_of_beq_eq_false rfl)).trans hg79_75)
  have hg81_55 : g81 55 = .int 0 := (congrFun eg81 55).trans ((va_up_ne _ _ (Nat.ne_of_beq_eq_false rfl)).trans hg79_55)
  have hg81_10 : g81 10 = .ref q13 := (congrFun eg81 10).trans ((va_up_ne _ _ (Nat.ne_of_beq_eq_false rfl)).trans hg79_10)
  have hg81_15 : g81 15 = .ref q23 := (congrFun eg81 15).trans ((va_up_ne _ _ (Nat.ne_of_beq_eq_false rfl)).trans hg79_15)
  have hg81_27 : g81 27 = .ref q26 := (congrFun eg81 27).trans ((va_up_ne _ _ (Nat.ne_of_beq_eq_false rfl)).trans hg79_27)
  have hg81_28 : g81 28 = .ref q28 := (congrFun eg81 28).trans ((va_up_ne _ _ (Nat.ne_of_beq_eq_false rfl)).trans hg79_28)
  have hg81_29 : g81 29 = .ref q30 := (congrFun eg81 29).trans ((va_up_ne _ _ (Nat.ne_of_beq_eq_false rfl)).trans hg79_29)
  have hg81_30 : g81 30 = .ref q32 := (congrFun eg81 30).trans ((va_up_ne _ _ (Nat.ne_of_beq_eq_false rfl)).trans hg79_30)
  have hg81_31 : g81 31 = .ref q34 := (congrFun eg81 31).trans ((va_up_ne _ _ (Nat.ne_of_beq_eq_false rfl)).trans hg79_31)
  have hg81_32 : g81 32 = .ref q36 := (congrFun eg81 32).trans ((va_up_ne _ _ (Nat.ne_of_beq_eq_false rfl)).trans hg79_32)
  have hg81_33 : g81 33 = .ref q38 := (congrFun eg81 33).trans ((va_up_ne _ _ (Nat.ne_of_beq_eq_false rfl)).trans hg79_33)
  have hg81_34 : g81 34 = .ref q40 := (congrFun eg81 34).trans ((va_up_ne _ _ (Nat.ne_of_beq_eq_false rfl)).trans hg79_34)
  have hg81_35 : g81 35 = .ref q42 := (congrFun eg81 35).trans ((va_up_ne _ _ (Nat.ne_of_beq_eq_false rfl)).trans hg79_35)
  have hg81_36 : g81 36 = .ref q44 := (congrFun eg81 36).trans ((va_up_ne _ _ (Nat.ne_of_beq_eq_false rfl)).trans hg79_36)
  clear hg79_0 hg79_1 hg79_8 hg79_9 hg79_16 hg79_17 hg79_46 hg79_47 hg79_48 hg79_74 hg79_75 hg79_55 hg79_10 hg79_15 hg79_27 hg79_28 hg79_29 hg79_30 hg79_31 hg79_32 hg79_33 hg79_34 hg79_35 hg79_36
  have hg81_58 : g81 58 = .ref q80 := by rw [eg81]; exact va_up_self _ _ _
  replace hP := hP.sub (ws' := [(h, .inr (14, mL g81)), (q13, .inl (kq13, 200, .inl (fun _ => (0 : Int32)))), (q23, .inl (kq1, 128, .inl (fun _ => (0 : Int32)))), (q26, .inl (kq1, 20, .inl (fun _ => (0 : Int32)))), (q28, .inl (kq1, 20, .inl (fun _ => (0 : Int32)))), (q30, .inl (kq1, 20, .inl (fun _ => (0 : Int32)))), (q32, .inl (kq1, 20, .inl (fun _ => (0 : Int32)))), (q34, .inl (kq1, 20, .inl (fun _ => (0 : Int32)))), (q36, .inl (kq1, 20, .inl (fun _ => (0 : Int32)))), (q38, .inl (kq1, 20, .inl (fun _ => (0 : Int32)))), (q40, .inl (kq1, 20, .inl (fun _ => (0 : Int32)))), (q42, .inl (kq1, 320, .inl (fun _ => (0 : Int32)))), (q44, .inl (kq1, 320, .inl (fun _ => (0 : Int32))))]) [0, 1, 2, 3, 4, 5, 6, 7, 8, 9, 10, 11, 12] rfl
  replace hD := hD.sub (ws' := [(h, .inr (14, mL g81)), (q13, .inl (kq13, 200, .inl (fun _ => (0 : Int32)))), (q23, .inl (kq1, 128, .inl (fun _ => (0 : Int32)))), (q26, .inl (kq1, 20, .inl (fun _ => (0 : Int32)))), (q28, .inl (kq1, 20, .inl (fun _ => (0 : Int32)))), (q30, .inl (kq1, 20, .inl (fun _ => (0 : Int32)))), (q32, .inl (kq1, 20, .inl (fun _ => (0 : Int32)))), (q34, .inl (kq1, 20, .inl (fun _ => (0 : Int32)))), (q36, .inl (kq1, 20, .inl (fun _ => (0 : Int32)))), (q38, .inl (kq1, 20, .inl (fun _ => (0 : Int32)))), (q40, .inl (kq1, 20, .inl (fun _ => (0 : Int32)))), (q42, .inl (kq1, 320, .inl (fun _ => (0 : Int32)))), (q44, .inl (kq1, 320, .inl (fun _ => (0 : Int32))))]) [0, 1, 2, 3, 4, 5, 6, 7, 8, 9, 10, 11, 12] (by decide) rfl
  refine lv_aload_n hx hb dX13_init_348 rfl (lv_at hl 0 rfl) ?_
  refine lv_sipush (v := 200) hx hb dX13_init_349 (by decide) ?_
  refine va_newa (atype := .int) (ty := .int) (N' := 200) (a0 := (200, .inl (fun _ => (0 : Int32)))) hx hb (hts (.arrayClass .int) (List.mem_of_getElem? (i := 4) rfl)) rfl hK hP hD hS hA (fun _ => rfl) (by decide) (by decide) (Nat.le_of_ble_eq_true rfl) (Nat.le_of_ble_eq_true rfl) (Nat.le_of_ble_eq_true rfl) dX13_init_352 (fun q82 kq82 H hK hP hD hS => ?_)
  have hK : va_K (dC, dI) vwCl [(kq1, .int), (kq13, .byte), (kq72, .boolean), (kq82, .int)] s := hK
  replace hP : va_P (dC, dI) vwCl [(h, .inr (14, mL g81)), (q13, .inl (kq13, 200, .inl (fun _ => (0 : Int32)))), (q23, .inl (kq1, 128, .inl (fun _ => (0 : Int32)))), (q26, .inl (kq1, 20, .inl (fun _ => (0 : Int32)))), (q28, .inl (kq1, 20, .inl (fun _ => (0 : Int32)))), (q30, .inl (kq1, 20, .inl (fun _ => (0 : Int32)))), (q32, .inl (kq1, 20, .inl (fun _ => (0 : Int32)))), (q34, .inl (kq1, 20, .inl (fun _ => (0 : Int32)))), (q36, .inl (kq1, 20, .inl (fun _ => (0 : Int32)))), (q38, .inl (kq1, 20, .inl (fun _ => (0 : Int32)))), (q40, .inl (kq1, 20, .inl (fun _ => (0 : Int32)))), (q42, .inl (kq1, 320, .inl (fun _ => (0 : Int32)))), (q44, .inl (kq1, 320, .inl (fun _ => (0 : Int32)))), (q82, .inl (kq82, 200, .inl (fun _ => (0 : Int32))))] H := hP
  replace hD : va_D A [(h, .inr (14, mL g81)), (q13, .inl (kq13, 200, .inl (fun _ => (0 : Int32)))), (q23, .inl (kq1, 128, .inl (fun _ => (0 : Int32)))), (q26, .inl (kq1, 20, .inl (fun _ => (0 : Int32)))), (q28, .inl (kq1, 20, .inl (fun _ => (0 : Int32)))), (q30, .inl (kq1, 20, .inl (fun _ => (0 : Int32)))), (q32, .inl (kq1, 20, .inl (fun _ => (0 : Int32)))), (q34, .inl (kq1, 20, .inl (fun _ => (0 : Int32)))), (q36, .inl (kq1, 20, .inl (fun _ => (0 : Int32)))), (q38, .inl (kq1, 20, .inl (fun _ => (0 : Int32)))), (q40, .inl (kq1, 20, .inl (fun _ => (0 : Int32)))), (q42, .inl (kq1, 320, .inl (fun _ => (0 : Int32)))), (q44, .inl (kq1, 320, .inl (fun _ => (0 : Int32)))), (q82, .inl (kq82, 200, .inl (fun _ => (0 : Int32))))] := hD
  refine W.widen (k := 41) (n := 8248) (by omega) (by omega) ?_
  obtain rfl : kq1 = kq82 := ub_sa_int hK 0 3 rfl rfl
  have hK := hK.sub (tys' := [(kq1, .int), (kq13, .byte), (kq72, .boolean)]) [0, 1, 2] rfl
  refine va_putF (D := (dC, dI)) (ci := 14) (v := .ref q82) (ty := .array .int) (C := RX13) (T := TX13) (N := 97) hx hb hts iw_m_init_X13 tyX13 tyX13_ok nmX13 hown hK hP hD hS 0 rfl rfl 59 (by decide) (hts (.fieldLink RX13 135 "UnlikeBoatsModel" "wordX" "[I") (List.mem_of_getElem? (i := 48) rfl)) (fun _ h9 => h9) rfl hin rfl (by decide +kernel) rfl rfl (mL_lt (Nat.le_of_ble_eq_true rfl)) dX13_init_354 (fun H locs hP hD hS => ?_)
  have hP : va_P (dC, dI) vwCl [(h, .inr (14, (mL g81).set 59 (.ref q82))), (q13, .inl (kq13, 200, .inl (fun _ => (0 : Int32)))), (q23, .inl (kq1, 128, .inl (fun _ => (0 : Int32)))), (q26, .inl (kq1, 20, .inl (fun _ => (0 : Int32)))), (q28, .inl (kq1, 20, .inl (fun _ => (0 : Int32)))), (q30, .inl (kq1, 20, .inl (fun _ => (0 : Int32)))), (q32, .inl (kq1, 20, .inl (fun _ => (0 : Int32)))), (q34, .inl (kq1, 20, .inl (fun _ => (0 : Int32)))), (q36, .inl (kq1, 20, .inl (fun _ => (0 : Int32)))), (q38, .inl (kq1, 20, .inl (fun _ => (0 : Int32)))), (q40, .inl (kq1, 20, .inl (fun _ => (0 : Int32)))), (q42, .inl (kq1, 320, .inl (fun _ => (0 : Int32)))), (q44, .inl (kq1, 320, .inl (fun _ => (0 : Int32)))), (q82, .inl (kq1, 200, .inl (fun _ => (0 : Int32))))] H := hP
  have hD : va_D A [(h, .inr (14, (mL g81).set 59 (.ref q82))), (q13, .inl (kq13, 200, .inl (fun _ => (0 : Int32)))), (q23, .inl (kq1, 128, .inl (fun _ => (0 : Int32)))), (q26, .inl (kq1, 20, .inl (fun _ => (0 : Int32)))), (q28, .inl (kq1, 20, .inl (fun _ => (0 : Int32)))), (q30, .inl (kq1, 20, .inl (fun _ => (0 : Int32)))), (q32, .inl (kq1, 20, .inl (fun _ => (0 : Int32)))), (q34, .inl (kq1, 20, .inl (fun _ => (0 : Int32)))), (q36, .inl (kq1, 20, .inl (fun _ => (0 : Int32)))), (q38, .inl (kq1, 20, .inl (fun _ => (0 : Int32)))), (q40, .inl (kq1, 20, .inl (fun _ => (0 : Int32)))), (q42, .inl (kq1, 320, .inl (fun _ => (0 : Int32)))), (q44, .inl (kq1, 320, .inl (fun _ => (0 : Int32)))), (q82, .inl (kq1, 200, .inl (fun _ => (0 : Int32))))] := hD
  obtain ⟨g83, eg83⟩ : ∃ z9, z9 = va_up g81 59 (.ref q82) := ⟨_, rfl⟩
  rw [mL_upd, ← eg83] at hP hD
  have hg83_0 : g83 0 = .int 0 := (congrFun eg83 0).trans ((va_up_ne _ _ (Nat.ne_of_beq_eq_false rfl)).trans hg81_0)
  have hg83_1 : g83 1 = .int 0 := (congrFun eg83 1).trans ((va_up_ne _ _ (Nat.ne_of_beq_eq_false rfl)).trans hg81_1)
  have hg83_8 : g83 8 = .int 0 := (congrFun eg83 8).trans ((va_up_ne _ _ (Nat.ne_of_beq_eq_false rfl)).trans hg81_8)
  have hg83_9 : g83 9 = .int 0 := (congrFun eg83 9).trans ((va_up_ne _ _ (Nat.ne_of_beq_eq_false rfl)).trans hg81_9)
  have hg83_16 : g83 16 = .int 0 := (congrFun eg83 16).trans ((va_up_ne _ _ (Nat.ne_of_beq_eq_false rfl)).trans hg81_16)
  have hg83_17 : g83 17 = .int 0 := (congrFun eg83 17).trans ((va_up_ne _ _ (Nat.ne_of_beq_eq_false rfl)).trans hg81_17)
  have hg83_46 : g83 46 = .int 0 := (congrFun eg83 46).trans ((va_up_ne _ _ (Nat.ne_of_beq_eq_false rfl)).trans hg81_46)
  have hg83_47 : g83 47 = .int 0 := (congrFun eg83 47).trans ((va_up_ne _ _ (Nat.ne_of_beq_eq_false rfl)).trans hg81_47)
  have hg83_48 : g83 48 = .int 0 := (congrFun eg83 48).trans ((va_up_ne _ _ (Nat.ne_of_beq_eq_false rfl)).trans hg81_48)
  have hg83_74 : g83 74 = .int 0 := (congrFun eg83 74).trans ((va_up_ne _ _ (Nat.ne_of_beq_eq_false rfl)).trans hg81_74)
  have hg83_75 : g83 75 = .int 0 := (congrFun eg83 75).trans ((va_up_ne _ _ (Nat.ne_of_beq_eq_false rfl)).trans hg81_75)
  have hg83_55 : g83 55 = .int 0 := (congrFun eg83 55).trans ((va_up_ne _ _ (Nat.ne_of_beq_eq_false rfl)).trans hg81_55)
  have hg83_10 : g83 10 = .ref q13 := (congrFun eg83 10).trans ((va_up_ne _ _ (Nat.ne_of_beq_eq_false rfl)).trans hg81_10)
  have hg83_15 : g83 15 = .ref q23 := (congrFun eg83 15).trans ((va_up_ne _ _ (Nat.ne_of_beq_eq_false rfl)).trans hg81_15)
  have hg83_27 : g83 27 = .ref q26 := (congrFun eg83 27).trans ((va_up_ne _ _ (Nat.ne_of_beq_eq_false rfl)).trans hg81_27)
  have hg83_28 : g83 28 = .ref q28 := (congrFun eg83 28).trans ((va_up_ne _ _ (Nat.ne_of_beq_eq_false rfl)).trans hg81_28)
  have hg83_29 : g83 29 = .ref q30 := (congrFun eg83 29).trans ((va_up_ne _ _ (Nat.ne_of_beq_eq_false rfl)).trans hg81_29)
  have hg83_30 : g83 30 = .ref q32 := (congrFun eg83 30).trans ((va_up_ne _ _ (Nat.ne_of_beq_eq_false rfl)).trans hg81_30)
  have hg83_31 : g83 31 = .ref q34 := (congrFun eg83 31).trans ((va_up_ne _ _ (Nat.ne_of_beq_eq_false rfl)).trans hg81_31)
  have hg83_32 : g83 32 = .ref q36 := (congrFun eg83 32).trans ((va_up_ne _ _ (Nat.ne_of_beq_eq_false rfl)).trans hg81_32)
  have hg83_33 : g83 33 = .ref q38 := (congrFun eg83 33).trans ((va_up_ne _ _ (Nat.ne_of_beq_eq_false rfl)).trans hg81_33)
  have hg83_34 : g83 34 = .ref q40 := (congrFun eg83 34).trans ((va_up_ne _ _ (Nat.ne_of_beq_eq_false rfl)).trans hg81_34)
  have hg83_35 : g83 35 = .ref q42 := (congrFun eg83 35).trans ((va_up_ne _ _ (Nat.ne_of_beq_eq_false rfl)).trans hg81_35)
  have hg83_36 : g83 36 = .ref q44 := (congrFun eg83 36).trans ((va_up_ne _ _ (Nat.ne_of_beq_eq_false rfl)).trans hg81_36)
  clear hg81_0 hg81_1 hg81_8 hg81_9 hg81_16 hg81_17 hg81_46 hg81_47 hg81_48 hg81_74 hg81_75 hg81_55 hg81_10 hg81_15 hg81_27 hg81_28 hg81_29 hg81_30 hg81_31 hg81_32 hg81_33 hg81_34 hg81_35 hg81_36
  have hg83_59 : g83 59 = .ref q82 := by rw [eg83]; exact va_up_self _ _ _
  replace hP := hP.sub (ws' := [(h, .inr (14, mL g83)), (q13, .inl (kq13, 200, .inl (fun _ => (0 : Int32)))), (q23, .inl (kq1, 128, .inl (fun _ => (0 : Int32)))), (q26, .inl (kq1, 20, .inl (fun _ => (0 : Int32)))), (q28, .inl (kq1, 20, .inl (fun _ => (0 : Int32)))), (q30, .inl (kq1, 20, .inl (fun _ => (0 : Int32)))), (q32, .inl (kq1, 20, .inl (fun _ => (0 : Int32)))), (q34, .inl (kq1, 20, .inl (fun _ => (0 : Int32)))), (q36, .inl (kq1, 20, .inl (fun _ => (0 : Int32)))), (q38, .inl (kq1, 20, .inl (fun _ => (0 : Int32)))), (q40, .inl (kq1, 20, .inl (fun _ => (0 : Int32)))), (q42, .inl (kq1, 320, .inl (fun _ => (0 : Int32)))), (q44, .inl (kq1, 320, .inl (fun _ => (0 : Int32))))]) [0, 1, 2, 3, 4, 5, 6, 7, 8, 9, 10, 11, 12] rfl
  replace hD := hD.sub (ws' := [(h, .inr (14, mL g83)), (q13, .inl (kq13, 200, .inl (fun _ => (0 : Int32)))), (q23, .inl (kq1, 128, .inl (fun _ => (0 : Int32)))), (q26, .inl (kq1, 20, .inl (fun _ => (0 : Int32)))), (q28, .inl (kq1, 20, .inl (fun _ => (0 : Int32)))), (q30, .inl (kq1, 20, .inl (fun _ => (0 : Int32)))), (q32, .inl (kq1, 20, .inl (fun _ => (0 : Int32)))), (q34, .inl (kq1, 20, .inl (fun _ => (0 : Int32)))), (q36, .inl (kq1, 20, .inl (fun _ => (0 : Int32)))), (q38, .inl (kq1, 20, .inl (fun _ => (0 : Int32)))), (q40, .inl (kq1, 20, .inl (fun _ => (0 : Int32)))), (q42, .inl (kq1, 320, .inl (fun _ => (0 : Int32)))), (q44, .inl (kq1, 320, .inl (fun _ => (0 : Int32))))]) [0, 1, 2, 3, 4, 5, 6, 7, 8, 9, 10, 11, 12] (by decide) rfl
  refine lv_aload_n hx hb dX13_init_357 rfl (lv_at hl 0 rfl) ?_
  refine lv_sipush (v := 200) hx hb dX13_init_358 (by decide) ?_
  refine va_newa (atype := .int) (ty := .int) (N' := 200) (a0 := (200, .inl (fun _ => (0 : Int32)))) hx hb (hts (.arrayClass .int) (List.mem_of_getElem? (i := 4) rfl)) rfl hK hP hD hS hA (fun _ => rfl) (by decide) (by decide) (Nat.le_of_ble_eq_true rfl) (Nat.le_of_ble_eq_true rfl) (Nat.le_of_ble_eq_true rfl) dX13_init_361 (fun q84 kq84 H hK hP hD hS => ?_)
  have hK : va_K (dC, dI) vwCl [(kq1, .int), (kq13, .byte), (kq72, .boolean), (kq84, .int)] s := hK
  replace hP : va_P (dC, dI) vwCl [(h, .inr (14, mL g83)), (q13, .inl (kq13, 200, .inl (fun _ => (0 : Int32)))), (q23, .inl (kq1, 128, .inl (fun _ => (0 : Int32)))), (q26, .inl (kq1, 20, .inl (fun _ => (0 : Int32)))), (q28, .inl (kq1, 20, .inl (fun _ => (0 : Int32)))), (q30, .inl (kq1, 20, .inl (fun _ => (0 : Int32)))), (q32, .inl (kq1, 20, .inl (fun _ => (0 : Int32)))), (q34, .inl (kq1, 20, .inl (fun _ => (0 : Int32)))), (q36, .inl (kq1, 20, .inl (fun _ => (0 : Int32)))), (q38, .inl (kq1, 20, .inl (fun _ => (0 : Int32)))), (q40, .inl (kq1, 20, .inl (fun _ => (0 : Int32)))), (q42, .inl (kq1, 320, .inl (fun _ => (0 : Int32)))), (q44, .inl (kq1, 320, .inl (fun _ => (0 : Int32)))), (q84, .inl (kq84, 200, .inl (fun _ => (0 : Int32))))] H := hP
  replace hD : va_D A [(h, .inr (14, mL g83)), (q13, .inl (kq13, 200, .inl (fun _ => (0 : Int32)))), (q23, .inl (kq1, 128, .inl (fun _ => (0 : Int32)))), (q26, .inl (kq1, 20, .inl (fun _ => (0 : Int32)))), (q28, .inl (kq1, 20, .inl (fun _ => (0 : Int32)))), (q30, .inl (kq1, 20, .inl (fun _ => (0 : Int32)))), (q32, .inl (kq1, 20, .inl (fun _ => (0 : Int32)))), (q34, .inl (kq1, 20, .inl (fun _ => (0 : Int32)))), (q36, .inl (kq1, 20, .inl (fun _ => (0 : Int32)))), (q38, .inl (kq1, 20, .inl (fun _ => (0 : Int32)))), (q40, .inl (kq1, 20, .inl (fun _ => (0 : Int32)))), (q42, .inl (kq1, 320, .inl (fun _ => (0 : Int32)))), (q44, .inl (kq1, 320, .inl (fun _ => (0 : Int32)))), (q84, .inl (kq84, 200, .inl (fun _ => (0 : Int32))))] := hD
  refine W.widen (k := 42) (n := 8448) (by omega) (by omega) ?_
  obtain rfl : kq1 = kq84 := ub_sa_int hK 0 3 rfl rfl
  have hK := hK.sub (tys' := [(kq1, .int), (kq13, .byte), (kq72, .boolean)]) [0, 1, 2] rfl
  refine va_putF (D := (dC, dI)) (ci := 14) (v := .ref q84) (ty := .array .int) (C := RX13) (T := TX13) (N := 97) hx hb hts iw_m_init_X13 tyX13 tyX13_ok nmX13 hown hK hP hD hS 0 rfl rfl 60 (by decide) (hts (.fieldLink RX13 138 "UnlikeBoatsModel" "wordY" "[I") (List.mem_of_getElem? (i := 49) rfl)) (fun _ h9 => h9) rfl hin rfl (by decide +kernel) rfl rfl (mL_lt (Nat.le_of_ble_eq_true rfl)) dX13_init_363 (fun H locs hP hD hS => ?_)
  have hP : va_P (dC, dI) vwCl [(h, .inr (14, (mL g83).set 60 (.ref q84))), (q13, .inl (kq13, 200, .inl (fun _ => (0 : Int32)))), (q23, .inl (kq1, 128, .inl (fun _ => (0 : Int32)))), (q26, .inl (kq1, 20, .inl (fun _ => (0 : Int32)))), (q28, .inl (kq1, 20, .inl (fun _ => (0 : Int32)))), (q30, .inl (kq1, 20, .inl (fun _ => (0 : Int32)))), (q32, .inl (kq1, 20, .inl (fun _ => (0 : Int32)))), (q34, .inl (kq1, 20, .inl (fun _ => (0 : Int32)))), (q36, .inl (kq1, 20, .inl (fun _ => (0 : Int32)))), (q38, .inl (kq1, 20, .inl (fun _ => (0 : Int32)))), (q40, .inl (kq1, 20, .inl (fun _ => (0 : Int32)))), (q42, .inl (kq1, 320, .inl (fun _ => (0 : Int32)))), (q44, .inl (kq1, 320, .inl (fun _ => (0 : Int32)))), (q84, .inl (kq1, 200, .inl (fun _ => (0 : Int32))))] H := hP
  have hD : va_D A [(h, .inr (14, (mL g83).set 60 (.ref q84))), (q13, .inl (kq13, 200, .inl (fun _ => (0 : Int32)))), (q23, .inl (kq1, 128, .inl (fun _ => (0 : Int32)))), (q26, .inl (kq1, 20, .inl (fun _ => (0 : Int32)))), (q28, .inl (kq1, 20, .inl (fun _ => (0 : Int32)))), (q30, .inl (kq1, 20, .inl (fun _ => (0 : Int32)))), (q32, .inl (kq1, 20, .inl (fun _ => (0 : Int32)))), (q34, .inl (kq1, 20, .inl (fun _ => (0 : Int32)))), (q36, .inl (kq1, 20, .inl (fun _ => (0 : Int32)))), (q38, .inl (kq1, 20, .inl (fun _ => (0 : Int32)))), (q40, .inl (kq1, 20, .inl (fun _ => (0 : Int32)))), (q42, .inl (kq1, 320, .inl (fun _ => (0 : Int32)))), (q44, .inl (kq1, 320, .inl (fun _ => (0 : Int32)))), (q84, .inl (kq1, 200, .inl (fun _ => (0 : Int32))))] := hD
  obtain ⟨g85, eg85⟩ : ∃ z9, z9 = va_up g83 60 (.ref q84) := ⟨_, rfl⟩
  rw [mL_upd, ← eg85] at hP hD
  have hg85_0 : g85 0 = .int 0 := (congrFun eg85 0).trans ((va_up_ne _ _ (Nat.ne_of_beq_eq_false rfl)).trans hg83_0)
  have hg85_1 : g85 1 = .int 0 := (congrFun eg85 1).trans ((va_up_ne _ _ (Nat.ne_of_beq_eq_false rfl)).trans hg83_1)
  have hg85_8 : g85 8 = .int 0 := (congrFun eg85 8).trans ((va_up_ne _ _ (Nat.ne_of_beq_eq_false rfl)).trans hg83_8)
  have hg85_9 : g85 9 = .int 0 := (congrFun eg85 9).trans ((va_up_ne _ _ (Nat.ne_of_beq_eq_false rfl)).trans hg83_9)
  have hg85_16 : g85 16 = .int 0 := (congrFun eg85 16).trans ((va_up_ne _ _ (Nat.ne_of_beq_eq_false rfl)).trans hg83_16)
  have hg85_17 : g85 17 = .int 0 := (congrFun eg85 17).trans ((va_up_ne _ _ (Nat.ne_of_beq_eq_false rfl)).trans hg83_17)
  have hg85_46 : g85 46 = .int 0 := (congrFun eg85 46).trans ((va_up_ne _ _ (Nat.ne_of_beq_eq_false rfl)).trans hg83_46)
  have hg85_47 : g85 47 = .int 0 := (congrFun eg85 47).trans ((va_up_ne _ _ (Nat.ne_of_beq_eq_false rfl)).trans hg83_47)
  have hg85_48 : g85 48 = .int 0 := (congrFun eg85 48).trans ((va_up_ne _ _ (Nat.ne_of_beq_eq_false rfl)).trans hg83_48)
  have hg85_74 : g85 74 = .int 0 := (congrFun eg85 74).trans ((va_up_ne _ _ (Nat.ne_of_beq_eq_false rfl)).trans hg83_74)
  have hg85_75 : g85 75 = .int 0 := (congrFun eg85 75).trans ((va_up_ne _ _ (Nat.ne_of_beq_eq_false rfl)).trans hg83_75)
  have hg85_55 : g85 55 = .int 0 := (congrFun eg85 55).trans ((va_up_ne _ _ (Nat.ne_of_beq_eq_false rfl)).trans hg83_55)
  have hg85_10 : g85 10 = .ref q13 := (congrFun eg85 10).trans ((va_up_ne _ _ (Nat.ne_of_beq_eq_false rfl)).trans hg83_10)
  have hg85_15 : g85 15 = .ref q23 := (congrFun eg85 15).trans ((va_up_ne _ _ (Nat.ne_of_beq_eq_false rfl)).trans hg83_15)
  have hg85_27 : g85 27 = .ref q26 := (congrFun eg85 27).trans ((va_up_ne _ _ (Nat.ne_of_beq_eq_false rfl)).trans hg83_27)
  have hg85_28 : g85 28 = .ref q28 := (congrFun eg85 28).trans ((va_up_ne _ _ (Nat.ne_of_beq_eq_false rfl)).trans hg83_28)
  have hg85_29 : g85 29 = .ref q30 := (congrFun eg85 29).trans ((va_up_ne _ _ (Nat.ne_of_beq_eq_false rfl)).trans hg83_29)
  have hg85_30 : g85 30 = .ref q32 := (congrFun eg85 30).trans ((va_up_ne _ _ (Nat.ne_of_beq_eq_false rfl)).trans hg83_30)
  have hg85_31 : g85 31 = .ref q34 := (congrFun eg85 31).trans ((va_up_ne _ _ (Nat.ne_of_beq_eq_false rfl)).trans hg83_31)
  have hg85_32 : g85 32 = .ref q36 := (congrFun eg85 32).trans ((va_up_ne _ _ (Nat.ne_of_beq_eq_false rfl)).trans hg83_32)
  have hg85_33 : g85 33 = .ref q38 := (congrFun eg85 33).trans ((va_up_ne _ _ (Nat.ne_of_beq_eq_false rfl)).trans hg83_33)
  have hg85_34 : g85 34 = .ref q40 := (congrFun eg85 34).trans ((va_up_ne _ _ (Nat.ne_of_beq_eq_false rfl)).trans hg83_34)
  have hg85_35 : g85 35 = .ref q42 := (congrFun eg85 35).trans ((va_up_ne _ _ (Nat.ne_of_beq_eq_false rfl)).trans hg83_35)
  have hg85_36 : g85 36 = .ref q44 := (congrFun eg85 36).trans ((va_up_ne _ _ (Nat.ne_of_beq_eq_false rfl)).trans hg83_36)
  clear hg83_0 hg83_1 hg83_8 hg83_9 hg83_16 hg83_17 hg83_46 hg83_47 hg83_48 hg83_74 hg83_75 hg83_55 hg83_10 hg83_15 hg83_27 hg83_28 hg83_29 hg83_30 hg83_31 hg83_32 hg83_33 hg83_34 hg83_35 hg83_36
  have hg85_60 : g85 60 = .ref q84 := by rw [eg85]; exact va_up_self _ _ _
  replace hP := hP.sub (ws' := [(h, .inr (14, mL g85)), (q13, .inl (kq13, 200, .inl (fun _ => (0 : Int32)))), (q23, .inl (kq1, 128, .inl (fun _ => (0 : Int32)))), (q26, .inl (kq1, 20, .inl (fun _ => (0 : Int32)))), (q28, .inl (kq1, 20, .inl (fun _ => (0 : Int32)))), (q30, .inl (kq1, 20, .inl (fun _ => (0 : Int32)))), (q32, .inl (kq1, 20, .inl (fun _ => (0 : Int32)))), (q34, .inl (kq1, 20, .inl (fun _ => (0 : Int32)))), (q36, .inl (kq1, 20, .inl (fun _ => (0 : Int32)))), (q38, .inl (kq1, 20, .inl (fun _ => (0 : Int32)))), (q40, .inl (kq1, 20, .inl (fun _ => (0 : Int32)))), (q42, .inl (kq1, 320, .inl (fun _ => (0 : Int32)))), (q44, .inl (kq1, 320, .inl (fun _ => (0 : Int32))))]) [0, 1, 2, 3, 4, 5, 6, 7, 8, 9, 10, 11, 12] rfl
  replace hD := hD.sub (ws' := [(h, .inr (14, mL g85)), (q13, .inl (kq13, 200, .inl (fun _ => (0 : Int32)))), (q23, .inl (kq1, 128, .inl (fun _ => (0 : Int32)))), (q26, .inl (kq1, 20, .inl (fun _ => (0 : Int32)))), (q28, .inl (kq1, 20, .inl (fun _ => (0 : Int32)))), (q30, .inl (kq1, 20, .inl (fun _ => (0 : Int32)))), (q32, .inl (kq1, 20, .inl (fun _ => (0 : Int32)))), (q34, .inl (kq1, 20, .inl (fun _ => (0 : Int32)))), (q36, .inl (kq1, 20, .inl (fun _ => (0 : Int32)))), (q38, .inl (kq1, 20, .inl (fun _ => (0 : Int32)))), (q40, .inl (kq1, 20, .inl (fun _ => (0 : Int32)))), (q42, .inl (kq1, 320, .inl (fun _ => (0 : Int32)))), (q44, .inl (kq1, 320, .inl (fun _ => (0 : Int32))))]) [0, 1, 2, 3, 4, 5, 6, 7, 8, 9, 10, 11, 12] (by decide) rfl
  refine lv_aload_n hx hb dX13_init_366 rfl (lv_at hl 0 rfl) ?_
  refine lv_sipush (v := 200) hx hb dX13_init_367 (by decide) ?_
  refine va_newa (atype := .int) (ty := .int) (N' := 200) (a0 := (200, .inl (fun _ => (0 : Int32)))) hx hb (hts (.arrayClass .int) (List.mem_of_getElem? (i := 4) rfl)) rfl hK hP hD hS hA (fun _ => rfl) (by decide) (by decide) (Nat.le_of_ble_eq_true rfl) (Nat.le_of_ble_eq_true rfl) (Nat.le_of_ble_eq_true rfl) dX13_init_370 (fun q86 kq86 H hK hP hD hS => ?_)
  have hK : va_K (dC, dI) vwCl [(kq1, .int), (kq13, .byte), (kq72, .boolean), (kq86, .int)] s := hK
  replace hP : va_P (dC, dI) vwCl [(h, .inr (14, mL g85)), (q13, .inl (kq13, 200, .inl (fun _ => (0 : Int32)))), (q23, .inl (kq1, 128, .inl (fun _ => (0 : Int32)))), (q26, .inl (kq1, 20, .inl (fun _ => (0 : Int32)))), (q28, .inl (kq1, 20, .inl (fun _ => (0 : Int32)))), (q30, .inl (kq1, 20, .inl (fun _ => (0 : Int32)))), (q32, .inl (kq1, 20, .inl (fun _ => (0 : Int32)))), (q34, .inl (kq1, 20, .inl (fun _ => (0 : Int32)))), (q36, .inl (kq1, 20, .inl (fun _ => (0 : Int32)))), (q38, .inl (kq1, 20, .inl (fun _ => (0 : Int32)))), (q40, .inl (kq1, 20, .inl (fun _ => (0 : Int32)))), (q42, .inl (kq1, 320, .inl (fun _ => (0 : Int32)))), (q44, .inl (kq1, 320, .inl (fun _ => (0 : Int32)))), (q86, .inl (kq86, 200, .inl (fun _ => (0 : Int32))))] H := hP
  replace hD : va_D A [(h, .inr (14, mL g85)), (q13, .inl (kq13, 200, .inl (fun _ => (0 : Int32)))), (q23, .inl (kq1, 128, .inl (fun _ => (0 : Int32)))), (q26, .inl (kq1, 20, .inl (fun _ => (0 : Int32)))), (q28, .inl (kq1, 20, .inl (fun _ => (0 : Int32)))), (q30, .inl (kq1, 20, .inl (fun _ => (0 : Int32)))), (q32, .inl (kq1, 20, .inl (fun _ => (0 : Int32)))), (q34, .inl (kq1, 20, .inl (fun _ => (0 : Int32)))), (q36, .inl (kq1, 20, .inl (fun _ => (0 : Int32)))), (q38, .inl (kq1, 20, .inl (fun _ => (0 : Int32)))), (q40, .inl (kq1, 20, .inl (fun _ => (0 : Int32)))), (q42, .inl (kq1, 320, .inl (fun _ => (0 : Int32)))), (q44, .inl (kq1, 320, .inl (fun _ => (0 : Int32)))), (q86, .inl (kq86, 200, .inl (fun _ => (0 : Int32))))] := hD
  refine W.widen (k := 43) (n := 8648) (by omega) (by omega) ?_
  obtain rfl : kq1 = kq86 := ub_sa_int hK 0 3 rfl rfl
  have hK := hK.sub (tys' := [(kq1, .int), (kq13, .byte), (kq72, .boolean)]) [0, 1, 2] rfl
  refine va_putF (D := (dC, dI)) (ci := 14) (v := .ref q86) (ty := .array .int) (C := RX13) (T := TX13) (N := 97) hx hb hts iw_m_init_X13 tyX13 tyX13_ok nmX13 hown hK hP hD hS 0 rfl rfl 61 (by decide) (hts (.fieldLink RX13 141 "UnlikeBoatsModel" "wordSize" "[I") (List.mem_of_getElem? (i := 50) rfl)) (fun _ h9 => h9) rfl hin rfl (by decide +kernel) rfl rfl (mL_lt (Nat.le_of_ble_eq_true rfl)) dX13_init_372 (fun H locs hP hD hS => ?_)
  have hP : va_P (dC, dI) vwCl [(h, .inr (14, (mL g85).set 61 (.ref q86))), (q13, .inl (kq13, 200, .inl (fun _ => (0 : Int32)))), (q23, .inl (kq1, 128, .inl (fun _ => (0 : Int32)))), (q26, .inl (kq1, 20, .inl (fun _ => (0 : Int32)))), (q28, .inl (kq1, 20, .inl (fun _ => (0 : Int32)))), (q30, .inl (kq1, 20, .inl (fun _ => (0 : Int32)))), (q32, .inl (kq1, 20, .inl (fun _ => (0 : Int32)))), (q34, .inl (kq1, 20, .inl (fun _ => (0 : Int32)))), (q36, .inl (kq1, 20, .inl (fun _ => (0 : Int32)))), (q38, .inl (kq1, 20, .inl (fun _ => (0 : Int32)))), (q40, .inl (kq1, 20, .inl (fun _ => (0 : Int32)))), (q42, .inl (kq1, 320, .inl (fun _ => (0 : Int32)))), (q44, .inl (kq1, 320, .inl (fun _ => (0 : Int32)))), (q86, .inl (kq1, 200, .inl (fun _ => (0 : Int32))))] H := hP
  have hD : va_D A [(h, .inr (14, (mL g85).set 61 (.ref q86))), (q13, .inl (kq13, 200, .inl (fun _ => (0 : Int32)))), (q23, .inl (kq1, 128, .inl (fun _ => (0 : Int32)))), (q26, .inl (kq1, 20, .inl (fun _ => (0 : Int32)))), (q28, .inl (kq1, 20, .inl (fun _ => (0 : Int32)))), (q30, .inl (kq1, 20, .inl (fun _ => (0 : Int32)))), (q32, .inl (kq1, 20, .inl (fun _ => (0 : Int32)))), (q34, .inl (kq1, 20, .inl (fun _ => (0 : Int32)))), (q36, .inl (kq1, 20, .inl (fun _ => (0 : Int32)))), (q38, .inl (kq1, 20, .inl (fun _ => (0 : Int32)))), (q40, .inl (kq1, 20, .inl (fun _ => (0 : Int32)))), (q42, .inl (kq1, 320, .inl (fun _ => (0 : Int32)))), (q44, .inl (kq1, 320, .inl (fun _ => (0 : Int32)))), (q86, .inl (kq1, 200, .inl (fun _ => (0 : Int32))))] := hD
  obtain ⟨g87, eg87⟩ : ∃ z9, z9 = va_up g85 61 (.ref q86) := ⟨_, rfl⟩
  rw [mL_upd, ← eg87] at hP hD
  have hg87_0 : g87 0 = .int 0 := (congrFun eg87 0).trans ((va_up_ne _ _ (Nat.ne_of_beq_eq_false rfl)).trans hg85_0)
  have hg87_1 : g87 1 = .int 0 := (congrFun eg87 1).trans ((va_up_ne _ _ (Nat.ne_of_beq_eq_false rfl)).trans hg85_1)
  have hg87_8 : g87 8 = .int 0 := (congrFun eg87 8).trans ((va_up_ne _ _ (Nat.ne_of_beq_eq_false rfl)).trans hg85_8)
  have hg87_9 : g87 9 = .int 0 := (congrFun eg87 9).trans ((va_up_ne _ _ (Nat.ne_of_beq_eq_false rfl)).trans hg85_9)
  have hg87_16 : g87 16 = .int 0 := (congrFun eg87 16).trans ((va_up_ne _ _ (Nat.ne_of_beq_eq_false rfl)).trans hg85_16)
  have hg87_17 : g87 17 = .int 0 := (congrFun eg87 17).trans ((va_up_ne _ _ (Nat.ne_of_beq_eq_false rfl)).trans hg85_17)
  have hg87_46 : g87 46 = .int 0 := (congrFun eg87 46).trans ((va_up_ne _ _ (Nat.ne_of_beq_eq_false rfl)).trans hg85_46)
  have hg87_47 : g87 47 = .int 0 := (congrFun eg87 47).trans ((va_up_ne _ _ (Nat.ne_of_beq_eq_false rfl)).trans hg85_47)
  have hg87_48 : g87 48 = .int 0 := (congrFun eg87 48).trans ((va_up_ne _ _ (Nat.ne_of_beq_eq_false rfl)).trans hg85_48)
  have hg87_74 : g87 74 = .int 0 := (congrFun eg87 74).trans ((va_up_ne _ _ (Nat.ne_of_beq_eq_false rfl)).trans hg85_74)
  have hg87_75 : g87 75 = .int 0 := (congrFun eg87 75).trans ((va_up_ne _ _ (Nat.ne_of_beq_eq_false rfl)).trans hg85_75)
  have hg87_55 : g87 55 = .int 0 := (congrFun eg87 55).trans ((va_up_ne _ _ (Nat.ne_of_beq_eq_false rfl)).trans hg85_55)
  have hg87_10 : g87 10 = .ref q13 := (congrFun eg87 10).trans ((va_up_ne _ _ (Nat.ne_of_beq_eq_false rfl)).trans hg85_10)
  have hg87_15 : g87 15 = .ref q23 := (congrFun eg87 15).trans ((va_up_ne _ _ (Nat.ne_of_beq_eq_false rfl)).trans hg85_15)
  have hg87_27 : g87 27 = .ref q26 := (congrFun eg87 27).trans ((va_up_ne _ _ (Nat.ne_of_beq_eq_false rfl)).trans hg85_27)
  have hg87_28 : g87 28 = .ref q28 := (congrFun eg87 28).trans ((va_up_ne _ _ (Nat.ne_of_beq_eq_false rfl)).trans hg85_28)
  have hg87_29 : g87 29 = .ref q30 := (congrFun eg87 29).trans ((va_up_ne _ _ (Nat.ne_of_beq_eq_false rfl)).trans hg85_29)
  have hg87_30 : g87 30 = .ref q32 := (congrFun eg87 30).trans ((va_up_ne _ _ (Nat.ne_of_beq_eq_false rfl)).trans hg85_30)
  have hg87_31 : g87 31 = .ref q34 := (congrFun eg87 31).trans ((va_up_ne _ _ (Nat.ne_of_beq_eq_false rfl)).trans hg85_31)
  have hg87_32 : g87 32 = .ref q36 := (congrFun eg87 32).trans ((va_up_ne _ _ (Nat.ne_of_beq_eq_false rfl)).trans hg85_32)
  have hg87_33 : g87 33 = .ref q38 := (congrFun eg87 33).trans ((va_up_ne _ _ (Nat.ne_of_beq_eq_false rfl)).trans hg85_33)
  have hg87_34 : g87 34 = .ref q40 := (congrFun eg87 34).trans ((va_up_ne _ _ (Nat.ne_of_beq_eq_false rfl)).trans hg85_34)
  have hg87_35 : g87 35 = .ref q42 := (congrFun eg87 35).trans ((va_up_ne _ _ (Nat.ne_of_beq_eq_false rfl)).trans hg85_35)
  have hg87_36 : g87 36 = .ref q44 := (congrFun eg87 36).trans ((va_up_ne _ _ (Nat.ne_of_beq_eq_false rfl)).trans hg85_36)
  clear hg85_0 hg85_1 hg85_8 hg85_9 hg85_16 hg85_17 hg85_46 hg85_47 hg85_48 hg85_74 hg85_75 hg85_55 hg85_10 hg85_15 hg85_27 hg85_28 hg85_29 hg85_30 hg85_31 hg85_32 hg85_33 hg85_34 hg85_35 hg85_36
  have hg87_61 : g87 61 = .ref q86 := by rw [eg87]; exact va_up_self _ _ _
  replace hP := hP.sub (ws' := [(h, .inr (14, mL g87)), (q13, .inl (kq13, 200, .inl (fun _ => (0 : Int32)))), (q23, .inl (kq1, 128, .inl (fun _ => (0 : Int32)))), (q26, .inl (kq1, 20, .inl (fun _ => (0 : Int32)))), (q28, .inl (kq1, 20, .inl (fun _ => (0 : Int32)))), (q30, .inl (kq1, 20, .inl (fun _ => (0 : Int32)))), (q32, .inl (kq1, 20, .inl (fun _ => (0 : Int32)))), (q34, .inl (kq1, 20, .inl (fun _ => (0 : Int32)))), (q36, .inl (kq1, 20, .inl (fun _ => (0 : Int32)))), (q38, .inl (kq1, 20, .inl (fun _ => (0 : Int32)))), (q40, .inl (kq1, 20, .inl (fun _ => (0 : Int32)))), (q42, .inl (kq1, 320, .inl (fun _ => (0 : Int32)))), (q44, .inl (kq1, 320, .inl (fun _ => (0 : Int32))))]) [0, 1, 2, 3, 4, 5, 6, 7, 8, 9, 10, 11, 12] rfl
  replace hD := hD.sub (ws' := [(h, .inr (14, mL g87)), (q13, .inl (kq13, 200, .inl (fun _ => (0 : Int32)))), (q23, .inl (kq1, 128, .inl (fun _ => (0 : Int32)))), (q26, .inl (kq1, 20, .inl (fun _ => (0 : Int32)))), (q28, .inl (kq1, 20, .inl (fun _ => (0 : Int32)))), (q30, .inl (kq1, 20, .inl (fun _ => (0 : Int32)))), (q32, .inl (kq1, 20, .inl (fun _ => (0 : Int32)))), (q34, .inl (kq1, 20, .inl (fun _ => (0 : Int32)))), (q36, .inl (kq1, 20, .inl (fun _ => (0 : Int32)))), (q38, .inl (kq1, 20, .inl (fun _ => (0 : Int32)))), (q40, .inl (kq1, 20, .inl (fun _ => (0 : Int32)))), (q42, .inl (kq1, 320, .inl (fun _ => (0 : Int32)))), (q44, .inl (kq1, 320, .inl (fun _ => (0 : Int32))))]) [0, 1, 2, 3, 4, 5, 6, 7, 8, 9, 10, 11, 12] (by decide) rfl
  refine lv_aload_n hx hb dX13_init_375 rfl (lv_at hl 0 rfl) ?_
  refine lv_sipush (v := 200) hx hb dX13_init_376 (by decide) ?_
  refine va_newa (atype := .int) (ty := .int) (N' := 200) (a0 := (200, .inl (fun _ => (0 : Int32)))) hx hb (hts (.arrayClass .int) (List.mem_of_getElem? (i := 4) rfl)) rfl hK hP hD hS hA (fun _ => rfl) (by decide) (by decide) (Nat.le_of_ble_eq_true rfl) (Nat.le_of_ble_eq_true rfl) (Nat.le_of_ble_eq_true rfl) dX13_init_379 (fun q88 kq88 H hK hP hD hS => ?_)
  have hK : va_K (dC, dI) vwCl [(kq1, .int), (kq13, .byte), (kq72, .boolean), (kq88, .int)] s := hK
  replace hP : va_P (dC, dI) vwCl [(h, .inr (14, mL g87)), (q13, .inl (kq13, 200, .inl (fun _ => (0 : Int32)))), (q23, .inl (kq1, 128, .inl (fun _ => (0 : Int32)))), (q26, .inl (kq1, 20, .inl (fun _ => (0 : Int32)))), (q28, .inl (kq1, 20, .inl (fun _ => (0 : Int32)))), (q30, .inl (kq1, 20, .inl (fun _ => (0 : Int32)))), (q32, .inl (kq1, 20, .inl (fun _ => (0 : Int32)))), (q34, .inl (kq1, 20, .inl (fun _ => (0 : Int32)))), (q36, .inl (kq1, 20, .inl (fun _ => (0 : Int32)))), (q38, .inl (kq1, 20, .inl (fun _ => (0 : Int32)))), (q40, .inl (kq1, 20, .inl (fun _ => (0 : Int32)))), (q42, .inl (kq1, 320, .inl (fun _ => (0 : Int32)))), (q44, .inl (kq1, 320, .inl (fun _ => (0 : Int32)))), (q88, .inl (kq88, 200, .inl (fun _ => (0 : Int32))))] H := hP
  replace hD : va_D A [(h, .inr (14, mL g87)), (q13, .inl (kq13, 200, .inl (fun _ => (0 : Int32)))), (q23, .inl (kq1, 128, .inl (fun _ => (0 : Int32)))), (q26, .inl (kq1, 20, .inl (fun _ => (0 : Int32)))), (q28, .inl (kq1, 20, .inl (fun _ => (0 : Int32)))), (q30, .inl (kq1, 20, .inl (fun _ => (0 : Int32)))), (q32, .inl (kq1, 20, .inl (fun _ => (0 : Int32)))), (q34, .inl (kq1, 20, .inl (fun _ => (0 : Int32)))), (q36, .inl (kq1, 20, .inl (fun _ => (0 : Int32)))), (q38, .inl (kq1, 20, .inl (fun _ => (0 : Int32)))), (q40, .inl (kq1, 20, .inl (fun _ => (0 : Int32)))), (q42, .inl (kq1, 320, .inl (fun _ => (0 : Int32)))), (q44, .inl (kq1, 320, .inl (fun _ => (0 : Int32)))), (q88, .inl (kq88, 200, .inl (fun _ => (0 : Int32))))] := hD
  refine W.widen (k := 44) (n := 8848) (by omega) (by omega) ?_
  obtain rfl : kq1 = kq88 := ub_sa_int hK 0 3 rfl rfl
  have hK := hK.sub (tys' := [(kq1, .int), (kq13, .byte), (kq72, .boolean)]) [0, 1, 2] rfl
  refine va_putF (D := (dC, dI)) (ci := 14) (v := .ref q88) (ty := .array .int) (C := RX13) (T := TX13) (N := 97) hx hb hts iw_m_init_X13 tyX13 tyX13_ok nmX13 hown hK hP hD hS 0 rfl rfl 62 (by decide) (hts (.fieldLink RX13 144 "UnlikeBoatsModel" "wordWays" "[I") (List.mem_of_getElem? (i := 51) rfl)) (fun _ h9 => h9) rfl hin rfl (by decide +kernel) rfl rfl (mL_lt (Nat.le_of_ble_eq_true rfl)) dX13_init_381 (fun H locs hP hD hS => ?_)
  have hP : va_P (dC, dI) vwCl [(h, .inr (14, (mL g87).set 62 (.ref q88))), (q13, .inl (kq13, 200, .inl (fun _ => (0 : Int32)))), (q23, .inl (kq1, 128, .inl (fun _ => (0 : Int32)))), (q26, .inl (kq1, 20, .inl (fun _ => (0 : Int32)))), (q28, .inl (kq1, 20, .inl (fun _ => (0 : Int32)))), (q30, .inl (kq1, 20, .inl (fun _ => (0 : Int32)))), (q32, .inl (kq1, 20, .inl (fun _ => (0 : Int32)))), (q34, .inl (kq1, 20, .inl (fun _ => (0 : Int32)))), (q36, .inl (kq1, 20, .inl (fun _ => (0 : Int32)))), (q38, .inl (kq1, 20, .inl (fun _ => (0 : Int32)))), (q40, .inl (kq1, 20, .inl (fun _ => (0 : Int32)))), (q42, .inl (kq1, 320, .inl (fun _ => (0 : Int32)))), (q44, .inl (kq1, 320, .inl (fun _ => (0 : Int32)))), (q88, .inl (kq1, 200, .inl (fun _ => (0 : Int32))))] H := hP
  have hD : va_D A [(h, .inr (14, (mL g87).set 62 (.ref q88))), (q13, .inl (kq13, 200, .inl (fun _ => (0 : Int32)))), (q23, .inl (kq1, 128, .inl (fun _ => (0 : Int32)))), (q26, .inl (kq1, 20, .inl (fun _ => (0 : Int32)))), (q28, .inl (kq1, 20, .inl (fun _ => (0 : Int32)))), (q30, .inl (kq1, 20, .inl (fun _ => (0 : Int32)))), (q32, .inl (kq1, 20, .inl (fun _ => (0 : Int32)))), (q34, .inl (kq1, 20, .inl (fun _ => (0 : Int32)))), (q36, .inl (kq1, 20, .inl (fun _ => (0 : Int32)))), (q38, .inl (kq1, 20, .inl (fun _ => (0 : Int32)))), (q40, .inl (kq1, 20, .inl (fun _ => (0 : Int32)))), (q42, .inl (kq1, 320, .inl (fun _ => (0 : Int32)))), (q44, .inl (kq1, 320, .inl (fun _ => (0 : Int32)))), (q88, .inl (kq1, 200, .inl (fun _ => (0 : Int32))))] := hD
  obtain ⟨g89, eg89⟩ : ∃ z9, z9 = va_up g87 62 (.ref q88) := ⟨_, rfl⟩
  rw [mL_upd, ← eg89] at hP hD
  have hg89_0 : g89 0 = .int 0 := (congrFun eg89 0).trans ((va_up_ne _ _ (Nat.ne_of_beq_eq_false rfl)).trans hg87_0)
  have hg89_1 : g89 1 = .int 0 := (congrFun eg89 1).trans ((va_up_ne _ _ (Nat.ne_of_beq_eq_false rfl)).trans hg87_1)
  have hg89_8 : g89 8 = .int 0 := (congrFun eg89 8).trans ((va_up_ne _ _ (Nat.ne_of_beq_eq_false rfl)).trans hg87_8)
  have hg89_9 : g89 9 = .int 0 := (congrFun eg89 9).trans ((va_up_ne _ _ (Nat.ne_of_beq_eq_false rfl)).trans hg87_9)
  have hg89_16 : g89 16 = .int 0 := (congrFun eg89 16).trans ((va_up_ne _ _ (Nat.ne_of_beq_eq_false rfl)).trans hg87_16)
  have hg89_17 : g89 17 = .int 0 := (congrFun eg89 17).trans ((va_up_ne _ _ (Nat.ne_of_beq_eq_false rfl)).trans hg87_17)
  have hg89_46 : g89 46 = .int 0 := (congrFun eg89 46).trans ((va_up_ne _ _ (Nat.ne_of_beq_eq_false rfl)).trans hg87_46)
  have hg89_47 : g89 47 = .int 0 := (congrFun eg89 47).trans ((va_up_ne _ _ (Nat.ne_of_beq_eq_false rfl)).trans hg87_47)
  have hg89_48 : g89 48 = .int 0 := (congrFun eg89 48).trans ((va_up_ne _ _ (Nat.ne_of_beq_eq_false rfl)).trans hg87_48)
  have hg89_74 : g89 74 = .int 0 := (congrFun eg89 74).trans ((va_up_ne _ _ (Nat.ne_of_beq_eq_false rfl)).trans hg87_74)
  have hg89_75 : g89 75 = .int 0 := (congrFun eg89 75).trans ((va_up_ne _ _ (Nat.ne_of_beq_eq_false rfl)).trans hg87_75)
  have hg89_55 : g89 55 = .int 0 := (congrFun eg89 55).trans ((va_up_ne _ _ (Nat.ne_of_beq_eq_false rfl)).trans hg87_55)
  have hg89_10 : g89 10 = .ref q13 := (congrFun eg89 10).trans ((va_up_ne _ _ (Nat.ne_of_beq_eq_false rfl)).trans hg87_10)
  have hg89_15 : g89 15 = .ref q23 := (congrFun eg89 15).trans ((va_up_ne _ _ (Nat.ne_of_beq_eq_false rfl)).trans hg87_15)
  have hg89_27 : g89 27 = .ref q26 := (congrFun eg89 27).trans ((va_up_ne _ _ (Nat.ne_of_beq_eq_false rfl)).trans hg87_27)
  have hg89_28 : g89 28 = .ref q28 := (congrFun eg89 28).trans ((va_up_ne _ _ (Nat.ne_of_beq_eq_false rfl)).trans hg87_28)
  have hg89_29 : g89 29 = .ref q30 := (congrFun eg89 29).trans ((va_up_ne _ _ (Nat.ne_of_beq_eq_false rfl)).trans hg87_29)
  have hg89_30 : g89 30 = .ref q32 := (congrFun eg89 30).trans ((va_up_ne _ _ (Nat.ne_of_beq_eq_false rfl)).trans hg87_30)
  have hg89_31 : g89 31 = .ref q34 := (congrFun eg89 31).trans ((va_up_ne _ _ (Nat.ne_of_beq_eq_false rfl)).trans hg87_31)
  have hg89_32 : g89 32 = .ref q36 := (congrFun eg89 32).trans ((va_up_ne _ _ (Nat.ne_of_beq_eq_false rfl)).trans hg87_32)
  have hg89_33 : g89 33 = .ref q38 := (congrFun eg89 33).trans ((va_up_ne _ _ (Nat.ne_of_beq_eq_false rfl)).trans hg87_33)
  have hg89_34 : g89 34 = .ref q40 := (congrFun eg89 34).trans ((va_up_ne _ _ (Nat.ne_of_beq_eq_false rfl)).trans hg87_34)
  have hg89_35 : g89 35 = .ref q42 := (congrFun eg89 35).trans ((va_up_ne _ _ (Nat.ne_of_beq_eq_false rfl)).trans hg87_35)
  have hg89_36 : g89 36 = .ref q44 := (congrFun eg89 36).trans ((va_up_ne _ _ (Nat.ne_of_beq_eq_false rfl)).trans hg87_36)
  clear hg87_0 hg87_1 hg87_8 hg87_9 hg87_16 hg87_17 hg87_46 hg87_47 hg87_48 hg87_74 hg87_75 hg87_55 hg87_10 hg87_15 hg87_27 hg87_28 hg87_29 hg87_30 hg87_31 hg87_32 hg87_33 hg87_34 hg87_35 hg87_36
  have hg89_62 : g89 62 = .ref q88 := by rw [eg89]; exact va_up_self _ _ _
  replace hP := hP.sub (ws' := [(h, .inr (14, mL g89)), (q13, .inl (kq13, 200, .inl (fun _ => (0 : Int32)))), (q23, .inl (kq1, 128, .inl (fun _ => (0 : Int32)))), (q26, .inl (kq1, 20, .inl (fun _ => (0 : Int32)))), (q28, .inl (kq1, 20, .inl (fun _ => (0 : Int32)))), (q30, .inl (kq1, 20, .inl (fun _ => (0 : Int32)))), (q32, .inl (kq1, 20, .inl (fun _ => (0 : Int32)))), (q34, .inl (kq1, 20, .inl (fun _ => (0 : Int32)))), (q36, .inl (kq1, 20, .inl (fun _ => (0 : Int32)))), (q38, .inl (kq1, 20, .inl (fun _ => (0 : Int32)))), (q40, .inl (kq1, 20, .inl (fun _ => (0 : Int32)))), (q42, .inl (kq1, 320, .inl (fun _ => (0 : Int32)))), (q44, .inl (kq1, 320, .inl (fun _ => (0 : Int32))))]) [0, 1, 2, 3, 4, 5, 6, 7, 8, 9, 10, 11, 12] rfl
  replace hD := hD.sub (ws' := [(h, .inr (14, mL g89)), (q13, .inl (kq13, 200, .inl (fun _ => (0 : Int32)))), (q23, .inl (kq1, 128, .inl (fun _ => (0 : Int32)))), (q26, .inl (kq1, 20, .inl (fun _ => (0 : Int32)))), (q28, .inl (kq1, 20, .inl (fun _ => (0 : Int32)))), (q30, .inl (kq1, 20, .inl (fun _ => (0 : Int32)))), (q32, .inl (kq1, 20, .inl (fun _ => (0 : Int32)))), (q34, .inl (kq1, 20, .inl (fun _ => (0 : Int32)))), (q36, .inl (kq1, 20, .inl (fun _ => (0 : Int32)))), (q38, .inl (kq1, 20, .inl (fun _ => (0 : Int32)))), (q40, .inl (kq1, 20, .inl (fun _ => (0 : Int32)))), (q42, .inl (kq1, 320, .inl (fun _ => (0 : Int32)))), (q44, .inl (kq1, 320, .inl (fun _ => (0 : Int32))))]) [0, 1, 2, 3, 4, 5, 6, 7, 8, 9, 10, 11, 12] (by decide) rfl
  refine lv_aload_n hx hb dX13_init_384 rfl (lv_at hl 0 rfl) ?_
  refine lv_sipush (v := 200) hx hb dX13_init_385 (by decide) ?_
  refine va_newa (atype := .int) (ty := .int) (N' := 200) (a0 := (200, .inl (fun _ => (0 : Int32)))) hx hb (hts (.arrayClass .int) (List.mem_of_getElem? (i := 4) rfl)) rfl hK hP hD hS hA (fun _ => rfl) (by decide) (by decide) (Nat.le_of_ble_eq_true rfl) (Nat.le_of_ble_eq_true rfl) (Nat.le_of_ble_eq_true rfl) dX13_init_388 (fun q90 kq90 H hK hP hD hS => ?_)
  have hK : va_K (dC, dI) vwCl [(kq1, .int), (kq13, .byte), (kq72, .boolean), (kq90, .int)] s := hK
  replace hP : va_P (dC, dI) vwCl [(h, .inr (14, mL g89)), (q13, .inl (kq13, 200, .inl (fun _ => (0 : Int32)))), (q23, .inl (kq1, 128, .inl (fun _ => (0 : Int32)))), (q26, .inl (kq1, 20, .inl (fun _ => (0 : Int32)))), (q28, .inl (kq1, 20, .inl (fun _ => (0 : Int32)))), (q30, .inl (kq1, 20, .inl (fun _ => (0 : Int32)))), (q32, .inl (kq1, 20, .inl (fun _ => (0 : Int32)))), (q34, .inl (kq1, 20, .inl (fun _ => (0 : Int32)))), (q36, .inl (kq1, 20, .inl (fun _ => (0 : Int32)))), (q38, .inl (kq1, 20, .inl (fun _ => (0 : Int32)))), (q40, .inl (kq1, 20, .inl (fun _ => (0 : Int32)))), (q42, .inl (kq1, 320, .inl (fun _ => (0 : Int32)))), (q44, .inl (kq1, 320, .inl (fun _ => (0 : Int32)))), (q90, .inl (kq90, 200, .inl (fun _ => (0 : Int32))))] H := hP
  replace hD : va_D A [(h, .inr (14, mL g89)), (q13, .inl (kq13, 200, .inl (fun _ => (0 : Int32)))), (q23, .inl (kq1, 128, .inl (fun _ => (0 : Int32)))), (q26, .inl (kq1, 20, .inl (fun _ => (0 : Int32)))), (q28, .inl (kq1, 20, .inl (fun _ => (0 : Int32)))), (q30, .inl (kq1, 20, .inl (fun _ => (0 : Int32)))), (q32, .inl (kq1, 20, .inl (fun _ => (0 : Int32)))), (q34, .inl (kq1, 20, .inl (fun _ => (0 : Int32)))), (q36, .inl (kq1, 20, .inl (fun _ => (0 : Int32)))), (q38, .inl (kq1, 20, .inl (fun _ => (0 : Int32)))), (q40, .inl (kq1, 20, .inl (fun _ => (0 : Int32)))), (q42, .inl (kq1, 320, .inl (fun _ => (0 : Int32)))), (q44, .inl (kq1, 320, .inl (fun _ => (0 : Int32)))), (q90, .inl (kq90, 200, .inl (fun _ => (0 : Int32))))] := hD
  refine W.widen (k := 45) (n := 9048) (by omega) (by omega) ?_
  obtain rfl : kq1 = kq90 := ub_sa_int hK 0 3 rfl rfl
  have hK := hK.sub (tys' := [(kq1, .int), (kq13, .byte), (kq72, .boolean)]) [0, 1, 2] rfl
  refine va_putF (D := (dC, dI)) (ci := 14) (v := .ref q90) (ty := .array .int) (C := RX13) (T := TX13) (N := 97) hx hb hts iw_m_init_X13 tyX13 tyX13_ok nmX13 hown hK hP hD hS 0 rfl rfl 63 (by decide) (hts (.fieldLink RX13 147 "UnlikeBoatsModel" "wordTold" "[I") (List.mem_of_getElem? (i := 52) rfl)) (fun _ h9 => h9) rfl hin rfl (by decide +kernel) rfl rfl (mL_lt (Nat.le_of_ble_eq_true rfl)) dX13_init_390 (fun H locs hP hD hS => ?_)
  have hP : va_P (dC, dI) vwCl [(h, .inr (14, (mL g89).set 63 (.ref q90))), (q13, .inl (kq13, 200, .inl (fun _ => (0 : Int32)))), (q23, .inl (kq1, 128, .inl (fun _ => (0 : Int32)))), (q26, .inl (kq1, 20, .inl (fun _ => (0 : Int32)))), (q28, .inl (kq1, 20, .inl (fun _ => (0 : Int32)))), (q30, .inl (kq1, 20, .inl (fun _ => (0 : Int32)))), (q32, .inl (kq1, 20, .inl (fun _ => (0 : Int32)))), (q34, .inl (kq1, 20, .inl (fun _ => (0 : Int32)))), (q36, .inl (kq1, 20, .inl (fun _ => (0 : Int32)))), (q38, .inl (kq1, 20, .inl (fun _ => (0 : Int32)))), (q40, .inl (kq1, 20, .inl (fun _ => (0 : Int32)))), (q42, .inl (kq1, 320, .inl (fun _ => (0 : Int32)))), (q44, .inl (kq1, 320, .inl (fun _ => (0 : Int32)))), (q90, .inl (kq1, 200, .inl (fun _ => (0 : Int32))))] H := hP
  have hD : va_D A [(h, .inr (14, (mL g89).set 63 (.ref q90))), (q13, .inl (kq13, 200, .inl (fun _ => (0 : Int32)))), (q23, .inl (kq1, 128, .inl (fun _ => (0 : Int32)))), (q26, .inl (kq1, 20, .inl (fun _ => (0 : Int32)))), (q28, .inl (kq1, 20, .inl (fun _ => (0 : Int32)))), (q30, .inl (kq1, 20, .inl (fun _ => (0 : Int32)))), (q32, .inl (kq1, 20, .inl (fun _ => (0 : Int32)))), (q34, .inl (kq1, 20, .inl (fun _ => (0 : Int32)))), (q36, .inl (kq1, 20, .inl (fun _ => (0 : Int32)))), (q38, .inl (kq1, 20, .inl (fun _ => (0 : Int32)))), (q40, .inl (kq1, 20, .inl (fun _ => (0 : Int32)))), (q42, .inl (kq1, 320, .inl (fun _ => (0 : Int32)))), (q44, .inl (kq1, 320, .inl (fun _ => (0 : Int32)))), (q90, .inl (kq1, 200, .inl (fun _ => (0 : Int32))))] := hD
  obtain ⟨g91, eg91⟩ : ∃ z9, z9 = va_up g89 63 (.ref q90) := ⟨_, rfl⟩
  rw [mL_upd, ← eg91] at hP hD
  have hg91_0 : g91 0 = .int 0 := (congrFun eg91 0).trans ((va_up_ne _ _ (Nat.ne_of_beq_eq_false rfl)).trans hg89_0)
  have hg91_1 : g91 1 = .int 0 := (congrFun eg91 1).trans ((va_up_ne _ _ (Nat.ne_of_beq_eq_false rfl)).trans hg89_1)
  have hg91_8 : g91 8 = .int 0 := (congrFun eg91 8).trans ((va_up_ne _ _ (Nat.ne_of_beq_eq_false rfl)).trans hg89_8)
  have hg91_9 : g91 9 = .int 0 := (congrFun eg91 9).trans ((va_up_ne _ _ (Nat.ne_of_beq_eq_false rfl)).trans hg89_9)
  have hg91_16 : g91 16 = .int 0 := (congrFun eg91 16).trans ((va_up_ne _ _ (Nat.ne_of_beq_eq_false rfl)).trans hg89_16)
  have hg91_17 : g91 17 = .int 0 := (congrFun eg91 17).trans ((va_up_ne _ _ (Nat.ne_of_beq_eq_false rfl)).trans hg89_17)
  have hg91_46 : g91 46 = .int 0 := (congrFun eg91 46).trans ((va_up_ne _ _ (Nat.ne_of_beq_eq_false rfl)).trans hg89_46)
  have hg91_47 : g91 47 = .int 0 := (congrFun eg91 47).trans ((va_up_ne _ _ (Nat.ne_of_beq_eq_false rfl)).trans hg89_47)
  have hg91_48 : g91 48 = .int 0 := (congrFun eg91 48).trans ((va_up_ne _ _ (Nat.ne_of_beq_eq_false rfl)).trans hg89_48)
  have hg91_74 : g91 74 = .int 0 := (congrFun eg91 74).trans ((va_up_ne _ _ (Nat.ne_of_beq_eq_false rfl)).trans hg89_74)
  have hg91_75 : g91 75 = .int 0 := (congrFun eg91 75).trans ((va_up_ne _ _ (Nat.ne_of_beq_eq_false rfl)).trans hg89_75)
  have hg91_55 : g91 55 = .int 0 := (congrFun eg91 55).trans ((va_up_ne _ _ (Nat.ne_of_beq_eq_false rfl)).trans hg89_55)
  have hg91_10 : g91 10 = .ref q13 := (congrFun eg91 10).trans ((va_up_ne _ _ (Nat.ne_of_beq_eq_false rfl)).trans hg89_10)
  have hg91_15 : g91 15 = .ref q23 := (congrFun eg91 15).trans ((va_up_ne _ _ (Nat.ne_of_beq_eq_false rfl)).trans hg89_15)
  have hg91_27 : g91 27 = .ref q26 := (congrFun eg91 27).trans ((va_up_ne _ _ (Nat.ne_of_beq_eq_false rfl)).trans hg89_27)
  have hg91_28 : g91 28 = .ref q28 := (congrFun eg91 28).trans ((va_up_ne _ _ (Nat.ne_of_beq_eq_false rfl)).trans hg89_28)
  have hg91_29 : g91 29 = .ref q30 := (congrFun eg91 29).trans ((va_up_ne _ _ (Nat.ne_of_beq_eq_false rfl)).trans hg89_29)
  have hg91_30 : g91 30 = .ref q32 := (congrFun eg91 30).trans ((va_up_ne _ _ (Nat.ne_of_beq_eq_false rfl)).trans hg89_30)
  have hg91_31 : g91 31 = .ref q34 := (congrFun eg91 31).trans ((va_up_ne _ _ (Nat.ne_of_beq_eq_false rfl)).trans hg89_31)
  have hg91_32 : g91 32 = .ref q36 := (congrFun eg91 32).trans ((va_up_ne _ _ (Nat.ne_of_beq_eq_false rfl)).trans hg89_32)
  have hg91_33 : g91 33 = .ref q38 := (congrFun eg91 33).trans ((va_up_ne _ _ (Nat.ne_of_beq_eq_false rfl)).trans hg89_33)
  have hg91_34 : g91 34 = .ref q40 := (congrFun eg91 34).trans ((va_up_ne _ _ (Nat.ne_of_beq_eq_false rfl)).trans hg89_34)
  have hg91_35 : g91 35 = .ref q42 := (congrFun eg91 35).trans ((va_up_ne _ _ (Nat.ne_of_beq_eq_false rfl)).trans hg89_35)
  have hg91_36 : g91 36 = .ref q44 := (congrFun eg91 36).trans ((va_up_ne _ _ (Nat.ne_of_beq_eq_false rfl)).trans hg89_36)
  clear hg89_0 hg89_1 hg89_8 hg89_9 hg89_16 hg89_17 hg89_46 hg89_47 hg89_48 hg89_74 hg89_75 hg89_55 hg89_10 hg89_15 hg89_27 hg89_28 hg89_29 hg89_30 hg89_31 hg89_32 hg89_33 hg89_34 hg89_35 hg89_36
  have hg91_63 : g91 63 = .ref q90 := by rw [eg91]; exact va_up_self _ _ _
  replace hP := hP.sub (ws' := [(h, .inr (14, mL g91)), (q13, .inl (kq13, 200, .inl (fun _ => (0 : Int32)))), (q23, .inl (kq1, 128, .inl (fun _ => (0 : Int32)))), (q26, .inl (kq1, 20, .inl (fun _ => (0 : Int32)))), (q28, .inl (kq1, 20, .inl (fun _ => (0 : Int32)))), (q30, .inl (kq1, 20, .inl (fun _ => (0 : Int32)))), (q32, .inl (kq1, 20, .inl (fun _ => (0 : Int32)))), (q34, .inl (kq1, 20, .inl (fun _ => (0 : Int32)))), (q36, .inl (kq1, 20, .inl (fun _ => (0 : Int32)))), (q38, .inl (kq1, 20, .inl (fun _ => (0 : Int32)))), (q40, .inl (kq1, 20, .inl (fun _ => (0 : Int32)))), (q42, .inl (kq1, 320, .inl (fun _ => (0 : Int32)))), (q44, .inl (kq1, 320, .inl (fun _ => (0 : Int32))))]) [0, 1, 2, 3, 4, 5, 6, 7, 8, 9, 10, 11, 12] rfl
  replace hD := hD.sub (ws' := [(h, .inr (14, mL g91)), (q13, .inl (kq13, 200, .inl (fun _ => (0 : Int32)))), (q23, .inl (kq1, 128, .inl (fun _ => (0 : Int32)))), (q26, .inl (kq1, 20, .inl (fun _ => (0 : Int32)))), (q28, .inl (kq1, 20, .inl (fun _ => (0 : Int32)))), (q30, .inl (kq1, 20, .inl (fun _ => (0 : Int32)))), (q32, .inl (kq1, 20, .inl (fun _ => (0 : Int32)))), (q34, .inl (kq1, 20, .inl (fun _ => (0 : Int32)))), (q36, .inl (kq1, 20, .inl (fun _ => (0 : Int32)))), (q38, .inl (kq1, 20, .inl (fun _ => (0 : Int32)))), (q40, .inl (kq1, 20, .inl (fun _ => (0 : Int32)))), (q42, .inl (kq1, 320, .inl (fun _ => (0 : Int32)))), (q44, .inl (kq1, 320, .inl (fun _ => (0 : Int32))))]) [0, 1, 2, 3, 4, 5, 6, 7, 8, 9, 10, 11, 12] (by decide) rfl
  refine lv_aload_n hx hb dX13_init_393 rfl (lv_at hl 0 rfl) ?_
  refine lv_bipush (v := 30) hx hb dX13_init_394 (by decide) ?_
  refine va_newa (atype := .int) (ty := .int) (N' := 30) (a0 := (30, .inl (fun _ => (0 : Int32)))) hx hb (hts (.arrayClass .int) (List.mem_of_getElem? (i := 4) rfl)) rfl hK hP hD hS hA (fun _ => rfl) (by decide) (by decide) (Nat.le_of_ble_eq_true rfl) (Nat.le_of_ble_eq_true rfl) (Nat.le_of_ble_eq_true rfl) dX13_init_396 (fun q92 kq92 H hK hP hD hS => ?_)
  have hK : va_K (dC, dI) vwCl [(kq1, .int), (kq13, .byte), (kq72, .boolean), (kq92, .int)] s := hK
  replace hP : va_P (dC, dI) vwCl [(h, .inr (14, mL g91)), (q13, .inl (kq13, 200, .inl (fun _ => (0 : Int32)))), (q23, .inl (kq1, 128, .inl (fun _ => (0 : Int32)))), (q26, .inl (kq1, 20, .inl (fun _ => (0 : Int32)))), (q28, .inl (kq1, 20, .inl (fun _ => (0 : Int32)))), (q30, .inl (kq1, 20, .inl (fun _ => (0 : Int32)))), (q32, .inl (kq1, 20, .inl (fun _ => (0 : Int32)))), (q34, .inl (kq1, 20, .inl (fun _ => (0 : Int32)))), (q36, .inl (kq1, 20, .inl (fun _ => (0 : Int32)))), (q38, .inl (kq1, 20, .inl (fun _ => (0 : Int32)))), (q40, .inl (kq1, 20, .inl (fun _ => (0 : Int32)))), (q42, .inl (kq1, 320, .inl (fun _ => (0 : Int32)))), (q44, .inl (kq1, 320, .inl (fun _ => (0 : Int32)))), (q92, .inl (kq92, 30, .inl (fun _ => (0 : Int32))))] H := hP
  replace hD : va_D A [(h, .inr (14, mL g91)), (q13, .inl (kq13, 200, .inl (fun _ => (0 : Int32)))), (q23, .inl (kq1, 128, .inl (fun _ => (0 : Int32)))), (q26, .inl (kq1, 20, .inl (fun _ => (0 : Int32)))), (q28, .inl (kq1, 20, .inl (fun _ => (0 : Int32)))), (q30, .inl (kq1, 20, .inl (fun _ => (0 : Int32)))), (q32, .inl (kq1, 20, .inl (fun _ => (0 : Int32)))), (q34, .inl (kq1, 20, .inl (fun _ => (0 : Int32)))), (q36, .inl (kq1, 20, .inl (fun _ => (0 : Int32)))), (q38, .inl (kq1, 20, .inl (fun _ => (0 : Int32)))), (q40, .inl (kq1, 20, .inl (fun _ => (0 : Int32)))), (q42, .inl (kq1, 320, .inl (fun _ => (0 : Int32)))), (q44, .inl (kq1, 320, .inl (fun _ => (0 : Int32)))), (q92, .inl (kq92, 30, .inl (fun _ => (0 : Int32))))] := hD
  refine W.widen (k := 46) (n := 9078) (by omega) (by omega) ?_
  obtain rfl : kq1 = kq92 := ub_sa_int hK 0 3 rfl rfl
  have hK := hK.sub (tys' := [(kq1, .int), (kq13, .byte), (kq72, .boolean)]) [0, 1, 2] rfl
  refine va_putF (D := (dC, dI)) (ci := 14) (v := .ref q92) (ty := .array .int) (C := RX13) (T := TX13) (N := 97) hx hb hts iw_m_init_X13 tyX13 tyX13_ok nmX13 hown hK hP hD hS 0 rfl rfl 64 (by decide) (hts (.fieldLink RX13 150 "UnlikeBoatsModel" "protestRace" "[I") (List.mem_of_getElem? (i := 53) rfl)) (fun _ h9 => h9) rfl hin rfl (by decide +kernel) rfl rfl (mL_lt (Nat.le_of_ble_eq_true rfl)) dX13_init_398 (fun H locs hP hD hS => ?_)
  have hP : va_P (dC, dI) vwCl [(h, .inr (14, (mL g91).set 64 (.ref q92))), (q13, .inl (kq13, 200, .inl (fun _ => (0 : Int32)))), (q23, .inl (kq1, 128, .inl (fun _ => (0 : Int32)))), (q26, .inl (kq1, 20, .inl (fun _ => (0 : Int32)))), (q28, .inl (kq1, 20, .inl (fun _ => (0 : Int32)))), (q30, .inl (kq1, 20, .inl (fun _ => (0 : Int32)))), (q32, .inl (kq1, 20, .inl (fun _ => (0 : Int32)))), (q34, .inl (kq1, 20, .inl (fun _ => (0 : Int32)))), (q36, .inl (kq1, 20, .inl (fun _ => (0 : Int32)))), (q38, .inl (kq1, 20, .inl (fun _ => (0 : Int32)))), (q40, .inl (kq1, 20, .inl (fun _ => (0 : Int32)))), (q42, .inl (kq1, 320, .inl (fun _ => (0 : Int32)))), (q44, .inl (kq1, 320, .inl (fun _ => (0 : Int32)))), (q92, .inl (kq1, 30, .inl (fun _ => (0 : Int32))))] H := hP
  have hD : va_D A [(h, .inr (14, (mL g91).set 64 (.ref q92))), (q13, .inl (kq13, 200, .inl (fun _ => (0 : Int32)))), (q23, .inl (kq1, 128, .inl (fun _ => (0 : Int32)))), (q26, .inl (kq1, 20, .inl (fun _ => (0 : Int32)))), (q28, .inl (kq1, 20, .inl (fun _ => (0 : Int32)))), (q30, .inl (kq1, 20, .inl (fun _ => (0 : Int32)))), (q32, .inl (kq1, 20, .inl (fun _ => (0 : Int32)))), (q34, .inl (kq1, 20, .inl (fun _ => (0 : Int32)))), (q36, .inl (kq1, 20, .inl (fun _ => (0 : Int32)))), (q38, .inl (kq1, 20, .inl (fun _ => (0 : Int32)))), (q40, .inl (kq1, 20, .inl (fun _ => (0 : Int32)))), (q42, .inl (kq1, 320, .inl (fun _ => (0 : Int32)))), (q44, .inl (kq1, 320, .inl (fun _ => (0 : Int32)))), (q92, .inl (kq1, 30, .inl (fun _ => (0 : Int32))))] := hD
  obtain ⟨g93, eg93⟩ : ∃ z9, z9 = va_up g91 64 (.ref q92) := ⟨_, rfl⟩
  rw [mL_upd, ← eg93] at hP hD
  have hg93_0 : g93 0 = .int 0 := (congrFun eg93 0).trans ((va_up_ne _ _ (Nat.ne_of_beq_eq_false rfl)).trans hg91_0)
  have hg93_1 : g93 1 = .int 0 := (congrFun eg93 1).trans ((va_up_ne _ _ (Nat.ne_of_beq_eq_false rfl)).trans hg91_1)
  have hg93_8 : g93 8 = .int 0 := (congrFun eg93 8).trans ((va_up_ne _ _ (Nat.ne_of_beq_eq_false rfl)).trans hg91_8)
  have hg93_9 : g93 9 = .int 0 := (congrFun eg93 9).trans ((va_up_ne _ _ (Nat.ne_of_beq_eq_false rfl)).trans hg91_9)
  have hg93_16 : g93 16 = .int 0 := (congrFun eg93 16).trans ((va_up_ne _ _ (Nat.ne_of_beq_eq_false rfl)).trans hg91_16)
  have hg93_17 : g93 17 = .int 0 := (congrFun eg93 17).trans ((va_up_ne _ _ (Nat.ne_of_beq_eq_false rfl)).trans hg91_17)
  have hg93_46 : g93 46 = .int 0 := (congrFun eg93 46).trans ((va_up_ne _ _ (Nat.ne_of_beq_eq_false rfl)).trans hg91_46)
  have hg93_47 : g93 47 = .int 0 := (congrFun eg93 47).trans ((va_up_ne _ _ (Nat.ne_of_beq_eq_false rfl)).trans hg91_47)
  have hg93_48 : g93 48 = .int 0 := (congrFun eg93 48).trans ((va_up_ne _ _ (Nat.ne_of_beq_eq_false rfl)).trans hg91_48)
  have hg93_74 : g93 74 = .int 0 := (congrFun eg93 74).trans ((va_up_ne _ _ (Nat.ne_of_beq_eq_false rfl)).trans hg91_74)
  have hg93_75 : g93 75 = .int 0 := (congrFun eg93 75).trans ((va_up_ne _ _ (Nat.ne_of_beq_eq_false rfl)).trans hg91_75)
  have hg93_55 : g93 55 = .int 0 := (congrFun eg93 55).trans ((va_up_ne _ _ (Nat.ne_of_beq_eq_false rfl)).trans hg91_55)
  have hg93_10 : g93 10 = .ref q13 := (congrFun eg93 10).trans ((va_up_ne _ _ (Nat.ne_of_beq_eq_false rfl)).trans hg91_10)
  have hg93_15 : g93 15 = .ref q23 := (congrFun eg93 15).trans ((va_up_ne _ _ (Nat.ne_of_beq_eq_false rfl)).trans hg91_15)
  have hg93_27 : g93 27 = .ref q26 := (congrFun eg93 27).trans ((va_up_ne _ _ (Nat.ne_of_beq_eq_false rfl)).trans hg91_27)
  have hg93_28 : g93 28 = .ref q28 := (congrFun eg93 28).trans ((va_up_ne _ _ (Nat.ne_of_beq_eq_false rfl)).trans hg91_28)
  have hg93_29 : g93 29 = .ref q30 := (congrFun eg93 29).trans ((va_up_ne _ _ (Nat.ne_of_beq_eq_false rfl)).trans hg91_29)
  have hg93_30 : g93 30 = .ref q32 := (congrFun eg93 30).trans ((va_up_ne _ _ (Nat.ne_of_beq_eq_false rfl)).trans hg91_30)
  have hg93_31 : g93 31 = .ref q34 := (congrFun eg93 31).trans ((va_up_ne _ _ (Nat.ne_of_beq_eq_false rfl)).trans hg91_31)
  have hg93_32 : g93 32 = .ref q36 := (congrFun eg93 32).trans ((va_up_ne _ _ (Nat.ne_of_beq_eq_false rfl)).trans hg91_32)
  have hg93_33 : g93 33 = .ref q38 := (congrFun eg93 33).trans ((va_up_ne _ _ (Nat.ne_of_beq_eq_false rfl)).trans hg91_33)
  have hg93_34 : g93 34 = .ref q40 := (congrFun eg93 34).trans ((va_up_ne _ _ (Nat.ne_of_beq_eq_false rfl)).trans hg91_34)
  have hg93_35 : g93 35 = .ref q42 := (congrFun eg93 35).trans ((va_up_ne _ _ (Nat.ne_of_beq_eq_false rfl)).trans hg91_35)
  have hg93_36 : g93 36 = .ref q44 := (congrFun eg93 36).trans ((va_up_ne _ _ (Nat.ne_of_beq_eq_false rfl)).trans hg91_36)
  clear hg91_0 hg91_1 hg91_8 hg91_9 hg91_16 hg91_17 hg91_46 hg91_47 hg91_48 hg91_74 hg91_75 hg91_55 hg91_10 hg91_15 hg91_27 hg91_28 hg91_29 hg91_30 hg91_31 hg91_32 hg91_33 hg91_34 hg91_35 hg91_36
  have hg93_64 : g93 64 = .ref q92 := by rw [eg93]; exact va_up_self _ _ _
  replace hP := hP.sub (ws' := [(h, .inr (14, mL g93)), (q13, .inl (kq13, 200, .inl (fun _ => (0 : Int32)))), (q23, .inl (kq1, 128, .inl (fun _ => (0 : Int32)))), (q26, .inl (kq1, 20, .inl (fun _ => (0 : Int32)))), (q28, .inl (kq1, 20, .inl (fun _ => (0 : Int32)))), (q30, .inl (kq1, 20, .inl (fun _ => (0 : Int32)))), (q32, .inl (kq1, 20, .inl (fun _ => (0 : Int32)))), (q34, .inl (kq1, 20, .inl (fun _ => (0 : Int32)))), (q36, .inl (kq1, 20, .inl (fun _ => (0 : Int32)))), (q38, .inl (kq1, 20, .inl (fun _ => (0 : Int32)))), (q40, .inl (kq1, 20, .inl (fun _ => (0 : Int32)))), (q42, .inl (kq1, 320, .inl (fun _ => (0 : Int32)))), (q44, .inl (kq1, 320, .inl (fun _ => (0 : Int32))))]) [0, 1, 2, 3, 4, 5, 6, 7, 8, 9, 10, 11, 12] rfl
  replace hD := hD.sub (ws' := [(h, .inr (14, mL g93)), (q13, .inl (kq13, 200, .inl (fun _ => (0 : Int32)))), (q23, .inl (kq1, 128, .inl (fun _ => (0 : Int32)))), (q26, .inl (kq1, 20, .inl (fun _ => (0 : Int32)))), (q28, .inl (kq1, 20, .inl (fun _ => (0 : Int32)))), (q30, .inl (kq1, 20, .inl (fun _ => (0 : Int32)))), (q32, .inl (kq1, 20, .inl (fun _ => (0 : Int32)))), (q34, .inl (kq1, 20, .inl (fun _ => (0 : Int32)))), (q36, .inl (kq1, 20, .inl (fun _ => (0 : Int32)))), (q38, .inl (kq1, 20, .inl (fun _ => (0 : Int32)))), (q40, .inl (kq1, 20, .inl (fun _ => (0 : Int32)))), (q42, .inl (kq1, 320, .inl (fun _ => (0 : Int32)))), (q44, .inl (kq1, 320, .inl (fun _ => (0 : Int32))))]) [0, 1, 2, 3, 4, 5, 6, 7, 8, 9, 10, 11, 12] (by decide) rfl
  refine lv_aload_n hx hb dX13_init_401 rfl (lv_at hl 0 rfl) ?_
  refine lv_bipush (v := 30) hx hb dX13_init_402 (by decide) ?_
  refine va_newa (atype := .int) (ty := .int) (N' := 30) (a0 := (30, .inl (fun _ => (0 : Int32)))) hx hb (hts (.arrayClass .int) (List.mem_of_getElem? (i := 4) rfl)) rfl hK hP hD hS hA (fun _ => rfl) (by decide) (by decide) (Nat.le_of_ble_eq_true rfl) (Nat.le_of_ble_eq_true rfl) (Nat.le_of_ble_eq_true rfl) dX13_init_404 (fun q94 kq94 H hK hP hD hS => ?_)
  have hK : va_K (dC, dI) vwCl [(kq1, .int), (kq13, .byte), (kq72, .boolean), (kq94, .int)] s := hK
  replace hP : va_P (dC, dI) vwCl [(h, .inr (14, mL g93)), (q13, .inl (kq13, 200, .inl (fun _ => (0 : Int32)))), (q23, .inl (kq1, 128, .inl (fun _ => (0 : Int32)))), (q26, .inl (kq1, 20, .inl (fun _ => (0 : Int32)))), (q28, .inl (kq1, 20, .inl (fun _ => (0 : Int32)))), (q30, .inl (kq1, 20, .inl (fun _ => (0 : Int32)))), (q32, .inl (kq1, 20, .inl (fun _ => (0 : Int32)))), (q34, .inl (kq1, 20, .inl (fun _ => (0 : Int32)))), (q36, .inl (kq1, 20, .inl (fun _ => (0 : Int32)))), (q38, .inl (kq1, 20, .inl (fun _ => (0 : Int32)))), (q40, .inl (kq1, 20, .inl (fun _ => (0 : Int32)))), (q42, .inl (kq1, 320, .inl (fun _ => (0 : Int32)))), (q44, .inl (kq1, 320, .inl (fun _ => (0 : Int32)))), (q94, .inl (kq94, 30, .inl (fun _ => (0 : Int32))))] H := hP
  replace hD : va_D A [(h, .inr (14, mL g93)), (q13, .inl (kq13, 200, .inl (fun _ => (0 : Int32)))), (q23, .inl (kq1, 128, .inl (fun _ => (0 : Int32)))), (q26, .inl (kq1, 20, .inl (fun _ => (0 : Int32)))), (q28, .inl (kq1, 20, .inl (fun _ => (0 : Int32)))), (q30, .inl (kq1, 20, .inl (fun _ => (0 : Int32)))), (q32, .inl (kq1, 20, .inl (fun _ => (0 : Int32)))), (q34, .inl (kq1, 20, .inl (fun _ => (0 : Int32)))), (q36, .inl (kq1, 20, .inl (fun _ => (0 : Int32)))), (q38, .inl (kq1, 20, .inl (fun _ => (0 : Int32)))), (q40, .inl (kq1, 20, .inl (fun _ => (0 : Int32)))), (q42, .inl (kq1, 320, .inl (fun _ => (0 : Int32)))), (q44, .inl (kq1, 320, .inl (fun _ => (0 : Int32)))), (q94, .inl (kq94, 30, .inl (fun _ => (0 : Int32))))] := hD
  refine W.widen (k := 47) (n := 9108) (by omega) (by omega) ?_
  obtain rfl : kq1 = kq94 := ub_sa_int hK 0 3 rfl rfl
  have hK := hK.sub (tys' := [(kq1, .int), (kq13, .byte), (kq72, .boolean)]) [0, 1, 2] rfl
  refine va_putF (D := (dC, dI)) (ci := 14) (v := .ref q94) (ty := .array .int) (C := RX13) (T := TX13) (N := 97) hx hb hts iw_m_init_X13 tyX13 tyX13_ok nmX13 hown hK hP hD hS 0 rfl rfl 65 (by decide) (hts (.fieldLink RX13 153 "UnlikeBoatsModel" "protestA" "[I") (List.mem_of_getElem? (i := 54) rfl)) (fun _ h9 => h9) rfl hin rfl (by decide +kernel) rfl rfl (mL_lt (Nat.le_of_ble_eq_true rfl)) dX13_init_406 (fun H locs hP hD hS => ?_)
  have hP : va_P (dC, dI) vwCl [(h, .inr (14, (mL g93).set 65 (.ref q94))), (q13, .inl (kq13, 200, .inl (fun _ => (0 : Int32)))), (q23, .inl (kq1, 128, .inl (fun _ => (0 : Int32)))), (q26, .inl (kq1, 20, .inl (fun _ => (0 : Int32)))), (q28, .inl (kq1, 20, .inl (fun _ => (0 : Int32)))), (q30, .inl (kq1, 20, .inl (fun _ => (0 : Int32)))), (q32, .inl (kq1, 20, .inl (fun _ => (0 : Int32)))), (q34, .inl (kq1, 20, .inl (fun _ => (0 : Int32)))), (q36, .inl (kq1, 20, .inl (fun _ => (0 : Int32)))), (q38, .inl (kq1, 20, .inl (fun _ => (0 : Int32)))), (q40, .inl (kq1, 20, .inl (fun _ => (0 : Int32)))), (q42, .inl (kq1, 320, .inl (fun _ => (0 : Int32)))), (q44, .inl (kq1, 320, .inl (fun _ => (0 : Int32)))), (q94, .inl (kq1, 30, .inl (fun _ => (0 : Int32))))] H := hP
  have hD : va_D A [(h, .inr (14, (mL g93).set 65 (.ref q94))), (q13, .inl (kq13, 200, .inl (fun _ => (0 : Int32)))), (q23, .inl (kq1, 128, .inl (fun _ => (0 : Int32)))), (q26, .inl (kq1, 20, .inl (fun _ => (0 : Int32)))), (q28, .inl (kq1, 20, .inl (fun _ => (0 : Int32)))), (q30, .inl (kq1, 20, .inl (fun _ => (0 : Int32)))), (q32, .inl (kq1, 20, .inl (fun _ => (0 : Int32)))), (q34, .inl (kq1, 20, .inl (fun _ => (0 : Int32)))), (q36, .inl (kq1, 20, .inl (fun _ => (0 : Int32)))), (q38, .inl (kq1, 20, .inl (fun _ => (0 : Int32)))), (q40, .inl (kq1, 20, .inl (fun _ => (0 : Int32)))), (q42, .inl (kq1, 320, .inl (fun _ => (0 : Int32)))), (q44, .inl (kq1, 320, .inl (fun _ => (0 : Int32)))), (q94, .inl (kq1, 30, .inl (fun _ => (0 : Int32))))] := hD
  obtain ⟨g95, eg95⟩ : ∃ z9, z9 = va_up g93 65 (.ref q94) := ⟨_, rfl⟩
  rw [mL_upd, ← eg95] at hP hD
  have hg95_0 : g95 0 = .int 0 := (congrFun eg95 0).trans ((va_up_ne _ _ (Nat.ne_of_beq_eq_false rfl)).trans hg93_0)
  have hg95_1 : g95 1 = .int 0 := (congrFun eg95 1).trans ((va_up_ne _ _ (Nat.ne_of_beq_eq_false rfl)).trans hg93_1)
  have hg95_8 : g95 8 = .int 0 := (congrFun eg95 8).trans ((va_up_ne _ _ (Nat.ne_of_beq_eq_false rfl)).trans hg93_8)
  have hg95_9 : g95 9 = .int 0 := (congrFun eg95 9).trans ((va_up_ne _ _ (Nat.ne_of_beq_eq_false rfl)).trans hg93_9)
  have hg95_16 : g95 16 = .int 0 := (congrFun eg95 16).trans ((va_up_ne _ _ (Nat.ne_of_beq_eq_false rfl)).trans hg93_16)
  have hg95_17 : g95 17 = .int 0 := (congrFun eg95 17).trans ((va_up_ne _ _ (Nat.ne_of_beq_eq_false rfl)).trans hg93_17)
  have hg95_46 : g95 46 = .int 0 := (congrFun eg95 46).trans ((va_up_ne _ _ (Nat.ne_of_beq_eq_false rfl)).trans hg93_46)
  have hg95_47 : g95 47 = .int 0 := (congrFun eg95 47).trans ((va_up_ne _ _ (Nat.ne_of_beq_eq_false rfl)).trans hg93_47)
  have hg95_48 : g95 48 = .int 0 := (congrFun eg95 48).trans ((va_up_ne _ _ (Nat.ne_of_beq_eq_false rfl)).trans hg93_48)
  have hg95_74 : g95 74 = .int 0 := (congrFun eg95 74).trans ((va_up_ne _ _ (Nat.ne_of_beq_eq_false rfl)).trans hg93_74)
  have hg95_75 : g95 75 = .int 0 := (congrFun eg95 75).trans ((va_up_ne _ _ (Nat.ne_of_beq_eq_false rfl)).trans hg93_75)
  have hg95_55 : g95 55 = .int 0 := (congrFun eg95 55).trans ((va_up_ne _ _ (Nat.ne_of_beq_eq_false rfl)).trans hg93_55)
  have hg95_10 : g95 10 = .ref q13 := (congrFun eg95 10).trans ((va_up_ne _ _ (Nat.ne_of_beq_eq_false rfl)).trans hg93_10)
  have hg95_15 : g95 15 = .ref q23 := (congrFun eg95 15).trans ((va_up_ne _ _ (Nat.ne_of_beq_eq_false rfl)).trans hg93_15)
  have hg95_27 : g95 27 = .ref q26 := (congrFun eg95 27).trans ((va_up_ne _ _ (Nat.ne_of_beq_eq_false rfl)).trans hg93_27)
  have hg95_28 : g95 28 = .ref q28 := (congrFun eg95 28).trans ((va_up_ne _ _ (Nat.ne_of_beq_eq_false rfl)).trans hg93_28)
  have hg95_29 : g95 29 = .ref q30 := (congrFun eg95 29).trans ((va_up_ne _ _ (Nat.ne_of_beq_eq_false rfl)).trans hg93_29)
  have hg95_30 : g95 30 = .ref q32 := (congrFun eg95 30).trans ((va_up_ne _ _ (Nat.ne_of_beq_eq_false rfl)).trans hg93_30)
  have hg95_31 : g95 31 = .ref q34 := (congrFun eg95 31).trans ((va_up_ne _ _ (Nat.ne_of_beq_eq_false rfl)).trans hg93_31)
  have hg95_32 : g95 32 = .ref q36 := (congrFun eg95 32).trans ((va_up_ne _ _ (Nat.ne_of_beq_eq_false rfl)).trans hg93_32)
  have hg95_33 : g95 33 = .ref q38 := (congrFun eg95 33).trans ((va_up_ne _ _ (Nat.ne_of_beq_eq_false rfl)).trans hg93_33)
  have hg95_34 : g95 34 = .ref q40 := (congrFun eg95 34).trans ((va_up_ne _ _ (Nat.ne_of_beq_eq_false rfl)).trans hg93_34)
  have hg95_35 : g95 35 = .ref q42 := (congrFun eg95 35).trans ((va_up_ne _ _ (Nat.ne_of_beq_eq_false rfl)).trans hg93_35)
  have hg95_36 : g95 36 = .ref q44 := (congrFun eg95 36).trans ((va_up_ne _ _ (Nat.ne_of_beq_eq_false rfl)).trans hg93_36)
  clear hg93_0 hg93_1 hg93_8 hg93_9 hg93_16 hg93_17 hg93_46 hg93_47 hg93_48 hg93_74 hg93_75 hg93_55 hg93_10 hg93_15 hg93_27 hg93_28 hg93_29 hg93_30 hg93_31 hg93_32 hg93_33 hg93_34 hg93_35 hg93_36
  have hg95_65 : g95 65 = .ref q94 := by rw [eg95]; exact va_up_self _ _ _
  replace hP := hP.sub (ws' := [(h, .inr (14, mL g95)), (q13, .inl (kq13, 200, .inl (fun _ => (0 : Int32)))), (q23, .inl (kq1, 128, .inl (fun _ => (0 : Int32)))), (q26, .inl (kq1, 20, .inl (fun _ => (0 : Int32)))), (q28, .inl (kq1, 20, .inl (fun _ => (0 : Int32)))), (q30, .inl (kq1, 20, .inl (fun _ => (0 : Int32)))), (q32, .inl (kq1, 20, .inl (fun _ => (0 : Int32)))), (q34, .inl (kq1, 20, .inl (fun _ => (0 : Int32)))), (q36, .inl (kq1, 20, .inl (fun _ => (0 : Int32)))), (q38, .inl (kq1, 20, .inl (fun _ => (0 : Int32)))), (q40, .inl (kq1, 20, .inl (fun _ => (0 : Int32)))), (q42, .inl (kq1, 320, .inl (fun _ => (0 : Int32)))), (q44, .inl (kq1, 320, .inl (fun _ => (0 : Int32))))]) [0, 1, 2, 3, 4, 5, 6, 7, 8, 9, 10, 11, 12] rfl
  replace hD := hD.sub (ws' := [(h, .inr (14, mL g95)), (q13, .inl (kq13, 200, .inl (fun _ => (0 : Int32)))), (q23, .inl (kq1, 128, .inl (fun _ => (0 : Int32)))), (q26, .inl (kq1, 20, .inl (fun _ => (0 : Int32)))), (q28, .inl (kq1, 20, .inl (fun _ => (0 : Int32)))), (q30, .inl (kq1, 20, .inl (fun _ => (0 : Int32)))), (q32, .inl (kq1, 20, .inl (fun _ => (0 : Int32)))), (q34, .inl (kq1, 20, .inl (fun _ => (0 : Int32)))), (q36, .inl (kq1, 20, .inl (fun _ => (0 : Int32)))), (q38, .inl (kq1, 20, .inl (fun _ => (0 : Int32)))), (q40, .inl (kq1, 20, .inl (fun _ => (0 : Int32)))), (q42, .inl (kq1, 320, .inl (fun _ => (0 : Int32)))), (q44, .inl (kq1, 320, .inl (fun _ => (0 : Int32))))]) [0, 1, 2, 3, 4, 5, 6, 7, 8, 9, 10, 11, 12] (by decide) rfl
  refine lv_aload_n hx hb dX13_init_409 rfl (lv_at hl 0 rfl) ?_
  refine lv_bipush (v := 30) hx hb dX13_init_410 (by decide) ?_
  refine va_newa (atype := .int) (ty := .int) (N' := 30) (a0 := (30, .inl (fun _ => (0 : Int32)))) hx hb (hts (.arrayClass .int) (List.mem_of_getElem? (i := 4) rfl)) rfl hK hP hD hS hA (fun _ => rfl) (by decide) (by decide) (Nat.le_of_ble_eq_true rfl) (Nat.le_of_ble_eq_true rfl) (Nat.le_of_ble_eq_true rfl) dX13_init_412 (fun q96 kq96 H hK hP hD hS => ?_)
  have hK : va_K (dC, dI) vwCl [(kq1, .int), (kq13, .byte), (kq72, .boolean), (kq96, .int)] s := hK
  replace hP : va_P (dC, dI) vwCl [(h, .inr (14, mL g95)), (q13, .inl (kq13, 200, .inl (fun _ => (0 : Int32)))), (q23, .inl (kq1, 128, .inl (fun _ => (0 : Int32)))), (q26, .inl (kq1, 20, .inl (fun _ => (0 : Int32)))), (q28, .inl (kq1, 20, .inl (fun _ => (0 : Int32)))), (q30, .inl (kq1, 20, .inl (fun _ => (0 : Int32)))), (q32, .inl (kq1, 20, .inl (fun _ => (0 : Int32)))), (q34, .inl (kq1, 20, .inl (fun _ => (0 : Int32)))), (q36, .inl (kq1, 20, .inl (fun _ => (0 : Int32)))), (q38, .inl (kq1, 20, .inl (fun _ => (0 : Int32)))), (q40, .inl (kq1, 20, .inl (fun _ => (0 : Int32)))), (q42, .inl (kq1, 320, .inl (fun _ => (0 : Int32)))), (q44, .inl (kq1, 320, .inl (fun _ => (0 : Int32)))), (q96, .inl (kq96, 30, .inl (fun _ => (0 : Int32))))] H := hP
  replace hD : va_D A [(h, .inr (14, mL g95)), (q13, .inl (kq13, 200, .inl (fun _ => (0 : Int32)))), (q23, .inl (kq1, 128, .inl (fun _ => (0 : Int32)))), (q26, .inl (kq1, 20, .inl (fun _ => (0 : Int32)))), (q28, .inl (kq1, 20, .inl (fun _ => (0 : Int32)))), (q30, .inl (kq1, 20, .inl (fun _ => (0 : Int32)))), (q32, .inl (kq1, 20, .inl (fun _ => (0 : Int32)))), (q34, .inl (kq1, 20, .inl (fun _ => (0 : Int32)))), (q36, .inl (kq1, 20, .inl (fun _ => (0 : Int32)))), (q38, .inl (kq1, 20, .inl (fun _ => (0 : Int32)))), (q40, .inl (kq1, 20, .inl (fun _ => (0 : Int32)))), (q42, .inl (kq1, 320, .inl (fun _ => (0 : Int32)))), (q44, .inl (kq1, 320, .inl (fun _ => (0 : Int32)))), (q96, .inl (kq96, 30, .inl (fun _ => (0 : Int32))))] := hD
  refine W.widen (k := 48) (n := 9138) (by omega) (by omega) ?_
  obtain rfl : kq1 = kq96 := ub_sa_int hK 0 3 rfl rfl
  have hK := hK.sub (tys' := [(kq1, .int), (kq13, .byte), (kq72, .boolean)]) [0, 1, 2] rfl
  refine va_putF (D := (dC, dI)) (ci := 14) (v := .ref q96) (ty := .array .int) (C := RX13) (T := TX13) (N := 97) hx hb hts iw_m_init_X13 tyX13 tyX13_ok nmX13 hown hK hP hD hS 0 rfl rfl 66 (by decide) (hts (.fieldLink RX13 156 "UnlikeBoatsModel" "protestB" "[I") (List.mem_of_getElem? (i := 55) rfl)) (fun _ h9 => h9) rfl hin rfl (by decide +kernel) rfl rfl (mL_lt (Nat.le_of_ble_eq_true rfl)) dX13_init_414 (fun H locs hP hD hS => ?_)
  have hP : va_P (dC, dI) vwCl [(h, .inr (14, (mL g95).set 66 (.ref q96))), (q13, .inl (kq13, 200, .inl (fun _ => (0 : Int32)))), (q23, .inl (kq1, 128, .inl (fun _ => (0 : Int32)))), (q26, .inl (kq1, 20, .inl (fun _ => (0 : Int32)))), (q28, .inl (kq1, 20, .inl (fun _ => (0 : Int32)))), (q30, .inl (kq1, 20, .inl (fun _ => (0 : Int32)))), (q32, .inl (kq1, 20, .inl (fun _ => (0 : Int32)))), (q34, .inl (kq1, 20, .inl (fun _ => (0 : Int32)))), (q36, .inl (kq1, 20, .inl (fun _ => (0 : Int32)))), (q38, .inl (kq1, 20, .inl (fun _ => (0 : Int32)))), (q40, .inl (kq1, 20, .inl (fun _ => (0 : Int32)))), (q42, .inl (kq1, 320, .inl (fun _ => (0 : Int32)))), (q44, .inl (kq1, 320, .inl (fun _ => (0 : Int32)))), (q96, .inl (kq1, 30, .inl (fun _ => (0 : Int32))))] H := hP
  have hD : va_D A [(h, .inr (14, (mL g95).set 66 (.ref q96))), (q13, .inl (kq13, 200, .inl (fun _ => (0 : Int32)))), (q23, .inl (kq1, 128, .inl (fun _ => (0 : Int32)))), (q26, .inl (kq1, 20, .inl (fun _ => (0 : Int32)))), (q28, .inl (kq1, 20, .inl (fun _ => (0 : Int32)))), (q30, .inl (kq1, 20, .inl (fun _ => (0 : Int32)))), (q32, .inl (kq1, 20, .inl (fun _ => (0 : Int32)))), (q34, .inl (kq1, 20, .inl (fun _ => (0 : Int32)))), (q36, .inl (kq1, 20, .inl (fun _ => (0 : Int32)))), (q38, .inl (kq1, 20, .inl (fun _ => (0 : Int32)))), (q40, .inl (kq1, 20, .inl (fun _ => (0 : Int32)))), (q42, .inl (kq1, 320, .inl (fun _ => (0 : Int32)))), (q44, .inl (kq1, 320, .inl (fun _ => (0 : Int32)))), (q96, .inl (kq1, 30, .inl (fun _ => (0 : Int32))))] := hD
  obtain ⟨g97, eg97⟩ : ∃ z9, z9 = va_up g95 66 (.ref q96) := ⟨_, rfl⟩
  rw [mL_upd, ← eg97] at hP hD
  have hg97_0 : g97 0 = .int 0 := (congrFun eg97 0).trans ((va_up_ne _ _ (Nat.ne_of_beq_eq_false rfl)).trans hg95_0)
  have hg97_1 : g97 1 = .int 0 := (congrFun eg97 1).trans ((va_up_ne _ _ (Nat.ne_of_beq_eq_false rfl)).trans hg95_1)
  have hg97_8 : g97 8 = .int 0 := (congrFun eg97 8).trans ((va_up_ne _ _ (Nat.ne_of_beq_eq_false rfl)).trans hg95_8)
  have hg97_9 : g97 9 = .int 0 := (congrFun eg97 9).trans ((va_up_ne _ _ (Nat.ne_of_beq_eq_false rfl)).trans hg95_9)
  have hg97_16 : g97 16 = .int 0 := (congrFun eg97 16).trans ((va_up_ne _ _ (Nat.ne_of_beq_eq_false rfl)).trans hg95_16)
  have hg97_17 : g97 17 = .int 0 := (congrFun eg97 17).trans ((va_up_ne _ _ (Nat.ne_of_beq_eq_false rfl)).trans hg95_17)
  have hg97_46 : g97 46 = .int 0 := (congrFun eg97 46).trans ((va_up_ne _ _ (Nat.ne_of_beq_eq_false rfl)).trans hg95_46)
  have hg97_47 : g97 47 = .int 0 := (congrFun eg97 47).trans ((va_up_ne _ _ (Nat.ne_of_beq_eq_false rfl)).trans hg95_47)
  have hg97_48 : g97 48 = .int 0 := (congrFun eg97 48).trans ((va_up_ne _ _ (Nat.ne_of_beq_eq_false rfl)).trans hg95_48)
  have hg97_74 : g97 74 = .int 0 := (congrFun eg97 74).trans ((va_up_ne _ _ (Nat.ne_of_beq_eq_false rfl)).trans hg95_74)
  have hg97_75 : g97 75 = .int 0 := (congrFun eg97 75).trans ((va_up_ne _ _ (Nat.ne_of_beq_eq_false rfl)).trans hg95_75)
  have hg97_55 : g97 55 = .int 0 := (congrFun eg97 55).trans ((va_up_ne _ _ (Nat.ne_of_beq_eq_false rfl)).trans hg95_55)
  have hg97_10 : g97 10 = .ref q13 := (congrFun eg97 10).trans ((va_up_ne _ _ (Nat.ne_of_beq_eq_false rfl)).trans hg95_10)
  have hg97_15 : g97 15 = .ref q23 := (congrFun eg97 15).trans ((va_up_ne _ _ (Nat.ne_of_beq_eq_false rfl)).trans hg95_15)
  have hg97_27 : g97 27 = .ref q26 := (congrFun eg97 27).trans ((va_up_ne _ _ (Nat.ne_of_beq_eq_false rfl)).trans hg95_27)
  have hg97_28 : g97 28 = .ref q28 := (congrFun eg97 28).trans ((va_up_ne _ _ (Nat.ne_of_beq_eq_false rfl)).trans hg95_28)
  have hg97_29 : g97 29 = .ref q30 := (congrFun eg97 29).trans ((va_up_ne _ _ (Nat.ne_of_beq_eq_false rfl)).trans hg95_29)
  have hg97_30 : g97 30 = .ref q32 := (congrFun eg97 30).trans ((va_up_ne _ _ (Nat.ne_of_beq_eq_false rfl)).trans hg95_30)
  have hg97_31 : g97 31 = .ref q34 := (congrFun eg97 31).trans ((va_up_ne _ _ (Nat.ne_of_beq_eq_false rfl)).trans hg95_31)
  have hg97_32 : g97 32 = .ref q36 := (congrFun eg97 32).trans ((va_up_ne _ _ (Nat.ne_of_beq_eq_false rfl)).trans hg95_32)
  have hg97_33 : g97 33 = .ref q38 := (congrFun eg97 33).trans ((va_up_ne _ _ (Nat.ne_of_beq_eq_false rfl)).trans hg95_33)
  have hg97_34 : g97 34 = .ref q40 := (congrFun eg97 34).trans ((va_up_ne _ _ (Nat.ne_of_beq_eq_false rfl)).trans hg95_34)
  have hg97_35 : g97 35 = .ref q42 := (congrFun eg97 35).trans ((va_up_ne _ _ (Nat.ne_of_beq_eq_false rfl)).trans hg95_35)
  have hg97_36 : g97 36 = .ref q44 := (congrFun eg97 36).trans ((va_up_ne _ _ (Nat.ne_of_beq_eq_false rfl)).trans hg95_36)
  clear hg95_0 hg95_1 hg95_8 hg95_9 hg95_16 hg95_17 hg95_46 hg95_47 hg95_48 hg95_74 hg95_75 hg95_55 hg95_10 hg95_15 hg95_27 hg95_28 hg95_29 hg95_30 hg95_31 hg95_32 hg95_33 hg95_34 hg95_35 hg95_36
  have hg97_66 : g97 66 = .ref q96 := by rw [eg97]; exact va_up_self _ _ _
  replace hP := hP.sub (ws' := [(h, .inr (14, mL g97)), (q13, .inl (kq13, 200, .inl (fun _ => (0 : Int32)))), (q23, .inl (kq1, 128, .inl (fun _ => (0 : Int32)))), (q26, .inl (kq1, 20, .inl (fun _ => (0 : Int32)))), (q28, .inl (kq1, 20, .inl (fun _ => (0 : Int32)))), (q30, .inl (kq1, 20, .inl (fun _ => (0 : Int32)))), (q32, .inl (kq1, 20, .inl (fun _ => (0 : Int32)))), (q34, .inl (kq1, 20, .inl (fun _ => (0 : Int32)))), (q36, .inl (kq1, 20, .inl (fun _ => (0 : Int32)))), (q38, .inl (kq1, 20, .inl (fun _ => (0 : Int32)))), (q40, .inl (kq1, 20, .inl (fun _ => (0 : Int32)))), (q42, .inl (kq1, 320, .inl (fun _ => (0 : Int32)))), (q44, .inl (kq1, 320, .inl (fun _ => (0 : Int32))))]) [0, 1, 2, 3, 4, 5, 6, 7, 8, 9, 10, 11, 12] rfl
  replace hD := hD.sub (ws' := [(h, .inr (14, mL g97)), (q13, .inl (kq13, 200, .inl (fun _ => (0 : Int32)))), (q23, .inl (kq1, 128, .inl (fun _ => (0 : Int32)))), (q26, .inl (kq1, 20, .inl (fun _ => (0 : Int32)))), (q28, .inl (kq1, 20, .inl (fun _ => (0 : Int32)))), (q30, .inl (kq1, 20, .inl (fun _ => (0 : Int32)))), (q32, .inl (kq1, 20, .inl (fun _ => (0 : Int32)))), (q34, .inl (kq1, 20, .inl (fun _ => (0 : Int32)))), (q36, .inl (kq1, 20, .inl (fun _ => (0 : Int32)))), (q38, .inl (kq1, 20, .inl (fun _ => (0 : Int32)))), (q40, .inl (kq1, 20, .inl (fun _ => (0 : Int32)))), (q42, .inl (kq1, 320, .inl (fun _ => (0 : Int32)))), (q44, .inl (kq1, 320, .inl (fun _ => (0 : Int32))))]) [0, 1, 2, 3, 4, 5, 6, 7, 8, 9, 10, 11, 12] (by decide) rfl
  refine lv_aload_n hx hb dX13_init_417 rfl (lv_at hl 0 rfl) ?_
  refine lv_bipush (v := 30) hx hb dX13_init_418 (by decide) ?_
  refine va_newa (atype := .int) (ty := .int) (N' := 30) (a0 := (30, .inl (fun _ => (0 : Int32)))) hx hb (hts (.arrayClass .int) (List.mem_of_getElem? (i := 4) rfl)) rfl hK hP hD hS hA (fun _ => rfl) (by decide) (by decide) (Nat.le_of_ble_eq_true rfl) (Nat.le_of_ble_eq_true rfl) (Nat.le_of_ble_eq_true rfl) dX13_init_420 (fun q98 kq98 H hK hP hD hS => ?_)
  have hK : va_K (dC, dI) vwCl [(kq1, .int), (kq13, .byte), (kq72, .boolean), (kq98, .int)] s := hK
  replace hP : va_P (dC, dI) vwCl [(h, .inr (14, mL g97)), (q13, .inl (kq13, 200, .inl (fun _ => (0 : Int32)))), (q23, .inl (kq1, 128, .inl (fun _ => (0 : Int32)))), (q26, .inl (kq1, 20, .inl (fun _ => (0 : Int32)))), (q28, .inl (kq1, 20, .inl (fun _ => (0 : Int32)))), (q30, .inl (kq1, 20, .inl (fun _ => (0 : Int32)))), (q32, .inl (kq1, 20, .inl (fun _ => (0 : Int32)))), (q34, .inl (kq1, 20, .inl (fun _ => (0 : Int32)))), (q36, .inl (kq1, 20, .inl (fun _ => (0 : Int32)))), (q38, .inl (kq1, 20, .inl (fun _ => (0 : Int32)))), (q40, .inl (kq1, 20, .inl (fun _ => (0 : Int32)))), (q42, .inl (kq1, 320, .inl (fun _ => (0 : Int32)))), (q44, .inl (kq1, 320, .inl (fun _ => (0 : Int32)))), (q98, .inl (kq98, 30, .inl (fun _ => (0 : Int32))))] H := hP
  replace hD : va_D A [(h, .inr (14, mL g97)), (q13, .inl (kq13, 200, .inl (fun _ => (0 : Int32)))), (q23, .inl (kq1, 128, .inl (fun _ => (0 : Int32)))), (q26, .inl (kq1, 20, .inl (fun _ => (0 : Int32)))), (q28, .inl (kq1, 20, .inl (fun _ => (0 : Int32)))), (q30, .inl (kq1, 20, .inl (fun _ => (0 : Int32)))), (q32, .inl (kq1, 20, .inl (fun _ => (0 : Int32)))), (q34, .inl (kq1, 20, .inl (fun _ => (0 : Int32)))), (q36, .inl (kq1, 20, .inl (fun _ => (0 : Int32)))), (q38, .inl (kq1, 20, .inl (fun _ => (0 : Int32)))), (q40, .inl (kq1, 20, .inl (fun _ => (0 : Int32)))), (q42, .inl (kq1, 320, .inl (fun _ => (0 : Int32)))), (q44, .inl (kq1, 320, .inl (fun _ => (0 : Int32)))), (q98, .inl (kq98, 30, .inl (fun _ => (0 : Int32))))] := hD
  refine W.widen (k := 49) (n := 9168) (by omega) (by omega) ?_
  obtain rfl : kq1 = kq98 := ub_sa_int hK 0 3 rfl rfl
  have hK := hK.sub (tys' := [(kq1, .int), (kq13, .byte), (kq72, .boolean)]) [0, 1, 2] rfl
  refine va_putF (D := (dC, dI)) (ci := 14) (v := .ref q98) (ty := .array .int) (C := RX13) (T := TX13) (N := 97) hx hb hts iw_m_init_X13 tyX13 tyX13_ok nmX13 hown hK hP hD hS 0 rfl rfl 67 (by decide) (hts (.fieldLink RX13 159 "UnlikeBoatsModel" "protestAt" "[I") (List.mem_of_getElem? (i := 56) rfl)) (fun _ h9 => h9) rfl hin rfl (by decide +kernel) rfl rfl (mL_lt (Nat.le_of_ble_eq_true rfl)) dX13_init_422 (fun H locs hP hD hS => ?_)
  have hP : va_P (dC, dI) vwCl [(h, .inr (14, (mL g97).set 67 (.ref q98))), (q13, .inl (kq13, 200, .inl (fun _ => (0 : Int32)))), (q23, .inl (kq1, 128, .inl (fun _ => (0 : Int32)))), (q26, .inl (kq1, 20, .inl (fun _ => (0 : Int32)))), (q28, .inl (kq1, 20, .inl (fun _ => (0 : Int32)))), (q30, .inl (kq1, 20, .inl (fun _ => (0 : Int32)))), (q32, .inl (kq1, 20, .inl (fun _ => (0 : Int32)))), (q34, .inl (kq1, 20, .inl (fun _ => (0 : Int32)))), (q36, .inl (kq1, 20, .inl (fun _ => (0 : Int32)))), (q38, .inl (kq1, 20, .inl (fun _ => (0 : Int32)))), (q40, .inl (kq1, 20, .inl (fun _ => (0 : Int32)))), (q42, .inl (kq1, 320, .inl (fun _ => (0 : Int32)))), (q44, .inl (kq1, 320, .inl (fun _ => (0 : Int32)))), (q98, .inl (kq1, 30, .inl (fun _ => (0 : Int32))))] H := hP
  have hD : va_D A [(h, .inr (14, (mL g97).set 67 (.ref q98))), (q13, .inl (kq13, 200, .inl (fun _ => (0 : Int32)))), (q23, .inl (kq1, 128, .inl (fun _ => (0 : Int32)))), (q26, .inl (kq1, 20, .inl (fun _ => (0 : Int32)))), (q28, .inl (kq1, 20, .inl (fun _ => (0 : Int32)))), (q30, .inl (kq1, 20, .inl (fun _ => (0 : Int32)))), (q32, .inl (kq1, 20, .inl (fun _ => (0 : Int32)))), (q34, .inl (kq1, 20, .inl (fun _ => (0 : Int32)))), (q36, .inl (kq1, 20, .inl (fun _ => (0 : Int32)))), (q38, .inl (kq1, 20, .inl (fun _ => (0 : Int32)))), (q40, .inl (kq1, 20, .inl (fun _ => (0 : Int32)))), (q42, .inl (kq1, 320, .inl (fun _ => (0 : Int32)))), (q44, .inl (kq1, 320, .inl (fun _ => (0 : Int32)))), (q98, .inl (kq1, 30, .inl (fun _ => (0 : Int32))))] := hD
  obtain ⟨g99, eg99⟩ : ∃ z9, z9 = va_up g97 67 (.ref q98) := ⟨_, rfl⟩
  rw [mL_upd, ← eg99] at hP hD
  have hg99_0 : g99 0 = .int 0 := (congrFun eg99 0).trans ((va_up_ne _ _ (Nat.ne_of_beq_eq_false rfl)).trans hg97_0)
  have hg99_1 : g99 1 = .int 0 := (congrFun eg99 1).trans ((va_up_ne _ _ (Nat.ne_of_beq_eq_false rfl)).trans hg97_1)
  have hg99_8 : g99 8 = .int 0 := (congrFun eg99 8).trans ((va_up_ne _ _ (Nat.ne_of_beq_eq_false rfl)).trans hg97_8)
  have hg99_9 : g99 9 = .int 0 := (congrFun eg99 9).trans ((va_up_ne _ _ (Nat.ne_of_beq_eq_false rfl)).trans hg97_9)
  have hg99_16 : g99 16 = .int 0 := (congrFun eg99 16).trans ((va_up_ne _ _ (Nat.ne_of_beq_eq_false rfl)).trans hg97_16)
  have hg99_17 : g99 17 = .int 0 := (congrFun eg99 17).trans ((va_up_ne _ _ (Nat.ne_of_beq_eq_false rfl)).trans hg97_17)
  have hg99_46 : g99 46 = .int 0 := (congrFun eg99 46).trans ((va_up_ne _ _ (Nat.ne_of_beq_eq_false rfl)).trans hg97_46)
  have hg99_47 : g99 47 = .int 0 := (congrFun eg99 47).trans ((va_up_ne _ _ (Nat.ne_of_beq_eq_false rfl)).trans hg97_47)
  have hg99_48 : g99 48 = .int 0 := (congrFun eg99 48).trans ((va_up_ne _ _ (Nat.ne_of_beq_eq_false rfl)).trans hg97_48)
  have hg99_74 : g99 74 = .int 0 := (congrFun eg99 74).trans ((va_up_ne _ _ (Nat.ne_of_beq_eq_false rfl)).trans hg97_74)
  have hg99_75 : g99 75 = .int 0 := (congrFun eg99 75).trans ((va_up_ne _ _ (Nat.ne_of_beq_eq_false rfl)).trans hg97_75)
  have hg99_55 : g99 55 = .int 0 := (congrFun eg99 55).trans ((va_up_ne _ _ (Nat.ne_of_beq_eq_false rfl)).trans hg97_55)
  have hg99_10 : g99 10 = .ref q13 := (congrFun eg99 10).trans ((va_up_ne _ _ (Nat.ne_of_beq_eq_false rfl)).trans hg97_10)
  have hg99_15 : g99 15 = .ref q23 := (congrFun eg99 15).trans ((va_up_ne _ _ (Nat.ne_of_beq_eq_false rfl)).trans hg97_15)
  have hg99_27 : g99 27 = .ref q26 := (congrFun eg99 27).trans ((va_up_ne _ _ (Nat.ne_of_beq_eq_false rfl)).trans hg97_27)
  have hg99_28 : g99 28 = .ref q28 := (congrFun eg99 28).trans ((va_up_ne _ _ (Nat.ne_of_beq_eq_false rfl)).trans hg97_28)
  have hg99_29 : g99 29 = .ref q30 := (congrFun eg99 29).trans ((va_up_ne _ _ (Nat.ne_of_beq_eq_false rfl)).trans hg97_29)
  have hg99_30 : g99 30 = .ref q32 := (congrFun eg99 30).trans ((va_up_ne _ _ (Nat.ne_of_beq_eq_false rfl)).trans hg97_30)
  have hg99_31 : g99 31 = .ref q34 := (congrFun eg99 31).trans ((va_up_ne _ _ (Nat.ne_of_beq_eq_false rfl)).trans hg97_31)
  have hg99_32 : g99 32 = .ref q36 := (congrFun eg99 32).trans ((va_up_ne _ _ (Nat.ne_of_beq_eq_false rfl)).trans hg97_32)
  have hg99_33 : g99 33 = .ref q38 := (congrFun eg99 33).trans ((va_up_ne _ _ (Nat.ne_of_beq_eq_false rfl)).trans hg97_33)
  have hg99_34 : g99 34 = .ref q40 := (congrFun eg99 34).trans ((va_up_ne _ _ (Nat.ne_of_beq_eq_false rfl)).trans hg97_34)
  have hg99_35 : g99 35 = .ref q42 := (congrFun eg99 35).trans ((va_up_ne _ _ (Nat.ne_of_beq_eq_false rfl)).trans hg97_35)
  have hg99_36 : g99 36 = .ref q44 := (congrFun eg99 36).trans ((va_up_ne _ _ (Nat.ne_of_beq_eq_false rfl)).trans hg97_36)
  clear hg97_0 hg97_1 hg97_8 hg97_9 hg97_16 hg97_17 hg97_46 hg97_47 hg97_48 hg97_74 hg97_75 hg97_55 hg97_10 hg97_15 hg97_27 hg97_28 hg97_29 hg97_30 hg97_31 hg97_32 hg97_33 hg97_34 hg97_35 hg97_36
  have hg99_67 : g99 67 = .ref q98 := by rw [eg99]; exact va_up_self _ _ _
  replace hP := hP.sub (ws' := [(h, .inr (14, mL g99)), (q13, .inl (kq13, 200, .inl (fun _ => (0 : Int32)))), (q23, .inl (kq1, 128, .inl (fun _ => (0 : Int32)))), (q26, .inl (kq1, 20, .inl (fun _ => (0 : Int32)))), (q28, .inl (kq1, 20, .inl (fun _ => (0 : Int32)))), (q30, .inl (kq1, 20, .inl (fun _ => (0 : Int32)))), (q32, .inl (kq1, 20, .inl (fun _ => (0 : Int32)))), (q34, .inl (kq1, 20, .inl (fun _ => (0 : Int32)))), (q36, .inl (kq1, 20, .inl (fun _ => (0 : Int32)))), (q38, .inl (kq1, 20, .inl (fun _ => (0 : Int32)))), (q40, .inl (kq1, 20, .inl (fun _ => (0 : Int32)))), (q42, .inl (kq1, 320, .inl (fun _ => (0 : Int32)))), (q44, .inl (kq1, 320, .inl (fun _ => (0 : Int32))))]) [0, 1, 2, 3, 4, 5, 6, 7, 8, 9, 10, 11, 12] rfl
  replace hD := hD.sub (ws' := [(h, .inr (14, mL g99)), (q13, .inl (kq13, 200, .inl (fun _ => (0 : Int32)))), (q23, .inl (kq1, 128, .inl (fun _ => (0 : Int32)))), (q26, .inl (kq1, 20, .inl (fun _ => (0 : Int32)))), (q28, .inl (kq1, 20, .inl (fun _ => (0 : Int32)))), (q30, .inl (kq1, 20, .inl (fun _ => (0 : Int32)))), (q32, .inl (kq1, 20, .inl (fun _ => (0 : Int32)))), (q34, .inl (kq1, 20, .inl (fun _ => (0 : Int32)))), (q36, .inl (kq1, 20, .inl (fun _ => (0 : Int32)))), (q38, .inl (kq1, 20, .inl (fun _ => (0 : Int32)))), (q40, .inl (kq1, 20, .inl (fun _ => (0 : Int32)))), (q42, .inl (kq1, 320, .inl (fun _ => (0 : Int32)))), (q44, .inl (kq1, 320, .inl (fun _ => (0 : Int32))))]) [0, 1, 2, 3, 4, 5, 6, 7, 8, 9, 10, 11, 12] (by decide) rfl
  refine lv_aload_n hx hb dX13_init_425 rfl (lv_at hl 0 rfl) ?_
  refine lv_bipush (v := 30) hx hb dX13_init_426 (by decide) ?_
  refine va_newa (atype := .int) (ty := .int) (N' := 30) (a0 := (30, .inl (fun _ => (0 : Int32)))) hx hb (hts (.arrayClass .int) (List.mem_of_getElem? (i := 4) rfl)) rfl hK hP hD hS hA (fun _ => rfl) (by decide) (by decide) (Nat.le_of_ble_eq_true rfl) (Nat.le_of_ble_eq_true rfl) (Nat.le_of_ble_eq_true rfl) dX13_init_428 (fun q100 kq100 H hK hP hD hS => ?_)
  have hK : va_K (dC, dI) vwCl [(kq1, .int), (kq13, .byte), (kq72, .boolean), (kq100, .int)] s := hK
  replace hP : va_P (dC, dI) vwCl [(h, .inr (14, mL g99)), (q13, .inl (kq13, 200, .inl (fun _ => (0 : Int32)))), (q23, .inl (kq1, 128, .inl (fun _ => (0 : Int32)))), (q26, .inl (kq1, 20, .inl (fun _ => (0 : Int32)))), (q28, .inl (kq1, 20, .inl (fun _ => (0 : Int32)))), (q30, .inl (kq1, 20, .inl (fun _ => (0 : Int32)))), (q32, .inl (kq1, 20, .inl (fun _ => (0 : Int32)))), (q34, .inl (kq1, 20, .inl (fun _ => (0 : Int32)))), (q36, .inl (kq1, 20, .inl (fun _ => (0 : Int32)))), (q38, .inl (kq1, 20, .inl (fun _ => (0 : Int32)))), (q40, .inl (kq1, 20, .inl (fun _ => (0 : Int32)))), (q42, .inl (kq1, 320, .inl (fun _ => (0 : Int32)))), (q44, .inl (kq1, 320, .inl (fun _ => (0 : Int32)))), (q100, .inl (kq100, 30, .inl (fun _ => (0 : Int32))))] H := hP
  replace hD : va_D A [(h, .inr (14, mL g99)), (q13, .inl (kq13, 200, .inl (fun _ => (0 : Int32)))), (q23, .inl (kq1, 128, .inl (fun _ => (0 : Int32)))), (q26, .inl (kq1, 20, .inl (fun _ => (0 : Int32)))), (q28, .inl (kq1, 20, .inl (fun _ => (0 : Int32)))), (q30, .inl (kq1, 20, .inl (fun _ => (0 : Int32)))), (q32, .inl (kq1, 20, .inl (fun _ => (0 : Int32)))), (q34, .inl (kq1, 20, .inl (fun _ => (0 : Int32)))), (q36, .inl (kq1, 20, .inl (fun _ => (0 : Int32)))), (q38, .inl (kq1, 20, .inl (fun _ => (0 : Int32)))), (q40, .inl (kq1, 20, .inl (fun _ => (0 : Int32)))), (q42, .inl (kq1, 320, .inl (fun _ => (0 : Int32)))), (q44, .inl (kq1, 320, .inl (fun _ => (0 : Int32)))), (q100, .inl (kq100, 30, .inl (fun _ => (0 : Int32))))] := hD
  refine W.widen (k := 50) (n := 9198) (by omega) (by omega) ?_
  obtain rfl : kq1 = kq100 := ub_sa_int hK 0 3 rfl rfl
  have hK := hK.sub (tys' := [(kq1, .int), (kq13, .byte), (kq72, .boolean)]) [0, 1, 2] rfl
  refine va_putF (D := (dC, dI)) (ci := 14) (v := .ref q100) (ty := .array .int) (C := RX13) (T := TX13) (N := 97) hx hb hts iw_m_init_X13 tyX13 tyX13_ok nmX13 hown hK hP hD hS 0 rfl rfl 68 (by decide) (hts (.fieldLink RX13 162 "UnlikeBoatsModel" "protestTold" "[I") (List.mem_of_getElem? (i := 57) rfl)) (fun _ h9 => h9) rfl hin rfl (by decide +kernel) rfl rfl (mL_lt (Nat.le_of_ble_eq_true rfl)) dX13_init_430 (fun H locs hP hD hS => ?_)
  have hP : va_P (dC, dI) vwCl [(h, .inr (14, (mL g99).set 68 (.ref q100))), (q13, .inl (kq13, 200, .inl (fun _ => (0 : Int32)))), (q23, .inl (kq1, 128, .inl (fun _ => (0 : Int32)))), (q26, .inl (kq1, 20, .inl (fun _ => (0 : Int32)))), (q28, .inl (kq1, 20, .inl (fun _ => (0 : Int32)))), (q30, .inl (kq1, 20, .inl (fun _ => (0 : Int32)))), (q32, .inl (kq1, 20, .inl (fun _ => (0 : Int32)))), (q34, .inl (kq1, 20, .inl (fun _ => (0 : Int32)))), (q36, .inl (kq1, 20, .inl (fun _ => (0 : Int32)))), (q38, .inl (kq1, 20, .inl (fun _ => (0 : Int32)))), (q40, .inl (kq1, 20, .inl (fun _ => (0 : Int32)))), (q42, .inl (kq1, 320, .inl (fun _ => (0 : Int32)))), (q44, .inl (kq1, 320, .inl (fun _ => (0 : Int32)))), (q100, .inl (kq1, 30, .inl (fun _ => (0 : Int32))))] H := hP
  have hD : va_D A [(h, .inr (14, (mL g99).set 68 (.ref q100))), (q13, .inl (kq13, 200, .inl (fun _ => (0 : Int32)))), (q23, .inl (kq1, 128, .inl (fun _ => (0 : Int32)))), (q26, .inl (kq1, 20, .inl (fun _ => (0 : Int32)))), (q28, .inl (kq1, 20, .inl (fun _ => (0 : Int32)))), (q30, .inl (kq1, 20, .inl (fun _ => (0 : Int32)))), (q32, .inl (kq1, 20, .inl (fun _ => (0 : Int32)))), (q34, .inl (kq1, 20, .inl (fun _ => (0 : Int32)))), (q36, .inl (kq1, 20, .inl (fun _ => (0 : Int32)))), (q38, .inl (kq1, 20, .inl (fun _ => (0 : Int32)))), (q40, .inl (kq1, 20, .inl (fun _ => (0 : Int32)))), (q42, .inl (kq1, 320, .inl (fun _ => (0 : Int32)))), (q44, .inl (kq1, 320, .inl (fun _ => (0 : Int32)))), (q100, .inl (kq1, 30, .inl (fun _ => (0 : Int32))))] := hD
  obtain ⟨g101, eg101⟩ : ∃ z9, z9 = va_up g99 68 (.ref q100) := ⟨_, rfl⟩
  rw [mL_upd, ← eg101] at hP hD
  have hg101_0 : g101 0 = .int 0 := (congrFun eg101 0).trans ((va_up_ne _ _ (Nat.ne_of_beq_eq_false rfl)).trans hg99_0)
  have hg101_1 : g101 1 = .int 0 := (congrFun eg101 1).trans ((va_up_ne _ _ (Nat.ne_of_beq_eq_false rfl)).trans hg99_1)
  have hg101_8 : g101 8 = .int 0 := (congrFun eg101 8).trans ((va_up_ne _ _ (Nat.ne_of_beq_eq_false rfl)).trans hg99_8)
  have hg101_9 : g101 9 = .int 0 := (congrFun eg101 9).trans ((va_up_ne _ _ (Nat.ne_of_beq_eq_false rfl)).trans hg99_9)
  have hg101_16 : g101 16 = .int 0 := (congrFun eg101 16).trans ((va_up_ne _ _ (Nat.ne_of_beq_eq_false rfl)).trans hg99_16)
  have hg101_17 : g101 17 = .int 0 := (congrFun eg101 17).trans ((va_up_ne _ _ (Nat.ne_of_beq_eq_false rfl)).trans hg99_17)
  have hg101_46 : g101 46 = .int 0 := (congrFun eg101 46).trans ((va_up_ne _ _ (Nat.ne_of_beq_eq_false rfl)).trans hg99_46)
  have hg101_47 : g101 47 = .int 0 := (congrFun eg101 47).trans ((va_up_ne _ _ (Nat.ne_of_beq_eq_false rfl)).trans hg99_47)
  have hg101_48 : g101 48 = .int 0 := (congrFun eg101 48).trans ((va_up_ne _ _ (Nat.ne_of_beq_eq_false rfl)).trans hg99_48)
  have hg101_74 : g101 74 = .int 0 := (congrFun eg101 74).trans ((va_up_ne _ _ (Nat.ne_of_beq_eq_false rfl)).trans hg99_74)
  have hg101_75 : g101 75 = .int 0 := (congrFun eg101 75).trans ((va_up_ne _ _ (Nat.ne_of_beq_eq_false rfl)).trans hg99_75)
  have hg101_55 : g101 55 = .int 0 := (congrFun eg101 55).trans ((va_up_ne _ _ (Nat.ne_of_beq_eq_false rfl)).trans hg99_55)
  have hg101_10 : g101 10 = .ref q13 := (congrFun eg101 10).trans ((va_up_ne _ _ (Nat.ne_of_beq_eq_false rfl)).trans hg99_10)
  have hg101_15 : g101 15 = .ref q23 := (congrFun eg101 15).trans ((va_up_ne _ _ (Nat.ne_of_beq_eq_false rfl)).trans hg99_15)
  have hg101_27 : g101 27 = .ref q26 := (congrFun eg101 27).trans ((va_up_ne _ _ (Nat.ne_of_beq_eq_false rfl)).trans hg99_27)
  have hg101_28 : g101 28 = .ref q28 := (congrFun eg101 28).trans ((va_up_ne _ _ (Nat.ne_of_beq_eq_false rfl)).trans hg99_28)
  have hg101_29 : g101 29 = .ref q30 := (congrFun eg101 29).trans ((va_up_ne _ _ (Nat.ne_of_beq_eq_false rfl)).trans hg99_29)
  have hg101_30 : g101 30 = .ref q32 := (congrFun eg101 30).trans ((va_up_ne _ _ (Nat.ne_of_beq_eq_false rfl)).trans hg99_30)
  have hg101_31 : g101 31 = .ref q34 := (congrFun eg101 31).trans ((va_up_ne _ _ (Nat.ne_of_beq_eq_false rfl)).trans hg99_31)
  have hg101_32 : g101 32 = .ref q36 := (congrFun eg101 32).trans ((va_up_ne _ _ (Nat.ne_of_beq_eq_false rfl)).trans hg99_32)
  have hg101_33 : g101 33 = .ref q38 := (congrFun eg101 33).trans ((va_up_ne _ _ (Nat.ne_of_beq_eq_false rfl)).trans hg99_33)
  have hg101_34 : g101 34 = .ref q40 := (congrFun eg101 34).trans ((va_up_ne _ _ (Nat.ne_of_beq_eq_false rfl)).trans hg99_34)
  have hg101_35 : g101 35 = .ref q42 := (congrFun eg101 35).trans ((va_up_ne _ _ (Nat.ne_of_beq_eq_false rfl)).trans hg99_35)
  have hg101_36 : g101 36 = .ref q44 := (congrFun eg101 36).trans ((va_up_ne _ _ (Nat.ne_of_beq_eq_false rfl)).trans hg99_36)
  clear hg99_0 hg99_1 hg99_8 hg99_9 hg99_16 hg99_17 hg99_46 hg99_47 hg99_48 hg99_74 hg99_75 hg99_55 hg99_10 hg99_15 hg99_27 hg99_28 hg99_29 hg99_30 hg99_31 hg99_32 hg99_33 hg99_34 hg99_35 hg99_36
  have hg101_68 : g101 68 = .ref q100 := by rw [eg101]; exact va_up_self _ _ _
  replace hP := hP.sub (ws' := [(h, .inr (14, mL g101)), (q13, .inl (kq13, 200, .inl (fun _ => (0 : Int32)))), (q23, .inl (kq1, 128, .inl (fun _ => (0 : Int32)))), (q26, .inl (kq1, 20, .inl (fun _ => (0 : Int32)))), (q28, .inl (kq1, 20, .inl (fun _ => (0 : Int32)))), (q30, .inl (kq1, 20, .inl (fun _ => (0 : Int32)))), (q32, .inl (kq1, 20, .inl (fun _ => (0 : Int32)))), (q34, .inl (kq1, 20, .inl (fun _ => (0 : Int32)))), (q36, .inl (kq1, 20, .inl (fun _ => (0 : Int32)))), (q38, .inl (kq1, 20, .inl (fun _ => (0 : Int32)))), (q40, .inl (kq1, 20, .inl (fun _ => (0 : Int32)))), (q42, .inl (kq1, 320, .inl (fun _ => (0 : Int32)))), (q44, .inl (kq1, 320, .inl (fun _ => (0 : Int32))))]) [0, 1, 2, 3, 4, 5, 6, 7, 8, 9, 10, 11, 12] rfl
  replace hD := hD.sub (ws' := [(h, .inr (14, mL g101)), (q13, .inl (kq13, 200, .inl (fun _ => (0 : Int32)))), (q23, .inl (kq1, 128, .inl (fun _ => (0 : Int32)))), (q26, .inl (kq1, 20, .inl (fun _ => (0 : Int32)))), (q28, .inl (kq1, 20, .inl (fun _ => (0 : Int32)))), (q30, .inl (kq1, 20, .inl (fun _ => (0 : Int32)))), (q32, .inl (kq1, 20, .inl (fun _ => (0 : Int32)))), (q34, .inl (kq1, 20, .inl (fun _ => (0 : Int32)))), (q36, .inl (kq1, 20, .inl (fun _ => (0 : Int32)))), (q38, .inl (kq1, 20, .inl (fun _ => (0 : Int32)))), (q40, .inl (kq1, 20, .inl (fun _ => (0 : Int32)))), (q42, .inl (kq1, 320, .inl (fun _ => (0 : Int32)))), (q44, .inl (kq1, 320, .inl (fun _ => (0 : Int32))))]) [0, 1, 2, 3, 4, 5, 6, 7, 8, 9, 10, 11, 12] (by decide) rfl
  refine lv_aload_n hx hb dX13_init_433 rfl (lv_at hl 0 rfl) ?_
  refine lv_bipush (v := 60) hx hb dX13_init_434 (by decide) ?_
  refine va_newa (atype := .int) (ty := .int) (N' := 60) (a0 := (60, .inl (fun _ => (0 : Int32)))) hx hb (hts (.arrayClass .int) (List.mem_of_getElem? (i := 4) rfl)) rfl hK hP hD hS hA (fun _ => rfl) (by decide) (by decide) (Nat.le_of_ble_eq_true rfl) (Nat.le_of_ble_eq_true rfl) (Nat.le_of_ble_eq_true rfl) dX13_init_436 (fun q102 kq102 H hK hP hD hS => ?_)
  have hK : va_K (dC, dI) vwCl [(kq1, .int), (kq13, .byte), (kq72, .boolean), (kq102, .int)] s := hK
  replace hP : va_P (dC, dI) vwCl [(h, .inr (14, mL g101)), (q13, .inl (kq13, 200, .inl (fun _ => (0 : Int32)))), (q23, .inl (kq1, 128, .inl (fun _ => (0 : Int32)))), (q26, .inl (kq1, 20, .inl (fun _ => (0 : Int32)))), (q28, .inl (kq1, 20, .inl (fun _ => (0 : Int32)))), (q30, .inl (kq1, 20, .inl (fun _ => (0 : Int32)))), (q32, .inl (kq1, 20, .inl (fun _ => (0 : Int32)))), (q34, .inl (kq1, 20, .inl (fun _ => (0 : Int32)))), (q36, .inl (kq1, 20, .inl (fun _ => (0 : Int32)))), (q38, .inl (kq1, 20, .inl (fun _ => (0 : Int32)))), (q40, .inl (kq1, 20, .inl (fun _ => (0 : Int32)))), (q42, .inl (kq1, 320, .inl (fun _ => (0 : Int32)))), (q44, .inl (kq1, 320, .inl (fun _ => (0 : Int32)))), (q102, .inl (kq102, 60, .inl (fun _ => (0 : Int32))))] H := hP
  replace hD : va_D A [(h, .inr (14, mL g101)), (q13, .inl (kq13, 200, .inl (fun _ => (0 : Int32)))), (q23, .inl (kq1, 128, .inl (fun _ => (0 : Int32)))), (q26, .inl (kq1, 20, .inl (fun _ => (0 : Int32)))), (q28, .inl (kq1, 20, .inl (fun _ => (0 : Int32)))), (q30, .inl (kq1, 20, .inl (fun _ => (0 : Int32)))), (q32, .inl (kq1, 20, .inl (fun _ => (0 : Int32)))), (q34, .inl (kq1, 20, .inl (fun _ => (0 : Int32)))), (q36, .inl (kq1, 20, .inl (fun _ => (0 : Int32)))), (q38, .inl (kq1, 20, .inl (fun _ => (0 : Int32)))), (q40, .inl (kq1, 20, .inl (fun _ => (0 : Int32)))), (q42, .inl (kq1, 320, .inl (fun _ => (0 : Int32)))), (q44, .inl (kq1, 320, .inl (fun _ => (0 : Int32)))), (q102, .inl (kq102, 60, .inl (fun _ => (0 : Int32))))] := hD
  refine W.widen (k := 51) (n := 9258) (by omega) (by omega) ?_
  obtain rfl : kq1 = kq102 := ub_sa_int hK 0 3 rfl rfl
  have hK := hK.sub (tys' := [(kq1, .int), (kq13, .byte), (kq72, .boolean)]) [0, 1, 2] rfl
  refine va_putF (D := (dC, dI)) (ci := 14) (v := .ref q102) (ty := .array .int) (C := RX13) (T := TX13) (N := 97) hx hb hts iw_m_init_X13 tyX13 tyX13_ok nmX13 hown hK hP hD hS 0 rfl rfl 69 (by decide) (hts (.fieldLink RX13 165 "UnlikeBoatsModel" "outs" "[I") (List.mem_of_getElem? (i := 58) rfl)) (fun _ h9 => h9) rfl hin rfl (by decide +kernel) rfl rfl (mL_lt (Nat.le_of_ble_eq_true rfl)) dX13_init_438 (fun H locs hP hD hS => ?_)
  have hP : va_P (dC, dI) vwCl [(h, .inr (14, (mL g101).set 69 (.ref q102))), (q13, .inl (kq13, 200, .inl (fun _ => (0 : Int32)))), (q23, .inl (kq1, 128, .inl (fun _ => (0 : Int32)))), (q26, .inl (kq1, 20, .inl (fun _ => (0 : Int32)))), (q28, .inl (kq1, 20, .inl (fun _ => (0 : Int32)))), (q30, .inl (kq1, 20, .inl (fun _ => (0 : Int32)))), (q32, .inl (kq1, 20, .inl (fun _ => (0 : Int32)))), (q34, .inl (kq1, 20, .inl (fun _ => (0 : Int32)))), (q36, .inl (kq1, 20, .inl (fun _ => (0 : Int32)))), (q38, .inl (kq1, 20, .inl (fun _ => (0 : Int32)))), (q40, .inl (kq1, 20, .inl (fun _ => (0 : Int32)))), (q42, .inl (kq1, 320, .inl (fun _ => (0 : Int32)))), (q44, .inl (kq1, 320, .inl (fun _ => (0 : Int32)))), (q102, .inl (kq1, 60, .inl (fun _ => (0 : Int32))))] H := hP
  have hD : va_D A [(h, .inr (14, (mL g101).set 69 (.ref q102))), (q13, .inl (kq13, 200, .inl (fun _ => (0 : Int32)))), (q23, .inl (kq1, 128, .inl (fun _ => (0 : Int32)))), (q26, .inl (kq1, 20, .inl (fun _ => (0 : Int32)))), (q28, .inl (kq1, 20, .inl (fun _ => (0 : Int32)))), (q30, .inl (kq1, 20, .inl (fun _ => (0 : Int32)))), (q32, .inl (kq1, 20, .inl (fun _ => (0 : Int32)))), (q34, .inl (kq1, 20, .inl (fun _ => (0 : Int32)))), (q36, .inl (kq1, 20, .inl (fun _ => (0 : Int32)))), (q38, .inl (kq1, 20, .inl (fun _ => (0 : Int32)))), (q40, .inl (kq1, 20, .inl (fun _ => (0 : Int32)))), (q42, .inl (kq1, 320, .inl (fun _ => (0 : Int32)))), (q44, .inl (kq1, 320, .inl (fun _ => (0 : Int32)))), (q102, .inl (kq1, 60, .inl (fun _ => (0 : Int32))))] := hD
  obtain ⟨g103, eg103⟩ : ∃ z9, z9 = va_up g101 69 (.ref q102) := ⟨_, rfl⟩
  rw [mL_upd, ← eg103] at hP hD
  have hg103_0 : g103 0 = .int 0 := (congrFun eg103 0).trans ((va_up_ne _ _ (Nat.ne_of_beq_eq_false rfl)).trans hg101_0)
  have hg103_1 : g103 1 = .int 0 := (congrFun eg103 1).trans ((va_up_ne _ _ (Nat.ne_of_beq_eq_false rfl)).trans hg101_1)
  have hg103_8 : g103 8 = .int 0 := (congrFun eg103 8).trans ((va_up_ne _ _ (Nat.ne_of_beq_eq_false rfl)).trans hg101_8)
  have hg103_9 : g103 9 = .int 0 := (congrFun eg103 9).trans ((va_up_ne _ _ (Nat.ne_of_beq_eq_false rfl)).trans hg101_9)
  have hg103_16 : g103 16 = .int 0 := (congrFun eg103 16).trans ((va_up_ne _ _ (Nat.ne_of_beq_eq_false rfl)).trans hg101_16)
  have hg103_17 : g103 17 = .int 0 := (congrFun eg103 17).trans ((va_up_ne _ _ (Nat.ne_of_beq_eq_false rfl)).trans hg101_17)
  have hg103_46 : g103 46 = .int 0 := (congrFun eg103 46).trans ((va_up_ne _ _ (Nat.ne_of_beq_eq_false rfl)).trans hg101_46)
  have hg103_47 : g103 47 = .int 0 := (congrFun eg103 47).trans ((va_up_ne _ _ (Nat.ne_of_beq_eq_false rfl)).trans hg101_47)
  have hg103_48 : g103 48 = .int 0 := (congrFun eg103 48).trans ((va_up_ne _ _ (Nat.ne_of_beq_eq_false rfl)).trans hg101_48)
  have hg103_74 : g103 74 = .int 0 := (congrFun eg103 74).trans ((va_up_ne _ _ (Nat.ne_of_beq_eq_false rfl)).trans hg101_74)
  have hg103_75 : g103 75 = .int 0 := (congrFun eg103 75).trans ((va_up_ne _ _ (Nat.ne_of_beq_eq_false rfl)).trans hg101_75)
  have hg103_55 : g103 55 = .int 0 := (congrFun eg103 55).trans ((va_up_ne _ _ (Nat.ne_of_beq_eq_false rfl)).trans hg101_55)
  have hg103_10 : g103 10 = .ref q13 := (congrFun eg103 10).trans ((va_up_ne _ _ (Nat.ne_of_beq_eq_false rfl)).trans hg101_10)
  have hg103_15 : g103 15 = .ref q23 := (congrFun eg103 15).trans ((va_up_ne _ _ (Nat.ne_of_beq_eq_false rfl)).trans hg101_15)
  have hg103_27 : g103 27 = .ref q26 := (congrFun eg103 27).trans ((va_up_ne _ _ (Nat.ne_of_beq_eq_false rfl)).trans hg101_27)
  have hg103_28 : g103 28 = .ref q28 := (congrFun eg103 28).trans ((va_up_ne _ _ (Nat.ne_of_beq_eq_false rfl)).trans hg101_28)
  have hg103_29 : g103 29 = .ref q30 := (congrFun eg103 29).trans ((va_up_ne _ _ (Nat.ne_of_beq_eq_false rfl)).trans hg101_29)
  have hg103_30 : g103 30 = .ref q32 := (congrFun eg103 30).trans ((va_up_ne _ _ (Nat.ne_of_beq_eq_false rfl)).trans hg101_30)
  have hg103_31 : g103 31 = .ref q34 := (congrFun eg103 31).trans ((va_up_ne _ _ (Nat.ne_of_beq_eq_false rfl)).trans hg101_31)
  have hg103_32 : g103 32 = .ref q36 := (congrFun eg103 32).trans ((va_up_ne _ _ (Nat.ne_of_beq_eq_false rfl)).trans hg101_32)
  have hg103_33 : g103 33 = .ref q38 := (congrFun eg103 33).trans ((va_up_ne _ _ (Nat.ne_of_beq_eq_false rfl)).trans hg101_33)
  have hg103_34 : g103 34 = .ref q40 := (congrFun eg103 34).trans ((va_up_ne _ _ (Nat.ne_of_beq_eq_false rfl)).trans hg101_34)
  have hg103_35 : g103 35 = .ref q42 := (congrFun eg103 35).trans ((va_up_ne _ _ (Nat.ne_of_beq_eq_false rfl)).trans hg101_35)
  have hg103_36 : g103 36 = .ref q44 := (congrFun eg103 36).trans ((va_up_ne _ _ (Nat.ne_of_beq_eq_false rfl)).trans hg101_36)
  clear hg101_0 hg101_1 hg101_8 hg101_9 hg101_16 hg101_17 hg101_46 hg101_47 hg101_48 hg101_74 hg101_75 hg101_55 hg101_10 hg101_15 hg101_27 hg101_28 hg101_29 hg101_30 hg101_31 hg101_32 hg101_33 hg101_34 hg101_35 hg101_36
  have hg103_69 : g103 69 = .ref q102 := by rw [eg103]; exact va_up_self _ _ _
  replace hP := hP.sub (ws' := [(h, .inr (14, mL g103)), (q13, .inl (kq13, 200, .inl (fun _ => (0 : Int32)))), (q23, .inl (kq1, 128, .inl (fun _ => (0 : Int32)))), (q26, .inl (kq1, 20, .inl (fun _ => (0 : Int32)))), (q28, .inl (kq1, 20, .inl (fun _ => (0 : Int32)))), (q30, .inl (kq1, 20, .inl (fun _ => (0 : Int32)))), (q32, .inl (kq1, 20, .inl (fun _ => (0 : Int32)))), (q34, .inl (kq1, 20, .inl (fun _ => (0 : Int32)))), (q36, .inl (kq1, 20, .inl (fun _ => (0 : Int32)))), (q38, .inl (kq1, 20, .inl (fun _ => (0 : Int32)))), (q40, .inl (kq1, 20, .inl (fun _ => (0 : Int32)))), (q42, .inl (kq1, 320, .inl (fun _ => (0 : Int32)))), (q44, .inl (kq1, 320, .inl (fun _ => (0 : Int32))))]) [0, 1, 2, 3, 4, 5, 6, 7, 8, 9, 10, 11, 12] rfl
  replace hD := hD.sub (ws' := [(h, .inr (14, mL g103)), (q13, .inl (kq13, 200, .inl (fun _ => (0 : Int32)))), (q23, .inl (kq1, 128, .inl (fun _ => (0 : Int32)))), (q26, .inl (kq1, 20, .inl (fun _ => (0 : Int32)))), (q28, .inl (kq1, 20, .inl (fun _ => (0 : Int32)))), (q30, .inl (kq1, 20, .inl (fun _ => (0 : Int32)))), (q32, .inl (kq1, 20, .inl (fun _ => (0 : Int32)))), (q34, .inl (kq1, 20, .inl (fun _ => (0 : Int32)))), (q36, .inl (kq1, 20, .inl (fun _ => (0 : Int32)))), (q38, .inl (kq1, 20, .inl (fun _ => (0 : Int32)))), (q40, .inl (kq1, 20, .inl (fun _ => (0 : Int32)))), (q42, .inl (kq1, 320, .inl (fun _ => (0 : Int32)))), (q44, .inl (kq1, 320, .inl (fun _ => (0 : Int32))))]) [0, 1, 2, 3, 4, 5, 6, 7, 8, 9, 10, 11, 12] (by decide) rfl
  refine lv_aload_n hx hb dX13_init_441 rfl (lv_at hl 0 rfl) ?_
  refine lv_bipush (v := 60) hx hb dX13_init_442 (by decide) ?_
  refine va_newa (atype := .int) (ty := .int) (N' := 60) (a0 := (60, .inl (fun _ => (0 : Int32)))) hx hb (hts (.arrayClass .int) (List.mem_of_getElem? (i := 4) rfl)) rfl hK hP hD hS hA (fun _ => rfl) (by decide) (by decide) (Nat.le_of_ble_eq_true rfl) (Nat.le_of_ble_eq_true rfl) (Nat.le_of_ble_eq_true rfl) dX13_init_444 (fun q104 kq104 H hK hP hD hS => ?_)
  have hK : va_K (dC, dI) vwCl [(kq1, .int), (kq13, .byte), (kq72, .boolean), (kq104, .int)] s := hK
  replace hP : va_P (dC, dI) vwCl [(h, .inr (14, mL g103)), (q13, .inl (kq13, 200, .inl (fun _ => (0 : Int32)))), (q23, .inl (kq1, 128, .inl (fun _ => (0 : Int32)))), (q26, .inl (kq1, 20, .inl (fun _ => (0 : Int32)))), (q28, .inl (kq1, 20, .inl (fun _ => (0 : Int32)))), (q30, .inl (kq1, 20, .inl (fun _ => (0 : Int32)))), (q32, .inl (kq1, 20, .inl (fun _ => (0 : Int32)))), (q34, .inl (kq1, 20, .inl (fun _ => (0 : Int32)))), (q36, .inl (kq1, 20, .inl (fun _ => (0 : Int32)))), (q38, .inl (kq1, 20, .inl (fun _ => (0 : Int32)))), (q40, .inl (kq1, 20, .inl (fun _ => (0 : Int32)))), (q42, .inl (kq1, 320, .inl (fun _ => (0 : Int32)))), (q44, .inl (kq1, 320, .inl (fun _ => (0 : Int32)))), (q104, .inl (kq104, 60, .inl (fun _ => (0 : Int32))))] H := hP
  replace hD : va_D A [(h, .inr (14, mL g103)), (q13, .inl (kq13, 200, .inl (fun _ => (0 : Int32)))), (q23, .inl (kq1, 128, .inl (fun _ => (0 : Int32)))), (q26, .inl (kq1, 20, .inl (fun _ => (0 : Int32)))), (q28, .inl (kq1, 20, .inl (fun _ => (0 : Int32)))), (q30, .inl (kq1, 20, .inl (fun _ => (0 : Int32)))), (q32, .inl (kq1, 20, .inl (fun _ => (0 : Int32)))), (q34, .inl (kq1, 20, .inl (fun _ => (0 : Int32)))), (q36, .inl (kq1, 20, .inl (fun _ => (0 : Int32)))), (q38, .inl (kq1, 20, .inl (fun _ => (0 : Int32)))), (q40, .inl (kq1, 20, .inl (fun _ => (0 : Int32)))), (q42, .inl (kq1, 320, .inl (fun _ => (0 : Int32)))), (q44, .inl (kq1, 320, .inl (fun _ => (0 : Int32)))), (q104, .inl (kq104, 60, .inl (fun _ => (0 : Int32))))] := hD
  refine W.widen (k := 52) (n := 9318) (by omega) (by omega) ?_
  obtain rfl : kq1 = kq104 := ub_sa_int hK 0 3 rfl rfl
  have hK := hK.sub (tys' := [(kq1, .int), (kq13, .byte), (kq72, .boolean)]) [0, 1, 2] rfl
  refine va_putF (D := (dC, dI)) (ci := 14) (v := .ref q104) (ty := .array .int) (C := RX13) (T := TX13) (N := 97) hx hb hts iw_m_init_X13 tyX13 tyX13_ok nmX13 hown hK hP hD hS 0 rfl rfl 70 (by decide) (hts (.fieldLink RX13 168 "UnlikeBoatsModel" "outFrom" "[I") (List.mem_of_getElem? (i := 59) rfl)) (fun _ h9 => h9) rfl hin rfl (by decide +kernel) rfl rfl (mL_lt (Nat.le_of_ble_eq_true rfl)) dX13_init_446 (fun H locs hP hD hS => ?_)
  have hP : va_P (dC, dI) vwCl [(h, .inr (14, (mL g103).set 70 (.ref q104))), (q13, .inl (kq13, 200, .inl (fun _ => (0 : Int32)))), (q23, .inl (kq1, 128, .inl (fun _ => (0 : Int32)))), (q26, .inl (kq1, 20, .inl (fun _ => (0 : Int32)))), (q28, .inl (kq1, 20, .inl (fun _ => (0 : Int32)))), (q30, .inl (kq1, 20, .inl (fun _ => (0 : Int32)))), (q32, .inl (kq1, 20, .inl (fun _ => (0 : Int32)))), (q34, .inl (kq1, 20, .inl (fun _ => (0 : Int32)))), (q36, .inl (kq1, 20, .inl (fun _ => (0 : Int32)))), (q38, .inl (kq1, 20, .inl (fun _ => (0 : Int32)))), (q40, .inl (kq1, 20, .inl (fun _ => (0 : Int32)))), (q42, .inl (kq1, 320, .inl (fun _ => (0 : Int32)))), (q44, .inl (kq1, 320, .inl (fun _ => (0 : Int32)))), (q104, .inl (kq1, 60, .inl (fun _ => (0 : Int32))))] H := hP
  have hD : va_D A [(h, .inr (14, (mL g103).set 70 (.ref q104))), (q13, .inl (kq13, 200, .inl (fun _ => (0 : Int32)))), (q23, .inl (kq1, 128, .inl (fun _ => (0 : Int32)))), (q26, .inl (kq1, 20, .inl (fun _ => (0 : Int32)))), (q28, .inl (kq1, 20, .inl (fun _ => (0 : Int32)))), (q30, .inl (kq1, 20, .inl (fun _ => (0 : Int32)))), (q32, .inl (kq1, 20, .inl (fun _ => (0 : Int32)))), (q34, .inl (kq1, 20, .inl (fun _ => (0 : Int32)))), (q36, .inl (kq1, 20, .inl (fun _ => (0 : Int32)))), (q38, .inl (kq1, 20, .inl (fun _ => (0 : Int32)))), (q40, .inl (kq1, 20, .inl (fun _ => (0 : Int32)))), (q42, .inl (kq1, 320, .inl (fun _ => (0 : Int32)))), (q44, .inl (kq1, 320, .inl (fun _ => (0 : Int32)))), (q104, .inl (kq1, 60, .inl (fun _ => (0 : Int32))))] := hD
  obtain ⟨g105, eg105⟩ : ∃ z9, z9 = va_up g103 70 (.ref q104) := ⟨_, rfl⟩
  rw [mL_upd, ← eg105] at hP hD
  have hg105_0 : g105 0 = .int 0 := (congrFun eg105 0).trans ((va_up_ne _ _ (Nat.ne_of_beq_eq_false rfl)).trans hg103_0)
  have hg105_1 : g105 1 = .int 0 := (congrFun eg105 1).trans ((va_up_ne _ _ (Nat.ne_of_beq_eq_false rfl)).trans hg103_1)
  have hg105_8 : g105 8 = .int 0 := (congrFun eg105 8).trans ((va_up_ne _ _ (Nat.ne_of_beq_eq_false rfl)).trans hg103_8)
  have hg105_9 : g105 9 = .int 0 := (congrFun eg105 9).trans ((va_up_ne _ _ (Nat.ne_of_beq_eq_false rfl)).trans hg103_9)
  have hg105_16 : g105 16 = .int 0 := (congrFun eg105 16).trans ((va_up_ne _ _ (Nat.ne_of_beq_eq_false rfl)).trans hg103_16)
  have hg105_17 : g105 17 = .int 0 := (congrFun eg105 17).trans ((va_up_ne _ _ (Nat.ne_of_beq_eq_false rfl)).trans hg103_17)
  have hg105_46 : g105 46 = .int 0 := (congrFun eg105 46).trans ((va_up_ne _ _ (Nat.ne_of_beq_eq_false rfl)).trans hg103_46)
  have hg105_47 : g105 47 = .int 0 := (congrFun eg105 47).trans ((va_up_ne _ _ (Nat.ne_of_beq_eq_false rfl)).trans hg103_47)
  have hg105_48 : g105 48 = .int 0 := (congrFun eg105 48).trans ((va_up_ne _ _ (Nat.ne_of_beq_eq_false rfl)).trans hg103_48)
  have hg105_74 : g105 74 = .int 0 := (congrFun eg105 74).trans ((va_up_ne _ _ (Nat.ne_of_beq_eq_false rfl)).trans hg103_74)
  have hg105_75 : g105 75 = .int 0 := (congrFun eg105 75).trans ((va_up_ne _ _ (Nat.ne_of_beq_eq_false rfl)).trans hg103_75)
  have hg105_55 : g105 55 = .int 0 := (congrFun eg105 55).trans ((va_up_ne _ _ (Nat.ne_of_beq_eq_false rfl)).trans hg103_55)
  have hg105_10 : g105 10 = .ref q13 := (congrFun eg105 10).trans ((va_up_ne _ _ (Nat.ne_of_beq_eq_false rfl)).trans hg103_10)
  have hg105_15 : g105 15 = .ref q23 := (congrFun eg105 15).trans ((va_up_ne _ _ (Nat.ne_of_beq_eq_false rfl)).trans hg103_15)
  have hg105_27 : g105 27 = .ref q26 := (congrFun eg105 27).trans ((va_up_ne _ _ (Nat.ne_of_beq_eq_false rfl)).trans hg103_27)
  have hg105_28 : g105 28 = .ref q28 := (congrFun eg105 28).trans ((va_up_ne _ _ (Nat.ne_of_beq_eq_false rfl)).trans hg103_28)
  have hg105_29 : g105 29 = .ref q30 := (congrFun eg105 29).trans ((va_up_ne _ _ (Nat.ne_of_beq_eq_false rfl)).trans hg103_29)
  have hg105_30 : g105 30 = .ref q32 := (congrFun eg105 30).trans ((va_up_ne _ _ (Nat.ne_of_beq_eq_false rfl)).trans hg103_30)
  have hg105_31 : g105 31 = .ref q34 := (congrFun eg105 31).trans ((va_up_ne _ _ (Nat.ne_of_beq_eq_false rfl)).trans hg103_31)
  have hg105_32 : g105 32 = .ref q36 := (congrFun eg105 32).trans ((va_up_ne _ _ (Nat.ne_of_beq_eq_false rfl)).trans hg103_32)
  have hg105_33 : g105 33 = .ref q38 := (congrFun eg105 33).trans ((va_up_ne _ _ (Nat.ne_of_beq_eq_false rfl)).trans hg103_33)
  have hg105_34 : g105 34 = .ref q40 := (congrFun eg105 34).trans ((va_up_ne _ _ (Nat.ne_of_beq_eq_false rfl)).trans hg103_34)
  have hg105_35 : g105 35 = .ref q42 := (congrFun eg105 35).trans ((va_up_ne _ _ (Nat.ne_of_beq_eq_false rfl)).trans hg103_35)
  have hg105_36 : g105 36 = .ref q44 := (congrFun eg105 36).trans ((va_up_ne _ _ (Nat.ne_of_beq_eq_false rfl)).trans hg103_36)
  clear hg103_0 hg103_1 hg103_8 hg103_9 hg103_16 hg103_17 hg103_46 hg103_47 hg103_48 hg103_74 hg103_75 hg103_55 hg103_10 hg103_15 hg103_27 hg103_28 hg103_29 hg103_30 hg103_31 hg103_32 hg103_33 hg103_34 hg103_35 hg103_36
  have hg105_70 : g105 70 = .ref q104 := by rw [eg105]; exact va_up_self _ _ _
  replace hP := hP.sub (ws' := [(h, .inr (14, mL g105)), (q13, .inl (kq13, 200, .inl (fun _ => (0 : Int32)))), (q23, .inl (kq1, 128, .inl (fun _ => (0 : Int32)))), (q26, .inl (kq1, 20, .inl (fun _ => (0 : Int32)))), (q28, .inl (kq1, 20, .inl (fun _ => (0 : Int32)))), (q30, .inl (kq1, 20, .inl (fun _ => (0 : Int32)))), (q32, .inl (kq1, 20, .inl (fun _ => (0 : Int32)))), (q34, .inl (kq1, 20, .inl (fun _ => (0 : Int32)))), (q36, .inl (kq1, 20, .inl (fun _ => (0 : Int32)))), (q38, .inl (kq1, 20, .inl (fun _ => (0 : Int32)))), (q40, .inl (kq1, 20, .inl (fun _ => (0 : Int32)))), (q42, .inl (kq1, 320, .inl (fun _ => (0 : Int32)))), (q44, .inl (kq1, 320, .inl (fun _ => (0 : Int32))))]) [0, 1, 2, 3, 4, 5, 6, 7, 8, 9, 10, 11, 12] rfl
  replace hD := hD.sub (ws' := [(h, .inr (14, mL g105)), (q13, .inl (kq13, 200, .inl (fun _ => (0 : Int32)))), (q23, .inl (kq1, 128, .inl (fun _ => (0 : Int32)))), (q26, .inl (kq1, 20, .inl (fun _ => (0 : Int32)))), (q28, .inl (kq1, 20, .inl (fun _ => (0 : Int32)))), (q30, .inl (kq1, 20, .inl (fun _ => (0 : Int32)))), (q32, .inl (kq1, 20, .inl (fun _ => (0 : Int32)))), (q34, .inl (kq1, 20, .inl (fun _ => (0 : Int32)))), (q36, .inl (kq1, 20, .inl (fun _ => (0 : Int32)))), (q38, .inl (kq1, 20, .inl (fun _ => (0 : Int32)))), (q40, .inl (kq1, 20, .inl (fun _ => (0 : Int32)))), (q42, .inl (kq1, 320, .inl (fun _ => (0 : Int32)))), (q44, .inl (kq1, 320, .inl (fun _ => (0 : Int32))))]) [0, 1, 2, 3, 4, 5, 6, 7, 8, 9, 10, 11, 12] (by decide) rfl
  refine lv_aload_n hx hb dX13_init_449 rfl (lv_at hl 0 rfl) ?_
  refine lv_bipush (v := 60) hx hb dX13_init_450 (by decide) ?_
  refine va_newa (atype := .int) (ty := .int) (N' := 60) (a0 := (60, .inl (fun _ => (0 : Int32)))) hx hb (hts (.arrayClass .int) (List.mem_of_getElem? (i := 4) rfl)) rfl hK hP hD hS hA (fun _ => rfl) (by decide) (by decide) (Nat.le_of_ble_eq_true rfl) (Nat.le_of_ble_eq_true rfl) (Nat.le_of_ble_eq_true rfl) dX13_init_452 (fun q106 kq106 H hK hP hD hS => ?_)
  have hK : va_K (dC, dI) vwCl [(kq1, .int), (kq13, .byte), (kq72, .boolean), (kq106, .int)] s := hK
  replace hP : va_P (dC, dI) vwCl [(h, .inr (14, mL g105)), (q13, .inl (kq13, 200, .inl (fun _ => (0 : Int32)))), (q23, .inl (kq1, 128, .inl (fun _ => (0 : Int32)))), (q26, .inl (kq1, 20, .inl (fun _ => (0 : Int32)))), (q28, .inl (kq1, 20, .inl (fun _ => (0 : Int32)))), (q30, .inl (kq1, 20, .inl (fun _ => (0 : Int32)))), (q32, .inl (kq1, 20, .inl (fun _ => (0 : Int32)))), (q34, .inl (kq1, 20, .inl (fun _ => (0 : Int32)))), (q36, .inl (kq1, 20, .inl (fun _ => (0 : Int32)))), (q38, .inl (kq1, 20, .inl (fun _ => (0 : Int32)))), (q40, .inl (kq1, 20, .inl (fun _ => (0 : Int32)))), (q42, .inl (kq1, 320, .inl (fun _ => (0 : Int32)))), (q44, .inl (kq1, 320, .inl (fun _ => (0 : Int32)))), (q106, .inl (kq106, 60, .inl (fun _ => (0 : Int32))))] H := hP
  replace hD : va_D A [(h, .inr (14, mL g105)), (q13, .inl (kq13, 200, .inl (fun _ => (0 : Int32)))), (q23, .inl (kq1, 128, .inl (fun _ => (0 : Int32)))), (q26, .inl (kq1, 20, .inl (fun _ => (0 : Int32)))), (q28, .inl (kq1, 20, .inl (fun _ => (0 : Int32)))), (q30, .inl (kq1, 20, .inl (fun _ => (0 : Int32)))), (q32, .inl (kq1, 20, .inl (fun _ => (0 : Int32)))), (q34, .inl (kq1, 20, .inl (fun _ => (0 : Int32)))), (q36, .inl (kq1, 20, .inl (fun _ => (0 : Int32)))), (q38, .inl (kq1, 20, .inl (fun _ => (0 : Int32)))), (q40, .inl (kq1, 20, .inl (fun _ => (0 : Int32)))), (q42, .inl (kq1, 320, .inl (fun _ => (0 : Int32)))), (q44, .inl (kq1, 320, .inl (fun _ => (0 : Int32)))), (q106, .inl (kq106, 60, .inl (fun _ => (0 : Int32))))] := hD
  refine W.widen (k := 53) (n := 9378) (by omega) (by omega) ?_
  obtain rfl : kq1 = kq106 := ub_sa_int hK 0 3 rfl rfl
  have hK := hK.sub (tys' := [(kq1, .int), (kq13, .byte), (kq72, .boolean)]) [0, 1, 2] rfl
  refine va_putF (D := (dC, dI)) (ci := 14) (v := .ref q106) (ty := .array .int) (C := RX13) (T := TX13) (N := 97) hx hb hts iw_m_init_X13 tyX13 tyX13_ok nmX13 hown hK hP hD hS 0 rfl rfl 71 (by decide) (hts (.fieldLink RX13 171 "UnlikeBoatsModel" "outTo" "[I") (List.mem_of_getElem? (i := 60) rfl)) (fun _ h9 => h9) rfl hin rfl (by decide +kernel) rfl rfl (mL_lt (Nat.le_of_ble_eq_true rfl)) dX13_init_454 (fun H locs hP hD hS => ?_)
  have hP : va_P (dC, dI) vwCl [(h, .inr (14, (mL g105).set 71 (.ref q106))), (q13, .inl (kq13, 200, .inl (fun _ => (0 : Int32)))), (q23, .inl (kq1, 128, .inl (fun _ => (0 : Int32)))), (q26, .inl (kq1, 20, .inl (fun _ => (0 : Int32)))), (q28, .inl (kq1, 20, .inl (fun _ => (0 : Int32)))), (q30, .inl (kq1, 20, .inl (fun _ => (0 : Int32)))), (q32, .inl (kq1, 20, .inl (fun _ => (0 : Int32)))), (q34, .inl (kq1, 20, .inl (fun _ => (0 : Int32)))), (q36, .inl (kq1, 20, .inl (fun _ => (0 : Int32)))), (q38, .inl (kq1, 20, .inl (fun _ => (0 : Int32)))), (q40, .inl (kq1, 20, .inl (fun _ => (0 : Int32)))), (q42, .inl (kq1, 320, .inl (fun _ => (0 : Int32)))), (q44, .inl (kq1, 320, .inl (fun _ => (0 : Int32)))), (q106, .inl (kq1, 60, .inl (fun _ => (0 : Int32))))] H := hP
  have hD : va_D A [(h, .inr (14, (mL g105).set 71 (.ref q106))), (q13, .inl (kq13, 200, .inl (fun _ => (0 : Int32)))), (q23, .inl (kq1, 128, .inl (fun _ => (0 : Int32)))), (q26, .inl (kq1, 20, .inl (fun _ => (0 : Int32)))), (q28, .inl (kq1, 20, .inl (fun _ => (0 : Int32)))), (q30, .inl (kq1, 20, .inl (fun _ => (0 : Int32)))), (q32, .inl (kq1, 20, .inl (fun _ => (0 : Int32)))), (q34, .inl (kq1, 20, .inl (fun _ => (0 : Int32)))), (q36, .inl (kq1, 20, .inl (fun _ => (0 : Int32)))), (q38, .inl (kq1, 20, .inl (fun _ => (0 : Int32)))), (q40, .inl (kq1, 20, .inl (fun _ => (0 : Int32)))), (q42, .inl (kq1, 320, .inl (fun _ => (0 : Int32)))), (q44, .inl (kq1, 320, .inl (fun _ => (0 : Int32)))), (q106, .inl (kq1, 60, .inl (fun _ => (0 : Int32))))] := hD
  obtain ⟨g107, eg107⟩ : ∃ z9, z9 = va_up g105 71 (.ref q106) := ⟨_, rfl⟩
  rw [mL_upd, ← eg107] at hP hD
  have hg107_0 : g107 0 = .int 0 := (congrFun eg107 0).trans ((va_up_ne _ _ (Nat.ne_of_beq_eq_false rfl)).trans hg105_0)
  have hg107_1 : g107 1 = .int 0 := (congrFun eg107 1).trans ((va_up_ne _ _ (Nat.ne_of_beq_eq_false rfl)).trans hg105_1)
  have hg107_8 : g107 8 = .int 0 := (congrFun eg107 8).trans ((va_up_ne _ _ (Nat.ne_of_beq_eq_false rfl)).trans hg105_8)
  have hg107_9 : g107 9 = .int 0 := (congrFun eg107 9).trans ((va_up_ne _ _ (Nat.ne_of_beq_eq_false rfl)).trans hg105_9)
  have hg107_16 : g107 16 = .int 0 := (congrFun eg107 16).trans ((va_up_ne _ _ (Nat.ne_of_beq_eq_false rfl)).trans hg105_16)
  have hg107_17 : g107 17 = .int 0 := (congrFun eg107 17).trans ((va_up_ne _ _ (Nat.ne_of_beq_eq_false rfl)).trans hg105_17)
  have hg107_46 : g107 46 = .int 0 := (congrFun eg107 46).trans ((va_up_ne _ _ (Nat.ne_of_beq_eq_false rfl)).trans hg105_46)
  have hg107_47 : g107 47 = .int 0 := (congrFun eg107 47).trans ((va_up_ne _ _ (Nat.ne_of_beq_eq_false rfl)).trans hg105_47)
  have hg107_48 : g107 48 = .int 0 := (congrFun eg107 48).trans ((va_up_ne _ _ (Nat.ne_of_beq_eq_false rfl)).trans hg105_48)
  have hg107_74 : g107 74 = .int 0 := (congrFun eg107 74).trans ((va_up_ne _ _ (Nat.ne_of_beq_eq_false rfl)).trans hg105_74)
  have hg107_75 : g107 75 = .int 0 := (congrFun eg107 75).trans ((va_up_ne _ _ (Nat.ne_of_beq_eq_false rfl)).trans hg105_75)
  have hg107_55 : g107 55 = .int 0 := (congrFun eg107 55).trans ((va_up_ne _ _ (Nat.ne_of_beq_eq_false rfl)).trans hg105_55)
  have hg107_10 : g107 10 = .ref q13 := (congrFun eg107 10).trans ((va_up_ne _ _ (Nat.ne_of_beq_eq_false rfl)).trans hg105_10)
  have hg107_15 : g107 15 = .ref q23 := (congrFun eg107 15).trans ((va_up_ne _ _ (Nat.ne_of_beq_eq_false rfl)).trans hg105_15)
  have hg107_27 : g107 27 = .ref q26 := (congrFun eg107 27).trans ((va_up_ne _ _ (Nat.ne_of_beq_eq_false rfl)).trans hg105_27)
  have hg107_28 : g107 28 = .ref q28 := (congrFun eg107 28).trans ((va_up_ne _ _ (Nat.ne_of_beq_eq_false rfl)).trans hg105_28)
  have hg107_29 : g107 29 = .ref q30 := (congrFun eg107 29).trans ((va_up_ne _ _ (Nat.ne_of_beq_eq_false rfl)).trans hg105_29)
  have hg107_30 : g107 30 = .ref q32 := (congrFun eg107 30).trans ((va_up_ne _ _ (Nat.ne_of_beq_eq_false rfl)).trans hg105_30)
  have hg107_31 : g107 31 = .ref q34 := (congrFun eg107 31).trans ((va_up_ne _ _ (Nat.ne_of_beq_eq_false rfl)).trans hg105_31)
  have hg107_32 : g107 32 = .ref q36 := (congrFun eg107 32).trans ((va_up_ne _ _ (Nat.ne_of_beq_eq_false rfl)).trans hg105_32)
  have hg107_33 : g107 33 = .ref q38 := (congrFun eg107 33).trans ((va_up_ne _ _ (Nat.ne_of_beq_eq_false rfl)).trans hg105_33)
  have hg107_34 : g107 34 = .ref q40 := (congrFun eg107 34).trans ((va_up_ne _ _ (Nat.ne_of_beq_eq_false rfl)).trans hg105_34)
  have hg107_35 : g107 35 = .ref q42 := (congrFun eg107 35).trans ((va_up_ne _ _ (Nat.ne_of_beq_eq_false rfl)).trans hg105_35)
  have hg107_36 : g107 36 = .ref q44 := (congrFun eg107 36).trans ((va_up_ne _ _ (Nat.ne_of_beq_eq_false rfl)).trans hg105_36)
  clear hg105_0 hg105_1 hg105_8 hg105_9 hg105_16 hg105_17 hg105_46 hg105_47 hg105_48 hg105_74 hg105_75 hg105_55 hg105_10 hg105_15 hg105_27 hg105_28 hg105_29 hg105_30 hg105_31 hg105_32 hg105_33 hg105_34 hg105_35 hg105_36
  have hg107_71 : g107 71 = .ref q106 := by rw [eg107]; exact va_up_self _ _ _
  replace hP := hP.sub (ws' := [(h, .inr (14, mL g107)), (q13, .inl (kq13, 200, .inl (fun _ => (0 : Int32)))), (q23, .inl (kq1, 128, .inl (fun _ => (0 : Int32)))), (q26, .inl (kq1, 20, .inl (fun _ => (0 : Int32)))), (q28, .inl (kq1, 20, .inl (fun _ => (0 : Int32)))), (q30, .inl (kq1, 20, .inl (fun _ => (0 : Int32)))), (q32, .inl (kq1, 20, .inl (fun _ => (0 : Int32)))), (q34, .inl (kq1, 20, .inl (fun _ => (0 : Int32)))), (q36, .inl (kq1, 20, .inl (fun _ => (0 : Int32)))), (q38, .inl (kq1, 20, .inl (fun _ => (0 : Int32)))), (q40, .inl (kq1, 20, .inl (fun _ => (0 : Int32)))), (q42, .inl (kq1, 320, .inl (fun _ => (0 : Int32)))), (q44, .inl (kq1, 320, .inl (fun _ => (0 : Int32))))]) [0, 1, 2, 3, 4, 5, 6, 7, 8, 9, 10, 11, 12] rfl
  replace hD := hD.sub (ws' := [(h, .inr (14, mL g107)), (q13, .inl (kq13, 200, .inl (fun _ => (0 : Int32)))), (q23, .inl (kq1, 128, .inl (fun _ => (0 : Int32)))), (q26, .inl (kq1, 20, .inl (fun _ => (0 : Int32)))), (q28, .inl (kq1, 20, .inl (fun _ => (0 : Int32)))), (q30, .inl (kq1, 20, .inl (fun _ => (0 : Int32)))), (q32, .inl (kq1, 20, .inl (fun _ => (0 : Int32)))), (q34, .inl (kq1, 20, .inl (fun _ => (0 : Int32)))), (q36, .inl (kq1, 20, .inl (fun _ => (0 : Int32)))), (q38, .inl (kq1, 20, .inl (fun _ => (0 : Int32)))), (q40, .inl (kq1, 20, .inl (fun _ => (0 : Int32)))), (q42, .inl (kq1, 320, .inl (fun _ => (0 : Int32)))), (q44, .inl (kq1, 320, .inl (fun _ => (0 : Int32))))]) [0, 1, 2, 3, 4, 5, 6, 7, 8, 9, 10, 11, 12] (by decide) rfl
  refine lv_aload_n hx hb dX13_init_457 rfl (lv_at hl 0 rfl) ?_
  refine lv_bipush (v := 30) hx hb dX13_init_458 (by decide) ?_
  refine va_newa (atype := .int) (ty := .int) (N' := 30) (a0 := (30, .inl (fun _ => (0 : Int32)))) hx hb (hts (.arrayClass .int) (List.mem_of_getElem? (i := 4) rfl)) rfl hK hP hD hS hA (fun _ => rfl) (by decide) (by decide) (Nat.le_of_ble_eq_true rfl) (Nat.le_of_ble_eq_true rfl) (Nat.le_of_ble_eq_true rfl) dX13_init_460 (fun q108 kq108 H hK hP hD hS => ?_)
  have hK : va_K (dC, dI) vwCl [(kq1, .int), (kq13, .byte), (kq72, .boolean), (kq108, .int)] s := hK
  replace hP : va_P (dC, dI) vwCl [(h, .inr (14, mL g107)), (q13, .inl (kq13, 200, .inl (fun _ => (0 : Int32)))), (q23, .inl (kq1, 128, .inl (fun _ => (0 : Int32)))), (q26, .inl (kq1, 20, .inl (fun _ => (0 : Int32)))), (q28, .inl (kq1, 20, .inl (fun _ => (0 : Int32)))), (q30, .inl (kq1, 20, .inl (fun _ => (0 : Int32)))), (q32, .inl (kq1, 20, .inl (fun _ => (0 : Int32)))), (q34, .inl (kq1, 20, .inl (fun _ => (0 : Int32)))), (q36, .inl (kq1, 20, .inl (fun _ => (0 : Int32)))), (q38, .inl (kq1, 20, .inl (fun _ => (0 : Int32)))), (q40, .inl (kq1, 20, .inl (fun _ => (0 : Int32)))), (q42, .inl (kq1, 320, .inl (fun _ => (0 : Int32)))), (q44, .inl (kq1, 320, .inl (fun _ => (0 : Int32)))), (q108, .inl (kq108, 30, .inl (fun _ => (0 : Int32))))] H := hP
  replace hD : va_D A [(h, .inr (14, mL g107)), (q13, .inl (kq13, 200, .inl (fun _ => (0 : Int32)))), (q23, .inl (kq1, 128, .inl (fun _ => (0 : Int32)))), (q26, .inl (kq1, 20, .inl (fun _ => (0 : Int32)))), (q28, .inl (kq1, 20, .inl (fun _ => (0 : Int32)))), (q30, .inl (kq1, 20, .inl (fun _ => (0 : Int32)))), (q32, .inl (kq1, 20, .inl (fun _ => (0 : Int32)))), (q34, .inl (kq1, 20, .inl (fun _ => (0 : Int32)))), (q36, .inl (kq1, 20, .inl (fun _ => (0 : Int32)))), (q38, .inl (kq1, 20, .inl (fun _ => (0 : Int32)))), (q40, .inl (kq1, 20, .inl (fun _ => (0 : Int32)))), (q42, .inl (kq1, 320, .inl (fun _ => (0 : Int32)))), (q44, .inl (kq1, 320, .inl (fun _ => (0 : Int32)))), (q108, .inl (kq108, 30, .inl (fun _ => (0 : Int32))))] := hD
  refine W.widen (k := 54) (n := 9408) (by omega) (by omega) ?_
  obtain rfl : kq1 = kq108 := ub_sa_int hK 0 3 rfl rfl
  have hK := hK.sub (tys' := [(kq1, .int), (kq13, .byte), (kq72, .boolean)]) [0, 1, 2] rfl
  refine va_putF (D := (dC, dI)) (ci := 14) (v := .ref q108) (ty := .array .int) (C := RX13) (T := TX13) (N := 97) hx hb hts iw_m_init_X13 tyX13 tyX13_ok nmX13 hown hK hP hD hS 0 rfl rfl 72 (by decide) (hts (.fieldLink RX13 174 "UnlikeBoatsModel" "decisions" "[I") (List.mem_of_getElem? (i := 61) rfl)) (fun _ h9 => h9) rfl hin rfl (by decide +kernel) rfl rfl (mL_lt (Nat.le_of_ble_eq_true rfl)) dX13_init_462 (fun H locs hP hD hS => ?_)
  have hP : va_P (dC, dI) vwCl [(h, .inr (14, (mL g107).set 72 (.ref q108))), (q13, .inl (kq13, 200, .inl (fun _ => (0 : Int32)))), (q23, .inl (kq1, 128, .inl (fun _ => (0 : Int32)))), (q26, .inl (kq1, 20, .inl (fun _ => (0 : Int32)))), (q28, .inl (kq1, 20, .inl (fun _ => (0 : Int32)))), (q30, .inl (kq1, 20, .inl (fun _ => (0 : Int32)))), (q32, .inl (kq1, 20, .inl (fun _ => (0 : Int32)))), (q34, .inl (kq1, 20, .inl (fun _ => (0 : Int32)))), (q36, .inl (kq1, 20, .inl (fun _ => (0 : Int32)))), (q38, .inl (kq1, 20, .inl (fun _ => (0 : Int32)))), (q40, .inl (kq1, 20, .inl (fun _ => (0 : Int32)))), (q42, .inl (kq1, 320, .inl (fun _ => (0 : Int32)))), (q44, .inl (kq1, 320, .inl (fun _ => (0 : Int32)))), (q108, .inl (kq1, 30, .inl (fun _ => (0 : Int32))))] H := hP
  have hD : va_D A [(h, .inr (14, (mL g107).set 72 (.ref q108))), (q13, .inl (kq13, 200, .inl (fun _ => (0 : Int32)))), (q23, .inl (kq1, 128, .inl (fun _ => (0 : Int32)))), (q26, .inl (kq1, 20, .inl (fun _ => (0 : Int32)))), (q28, .inl (kq1, 20, .inl (fun _ => (0 : Int32)))), (q30, .inl (kq1, 20, .inl (fun _ => (0 : Int32)))), (q32, .inl (kq1, 20, .inl (fun _ => (0 : Int32)))), (q34, .inl (kq1, 20, .inl (fun _ => (0 : Int32)))), (q36, .inl (kq1, 20, .inl (fun _ => (0 : Int32)))), (q38, .inl (kq1, 20, .inl (fun _ => (0 : Int32)))), (q40, .inl (kq1, 20, .inl (fun _ => (0 : Int32)))), (q42, .inl (kq1, 320, .inl (fun _ => (0 : Int32)))), (q44, .inl (kq1, 320, .inl (fun _ => (0 : Int32)))), (q108, .inl (kq1, 30, .inl (fun _ => (0 : Int32))))] := hD
  obtain ⟨g109, eg109⟩ : ∃ z9, z9 = va_up g107 72 (.ref q108) := ⟨_, rfl⟩
  rw [mL_upd, ← eg109] at hP hD
  have hg109_0 : g109 0 = .int 0 := (congrFun eg109 0).trans ((va_up_ne _ _ (Nat.ne_of_beq_eq_false rfl)).trans hg107_0)
  have hg109_1 : g109 1 = .int 0 := (congrFun eg109 1).trans ((va_up_ne _ _ (Nat.ne_of_beq_eq_false rfl)).trans hg107_1)
  have hg109_8 : g109 8 = .int 0 := (congrFun eg109 8).trans ((va_up_ne _ _ (Nat.ne_of_beq_eq_false rfl)).trans hg107_8)
  have hg109_9 : g109 9 = .int 0 := (congrFun eg109 9).trans ((va_up_ne _ _ (Nat.ne_of_beq_eq_false rfl)).trans hg107_9)
  have hg109_16 : g109 16 = .int 0 := (congrFun eg109 16).trans ((va_up_ne _ _ (Nat.ne_of_beq_eq_false rfl)).trans hg107_16)
  have hg109_17 : g109 17 = .int 0 := (congrFun eg109 17).trans ((va_up_ne _ _ (Nat.ne_of_beq_eq_false rfl)).trans hg107_17)
  have hg109_46 : g109 46 = .int 0 := (congrFun eg109 46).trans ((va_up_ne _ _ (Nat.ne_of_beq_eq_false rfl)).trans hg107_46)
  have hg109_47 : g109 47 = .int 0 := (congrFun eg109 47).trans ((va_up_ne _ _ (Nat.ne_of_beq_eq_false rfl)).trans hg107_47)
  have hg109_48 : g109 48 = .int 0 := (congrFun eg109 48).trans ((va_up_ne _ _ (Nat.ne_of_beq_eq_false rfl)).trans hg107_48)
  have hg109_74 : g109 74 = .int 0 := (congrFun eg109 74).trans ((va_up_ne _ _ (Nat.ne_of_beq_eq_false rfl)).trans hg107_74)
  have hg109_75 : g109 75 = .int 0 := (congrFun eg109 75).trans ((va_up_ne _ _ (Nat.ne_of_beq_eq_false rfl)).trans hg107_75)
  have hg109_55 : g109 55 = .int 0 := (congrFun eg109 55).trans ((va_up_ne _ _ (Nat.ne_of_beq_eq_false rfl)).trans hg107_55)
  have hg109_10 : g109 10 = .ref q13 := (congrFun eg109 10).trans ((va_up_ne _ _ (Nat.ne_of_beq_eq_false rfl)).trans hg107_10)
  have hg109_15 : g109 15 = .ref q23 := (congrFun eg109 15).trans ((va_up_ne _ _ (Nat.ne_of_beq_eq_false rfl)).trans hg107_15)
  have hg109_27 : g109 27 = .ref q26 := (congrFun eg109 27).trans ((va_up_ne _ _ (Nat.ne_of_beq_eq_false rfl)).trans hg107_27)
  have hg109_28 : g109 28 = .ref q28 := (congrFun eg109 28).trans ((va_up_ne _ _ (Nat.ne_of_beq_eq_false rfl)).trans hg107_28)
  have hg109_29 : g109 29 = .ref q30 := (congrFun eg109 29).trans ((va_up_ne _ _ (Nat.ne_of_beq_eq_false rfl)).trans hg107_29)
  have hg109_30 : g109 30 = .ref q32 := (congrFun eg109 30).trans ((va_up_ne _ _ (Nat.ne_of_beq_eq_false rfl)).trans hg107_30)
  have hg109_31 : g109 31 = .ref q34 := (congrFun eg109 31).trans ((va_up_ne _ _ (Nat.ne_of_beq_eq_false rfl)).trans hg107_31)
  have hg109_32 : g109 32 = .ref q36 := (congrFun eg109 32).trans ((va_up_ne _ _ (Nat.ne_of_beq_eq_false rfl)).trans hg107_32)
  have hg109_33 : g109 33 = .ref q38 := (congrFun eg109 33).trans ((va_up_ne _ _ (Nat.ne_of_beq_eq_false rfl)).trans hg107_33)
  have hg109_34 : g109 34 = .ref q40 := (congrFun eg109 34).trans ((va_up_ne _ _ (Nat.ne_of_beq_eq_false rfl)).trans hg107_34)
  have hg109_35 : g109 35 = .ref q42 := (congrFun eg109 35).trans ((va_up_ne _ _ (Nat.ne_of_beq_eq_false rfl)).trans hg107_35)
  have hg109_36 : g109 36 = .ref q44 := (congrFun eg109 36).trans ((va_up_ne _ _ (Nat.ne_of_beq_eq_false rfl)).trans hg107_36)
  clear hg107_0 hg107_1 hg107_8 hg107_9 hg107_16 hg107_17 hg107_46 hg107_47 hg107_48 hg107_74 hg107_75 hg107_55 hg107_10 hg107_15 hg107_27 hg107_28 hg107_29 hg107_30 hg107_31 hg107_32 hg107_33 hg107_34 hg107_35 hg107_36
  have hg109_72 : g109 72 = .ref q108 := by rw [eg109]; exact va_up_self _ _ _
  replace hP := hP.sub (ws' := [(h, .inr (14, mL g109)), (q13, .inl (kq13, 200, .inl (fun _ => (0 : Int32)))), (q23, .inl (kq1, 128, .inl (fun _ => (0 : Int32)))), (q26, .inl (kq1, 20, .inl (fun _ => (0 : Int32)))), (q28, .inl (kq1, 20, .inl (fun _ => (0 : Int32)))), (q30, .inl (kq1, 20, .inl (fun _ => (0 : Int32)))), (q32, .inl (kq1, 20, .inl (fun _ => (0 : Int32)))), (q34, .inl (kq1, 20, .inl (fun _ => (0 : Int32)))), (q36, .inl (kq1, 20, .inl (fun _ => (0 : Int32)))), (q38, .inl (kq1, 20, .inl (fun _ => (0 : Int32)))), (q40, .inl (kq1, 20, .inl (fun _ => (0 : Int32)))), (q42, .inl (kq1, 320, .inl (fun _ => (0 : Int32)))), (q44, .inl (kq1, 320, .inl (fun _ => (0 : Int32))))]) [0, 1, 2, 3, 4, 5, 6, 7, 8, 9, 10, 11, 12] rfl
  replace hD := hD.sub (ws' := [(h, .inr (14, mL g109)), (q13, .inl (kq13, 200, .inl (fun _ => (0 : Int32)))), (q23, .inl (kq1, 128, .inl (fun _ => (0 : Int32)))), (q26, .inl (kq1, 20, .inl (fun _ => (0 : Int32)))), (q28, .inl (kq1, 20, .inl (fun _ => (0 : Int32)))), (q30, .inl (kq1, 20, .inl (fun _ => (0 : Int32)))), (q32, .inl (kq1, 20, .inl (fun _ => (0 : Int32)))), (q34, .inl (kq1, 20, .inl (fun _ => (0 : Int32)))), (q36, .inl (kq1, 20, .inl (fun _ => (0 : Int32)))), (q38, .inl (kq1, 20, .inl (fun _ => (0 : Int32)))), (q40, .inl (kq1, 20, .inl (fun _ => (0 : Int32)))), (q42, .inl (kq1, 320, .inl (fun _ => (0 : Int32)))), (q44, .inl (kq1, 320, .inl (fun _ => (0 : Int32))))]) [0, 1, 2, 3, 4, 5, 6, 7, 8, 9, 10, 11, 12] (by decide) rfl
  refine lv_aload_n hx hb dX13_init_465 rfl (lv_at hl 0 rfl) ?_
  refine lv_bipush (v := 30) hx hb dX13_init_466 (by decide) ?_
  refine va_newa (atype := .boolean) (ty := .boolean) (N' := 30) (a0 := (30, .inl (fun _ => (0 : Int32)))) hx hb (hts (.arrayClass .boolean) (List.mem_of_getElem? (i := 42) rfl)) rfl hK hP hD hS hA (fun _ => rfl) (by decide) (by decide) (Nat.le_of_ble_eq_true rfl) (Nat.le_of_ble_eq_true rfl) (Nat.le_of_ble_eq_true rfl) dX13_init_468 (fun q110 kq110 H hK hP hD hS => ?_)
  have hK : va_K (dC, dI) vwCl [(kq1, .int), (kq13, .byte), (kq72, .boolean), (kq110, .boolean)] s := hK
  replace hP : va_P (dC, dI) vwCl [(h, .inr (14, mL g109)), (q13, .inl (kq13, 200, .inl (fun _ => (0 : Int32)))), (q23, .inl (kq1, 128, .inl (fun _ => (0 : Int32)))), (q26, .inl (kq1, 20, .inl (fun _ => (0 : Int32)))), (q28, .inl (kq1, 20, .inl (fun _ => (0 : Int32)))), (q30, .inl (kq1, 20, .inl (fun _ => (0 : Int32)))), (q32, .inl (kq1, 20, .inl (fun _ => (0 : Int32)))), (q34, .inl (kq1, 20, .inl (fun _ => (0 : Int32)))), (q36, .inl (kq1, 20, .inl (fun _ => (0 : Int32)))), (q38, .inl (kq1, 20, .inl (fun _ => (0 : Int32)))), (q40, .inl (kq1, 20, .inl (fun _ => (0 : Int32)))), (q42, .inl (kq1, 320, .inl (fun _ => (0 : Int32)))), (q44, .inl (kq1, 320, .inl (fun _ => (0 : Int32)))), (q110, .inl (kq110, 30, .inl (fun _ => (0 : Int32))))] H := hP
  replace hD : va_D A [(h, .inr (14, mL g109)), (q13, .inl (kq13, 200, .inl (fun _ => (0 : Int32)))), (q23, .inl (kq1, 128, .inl (fun _ => (0 : Int32)))), (q26, .inl (kq1, 20, .inl (fun _ => (0 : Int32)))), (q28, .inl (kq1, 20, .inl (fun _ => (0 : Int32)))), (q30, .inl (kq1, 20, .inl (fun _ => (0 : Int32)))), (q32, .inl (kq1, 20, .inl (fun _ => (0 : Int32)))), (q34, .inl (kq1, 20, .inl (fun _ => (0 : Int32)))), (q36, .inl (kq1, 20, .inl (fun _ => (0 : Int32)))), (q38, .inl (kq1, 20, .inl (fun _ => (0 : Int32)))), (q40, .inl (kq1, 20, .inl (fun _ => (0 : Int32)))), (q42, .inl (kq1, 320, .inl (fun _ => (0 : Int32)))), (q44, .inl (kq1, 320, .inl (fun _ => (0 : Int32)))), (q110, .inl (kq110, 30, .inl (fun _ => (0 : Int32))))] := hD
  refine W.widen (k := 55) (n := 9438) (by omega) (by omega) ?_
  obtain rfl : kq72 = kq110 := ub_sa_boolean hK 2 3 rfl rfl
  have hK := hK.sub (tys' := [(kq1, .int), (kq13, .byte), (kq72, .boolean)]) [0, 1, 2] rfl
  refine va_putF (D := (dC, dI)) (ci := 14) (v := .ref q110) (ty := .array .boolean) (C := RX13) (T := TX13) (N := 97) hx hb hts iw_m_init_X13 tyX13 tyX13_ok nmX13 hown hK hP hD hS 0 rfl rfl 73 (by decide) (hts (.fieldLink RX13 177 "UnlikeBoatsModel" "isDecided" "[Z") (List.mem_of_getElem? (i := 62) rfl)) (fun _ h9 => h9) rfl hin rfl (by decide +kernel) rfl rfl (mL_lt (Nat.le_of_ble_eq_true rfl)) dX13_init_470 (fun H locs hP hD hS => ?_)
  have hP : va_P (dC, dI) vwCl [(h, .inr (14, (mL g109).set 73 (.ref q110))), (q13, .inl (kq13, 200, .inl (fun _ => (0 : Int32)))), (q23, .inl (kq1, 128, .inl (fun _ => (0 : Int32)))), (q26, .inl (kq1, 20, .inl (fun _ => (0 : Int32)))), (q28, .inl (kq1, 20, .inl (fun _ => (0 : Int32)))), (q30, .inl (kq1, 20, .inl (fun _ => (0 : Int32)))), (q32, .inl (kq1, 20, .inl (fun _ => (0 : Int32)))), (q34, .inl (kq1, 20, .inl (fun _ => (0 : Int32)))), (q36, .inl (kq1, 20, .inl (fun _ => (0 : Int32)))), (q38, .inl (kq1, 20, .inl (fun _ => (0 : Int32)))), (q40, .inl (kq1, 20, .inl (fun _ => (0 : Int32)))), (q42, .inl (kq1, 320, .inl (fun _ => (0 : Int32)))), (q44, .inl (kq1, 320, .inl (fun _ => (0 : Int32)))), (q110, .inl (kq72, 30, .inl (fun _ => (0 : Int32))))] H := hP
  have hD : va_D A [(h, .inr (14, (mL g109).set 73 (.ref q110))), (q13, .inl (kq13, 200, .inl (fun _ => (0 : Int32)))), (q23, .inl (kq1, 128, .inl (fun _ => (0 : Int32)))), (q26, .inl (kq1, 20, .inl (fun _ => (0 : Int32)))), (q28, .inl (kq1, 20, .inl (fun _ => (0 : Int32)))), (q30, .inl (kq1, 20, .inl (fun _ => (0 : Int32)))), (q32, .inl (kq1, 20, .inl (fun _ => (0 : Int32)))), (q34, .inl (kq1, 20, .inl (fun _ => (0 : Int32)))), (q36, .inl (kq1, 20, .inl (fun _ => (0 : Int32)))), (q38, .inl (kq1, 20, .inl (fun _ => (0 : Int32)))), (q40, .inl (kq1, 20, .inl (fun _ => (0 : Int32)))), (q42, .inl (kq1, 320, .inl (fun _ => (0 : Int32)))), (q44, .inl (kq1, 320, .inl (fun _ => (0 : Int32)))), (q110, .inl (kq72, 30, .inl (fun _ => (0 : Int32))))] := hD
  obtain ⟨g111, eg111⟩ : ∃ z9, z9 = va_up g109 73 (.ref q110) := ⟨_, rfl⟩
  rw [mL_upd, ← eg111] at hP hD
  have hg111_0 : g111 0 = .int 0 := (congrFun eg111 0).trans ((va_up_ne _ _ (Nat.ne_of_beq_eq_false rfl)).trans hg109_0)
  have hg111_1 : g111 1 = .int 0 := (congrFun eg111 1).trans ((va_up_ne _ _ (Nat.ne_of_beq_eq_false rfl)).trans hg109_1)
  have hg111_8 : g111 8 = .int 0 := (congrFun eg111 8).trans ((va_up_ne _ _ (Nat.ne_of_beq_eq_false rfl)).trans hg109_8)
  have hg111_9 : g111 9 = .int 0 := (congrFun eg111 9).trans ((va_up_ne _ _ (Nat.ne_of_beq_eq_false rfl)).trans hg109_9)
  have hg111_16 : g111 16 = .int 0 := (congrFun eg111 16).trans ((va_up_ne _ _ (Nat.ne_of_beq_eq_false rfl)).trans hg109_16)
  have hg111_17 : g111 17 = .int 0 := (congrFun eg111 17).trans ((va_up_ne _ _ (Nat.ne_of_beq_eq_false rfl)).trans hg109_17)
  have hg111_46 : g111 46 = .int 0 := (congrFun eg111 46).trans ((va_up_ne _ _ (Nat.ne_of_beq_eq_false rfl)).trans hg109_46)
  have hg111_47 : g111 47 = .int 0 := (congrFun eg111 47).trans ((va_up_ne _ _ (Nat.ne_of_beq_eq_false rfl)).trans hg109_47)
  have hg111_48 : g111 48 = .int 0 := (congrFun eg111 48).trans ((va_up_ne _ _ (Nat.ne_of_beq_eq_false rfl)).trans hg109_48)
  have hg111_74 : g111 74 = .int 0 := (congrFun eg111 74).trans ((va_up_ne _ _ (Nat.ne_of_beq_eq_false rfl)).trans hg109_74)
  have hg111_75 : g111 75 = .int 0 := (congrFun eg111 75).trans ((va_up_ne _ _ (Nat.ne_of_beq_eq_false rfl)).trans hg109_75)
  have hg111_55 : g111 55 = .int 0 := (congrFun eg111 55).trans ((va_up_ne _ _ (Nat.ne_of_beq_eq_false rfl)).trans hg109_55)
  have hg111_10 : g111 10 = .ref q13 := (congrFun eg111 10).trans ((va_up_ne _ _ (Nat.ne_of_beq_eq_false rfl)).trans hg109_10)
  have hg111_15 : g111 15 = .ref q23 := (congrFun eg111 15).trans ((va_up_ne _ _ (Nat.ne_of_beq_eq_false rfl)).trans hg109_15)
  have hg111_27 : g111 27 = .ref q26 := (congrFun eg111 27).trans ((va_up_ne _ _ (Nat.ne_of_beq_eq_false rfl)).trans hg109_27)
  have hg111_28 : g111 28 = .ref q28 := (congrFun eg111 28).trans ((va_up_ne _ _ (Nat.ne_of_beq_eq_false rfl)).trans hg109_28)
  have hg111_29 : g111 29 = .ref q30 := (congrFun eg111 29).trans ((va_up_ne _ _ (Nat.ne_of_beq_eq_false rfl)).trans hg109_29)
  have hg111_30 : g111 30 = .ref q32 := (congrFun eg111 30).trans ((va_up_ne _ _ (Nat.ne_of_beq_eq_false rfl)).trans hg109_30)
  have hg111_31 : g111 31 = .ref q34 := (congrFun eg111 31).trans ((va_up_ne _ _ (Nat.ne_of_beq_eq_false rfl)).trans hg109_31)
  have hg111_32 : g111 32 = .ref q36 := (congrFun eg111 32).trans ((va_up_ne _ _ (Nat.ne_of_beq_eq_false rfl)).trans hg109_32)
  have hg111_33 : g111 33 = .ref q38 := (congrFun eg111 33).trans ((va_up_ne _ _ (Nat.ne_of_beq_eq_false rfl)).trans hg109_33)
  have hg111_34 : g111 34 = .ref q40 := (congrFun eg111 34).trans ((va_up_ne _ _ (Nat.ne_of_beq_eq_false rfl)).trans hg109_34)
  have hg111_35 : g111 35 = .ref q42 := (congrFun eg111 35).trans ((va_up_ne _ _ (Nat.ne_of_beq_eq_false rfl)).trans hg109_35)
  have hg111_36 : g111 36 = .ref q44 := (congrFun eg111 36).trans ((va_up_ne _ _ (Nat.ne_of_beq_eq_false rfl)).trans hg109_36)
  clear hg109_0 hg109_1 hg109_8 hg109_9 hg109_16 hg109_17 hg109_46 hg109_47 hg109_48 hg109_74 hg109_75 hg109_55 hg109_10 hg109_15 hg109_27 hg109_28 hg109_29 hg109_30 hg109_31 hg109_32 hg109_33 hg109_34 hg109_35 hg109_36
  have hg111_73 : g111 73 = .ref q110 := by rw [eg111]; exact va_up_self _ _ _
  replace hP := hP.sub (ws' := [(h, .inr (14, mL g111)), (q13, .inl (kq13, 200, .inl (fun _ => (0 : Int32)))), (q23, .inl (kq1, 128, .inl (fun _ => (0 : Int32)))), (q26, .inl (kq1, 20, .inl (fun _ => (0 : Int32)))), (q28, .inl (kq1, 20, .inl (fun _ => (0 : Int32)))), (q30, .inl (kq1, 20, .inl (fun _ => (0 : Int32)))), (q32, .inl (kq1, 20, .inl (fun _ => (0 : Int32)))), (q34, .inl (kq1, 20, .inl (fun _ => (0 : Int32)))), (q36, .inl (kq1, 20, .inl (fun _ => (0 : Int32)))), (q38, .inl (kq1, 20, .inl (fun _ => (0 : Int32)))), (q40, .inl (kq1, 20, .inl (fun _ => (0 : Int32)))), (q42, .inl (kq1, 320, .inl (fun _ => (0 : Int32)))), (q44, .inl (kq1, 320, .inl (fun _ => (0 : Int32))))]) [0, 1, 2, 3, 4, 5, 6, 7, 8, 9, 10, 11, 12] rfl
  replace hD := hD.sub (ws' := [(h, .inr (14, mL g111)), (q13, .inl (kq13, 200, .inl (fun _ => (0 : Int32)))), (q23, .inl (kq1, 128, .inl (fun _ => (0 : Int32)))), (q26, .inl (kq1, 20, .inl (fun _ => (0 : Int32)))), (q28, .inl (kq1, 20, .inl (fun _ => (0 : Int32)))), (q30, .inl (kq1, 20, .inl (fun _ => (0 : Int32)))), (q32, .inl (kq1, 20, .inl (fun _ => (0 : Int32)))), (q34, .inl (kq1, 20, .inl (fun _ => (0 : Int32)))), (q36, .inl (kq1, 20, .inl (fun _ => (0 : Int32)))), (q38, .inl (kq1, 20, .inl (fun _ => (0 : Int32)))), (q40, .inl (kq1, 20, .inl (fun _ => (0 : Int32)))), (q42, .inl (kq1, 320, .inl (fun _ => (0 : Int32)))), (q44, .inl (kq1, 320, .inl (fun _ => (0 : Int32))))]) [0, 1, 2, 3, 4, 5, 6, 7, 8, 9, 10, 11, 12] (by decide) rfl
  refine lv_aload_n hx hb dX13_init_473 rfl (lv_at hl 0 rfl) ?_
  refine lv_sipush (v := 256) hx hb dX13_init_474 (by decide) ?_
  refine va_newa (atype := .int) (ty := .int) (N' := 256) (a0 := (256, .inl (fun _ => (0 : Int32)))) hx hb (hts (.arrayClass .int) (List.mem_of_getElem? (i := 4) rfl)) rfl hK hP hD hS hA (fun _ => rfl) (by decide) (by decide) (Nat.le_of_ble_eq_true rfl) (Nat.le_of_ble_eq_true rfl) (Nat.le_of_ble_eq_true rfl) dX13_init_477 (fun q112 kq112 H hK hP hD hS => ?_)
  have hK : va_K (dC, dI) vwCl [(kq1, .int), (kq13, .byte), (kq72, .boolean), (kq112, .int)] s := hK
  replace hP : va_P (dC, dI) vwCl [(h, .inr (14, mL g111)), (q13, .inl (kq13, 200, .inl (fun _ => (0 : Int32)))), (q23, .inl (kq1, 128, .inl (fun _ => (0 : Int32)))), (q26, .inl (kq1, 20, .inl (fun _ => (0 : Int32)))), (q28, .inl (kq1, 20, .inl (fun _ => (0 : Int32)))), (q30, .inl (kq1, 20, .inl (fun _ => (0 : Int32)))), (q32, .inl (kq1, 20, .inl (fun _ => (0 : Int32)))), (q34, .inl (kq1, 20, .inl (fun _ => (0 : Int32)))), (q36, .inl (kq1, 20, .inl (fun _ => (0 : Int32)))), (q38, .inl (kq1, 20, .inl (fun _ => (0 : Int32)))), (q40, .inl (kq1, 20, .inl (fun _ => (0 : Int32)))), (q42, .inl (kq1, 320, .inl (fun _ => (0 : Int32)))), (q44, .inl (kq1, 320, .inl (fun _ => (0 : Int32)))), (q112, .inl (kq112, 256, .inl (fun _ => (0 : Int32))))] H := hP
  replace hD : va_D A [(h, .inr (14, mL g111)), (q13, .inl (kq13, 200, .inl (fun _ => (0 : Int32)))), (q23, .inl (kq1, 128, .inl (fun _ => (0 : Int32)))), (q26, .inl (kq1, 20, .inl (fun _ => (0 : Int32)))), (q28, .inl (kq1, 20, .inl (fun _ => (0 : Int32)))), (q30, .inl (kq1, 20, .inl (fun _ => (0 : Int32)))), (q32, .inl (kq1, 20, .inl (fun _ => (0 : Int32)))), (q34, .inl (kq1, 20, .inl (fun _ => (0 : Int32)))), (q36, .inl (kq1, 20, .inl (fun _ => (0 : Int32)))), (q38, .inl (kq1, 20, .inl (fun _ => (0 : Int32)))), (q40, .inl (kq1, 20, .inl (fun _ => (0 : Int32)))), (q42, .inl (kq1, 320, .inl (fun _ => (0 : Int32)))), (q44, .inl (kq1, 320, .inl (fun _ => (0 : Int32)))), (q112, .inl (kq112, 256, .inl (fun _ => (0 : Int32))))] := hD
  refine W.widen (k := 56) (n := 9694) (by omega) (by omega) ?_
  obtain rfl : kq1 = kq112 := ub_sa_int hK 0 3 rfl rfl
  have hK := hK.sub (tys' := [(kq1, .int), (kq13, .byte), (kq72, .boolean)]) [0, 1, 2] rfl
  refine va_putF (D := (dC, dI)) (ci := 14) (v := .ref q112) (ty := .array .int) (C := RX13) (T := TX13) (N := 97) hx hb hts iw_m_init_X13 tyX13 tyX13_ok nmX13 hown hK hP hD hS 0 rfl rfl 76 (by decide) (hts (.fieldLink RX13 180 "UnlikeBoatsModel" "stateX" "[I") (List.mem_of_getElem? (i := 63) rfl)) (fun _ h9 => h9) rfl hin rfl (by decide +kernel) rfl rfl (mL_lt (Nat.le_of_ble_eq_true rfl)) dX13_init_479 (fun H locs hP hD hS => ?_)
  have hP : va_P (dC, dI) vwCl [(h, .inr (14, (mL g111).set 76 (.ref q112))), (q13, .inl (kq13, 200, .inl (fun _ => (0 : Int32)))), (q23, .inl (kq1, 128, .inl (fun _ => (0 : Int32)))), (q26, .inl (kq1, 20, .inl (fun _ => (0 : Int32)))), (q28, .inl (kq1, 20, .inl (fun _ => (0 : Int32)))), (q30, .inl (kq1, 20, .inl (fun _ => (0 : Int32)))), (q32, .inl (kq1, 20, .inl (fun _ => (0 : Int32)))), (q34, .inl (kq1, 20, .inl (fun _ => (0 : Int32)))), (q36, .inl (kq1, 20, .inl (fun _ => (0 : Int32)))), (q38, .inl (kq1, 20, .inl (fun _ => (0 : Int32)))), (q40, .inl (kq1, 20, .inl (fun _ => (0 : Int32)))), (q42, .inl (kq1, 320, .inl (fun _ => (0 : Int32)))), (q44, .inl (kq1, 320, .inl (fun _ => (0 : Int32)))), (q112, .inl (kq1, 256, .inl (fun _ => (0 : Int32))))] H := hP
  have hD : va_D A [(h, .inr (14, (mL g111).set 76 (.ref q112))), (q13, .inl (kq13, 200, .inl (fun _ => (0 : Int32)))), (q23, .inl (kq1, 128, .inl (fun _ => (0 : Int32)))), (q26, .inl (kq1, 20, .inl (fun _ => (0 : Int32)))), (q28, .inl (kq1, 20, .inl (fun _ => (0 : Int32)))), (q30, .inl (kq1, 20, .inl (fun _ => (0 : Int32)))), (q32, .inl (kq1, 20, .inl (fun _ => (0 : Int32)))), (q34, .inl (kq1, 20, .inl (fun _ => (0 : Int32)))), (q36, .inl (kq1, 20, .inl (fun _ => (0 : Int32)))), (q38, .inl (kq1, 20, .inl (fun _ => (0 : Int32)))), (q40, .inl (kq1, 20, .inl (fun _ => (0 : Int32)))), (q42, .inl (kq1, 320, .inl (fun _ => (0 : Int32)))), (q44, .inl (kq1, 320, .inl (fun _ => (0 : Int32)))), (q112, .inl (kq1, 256, .inl (fun _ => (0 : Int32))))] := hD
  obtain ⟨g113, eg113⟩ : ∃ z9, z9 = va_up g111 76 (.ref q112) := ⟨_, rfl⟩
  rw [mL_upd, ← eg113] at hP hD
  have hg113_0 : g113 0 = .int 0 := (congrFun eg113 0).trans ((va_up_ne _ _ (Nat.ne_of_beq_eq_false rfl)).trans hg111_0)
  have hg113_1 : g113 1 = .int 0 := (congrFun eg113 1).trans ((va_up_ne _ _ (Nat.ne_of_beq_eq_false rfl)).trans hg111_1)
  have hg113_8 : g113 8 = .int 0 := (congrFun eg113 8).trans ((va_up_ne _ _ (Nat.ne_of_beq_eq_false rfl)).trans hg111_8)
  have hg113_9 : g113 9 = .int 0 := (congrFun eg113 9).trans ((va_up_ne _ _ (Nat.ne_of_beq_eq_false rfl)).trans hg111_9)
  have hg113_16 : g113 16 = .int 0 := (congrFun eg113 16).trans ((va_up_ne _ _ (Nat.ne_of_beq_eq_false rfl)).trans hg111_16)
  have hg113_17 : g113 17 = .int 0 := (congrFun eg113 17).trans ((va_up_ne _ _ (Nat.ne_of_beq_eq_false rfl)).trans hg111_17)
  have hg113_46 : g113 46 = .int 0 := (congrFun eg113 46).trans ((va_up_ne _ _ (Nat.ne_of_beq_eq_false rfl)).trans hg111_46)
  have hg113_47 : g113 47 = .int 0 := (congrFun eg113 47).trans ((va_up_ne _ _ (Nat.ne_of_beq_eq_false rfl)).trans hg111_47)
  have hg113_48 : g113 48 = .int 0 := (congrFun eg113 48).trans ((va_up_ne _ _ (Nat.ne_of_beq_eq_false rfl)).trans hg111_48)
  have hg113_74 : g113 74 = .int 0 := (congrFun eg113 74).trans ((va_up_ne _ _ (Nat.ne_of_beq_eq_false rfl)).trans hg111_74)
  have hg113_75 : g113 75 = .int 0 := (congrFun eg113 75).trans ((va_up_ne _ _ (Nat.ne_of_beq_eq_false rfl)).trans hg111_75)
  have hg113_55 : g113 55 = .int 0 := (congrFun eg113 55).trans ((va_up_ne _ _ (Nat.ne_of_beq_eq_false rfl)).trans hg111_55)
  have hg113_10 : g113 10 = .ref q13 := (congrFun eg113 10).trans ((va_up_ne _ _ (Nat.ne_of_beq_eq_false rfl)).trans hg111_10)
  have hg113_15 : g113 15 = .ref q23 := (congrFun eg113 15).trans ((va_up_ne _ _ (Nat.ne_of_beq_eq_false rfl)).trans hg111_15)
  have hg113_27 : g113 27 = .ref q26 := (congrFun eg113 27).trans ((va_up_ne _ _ (Nat.ne_of_beq_eq_false rfl)).trans hg111_27)
  have hg113_28 : g113 28 = .ref q28 := (congrFun eg113 28).trans ((va_up_ne _ _ (Nat.ne_of_beq_eq_false rfl)).trans hg111_28)
  have hg113_29 : g113 29 = .ref q30 := (congrFun eg113 29).trans ((va_up_ne _ _ (Nat.ne_of_beq_eq_false rfl)).trans hg111_29)
  have hg113_30 : g113 30 = .ref q32 := (congrFun eg113 30).trans ((va_up_ne _ _ (Nat.ne_of_beq_eq_false rfl)).trans hg111_30)
  have hg113_31 : g113 31 = .ref q34 := (congrFun eg113 31).trans ((va_up_ne _ _ (Nat.ne_of_beq_eq_false rfl)).trans hg111_31)
  have hg113_32 : g113 32 = .ref q36 := (congrFun eg113 32).trans ((va_up_ne _ _ (Nat.ne_of_beq_eq_false rfl)).trans hg111_32)
  have hg113_33 : g113 33 = .ref q38 := (congrFun eg113 33).trans ((va_up_ne _ _ (Nat.ne_of_beq_eq_false rfl)).trans hg111_33)
  have hg113_34 : g113 34 = .ref q40 := (congrFun eg113 34).trans ((va_up_ne _ _ (Nat.ne_of_beq_eq_false rfl)).trans hg111_34)
  have hg113_35 : g113 35 = .ref q42 := (congrFun eg113 35).trans ((va_up_ne _ _ (Nat.ne_of_beq_eq_false rfl)).trans hg111_35)
  have hg113_36 : g113 36 = .ref q44 := (congrFun eg113 36).trans ((va_up_ne _ _ (Nat.ne_of_beq_eq_false rfl)).trans hg111_36)
  clear hg111_0 hg111_1 hg111_8 hg111_9 hg111_16 hg111_17 hg111_46 hg111_47 hg111_48 hg111_74 hg111_75 hg111_55 hg111_10 hg111_15 hg111_27 hg111_28 hg111_29 hg111_30 hg111_31 hg111_32 hg111_33 hg111_34 hg111_35 hg111_36
  have hg113_76 : g113 76 = .ref q112 := by rw [eg113]; exact va_up_self _ _ _
  replace hP := hP.sub (ws' := [(h, .inr (14, mL g113)), (q13, .inl (kq13, 200, .inl (fun _ => (0 : Int32)))), (q23, .inl (kq1, 128, .inl (fun _ => (0 : Int32)))), (q26, .inl (kq1, 20, .inl (fun _ => (0 : Int32)))), (q28, .inl (kq1, 20, .inl (fun _ => (0 : Int32)))), (q30, .inl (kq1, 20, .inl (fun _ => (0 : Int32)))), (q32, .inl (kq1, 20, .inl (fun _ => (0 : Int32)))), (q34, .inl (kq1, 20, .inl (fun _ => (0 : Int32)))), (q36, .inl (kq1, 20, .inl (fun _ => (0 : Int32)))), (q38, .inl (kq1, 20, .inl (fun _ => (0 : Int32)))), (q40, .inl (kq1, 20, .inl (fun _ => (0 : Int32)))), (q42, .inl (kq1, 320, .inl (fun _ => (0 : Int32)))), (q44, .inl (kq1, 320, .inl (fun _ => (0 : Int32))))]) [0, 1, 2, 3, 4, 5, 6, 7, 8, 9, 10, 11, 12] rfl
  replace hD := hD.sub (ws' := [(h, .inr (14, mL g113)), (q13, .inl (kq13, 200, .inl (fun _ => (0 : Int32)))), (q23, .inl (kq1, 128, .inl (fun _ => (0 : Int32)))), (q26, .inl (kq1, 20, .inl (fun _ => (0 : Int32)))), (q28, .inl (kq1, 20, .inl (fun _ => (0 : Int32)))), (q30, .inl (kq1, 20, .inl (fun _ => (0 : Int32)))), (q32, .inl (kq1, 20, .inl (fun _ => (0 : Int32)))), (q34, .inl (kq1, 20, .inl (fun _ => (0 : Int32)))), (q36, .inl (kq1, 20, .inl (fun _ => (0 : Int32)))), (q38, .inl (kq1, 20, .inl (fun _ => (0 : Int32)))), (q40, .inl (kq1, 20, .inl (fun _ => (0 : Int32)))), (q42, .inl (kq1, 320, .inl (fun _ => (0 : Int32)))), (q44, .inl (kq1, 320, .inl (fun _ => (0 : Int32))))]) [0, 1, 2, 3, 4, 5, 6, 7, 8, 9, 10, 11, 12] (by decide) rfl
  refine lv_aload_n hx hb dX13_init_482 rfl (lv_at hl 0 rfl) ?_
  refine lv_sipush (v := 256) hx hb dX13_init_483 (by decide) ?_
  refine va_newa (atype := .int) (ty := .int) (N' := 256) (a0 := (256, .inl (fun _ => (0 : Int32)))) hx hb (hts (.arrayClass .int) (List.mem_of_getElem? (i := 4) rfl)) rfl hK hP hD hS hA (fun _ => rfl) (by decide) (by decide) (Nat.le_of_ble_eq_true rfl) (Nat.le_of_ble_eq_true rfl) (Nat.le_of_ble_eq_true rfl) dX13_init_486 (fun q114 kq114 H hK hP hD hS => ?_)
  have hK : va_K (dC, dI) vwCl [(kq1, .int), (kq13, .byte), (kq72, .boolean), (kq114, .int)] s := hK
  replace hP : va_P (dC, dI) vwCl [(h, .inr (14, mL g113)), (q13, .inl (kq13, 200, .inl (fun _ => (0 : Int32)))), (q23, .inl (kq1, 128, .inl (fun _ => (0 : Int32)))), (q26, .inl (kq1, 20, .inl (fun _ => (0 : Int32)))), (q28, .inl (kq1, 20, .inl (fun _ => (0 : Int32)))), (q30, .inl (kq1, 20, .inl (fun _ => (0 : Int32)))), (q32, .inl (kq1, 20, .inl (fun _ => (0 : Int32)))), (q34, .inl (kq1, 20, .inl (fun _ => (0 : Int32)))), (q36, .inl (kq1, 20, .inl (fun _ => (0 : Int32)))), (q38, .inl (kq1, 20, .inl (fun _ => (0 : Int32)))), (q40, .inl (kq1, 20, .inl (fun _ => (0 : Int32)))), (q42, .inl (kq1, 320, .inl (fun _ => (0 : Int32)))), (q44, .inl (kq1, 320, .inl (fun _ => (0 : Int32)))), (q114, .inl (kq114, 256, .inl (fun _ => (0 : Int32))))] H := hP
  replace hD : va_D A [(h, .inr (14, mL g113)), (q13, .inl (kq13, 200, .inl (fun _ => (0 : Int32)))), (q23, .inl (kq1, 128, .inl (fun _ => (0 : Int32)))), (q26, .inl (kq1, 20, .inl (fun _ => (0 : Int32)))), (q28, .inl (kq1, 20, .inl (fun _ => (0 : Int32)))), (q30, .inl (kq1, 20, .inl (fun _ => (0 : Int32)))), (q32, .inl (kq1, 20, .inl (fun _ => (0 : Int32)))), (q34, .inl (kq1, 20, .inl (fun _ => (0 : Int32)))), (q36, .inl (kq1, 20, .inl (fun _ => (0 : Int32)))), (q38, .inl (kq1, 20, .inl (fun _ => (0 : Int32)))), (q40, .inl (kq1, 20, .inl (fun _ => (0 : Int32)))), (q42, .inl (kq1, 320, .inl (fun _ => (0 : Int32)))), (q44, .inl (kq1, 320, .inl (fun _ => (0 : Int32)))), (q114, .inl (kq114, 256, .inl (fun _ => (0 : Int32))))] := hD
  refine W.widen (k := 57) (n := 9950) (by omega) (by omega) ?_
  obtain rfl : kq1 = kq114 := ub_sa_int hK 0 3 rfl rfl
  have hK := hK.sub (tys' := [(kq1, .int), (kq13, .byte), (kq72, .boolean)]) [0, 1, 2] rfl
  refine va_putF (D := (dC, dI)) (ci := 14) (v := .ref q114) (ty := .array .int) (C := RX13) (T := TX13) (N := 97) hx hb hts iw_m_init_X13 tyX13 tyX13_ok nmX13 hown hK hP hD hS 0 rfl rfl 77 (by decide) (hts (.fieldLink RX13 183 "UnlikeBoatsModel" "stateY" "[I") (List.mem_of_getElem? (i := 64) rfl)) (fun _ h9 => h9) rfl hin rfl (by decide +kernel) rfl rfl (mL_lt (Nat.le_of_ble_eq_true rfl)) dX13_init_488 (fun H locs hP hD hS => ?_)
  have hP : va_P (dC, dI) vwCl [(h, .inr (14, (mL g113).set 77 (.ref q114))), (q13, .inl (kq13, 200, .inl (fun _ => (0 : Int32)))), (q23, .inl (kq1, 128, .inl (fun _ => (0 : Int32)))), (q26, .inl (kq1, 20, .inl (fun _ => (0 : Int32)))), (q28, .inl (kq1, 20, .inl (fun _ => (0 : Int32)))), (q30, .inl (kq1, 20, .inl (fun _ => (0 : Int32)))), (q32, .inl (kq1, 20, .inl (fun _ => (0 : Int32)))), (q34, .inl (kq1, 20, .inl (fun _ => (0 : Int32)))), (q36, .inl (kq1, 20, .inl (fun _ => (0 : Int32)))), (q38, .inl (kq1, 20, .inl (fun _ => (0 : Int32)))), (q40, .inl (kq1, 20, .inl (fun _ => (0 : Int32)))), (q42, .inl (kq1, 320, .inl (fun _ => (0 : Int32)))), (q44, .inl (kq1, 320, .inl (fun _ => (0 : Int32)))), (q114, .inl (kq1, 256, .inl (fun _ => (0 : Int32))))] H := hP
  have hD : va_D A [(h, .inr (14, (mL g113).set 77 (.ref q114))), (q13, .inl (kq13, 200, .inl (fun _ => (0 : Int32)))), (q23, .inl (kq1, 128, .inl (fun _ => (0 : Int32)))), (q26, .inl (kq1, 20, .inl (fun _ => (0 : Int32)))), (q28, .inl (kq1, 20, .inl (fun _ => (0 : Int32)))), (q30, .inl (kq1, 20, .inl (fun _ => (0 : Int32)))), (q32, .inl (kq1, 20, .inl (fun _ => (0 : Int32)))), (q34, .inl (kq1, 20, .inl (fun _ => (0 : Int32)))), (q36, .inl (kq1, 20, .inl (fun _ => (0 : Int32)))), (q38, .inl (kq1, 20, .inl (fun _ => (0 : Int32)))), (q40, .inl (kq1, 20, .inl (fun _ => (0 : Int32)))), (q42, .inl (kq1, 320, .inl (fun _ => (0 : Int32)))), (q44, .inl (kq1, 320, .inl (fun _ => (0 : Int32)))), (q114, .inl (kq1, 256, .inl (fun _ => (0 : Int32))))] := hD
  obtain ⟨g115, eg115⟩ : ∃ z9, z9 = va_up g113 77 (.ref q114) := ⟨_, rfl⟩
  rw [mL_upd, ← eg115] at hP hD
  have hg115_0 : g115 0 = .int 0 := (congrFun eg115 0).trans ((va_up_ne _ _ (Nat.ne_of_beq_eq_false rfl)).trans hg113_0)
  have hg115_1 : g115 1 = .int 0 := (congrFun eg115 1).trans ((va_up_ne _ _ (Nat.ne_of_beq_eq_false rfl)).trans hg113_1)
  have hg115_8 : g115 8 = .int 0 := (congrFun eg115 8).trans ((va_up_ne _ _ (Nat.ne_of_beq_eq_false rfl)).trans hg113_8)
  have hg115_9 : g115 9 = .int 0 := (congrFun eg115 9).trans ((va_up_ne _ _ (Nat.ne_of_beq_eq_false rfl)).trans hg113_9)
  have hg115_16 : g115 16 = .int 0 := (congrFun eg115 16).trans ((va_up_ne _ _ (Nat.ne_of_beq_eq_false rfl)).trans hg113_16)
  have hg115_17 : g115 17 = .int 0 := (congrFun eg115 17).trans ((va_up_ne _ _ (Nat.ne_of_beq_eq_false rfl)).trans hg113_17)
  have hg115_46 : g115 46 = .int 0 := (congrFun eg115 46).trans ((va_up_ne _ _ (Nat.ne_of_beq_eq_false rfl)).trans hg113_46)
  have hg115_47 : g115 47 = .int 0 := (congrFun eg115 47).trans ((va_up_ne _ _ (Nat.ne_of_beq_eq_false rfl)).trans hg113_47)
  have hg115_48 : g115 48 = .int 0 := (congrFun eg115 48).trans ((va_up_ne _ _ (Nat.ne_of_beq_eq_false rfl)).trans hg113_48)
  have hg115_74 : g115 74 = .int 0 := (congrFun eg115 74).trans ((va_up_ne _ _ (Nat.ne_of_beq_eq_false rfl)).trans hg113_74)
  have hg115_75 : g115 75 = .int 0 := (congrFun eg115 75).trans ((va_up_ne _ _ (Nat.ne_of_beq_eq_false rfl)).trans hg113_75)
  have hg115_55 : g115 55 = .int 0 := (congrFun eg115 55).trans ((va_up_ne _ _ (Nat.ne_of_beq_eq_false rfl)).trans hg113_55)
  have hg115_10 : g115 10 = .ref q13 := (congrFun eg115 10).trans ((va_up_ne _ _ (Nat.ne_of_beq_eq_false rfl)).trans hg113_10)
  have hg115_15 : g115 15 = .ref q23 := (congrFun eg115 15).trans ((va_up_ne _ _ (Nat.ne_of_beq_eq_false rfl)).trans hg113_15)
  have hg115_27 : g115 27 = .ref q26 := (congrFun eg115 27).trans ((va_up_ne _ _ (Nat.ne_of_beq_eq_false rfl)).trans hg113_27)
  have hg115_28 : g115 28 = .ref q28 := (congrFun eg115 28).trans ((va_up_ne _ _ (Nat.ne_of_beq_eq_false rfl)).trans hg113_28)
  have hg115_29 : g115 29 = .ref q30 := (congrFun eg115 29).trans ((va_up_ne _ _ (Nat.ne_of_beq_eq_false rfl)).trans hg113_29)
  have hg115_30 : g115 30 = .ref q32 := (congrFun eg115 30).trans ((va_up_ne _ _ (Nat.ne_of_beq_eq_false rfl)).trans hg113_30)
  have hg115_31 : g115 31 = .ref q34 := (congrFun eg115 31).trans ((va_up_ne _ _ (Nat.ne_of_beq_eq_false rfl)).trans hg113_31)
  have hg115_32 : g115 32 = .ref q36 := (congrFun eg115 32).trans ((va_up_ne _ _ (Nat.ne_of_beq_eq_false rfl)).trans hg113_32)
  have hg115_33 : g115 33 = .ref q38 := (congrFun eg115 33).trans ((va_up_ne _ _ (Nat.ne_of_beq_eq_false rfl)).trans hg113_33)
  have hg115_34 : g115 34 = .ref q40 := (congrFun eg115 34).trans ((va_up_ne _ _ (Nat.ne_of_beq_eq_false rfl)).trans hg113_34)
  have hg115_35 : g115 35 = .ref q42 := (congrFun eg115 35).trans ((va_up_ne _ _ (Nat.ne_of_beq_eq_false rfl)).trans hg113_35)
  have hg115_36 : g115 36 = .ref q44 := (congrFun eg115 36).trans ((va_up_ne _ _ (Nat.ne_of_beq_eq_false rfl)).trans hg113_36)
  clear hg113_0 hg113_1 hg113_8 hg113_9 hg113_16 hg113_17 hg113_46 hg113_47 hg113_48 hg113_74 hg113_75 hg113_55 hg113_10 hg113_15 hg113_27 hg113_28 hg113_29 hg113_30 hg113_31 hg113_32 hg113_33 hg113_34 hg113_35 hg113_36
  have hg115_77 : g115 77 = .ref q114 := by rw [eg115]; exact va_up_self _ _ _
  replace hP := hP.sub (ws' := [(h, .inr (14, mL g115)), (q13, .inl (kq13, 200, .inl (fun _ => (0 : Int32)))), (q23, .inl (kq1, 128, .inl (fun _ => (0 : Int32)))), (q26, .inl (kq1, 20, .inl (fun _ => (0 : Int32)))), (q28, .inl (kq1, 20, .inl (fun _ => (0 : Int32)))), (q30, .inl (kq1, 20, .inl (fun _ => (0 : Int32)))), (q32, .inl (kq1, 20, .inl (fun _ => (0 : Int32)))), (q34, .inl (kq1, 20, .inl (fun _ => (0 : Int32)))), (q36, .inl (kq1, 20, .inl (fun _ => (0 : Int32)))), (q38, .inl (kq1, 20, .inl (fun _ => (0 : Int32)))), (q40, .inl (kq1, 20, .inl (fun _ => (0 : Int32)))), (q42, .inl (kq1, 320, .inl (fun _ => (0 : Int32)))), (q44, .inl (kq1, 320, .inl (fun _ => (0 : Int32))))]) [0, 1, 2, 3, 4, 5, 6, 7, 8, 9, 10, 11, 12] rfl
  replace hD := hD.sub (ws' := [(h, .inr (14, mL g115)), (q13, .inl (kq13, 200, .inl (fun _ => (0 : Int32)))), (q23, .inl (kq1, 128, .inl (fun _ => (0 : Int32)))), (q26, .inl (kq1, 20, .inl (fun _ => (0 : Int32)))), (q28, .inl (kq1, 20, .inl (fun _ => (0 : Int32)))), (q30, .inl (kq1, 20, .inl (fun _ => (0 : Int32)))), (q32, .inl (kq1, 20, .inl (fun _ => (0 : Int32)))), (q34, .inl (kq1, 20, .inl (fun _ => (0 : Int32)))), (q36, .inl (kq1, 20, .inl (fun _ => (0 : Int32)))), (q38, .inl (kq1, 20, .inl (fun _ => (0 : Int32)))), (q40, .inl (kq1, 20, .inl (fun _ => (0 : Int32)))), (q42, .inl (kq1, 320, .inl (fun _ => (0 : Int32)))), (q44, .inl (kq1, 320, .inl (fun _ => (0 : Int32))))]) [0, 1, 2, 3, 4, 5, 6, 7, 8, 9, 10, 11, 12] (by decide) rfl
  refine lv_aload_n hx hb dX13_init_491 rfl (lv_at hl 0 rfl) ?_
  refine lv_sipush (v := 256) hx hb dX13_init_492 (by decide) ?_
  refine va_newa (atype := .int) (ty := .int) (N' := 256) (a0 := (256, .inl (fun _ => (0 : Int32)))) hx hb (hts (.arrayClass .int) (List.mem_of_getElem? (i := 4) rfl)) rfl hK hP hD hS hA (fun _ => rfl) (by decide) (by decide) (Nat.le_of_ble_eq_true rfl) (Nat.le_of_ble_eq_true rfl) (Nat.le_of_ble_eq_true rfl) dX13_init_495 (fun q116 kq116 H hK hP hD hS => ?_)
  have hK : va_K (dC, dI) vwCl [(kq1, .int), (kq13, .byte), (kq72, .boolean), (kq116, .int)] s := hK
  replace hP : va_P (dC, dI) vwCl [(h, .inr (14, mL g115)), (q13, .inl (kq13, 200, .inl (fun _ => (0 : Int32)))), (q23, .inl (kq1, 128, .inl (fun _ => (0 : Int32)))), (q26, .inl (kq1, 20, .inl (fun _ => (0 : Int32)))), (q28, .inl (kq1, 20, .inl (fun _ => (0 : Int32)))), (q30, .inl (kq1, 20, .inl (fun _ => (0 : Int32)))), (q32, .inl (kq1, 20, .inl (fun _ => (0 : Int32)))), (q34, .inl (kq1, 20, .inl (fun _ => (0 : Int32)))), (q36, .inl (kq1, 20, .inl (fun _ => (0 : Int32)))), (q38, .inl (kq1, 20, .inl (fun _ => (0 : Int32)))), (q40, .inl (kq1, 20, .inl (fun _ => (0 : Int32)))), (q42, .inl (kq1, 320, .inl (fun _ => (0 : Int32)))), (q44, .inl (kq1, 320, .inl (fun _ => (0 : Int32)))), (q116, .inl (kq116, 256, .inl (fun _ => (0 : Int32))))] H := hP
  replace hD : va_D A [(h, .inr (14, mL g115)), (q13, .inl (kq13, 200, .inl (fun _ => (0 : Int32)))), (q23, .inl (kq1, 128, .inl (fun _ => (0 : Int32)))), (q26, .inl (kq1, 20, .inl (fun _ => (0 : Int32)))), (q28, .inl (kq1, 20, .inl (fun _ => (0 : Int32)))), (q30, .inl (kq1, 20, .inl (fun _ => (0 : Int32)))), (q32, .inl (kq1, 20, .inl (fun _ => (0 : Int32)))), (q34, .inl (kq1, 20, .inl (fun _ => (0 : Int32)))), (q36, .inl (kq1, 20, .inl (fun _ => (0 : Int32)))), (q38, .inl (kq1, 20, .inl (fun _ => (0 : Int32)))), (q40, .inl (kq1, 20, .inl (fun _ => (0 : Int32)))), (q42, .inl (kq1, 320, .inl (fun _ => (0 : Int32)))), (q44, .inl (kq1, 320, .inl (fun _ => (0 : Int32)))), (q116, .inl (kq116, 256, .inl (fun _ => (0 : Int32))))] := hD
  refine W.widen (k := 58) (n := 10206) (by omega) (by omega) ?_
  obtain rfl : kq1 = kq116 := ub_sa_int hK 0 3 rfl rfl
  have hK := hK.sub (tys' := [(kq1, .int), (kq13, .byte), (kq72, .boolean)]) [0, 1, 2] rfl
  refine va_putF (D := (dC, dI)) (ci := 14) (v := .ref q116) (ty := .array .int) (C := RX13) (T := TX13) (N := 97) hx hb hts iw_m_init_X13 tyX13 tyX13_ok nmX13 hown hK hP hD hS 0 rfl rfl 78 (by decide) (hts (.fieldLink RX13 186 "UnlikeBoatsModel" "stateWay" "[I") (List.mem_of_getElem? (i := 65) rfl)) (fun _ h9 => h9) rfl hin rfl (by decide +kernel) rfl rfl (mL_lt (Nat.le_of_ble_eq_true rfl)) dX13_init_497 (fun H locs hP hD hS => ?_)
  have hP : va_P (dC, dI) vwCl [(h, .inr (14, (mL g115).set 78 (.ref q116))), (q13, .inl (kq13, 200, .inl (fun _ => (0 : Int32)))), (q23, .inl (kq1, 128, .inl (fun _ => (0 : Int32)))), (q26, .inl (kq1, 20, .inl (fun _ => (0 : Int32)))), (q28, .inl (kq1, 20, .inl (fun _ => (0 : Int32)))), (q30, .inl (kq1, 20, .inl (fun _ => (0 : Int32)))), (q32, .inl (kq1, 20, .inl (fun _ => (0 : Int32)))), (q34, .inl (kq1, 20, .inl (fun _ => (0 : Int32)))), (q36, .inl (kq1, 20, .inl (fun _ => (0 : Int32)))), (q38, .inl (kq1, 20, .inl (fun _ => (0 : Int32)))), (q40, .inl (kq1, 20, .inl (fun _ => (0 : Int32)))), (q42, .inl (kq1, 320, .inl (fun _ => (0 : Int32)))), (q44, .inl (kq1, 320, .inl (fun _ => (0 : Int32)))), (q116, .inl (kq1, 256, .inl (fun _ => (0 : Int32))))] H := hP
  have hD : va_D A [(h, .inr (14, (mL g115).set 78 (.ref q116))), (q13, .inl (kq13, 200, .inl (fun _ => (0 : Int32)))), (q23, .inl (kq1, 128, .inl (fun _ => (0 : Int32)))), (q26, .inl (kq1, 20, .inl (fun _ => (0 : Int32)))), (q28, .inl (kq1, 20, .inl (fun _ => (0 : Int32)))), (q30, .inl (kq1, 20, .inl (fun _ => (0 : Int32)))), (q32, .inl (kq1, 20, .inl (fun _ => (0 : Int32)))), (q34, .inl (kq1, 20, .inl (fun _ => (0 : Int32)))), (q36, .inl (kq1, 20, .inl (fun _ => (0 : Int32)))), (q38, .inl (kq1, 20, .inl (fun _ => (0 : Int32)))), (q40, .inl (kq1, 20, .inl (fun _ => (0 : Int32)))), (q42, .inl (kq1, 320, .inl (fun _ => (0 : Int32)))), (q44, .inl (kq1, 320, .inl (fun _ => (0 : Int32)))), (q116, .inl (kq1, 256, .inl (fun _ => (0 : Int32))))] := hD
  obtain ⟨g117, eg117⟩ : ∃ z9, z9 = va_up g115 78 (.ref q116) := ⟨_, rfl⟩
  rw [mL_upd, ← eg117] at hP hD
  have hg117_0 : g117 0 = .int 0 := (congrFun eg117 0).trans ((va_up_ne _ _ (Nat.ne_of_beq_eq_false rfl)).trans hg115_0)
  have hg117_1 : g117 1 = .int 0 := (congrFun eg117 1).trans ((va_up_ne _ _ (Nat.ne_of_beq_eq_false rfl)).trans hg115_1)
  have hg117_8 : g117 8 = .int 0 := (congrFun eg117 8).trans ((va_up_ne _ _ (Nat.ne_of_beq_eq_false rfl)).trans hg115_8)
  have hg117_9 : g117 9 = .int 0 := (congrFun eg117 9).trans ((va_up_ne _ _ (Nat.ne_of_beq_eq_false rfl)).trans hg115_9)
  have hg117_16 : g117 16 = .int 0 := (congrFun eg117 16).trans ((va_up_ne _ _ (Nat.ne_of_beq_eq_false rfl)).trans hg115_16)
  have hg117_17 : g117 17 = .int 0 := (congrFun eg117 17).trans ((va_up_ne _ _ (Nat.ne_of_beq_eq_false rfl)).trans hg115_17)
  have hg117_46 : g117 46 = .int 0 := (congrFun eg117 46).trans ((va_up_ne _ _ (Nat.ne_of_beq_eq_false rfl)).trans hg115_46)
  have hg117_47 : g117 47 = .int 0 := (congrFun eg117 47).trans ((va_up_ne _ _ (Nat.ne_of_beq_eq_false rfl)).trans hg115_47)
  have hg117_48 : g117 48 = .int 0 := (congrFun eg117 48).trans ((va_up_ne _ _ (Nat.ne_of_beq_eq_false rfl)).trans hg115_48)
  have hg117_74 : g117 74 = .int 0 := (congrFun eg117 74).trans ((va_up_ne _ _ (Nat.ne_of_beq_eq_false rfl)).trans hg115_74)
  have hg117_75 : g117 75 = .int 0 := (congrFun eg117 75).trans ((va_up_ne _ _ (Nat.ne_of_beq_eq_false rfl)).trans hg115_75)
  have hg117_55 : g117 55 = .int 0 := (congrFun eg117 55).trans ((va_up_ne _ _ (Nat.ne_of_beq_eq_false rfl)).trans hg115_55)
  have hg117_10 : g117 10 = .ref q13 := (congrFun eg117 10).trans ((va_up_ne _ _ (Nat.ne_of_beq_eq_false rfl)).trans hg115_10)
  have hg117_15 : g117 15 = .ref q23 := (congrFun eg117 15).trans ((va_up_ne _ _ (Nat.ne_of_beq_eq_false rfl)).trans hg115_15)
  have hg117_27 : g117 27 = .ref q26 := (congrFun eg117 27).trans ((va_up_ne _ _ (Nat.ne_of_beq_eq_false rfl)).trans hg115_27)
  have hg117_28 : g117 28 = .ref q28 := (congrFun eg117 28).trans ((va_up_ne _ _ (Nat.ne_of_beq_eq_false rfl)).trans hg115_28)
  have hg117_29 : g117 29 = .ref q30 := (congrFun eg117 29).trans ((va_up_ne _ _ (Nat.ne_of_beq_eq_false rfl)).trans hg115_29)
  have hg117_30 : g117 30 = .ref q32 := (congrFun eg117 30).trans ((va_up_ne _ _ (Nat.ne_of_beq_eq_false rfl)).trans hg115_30)
  have hg117_31 : g117 31 = .ref q34 := (congrFun eg117 31).trans ((va_up_ne _ _ (Nat.ne_of_beq_eq_false rfl)).trans hg115_31)
  have hg117_32 : g117 32 = .ref q36 := (congrFun eg117 32).trans ((va_up_ne _ _ (Nat.ne_of_beq_eq_false rfl)).trans hg115_32)
  have hg117_33 : g117 33 = .ref q38 := (congrFun eg117 33).trans ((va_up_ne _ _ (Nat.ne_of_beq_eq_false rfl)).trans hg115_33)
  have hg117_34 : g117 34 = .ref q40 := (congrFun eg117 34).trans ((va_up_ne _ _ (Nat.ne_of_beq_eq_false rfl)).trans hg115_34)
  have hg117_35 : g117 35 = .ref q42 := (congrFun eg117 35).trans ((va_up_ne _ _ (Nat.ne_of_beq_eq_false rfl)).trans hg115_35)
  have hg117_36 : g117 36 = .ref q44 := (congrFun eg117 36).trans ((va_up_ne _ _ (Nat.ne_of_beq_eq_false rfl)).trans hg115_36)
  clear hg115_0 hg115_1 hg115_8 hg115_9 hg115_16 hg115_17 hg115_46 hg115_47 hg115_48 hg115_74 hg115_75 hg115_55 hg115_10 hg115_15 hg115_27 hg115_28 hg115_29 hg115_30 hg115_31 hg115_32 hg115_33 hg115_34 hg115_35 hg115_36
  have hg117_78 : g117 78 = .ref q116 := by rw [eg117]; exact va_up_self _ _ _
  replace hP := hP.sub (ws' := [(h, .inr (14, mL g117)), (q13, .inl (kq13, 200, .inl (fun _ => (0 : Int32)))), (q23, .inl (kq1, 128, .inl (fun _ => (0 : Int32)))), (q26, .inl (kq1, 20, .inl (fun _ => (0 : Int32)))), (q28, .inl (kq1, 20, .inl (fun _ => (0 : Int32)))), (q30, .inl (kq1, 20, .inl (fun _ => (0 : Int32)))), (q32, .inl (kq1, 20, .inl (fun _ => (0 : Int32)))), (q34, .inl (kq1, 20, .inl (fun _ => (0 : Int32)))), (q36, .inl (kq1, 20, .inl (fun _ => (0 : Int32)))), (q38, .inl (kq1, 20, .inl (fun _ => (0 : Int32)))), (q40, .inl (kq1, 20, .inl (fun _ => (0 : Int32)))), (q42, .inl (kq1, 320, .inl (fun _ => (0 : Int32)))), (q44, .inl (kq1, 320, .inl (fun _ => (0 : Int32))))]) [0, 1, 2, 3, 4, 5, 6, 7, 8, 9, 10, 11, 12] rfl
  replace hD := hD.sub (ws' := [(h, .inr (14, mL g117)), (q13, .inl (kq13, 200, .inl (fun _ => (0 : Int32)))), (q23, .inl (kq1, 128, .inl (fun _ => (0 : Int32)))), (q26, .inl (kq1, 20, .inl (fun _ => (0 : Int32)))), (q28, .inl (kq1, 20, .inl (fun _ => (0 : Int32)))), (q30, .inl (kq1, 20, .inl (fun _ => (0 : Int32)))), (q32, .inl (kq1, 20, .inl (fun _ => (0 : Int32)))), (q34, .inl (kq1, 20, .inl (fun _ => (0 : Int32)))), (q36, .inl (kq1, 20, .inl (fun _ => (0 : Int32)))), (q38, .inl (kq1, 20, .inl (fun _ => (0 : Int32)))), (q40, .inl (kq1, 20, .inl (fun _ => (0 : Int32)))), (q42, .inl (kq1, 320, .inl (fun _ => (0 : Int32)))), (q44, .inl (kq1, 320, .inl (fun _ => (0 : Int32))))]) [0, 1, 2, 3, 4, 5, 6, 7, 8, 9, 10, 11, 12] (by decide) rfl
  refine lv_aload_n hx hb dX13_init_500 rfl (lv_at hl 0 rfl) ?_
  refine lv_iconst (v := 2) hx hb dX13_init_501 (by decide) ?_
  refine va_newa (atype := .int) (ty := .int) (N' := 2) (a0 := (2, .inl (fun _ => (0 : Int32)))) hx hb (hts (.arrayClass .int) (List.mem_of_getElem? (i := 4) rfl)) rfl hK hP hD hS hA (fun _ => rfl) (by decide) (by decide) (Nat.le_of_ble_eq_true rfl) (Nat.le_of_ble_eq_true rfl) (Nat.le_of_ble_eq_true rfl) dX13_init_502 (fun q118 kq118 H hK hP hD hS => ?_)
  have hK : va_K (dC, dI) vwCl [(kq1, .int), (kq13, .byte), (kq72, .boolean), (kq118, .int)] s := hK
  replace hP : va_P (dC, dI) vwCl [(h, .inr (14, mL g117)), (q13, .inl (kq13, 200, .inl (fun _ => (0 : Int32)))), (q23, .inl (kq1, 128, .inl (fun _ => (0 : Int32)))), (q26, .inl (kq1, 20, .inl (fun _ => (0 : Int32)))), (q28, .inl (kq1, 20, .inl (fun _ => (0 : Int32)))), (q30, .inl (kq1, 20, .inl (fun _ => (0 : Int32)))), (q32, .inl (kq1, 20, .inl (fun _ => (0 : Int32)))), (q34, .inl (kq1, 20, .inl (fun _ => (0 : Int32)))), (q36, .inl (kq1, 20, .inl (fun _ => (0 : Int32)))), (q38, .inl (kq1, 20, .inl (fun _ => (0 : Int32)))), (q40, .inl (kq1, 20, .inl (fun _ => (0 : Int32)))), (q42, .inl (kq1, 320, .inl (fun _ => (0 : Int32)))), (q44, .inl (kq1, 320, .inl (fun _ => (0 : Int32)))), (q118, .inl (kq118, 2, .inl (fun _ => (0 : Int32))))] H := hP
  replace hD : va_D A [(h, .inr (14, mL g117)), (q13, .inl (kq13, 200, .inl (fun _ => (0 : Int32)))), (q23, .inl (kq1, 128, .inl (fun _ => (0 : Int32)))), (q26, .inl (kq1, 20, .inl (fun _ => (0 : Int32)))), (q28, .inl (kq1, 20, .inl (fun _ => (0 : Int32)))), (q30, .inl (kq1, 20, .inl (fun _ => (0 : Int32)))), (q32, .inl (kq1, 20, .inl (fun _ => (0 : Int32)))), (q34, .inl (kq1, 20, .inl (fun _ => (0 : Int32)))), (q36, .inl (kq1, 20, .inl (fun _ => (0 : Int32)))), (q38, .inl (kq1, 20, .inl (fun _ => (0 : Int32)))), (q40, .inl (kq1, 20, .inl (fun _ => (0 : Int32)))), (q42, .inl (kq1, 320, .inl (fun _ => (0 : Int32)))), (q44, .inl (kq1, 320, .inl (fun _ => (0 : Int32)))), (q118, .inl (kq118, 2, .inl (fun _ => (0 : Int32))))] := hD
  refine W.widen (k := 59) (n := 10208) (by omega) (by omega) ?_
  obtain rfl : kq1 = kq118 := ub_sa_int hK 0 3 rfl rfl
  have hK := hK.sub (tys' := [(kq1, .int), (kq13, .byte), (kq72, .boolean)]) [0, 1, 2] rfl
  refine va_putF (D := (dC, dI)) (ci := 14) (v := .ref q118) (ty := .array .int) (C := RX13) (T := TX13) (N := 97) hx hb hts iw_m_init_X13 tyX13 tyX13_ok nmX13 hown hK hP hD hS 0 rfl rfl 79 (by decide) (hts (.fieldLink RX13 189 "UnlikeBoatsModel" "stateMany" "[I") (List.mem_of_getElem? (i := 66) rfl)) (fun _ h9 => h9) rfl hin rfl (by decide +kernel) rfl rfl (mL_lt (Nat.le_of_ble_eq_true rfl)) dX13_init_504 (fun H locs hP hD hS => ?_)
  have hP : va_P (dC, dI) vwCl [(h, .inr (14, (mL g117).set 79 (.ref q118))), (q13, .inl (kq13, 200, .inl (fun _ => (0 : Int32)))), (q23, .inl (kq1, 128, .inl (fun _ => (0 : Int32)))), (q26, .inl (kq1, 20, .inl (fun _ => (0 : Int32)))), (q28, .inl (kq1, 20, .inl (fun _ => (0 : Int32)))), (q30, .inl (kq1, 20, .inl (fun _ => (0 : Int32)))), (q32, .inl (kq1, 20, .inl (fun _ => (0 : Int32)))), (q34, .inl (kq1, 20, .inl (fun _ => (0 : Int32)))), (q36, .inl (kq1, 20, .inl (fun _ => (0 : Int32)))), (q38, .inl (kq1, 20, .inl (fun _ => (0 : Int32)))), (q40, .inl (kq1, 20, .inl (fun _ => (0 : Int32)))), (q42, .inl (kq1, 320, .inl (fun _ => (0 : Int32)))), (q44, .inl (kq1, 320, .inl (fun _ => (0 : Int32)))), (q118, .inl (kq1, 2, .inl (fun _ => (0 : Int32))))] H := hP
  have hD : va_D A [(h, .inr (14, (mL g117).set 79 (.ref q118))), (q13, .inl (kq13, 200, .inl (fun _ => (0 : Int32)))), (q23, .inl (kq1, 128, .inl (fun _ => (0 : Int32)))), (q26, .inl (kq1, 20, .inl (fun _ => (0 : Int32)))), (q28, .inl (kq1, 20, .inl (fun _ => (0 : Int32)))), (q30, .inl (kq1, 20, .inl (fun _ => (0 : Int32)))), (q32, .inl (kq1, 20, .inl (fun _ => (0 : Int32)))), (q34, .inl (kq1, 20, .inl (fun _ => (0 : Int32)))), (q36, .inl (kq1, 20, .inl (fun _ => (0 : Int32)))), (q38, .inl (kq1, 20, .inl (fun _ => (0 : Int32)))), (q40, .inl (kq1, 20, .inl (fun _ => (0 : Int32)))), (q42, .inl (kq1, 320, .inl (fun _ => (0 : Int32)))), (q44, .inl (kq1, 320, .inl (fun _ => (0 : Int32)))), (q118, .inl (kq1, 2, .inl (fun _ => (0 : Int32))))] := hD
  obtain ⟨g119, eg119⟩ : ∃ z9, z9 = va_up g117 79 (.ref q118) := ⟨_, rfl⟩
  rw [mL_upd, ← eg119] at hP hD
  have hg119_0 : g119 0 = .int 0 := (congrFun eg119 0).trans ((va_up_ne _ _ (Nat.ne_of_beq_eq_false rfl)).trans hg117_0)
  have hg119_1 : g119 1 = .int 0 := (congrFun eg119 1).trans ((va_up_ne _ _ (Nat.ne_of_beq_eq_false rfl)).trans hg117_1)
  have hg119_8 : g119 8 = .int 0 := (congrFun eg119 8).trans ((va_up_ne _ _ (Nat.ne_of_beq_eq_false rfl)).trans hg117_8)
  have hg119_9 : g119 9 = .int 0 := (congrFun eg119 9).trans ((va_up_ne _ _ (Nat.ne_of_beq_eq_false rfl)).trans hg117_9)
  have hg119_16 : g119 16 = .int 0 := (congrFun eg119 16).trans ((va_up_ne _ _ (Nat.ne_of_beq_eq_false rfl)).trans hg117_16)
  have hg119_17 : g119 17 = .int 0 := (congrFun eg119 17).trans ((va_up_ne _ _ (Nat.ne_of_beq_eq_false rfl)).trans hg117_17)
  have hg119_46 : g119 46 = .int 0 := (congrFun eg119 46).trans ((va_up_ne _ _ (Nat.ne_of_beq_eq_false rfl)).trans hg117_46)
  have hg119_47 : g119 47 = .int 0 := (congrFun eg119 47).trans ((va_up_ne _ _ (Nat.ne_of_beq_eq_false rfl)).trans hg117_47)
  have hg119_48 : g119 48 = .int 0 := (congrFun eg119 48).trans ((va_up_ne _ _ (Nat.ne_of_beq_eq_false rfl)).trans hg117_48)
  have hg119_74 : g119 74 = .int 0 := (congrFun eg119 74).trans ((va_up_ne _ _ (Nat.ne_of_beq_eq_false rfl)).trans hg117_74)
  have hg119_75 : g119 75 = .int 0 := (congrFun eg119 75).trans ((va_up_ne _ _ (Nat.ne_of_beq_eq_false rfl)).trans hg117_75)
  have hg119_55 : g119 55 = .int 0 := (congrFun eg119 55).trans ((va_up_ne _ _ (Nat.ne_of_beq_eq_false rfl)).trans hg117_55)
  have hg119_10 : g119 10 = .ref q13 := (congrFun eg119 10).trans ((va_up_ne _ _ (Nat.ne_of_beq_eq_false rfl)).trans hg117_10)
  have hg119_15 : g119 15 = .ref q23 := (congrFun eg119 15).trans ((va_up_ne _ _ (Nat.ne_of_beq_eq_false rfl)).trans hg117_15)
  have hg119_27 : g119 27 = .ref q26 := (congrFun eg119 27).trans ((va_up_ne _ _ (Nat.ne_of_beq_eq_false rfl)).trans hg117_27)
  have hg119_28 : g119 28 = .ref q28 := (congrFun eg119 28).trans ((va_up_ne _ _ (Nat.ne_of_beq_eq_false rfl)).trans hg117_28)
  have hg119_29 : g119 29 = .ref q30 := (congrFun eg119 29).trans ((va_up_ne _ _ (Nat.ne_of_beq_eq_false rfl)).trans hg117_29)
  have hg119_30 : g119 30 = .ref q32 := (congrFun eg119 30).trans ((va_up_ne _ _ (Nat.ne_of_beq_eq_false rfl)).trans hg117_30)
  have hg119_31 : g119 31 = .ref q34 := (congrFun eg119 31).trans ((va_up_ne _ _ (Nat.ne_of_beq_eq_false rfl)).trans hg117_31)
  have hg119_32 : g119 32 = .ref q36 := (congrFun eg119 32).trans ((va_up_ne _ _ (Nat.ne_of_beq_eq_false rfl)).trans hg117_32)
  have hg119_33 : g119 33 = .ref q38 := (congrFun eg119 33).trans ((va_up_ne _ _ (Nat.ne_of_beq_eq_false rfl)).trans hg117_33)
  have hg119_34 : g119 34 = .ref q40 := (congrFun eg119 34).trans ((va_up_ne _ _ (Nat.ne_of_beq_eq_false rfl)).trans hg117_34)
  have hg119_35 : g119 35 = .ref q42 := (congrFun eg119 35).trans ((va_up_ne _ _ (Nat.ne_of_beq_eq_false rfl)).trans hg117_35)
  have hg119_36 : g119 36 = .ref q44 := (congrFun eg119 36).trans ((va_up_ne _ _ (Nat.ne_of_beq_eq_false rfl)).trans hg117_36)
  clear hg117_0 hg117_1 hg117_8 hg117_9 hg117_16 hg117_17 hg117_46 hg117_47 hg117_48 hg117_74 hg117_75 hg117_55 hg117_10 hg117_15 hg117_27 hg117_28 hg117_29 hg117_30 hg117_31 hg117_32 hg117_33 hg117_34 hg117_35 hg117_36
  have hg119_79 : g119 79 = .ref q118 := by rw [eg119]; exact va_up_self _ _ _
  replace hP := hP.sub (ws' := [(h, .inr (14, mL g119)), (q13, .inl (kq13, 200, .inl (fun _ => (0 : Int32)))), (q23, .inl (kq1, 128, .inl (fun _ => (0 : Int32)))), (q26, .inl (kq1, 20, .inl (fun _ => (0 : Int32)))), (q28, .inl (kq1, 20, .inl (fun _ => (0 : Int32)))), (q30, .inl (kq1, 20, .inl (fun _ => (0 : Int32)))), (q32, .inl (kq1, 20, .inl (fun _ => (0 : Int32)))), (q34, .inl (kq1, 20, .inl (fun _ => (0 : Int32)))), (q36, .inl (kq1, 20, .inl (fun _ => (0 : Int32)))), (q38, .inl (kq1, 20, .inl (fun _ => (0 : Int32)))), (q40, .inl (kq1, 20, .inl (fun _ => (0 : Int32)))), (q42, .inl (kq1, 320, .inl (fun _ => (0 : Int32)))), (q44, .inl (kq1, 320, .inl (fun _ => (0 : Int32))))]) [0, 1, 2, 3, 4, 5, 6, 7, 8, 9, 10, 11, 12] rfl
  replace hD := hD.sub (ws' := [(h, .inr (14, mL g119)), (q13, .inl (kq13, 200, .inl (fun _ => (0 : Int32)))), (q23, .inl (kq1, 128, .inl (fun _ => (0 : Int32)))), (q26, .inl (kq1, 20, .inl (fun _ => (0 : Int32)))), (q28, .inl (kq1, 20, .inl (fun _ => (0 : Int32)))), (q30, .inl (kq1, 20, .inl (fun _ => (0 : Int32)))), (q32, .inl (kq1, 20, .inl (fun _ => (0 : Int32)))), (q34, .inl (kq1, 20, .inl (fun _ => (0 : Int32)))), (q36, .inl (kq1, 20, .inl (fun _ => (0 : Int32)))), (q38, .inl (kq1, 20, .inl (fun _ => (0 : Int32)))), (q40, .inl (kq1, 20, .inl (fun _ => (0 : Int32)))), (q42, .inl (kq1, 320, .inl (fun _ => (0 : Int32)))), (q44, .inl (kq1, 320, .inl (fun _ => (0 : Int32))))]) [0, 1, 2, 3, 4, 5, 6, 7, 8, 9, 10, 11, 12] (by decide) rfl
  refine lv_aload_n hx hb dX13_init_507 rfl (lv_at hl 0 rfl) ?_
  refine lv_iconst (v := 4) hx hb dX13_init_508 (by decide) ?_
  refine va_newa (atype := .int) (ty := .int) (N' := 4) (a0 := (4, .inl (fun _ => (0 : Int32)))) hx hb (hts (.arrayClass .int) (List.mem_of_getElem? (i := 4) rfl)) rfl hK hP hD hS hA (fun _ => rfl) (by decide) (by decide) (Nat.le_of_ble_eq_true rfl) (Nat.le_of_ble_eq_true rfl) (Nat.le_of_ble_eq_true rfl) dX13_init_509 (fun q120 kq120 H hK hP hD hS => ?_)
  have hK : va_K (dC, dI) vwCl [(kq1, .int), (kq13, .byte), (kq72, .boolean), (kq120, .int)] s := hK
  replace hP : va_P (dC, dI) vwCl [(h, .inr (14, mL g119)), (q13, .inl (kq13, 200, .inl (fun _ => (0 : Int32)))), (q23, .inl (kq1, 128, .inl (fun _ => (0 : Int32)))), (q26, .inl (kq1, 20, .inl (fun _ => (0 : Int32)))), (q28, .inl (kq1, 20, .inl (fun _ => (0 : Int32)))), (q30, .inl (kq1, 20, .inl (fun _ => (0 : Int32)))), (q32, .inl (kq1, 20, .inl (fun _ => (0 : Int32)))), (q34, .inl (kq1, 20, .inl (fun _ => (0 : Int32)))), (q36, .inl (kq1, 20, .inl (fun _ => (0 : Int32)))), (q38, .inl (kq1, 20, .inl (fun _ => (0 : Int32)))), (q40, .inl (kq1, 20, .inl (fun _ => (0 : Int32)))), (q42, .inl (kq1, 320, .inl (fun _ => (0 : Int32)))), (q44, .inl (kq1, 320, .inl (fun _ => (0 : Int32)))), (q120, .inl (kq120, 4, .inl (fun _ => (0 : Int32))))] H := hP
  replace hD : va_D A [(h, .inr (14, mL g119)), (q13, .inl (kq13, 200, .inl (fun _ => (0 : Int32)))), (q23, .inl (kq1, 128, .inl (fun _ => (0 : Int32)))), (q26, .inl (kq1, 20, .inl (fun _ => (0 : Int32)))), (q28, .inl (kq1, 20, .inl (fun _ => (0 : Int32)))), (q30, .inl (kq1, 20, .inl (fun _ => (0 : Int32)))), (q32, .inl (kq1, 20, .inl (fun _ => (0 : Int32)))), (q34, .inl (kq1, 20, .inl (fun _ => (0 : Int32)))), (q36, .inl (kq1, 20, .inl (fun _ => (0 : Int32)))), (q38, .inl (kq1, 20, .inl (fun _ => (0 : Int32)))), (q40, .inl (kq1, 20, .inl (fun _ => (0 : Int32)))), (q42, .inl (kq1, 320, .inl (fun _ => (0 : Int32)))), (q44, .inl (kq1, 320, .inl (fun _ => (0 : Int32)))), (q120, .inl (kq120, 4, .inl (fun _ => (0 : Int32))))] := hD
  refine W.widen (k := 60) (n := 10212) (by omega) (by omega) ?_
  obtain rfl : kq1 = kq120 := ub_sa_int hK 0 3 rfl rfl
  have hK := hK.sub (tys' := [(kq1, .int), (kq13, .byte), (kq72, .boolean)]) [0, 1, 2] rfl
  refine va_putF (D := (dC, dI)) (ci := 14) (v := .ref q120) (ty := .array .int) (C := RX13) (T := TX13) (N := 97) hx hb hts iw_m_init_X13 tyX13 tyX13_ok nmX13 hown hK hP hD hS 0 rfl rfl 80 (by decide) (hts (.fieldLink RX13 192 "UnlikeBoatsModel" "evenBoat" "[I") (List.mem_of_getElem? (i := 67) rfl)) (fun _ h9 => h9) rfl hin rfl (by decide +kernel) rfl rfl (mL_lt (Nat.le_of_ble_eq_true rfl)) dX13_init_511 (fun H locs hP hD hS => ?_)
  have hP : va_P (dC, dI) vwCl [(h, .inr (14, (mL g119).set 80 (.ref q120))), (q13, .inl (kq13, 200, .inl (fun _ => (0 : Int32)))), (q23, .inl (kq1, 128, .inl (fun _ => (0 : Int32)))), (q26, .inl (kq1, 20, .inl (fun _ => (0 : Int32)))), (q28, .inl (kq1, 20, .inl (fun _ => (0 : Int32)))), (q30, .inl (kq1, 20, .inl (fun _ => (0 : Int32)))), (q32, .inl (kq1, 20, .inl (fun _ => (0 : Int32)))), (q34, .inl (kq1, 20, .inl (fun _ => (0 : Int32)))), (q36, .inl (kq1, 20, .inl (fun _ => (0 : Int32)))), (q38, .inl (kq1, 20, .inl (fun _ => (0 : Int32)))), (q40, .inl (kq1, 20, .inl (fun _ => (0 : Int32)))), (q42, .inl (kq1, 320, .inl (fun _ => (0 : Int32)))), (q44, .inl (kq1, 320, .inl (fun _ => (0 : Int32)))), (q120, .inl (kq1, 4, .inl (fun _ => (0 : Int32))))] H := hP
  have hD : va_D A [(h, .inr (14, (mL g119).set 80 (.ref q120))), (q13, .inl (kq13, 200, .inl (fun _ => (0 : Int32)))), (q23, .inl (kq1, 128, .inl (fun _ => (0 : Int32)))), (q26, .inl (kq1, 20, .inl (fun _ => (0 : Int32)))), (q28, .inl (kq1, 20, .inl (fun _ => (0 : Int32)))), (q30, .inl (kq1, 20, .inl (fun _ => (0 : Int32)))), (q32, .inl (kq1, 20, .inl (fun _ => (0 : Int32)))), (q34, .inl (kq1, 20, .inl (fun _ => (0 : Int32)))), (q36, .inl (kq1, 20, .inl (fun _ => (0 : Int32)))), (q38, .inl (kq1, 20, .inl (fun _ => (0 : Int32)))), (q40, .inl (kq1, 20, .inl (fun _ => (0 : Int32)))), (q42, .inl (kq1, 320, .inl (fun _ => (0 : Int32)))), (q44, .inl (kq1, 320, .inl (fun _ => (0 : Int32)))), (q120, .inl (kq1, 4, .inl (fun _ => (0 : Int32))))] := hD
  obtain ⟨g121, eg121⟩ : ∃ z9, z9 = va_up g119 80 (.ref q120) := ⟨_, rfl⟩
  rw [mL_upd, ← eg121] at hP hD
  have hg121_0 : g121 0 = .int 0 := (congrFun eg121 0).trans ((va_up_ne _ _ (Nat.ne_of_beq_eq_false rfl)).trans hg119_0)
  have hg121_1 : g121 1 = .int 0 := (congrFun eg121 1).trans ((va_up_ne _ _ (Nat.ne_of_beq_eq_false rfl)).trans hg119_1)
  have hg121_8 : g121 8 = .int 0 := (congrFun eg121 8).trans ((va_up_ne _ _ (Nat.ne_of_beq_eq_false rfl)).trans hg119_8)
  have hg121_9 : g121 9 = .int 0 := (congrFun eg121 9).trans ((va_up_ne _ _ (Nat.ne_of_beq_eq_false rfl)).trans hg119_9)
  have hg121_16 : g121 16 = .int 0 := (congrFun eg121 16).trans ((va_up_ne _ _ (Nat.ne_of_beq_eq_false rfl)).trans hg119_16)
  have hg121_17 : g121 17 = .int 0 := (congrFun eg121 17).trans ((va_up_ne _ _ (Nat.ne_of_beq_eq_false rfl)).trans hg119_17)
  have hg121_46 : g121 46 = .int 0 := (congrFun eg121 46).trans ((va_up_ne _ _ (Nat.ne_of_beq_eq_false rfl)).trans hg119_46)
  have hg121_47 : g121 47 = .int 0 := (congrFun eg121 47).trans ((va_up_ne _ _ (Nat.ne_of_beq_eq_false rfl)).trans hg119_47)
  have hg121_48 : g121 48 = .int 0 := (congrFun eg121 48).trans ((va_up_ne _ _ (Nat.ne_of_beq_eq_false rfl)).trans hg119_48)
  have hg121_74 : g121 74 = .int 0 := (congrFun eg121 74).trans ((va_up_ne _ _ (Nat.ne_of_beq_eq_false rfl)).trans hg119_74)
  have hg121_75 : g121 75 = .int 0 := (congrFun eg121 75).trans ((va_up_ne _ _ (Nat.ne_of_beq_eq_false rfl)).trans hg119_75)
  have hg121_55 : g121 55 = .int 0 := (congrFun eg121 55).trans ((va_up_ne _ _ (Nat.ne_of_beq_eq_false rfl)).trans hg119_55)
  have hg121_10 : g121 10 = .ref q13 := (congrFun eg121 10).trans ((va_up_ne _ _ (Nat.ne_of_beq_eq_false rfl)).trans hg119_10)
  have hg121_15 : g121 15 = .ref q23 := (congrFun eg121 15).trans ((va_up_ne _ _ (Nat.ne_of_beq_eq_false rfl)).trans hg119_15)
  have hg121_27 : g121 27 = .ref q26 := (congrFun eg121 27).trans ((va_up_ne _ _ (Nat.ne_of_beq_eq_false rfl)).trans hg119_27)
  have hg121_28 : g121 28 = .ref q28 := (congrFun eg121 28).trans ((va_up_ne _ _ (Nat.ne_of_beq_eq_false rfl)).trans hg119_28)
  have hg121_29 : g121 29 = .ref q30 := (congrFun eg121 29).trans ((va_up_ne _ _ (Nat.ne_of_beq_eq_false rfl)).trans hg119_29)
  have hg121_30 : g121 30 = .ref q32 := (congrFun eg121 30).trans ((va_up_ne _ _ (Nat.ne_of_beq_eq_false rfl)).trans hg119_30)
  have hg121_31 : g121 31 = .ref q34 := (congrFun eg121 31).trans ((va_up_ne _ _ (Nat.ne_of_beq_eq_false rfl)).trans hg119_31)
  have hg121_32 : g121 32 = .ref q36 := (congrFun eg121 32).trans ((va_up_ne _ _ (Nat.ne_of_beq_eq_false rfl)).trans hg119_32)
  have hg121_33 : g121 33 = .ref q38 := (congrFun eg121 33).trans ((va_up_ne _ _ (Nat.ne_of_beq_eq_false rfl)).trans hg119_33)
  have hg121_34 : g121 34 = .ref q40 := (congrFun eg121 34).trans ((va_up_ne _ _ (Nat.ne_of_beq_eq_false rfl)).trans hg119_34)
  have hg121_35 : g121 35 = .ref q42 := (congrFun eg121 35).trans ((va_up_ne _ _ (Nat.ne_of_beq_eq_false rfl)).trans hg119_35)
  have hg121_36 : g121 36 = .ref q44 := (congrFun eg121 36).trans ((va_up_ne _ _ (Nat.ne_of_beq_eq_false rfl)).trans hg119_36)
  clear hg119_0 hg119_1 hg119_8 hg119_9 hg119_16 hg119_17 hg119_46 hg119_47 hg119_48 hg119_74 hg119_75 hg119_55 hg119_10 hg119_15 hg119_27 hg119_28 hg119_29 hg119_30 hg119_31 hg119_32 hg119_33 hg119_34 hg119_35 hg119_36
  have hg121_80 : g121 80 = .ref q120 := by rw [eg121]; exact va_up_self _ _ _
  replace hP := hP.sub (ws' := [(h, .inr (14, mL g121)), (q13, .inl (kq13, 200, .inl (fun _ => (0 : Int32)))), (q23, .inl (kq1, 128, .inl (fun _ => (0 : Int32)))), (q26, .inl (kq1, 20, .inl (fun _ => (0 : Int32)))), (q28, .inl (kq1, 20, .inl (fun _ => (0 : Int32)))), (q30, .inl (kq1, 20, .inl (fun _ => (0 : Int32)))), (q32, .inl (kq1, 20, .inl (fun _ => (0 : Int32)))), (q34, .inl (kq1, 20, .inl (fun _ => (0 : Int32)))), (q36, .inl (kq1, 20, .inl (fun _ => (0 : Int32)))), (q38, .inl (kq1, 20, .inl (fun _ => (0 : Int32)))), (q40, .inl (kq1, 20, .inl (fun _ => (0 : Int32)))), (q42, .inl (kq1, 320, .inl (fun _ => (0 : Int32)))), (q44, .inl (kq1, 320, .inl (fun _ => (0 : Int32))))]) [0, 1, 2, 3, 4, 5, 6, 7, 8, 9, 10, 11, 12] rfl
  replace hD := hD.sub (ws' := [(h, .inr (14, mL g121)), (q13, .inl (kq13, 200, .inl (fun _ => (0 : Int32)))), (q23, .inl (kq1, 128, .inl (fun _ => (0 : Int32)))), (q26, .inl (kq1, 20, .inl (fun _ => (0 : Int32)))), (q28, .inl (kq1, 20, .inl (fun _ => (0 : Int32)))), (q30, .inl (kq1, 20, .inl (fun _ => (0 : Int32)))), (q32, .inl (kq1, 20, .inl (fun _ => (0 : Int32)))), (q34, .inl (kq1, 20, .inl (fun _ => (0 : Int32)))), (q36, .inl (kq1, 20, .inl (fun _ => (0 : Int32)))), (q38, .inl (kq1, 20, .inl (fun _ => (0 : Int32)))), (q40, .inl (kq1, 20, .inl (fun _ => (0 : Int32)))), (q42, .inl (kq1, 320, .inl (fun _ => (0 : Int32)))), (q44, .inl (kq1, 320, .inl (fun _ => (0 : Int32))))]) [0, 1, 2, 3, 4, 5, 6, 7, 8, 9, 10, 11, 12] (by decide) rfl
  refine lv_aload_n hx hb dX13_init_514 rfl (lv_at hl 0 rfl) ?_
  refine lv_bipush (v := 20) hx hb dX13_init_515 (by decide) ?_
  refine va_newa (atype := .int) (ty := .int) (N' := 20) (a0 := (20, .inl (fun _ => (0 : Int32)))) hx hb (hts (.arrayClass .int) (List.mem_of_getElem? (i := 4) rfl)) rfl hK hP hD hS hA (fun _ => rfl) (by decide) (by decide) (Nat.le_of_ble_eq_true rfl) (Nat.le_of_ble_eq_true rfl) (Nat.le_of_ble_eq_true rfl) dX13_init_517 (fun q122 kq122 H hK hP hD hS => ?_)
  have hK : va_K (dC, dI) vwCl [(kq1, .int), (kq13, .byte), (kq72, .boolean), (kq122, .int)] s := hK
  replace hP : va_P (dC, dI) vwCl [(h, .inr (14, mL g121)), (q13, .inl (kq13, 200, .inl (fun _ => (0 : Int32)))), (q23, .inl (kq1, 128, .inl (fun _ => (0 : Int32)))), (q26, .inl (kq1, 20, .inl (fun _ => (0 : Int32)))), (q28, .inl (kq1, 20, .inl (fun _ => (0 : Int32)))), (q30, .inl (kq1, 20, .inl (fun _ => (0 : Int32)))), (q32, .inl (kq1, 20, .inl (fun _ => (0 : Int32)))), (q34, .inl (kq1, 20, .inl (fun _ => (0 : Int32)))), (q36, .inl (kq1, 20, .inl (fun _ => (0 : Int32)))), (q38, .inl (kq1, 20, .inl (fun _ => (0 : Int32)))), (q40, .inl (kq1, 20, .inl (fun _ => (0 : Int32)))), (q42, .inl (kq1, 320, .inl (fun _ => (0 : Int32)))), (q44, .inl (kq1, 320, .inl (fun _ => (0 : Int32)))), (q122, .inl (kq122, 20, .inl (fun _ => (0 : Int32))))] H := hP
  replace hD : va_D A [(h, .inr (14, mL g121)), (q13, .inl (kq13, 200, .inl (fun _ => (0 : Int32)))), (q23, .inl (kq1, 128, .inl (fun _ => (0 : Int32)))), (q26, .inl (kq1, 20, .inl (fun _ => (0 : Int32)))), (q28, .inl (kq1, 20, .inl (fun _ => (0 : Int32)))), (q30, .inl (kq1, 20, .inl (fun _ => (0 : Int32)))), (q32, .inl (kq1, 20, .inl (fun _ => (0 : Int32)))), (q34, .inl (kq1, 20, .inl (fun _ => (0 : Int32)))), (q36, .inl (kq1, 20, .inl (fun _ => (0 : Int32)))), (q38, .inl (kq1, 20, .inl (fun _ => (0 : Int32)))), (q40, .inl (kq1, 20, .inl (fun _ => (0 : Int32)))), (q42, .inl (kq1, 320, .inl (fun _ => (0 : Int32)))), (q44, .inl (kq1, 320, .inl (fun _ => (0 : Int32)))), (q122, .inl (kq122, 20, .inl (fun _ => (0 : Int32))))] := hD
  refine W.widen (k := 61) (n := 10232) (by omega) (by omega) ?_
  obtain rfl : kq1 = kq122 := ub_sa_int hK 0 3 rfl rfl
  have hK := hK.sub (tys' := [(kq1, .int), (kq13, .byte), (kq72, .boolean)]) [0, 1, 2] rfl
  refine va_putF (D := (dC, dI)) (ci := 14) (v := .ref q122) (ty := .array .int) (C := RX13) (T := TX13) (N := 97) hx hb hts iw_m_init_X13 tyX13 tyX13_ok nmX13 hown hK hP hD hS 0 rfl rfl 81 (by decide) (hts (.fieldLink RX13 195 "UnlikeBoatsModel" "evenRace" "[I") (List.mem_of_getElem? (i := 68) rfl)) (fun _ h9 => h9) rfl hin rfl (by decide +kernel) rfl rfl (mL_lt (Nat.le_of_ble_eq_true rfl)) dX13_init_519 (fun H locs hP hD hS => ?_)
  have hP : va_P (dC, dI) vwCl [(h, .inr (14, (mL g121).set 81 (.ref q122))), (q13, .inl (kq13, 200, .inl (fun _ => (0 : Int32)))), (q23, .inl (kq1, 128, .inl (fun _ => (0 : Int32)))), (q26, .inl (kq1, 20, .inl (fun _ => (0 : Int32)))), (q28, .inl (kq1, 20, .inl (fun _ => (0 : Int32)))), (q30, .inl (kq1, 20, .inl (fun _ => (0 : Int32)))), (q32, .inl (kq1, 20, .inl (fun _ => (0 : Int32)))), (q34, .inl (kq1, 20, .inl (fun _ => (0 : Int32)))), (q36, .inl (kq1, 20, .inl (fun _ => (0 : Int32)))), (q38, .inl (kq1, 20, .inl (fun _ => (0 : Int32)))), (q40, .inl (kq1, 20, .inl (fun _ => (0 : Int32)))), (q42, .inl (kq1, 320, .inl (fun _ => (0 : Int32)))), (q44, .inl (kq1, 320, .inl (fun _ => (0 : Int32)))), (q122, .inl (kq1, 20, .inl (fun _ => (0 : Int32))))] H := hP
  have hD : va_D A [(h, .inr (14, (mL g121).set 81 (.ref q122))), (q13, .inl (kq13, 200, .inl (fun _ => (0 : Int32)))), (q23, .inl (kq1, 128, .inl (fun _ => (0 : Int32)))), (q26, .inl (kq1, 20, .inl (fun _ => (0 : Int32)))), (q28, .inl (kq1, 20, .inl (fun _ => (0 : Int32)))), (q30, .inl (kq1, 20, .inl (fun _ => (0 : Int32)))), (q32, .inl (kq1, 20, .inl (fun _ => (0 : Int32)))), (q34, .inl (kq1, 20, .inl (fun _ => (0 : Int32)))), (q36, .inl (kq1, 20, .inl (fun _ => (0 : Int32)))), (q38, .inl (kq1, 20, .inl (fun _ => (0 : Int32)))), (q40, .inl (kq1, 20, .inl (fun _ => (0 : Int32)))), (q42, .inl (kq1, 320, .inl (fun _ => (0 : Int32)))), (q44, .inl (kq1, 320, .inl (fun _ => (0 : Int32)))), (q122, .inl (kq1, 20, .inl (fun _ => (0 : Int32))))] := hD
  obtain ⟨g123, eg123⟩ : ∃ z9, z9 = va_up g121 81 (.ref q122) := ⟨_, rfl⟩
  rw [mL_upd, ← eg123] at hP hD
  have hg123_0 : g123 0 = .int 0 := (congrFun eg123 0).trans ((va_up_ne _ _ (Nat.ne_of_beq_eq_false rfl)).trans hg121_0)
  have hg123_1 : g123 1 = .int 0 := (congrFun eg123 1).trans ((va_up_ne _ _ (Nat.ne_of_beq_eq_false rfl)).trans hg121_1)
  have hg123_8 : g123 8 = .int 0 := (congrFun eg123 8).trans ((va_up_ne _ _ (Nat.ne_of_beq_eq_false rfl)).trans hg121_8)
  have hg123_9 : g123 9 = .int 0 := (congrFun eg123 9).trans ((va_up_ne _ _ (Nat.ne_of_beq_eq_false rfl)).trans hg121_9)
  have hg123_16 : g123 16 = .int 0 := (congrFun eg123 16).trans ((va_up_ne _ _ (Nat.ne_of_beq_eq_false rfl)).trans hg121_16)
  have hg123_17 : g123 17 = .int 0 := (congrFun eg123 17).trans ((va_up_ne _ _ (Nat.ne_of_beq_eq_false rfl)).trans hg121_17)
  have hg123_46 : g123 46 = .int 0 := (congrFun eg123 46).trans ((va_up_ne _ _ (Nat.ne_of_beq_eq_false rfl)).trans hg121_46)
  have hg123_47 : g123 47 = .int 0 := (congrFun eg123 47).trans ((va_up_ne _ _ (Nat.ne_of_beq_eq_false rfl)).trans hg121_47)
  have hg123_48 : g123 48 = .int 0 := (congrFun eg123 48).trans ((va_up_ne _ _ (Nat.ne_of_beq_eq_false rfl)).trans hg121_48)
  have hg123_74 : g123 74 = .int 0 := (congrFun eg123 74).trans ((va_up_ne _ _ (Nat.ne_of_beq_eq_false rfl)).trans hg121_74)
  have hg123_75 : g123 75 = .int 0 := (congrFun eg123 75).trans ((va_up_ne _ _ (Nat.ne_of_beq_eq_false rfl)).trans hg121_75)
  have hg123_55 : g123 55 = .int 0 := (congrFun eg123 55).trans ((va_up_ne _ _ (Nat.ne_of_beq_eq_false rfl)).trans hg121_55)
  have hg123_10 : g123 10 = .ref q13 := (congrFun eg123 10).trans ((va_up_ne _ _ (Nat.ne_of_beq_eq_false rfl)).trans hg121_10)
  have hg123_15 : g123 15 = .ref q23 := (congrFun eg123 15).trans ((va_up_ne _ _ (Nat.ne_of_beq_eq_false rfl)).trans hg121_15)
  have hg123_27 : g123 27 = .ref q26 := (congrFun eg123 27).trans ((va_up_ne _ _ (Nat.ne_of_beq_eq_false rfl)).trans hg121_27)
  have hg123_28 : g123 28 = .ref q28 := (congrFun eg123 28).trans ((va_up_ne _ _ (Nat.ne_of_beq_eq_false rfl)).trans hg121_28)
  have hg123_29 : g123 29 = .ref q30 := (congrFun eg123 29).trans ((va_up_ne _ _ (Nat.ne_of_beq_eq_false rfl)).trans hg121_29)
  have hg123_30 : g123 30 = .ref q32 := (congrFun eg123 30).trans ((va_up_ne _ _ (Nat.ne_of_beq_eq_false rfl)).trans hg121_30)
  have hg123_31 : g123 31 = .ref q34 := (congrFun eg123 31).trans ((va_up_ne _ _ (Nat.ne_of_beq_eq_false rfl)).trans hg121_31)
  have hg123_32 : g123 32 = .ref q36 := (congrFun eg123 32).trans ((va_up_ne _ _ (Nat.ne_of_beq_eq_false rfl)).trans hg121_32)
  have hg123_33 : g123 33 = .ref q38 := (congrFun eg123 33).trans ((va_up_ne _ _ (Nat.ne_of_beq_eq_false rfl)).trans hg121_33)
  have hg123_34 : g123 34 = .ref q40 := (congrFun eg123 34).trans ((va_up_ne _ _ (Nat.ne_of_beq_eq_false rfl)).trans hg121_34)
  have hg123_35 : g123 35 = .ref q42 := (congrFun eg123 35).trans ((va_up_ne _ _ (Nat.ne_of_beq_eq_false rfl)).trans hg121_35)
  have hg123_36 : g123 36 = .ref q44 := (congrFun eg123 36).trans ((va_up_ne _ _ (Nat.ne_of_beq_eq_false rfl)).trans hg121_36)
  clear hg121_0 hg121_1 hg121_8 hg121_9 hg121_16 hg121_17 hg121_46 hg121_47 hg121_48 hg121_74 hg121_75 hg121_55 hg121_10 hg121_15 hg121_27 hg121_28 hg121_29 hg121_30 hg121_31 hg121_32 hg121_33 hg121_34 hg121_35 hg121_36
  have hg123_81 : g123 81 = .ref q122 := by rw [eg123]; exact va_up_self _ _ _
  replace hP := hP.sub (ws' := [(h, .inr (14, mL g123)), (q13, .inl (kq13, 200, .inl (fun _ => (0 : Int32)))), (q23, .inl (kq1, 128, .inl (fun _ => (0 : Int32)))), (q26, .inl (kq1, 20, .inl (fun _ => (0 : Int32)))), (q28, .inl (kq1, 20, .inl (fun _ => (0 : Int32)))), (q30, .inl (kq1, 20, .inl (fun _ => (0 : Int32)))), (q32, .inl (kq1, 20, .inl (fun _ => (0 : Int32)))), (q34, .inl (kq1, 20, .inl (fun _ => (0 : Int32)))), (q36, .inl (kq1, 20, .inl (fun _ => (0 : Int32)))), (q38, .inl (kq1, 20, .inl (fun _ => (0 : Int32)))), (q40, .inl (kq1, 20, .inl (fun _ => (0 : Int32)))), (q42, .inl (kq1, 320, .inl (fun _ => (0 : Int32)))), (q44, .inl (kq1, 320, .inl (fun _ => (0 : Int32))))]) [0, 1, 2, 3, 4, 5, 6, 7, 8, 9, 10, 11, 12] rfl
  replace hD := hD.sub (ws' := [(h, .inr (14, mL g123)), (q13, .inl (kq13, 200, .inl (fun _ => (0 : Int32)))), (q23, .inl (kq1, 128, .inl (fun _ => (0 : Int32)))), (q26, .inl (kq1, 20, .inl (fun _ => (0 : Int32)))), (q28, .inl (kq1, 20, .inl (fun _ => (0 : Int32)))), (q30, .inl (kq1, 20, .inl (fun _ => (0 : Int32)))), (q32, .inl (kq1, 20, .inl (fun _ => (0 : Int32)))), (q34, .inl (kq1, 20, .inl (fun _ => (0 : Int32)))), (q36, .inl (kq1, 20, .inl (fun _ => (0 : Int32)))), (q38, .inl (kq1, 20, .inl (fun _ => (0 : Int32)))), (q40, .inl (kq1, 20, .inl (fun _ => (0 : Int32)))), (q42, .inl (kq1, 320, .inl (fun _ => (0 : Int32)))), (q44, .inl (kq1, 320, .inl (fun _ => (0 : Int32))))]) [0, 1, 2, 3, 4, 5, 6, 7, 8, 9, 10, 11, 12] (by decide) rfl
  refine lv_aload_n hx hb dX13_init_522 rfl (lv_at hl 0 rfl) ?_
  refine lv_bipush (v := 80) hx hb dX13_init_523 (by decide) ?_
  refine va_newa (atype := .int) (ty := .int) (N' := 80) (a0 := (80, .inl (fun _ => (0 : Int32)))) hx hb (hts (.arrayClass .int) (List.mem_of_getElem? (i := 4) rfl)) rfl hK hP hD hS hA (fun _ => rfl) (by decide) (by decide) (Nat.le_of_ble_eq_true rfl) (Nat.le_of_ble_eq_true rfl) (Nat.le_of_ble_eq_true rfl) dX13_init_525 (fun q124 kq124 H hK hP hD hS => ?_)
  have hK : va_K (dC, dI) vwCl [(kq1, .int), (kq13, .byte), (kq72, .boolean), (kq124, .int)] s := hK
  replace hP : va_P (dC, dI) vwCl [(h, .inr (14, mL g123)), (q13, .inl (kq13, 200, .inl (fun _ => (0 : Int32)))), (q23, .inl (kq1, 128, .inl (fun _ => (0 : Int32)))), (q26, .inl (kq1, 20, .inl (fun _ => (0 : Int32)))), (q28, .inl (kq1, 20, .inl (fun _ => (0 : Int32)))), (q30, .inl (kq1, 20, .inl (fun _ => (0 : Int32)))), (q32, .inl (kq1, 20, .inl (fun _ => (0 : Int32)))), (q34, .inl (kq1, 20, .inl (fun _ => (0 : Int32)))), (q36, .inl (kq1, 20, .inl (fun _ => (0 : Int32)))), (q38, .inl (kq1, 20, .inl (fun _ => (0 : Int32)))), (q40, .inl (kq1, 20, .inl (fun _ => (0 : Int32)))), (q42, .inl (kq1, 320, .inl (fun _ => (0 : Int32)))), (q44, .inl (kq1, 320, .inl (fun _ => (0 : Int32)))), (q124, .inl (kq124, 80, .inl (fun _ => (0 : Int32))))] H := hP
  replace hD : va_D A [(h, .inr (14, mL g123)), (q13, .inl (kq13, 200, .inl (fun _ => (0 : Int32)))), (q23, .inl (kq1, 128, .inl (fun _ => (0 : Int32)))), (q26, .inl (kq1, 20, .inl (fun _ => (0 : Int32)))), (q28, .inl (kq1, 20, .inl (fun _ => (0 : Int32)))), (q30, .inl (kq1, 20, .inl (fun _ => (0 : Int32)))), (q32, .inl (kq1, 20, .inl (fun _ => (0 : Int32)))), (q34, .inl (kq1, 20, .inl (fun _ => (0 : Int32)))), (q36, .inl (kq1, 20, .inl (fun _ => (0 : Int32)))), (q38, .inl (kq1, 20, .inl (fun _ => (0 : Int32)))), (q40, .inl (kq1, 20, .inl (fun _ => (0 : Int32)))), (q42, .inl (kq1, 320, .inl (fun _ => (0 : Int32)))), (q44, .inl (kq1, 320, .inl (fun _ => (0 : Int32)))), (q124, .inl (kq124, 80, .inl (fun _ => (0 : Int32))))] := hD
  refine W.widen (k := 62) (n := 10312) (by omega) (by omega) ?_
  obtain rfl : kq1 = kq124 := ub_sa_int hK 0 3 rfl rfl
  have hK := hK.sub (tys' := [(kq1, .int), (kq13, .byte), (kq72, .boolean)]) [0, 1, 2] rfl
  refine va_putF (D := (dC, dI)) (ci := 14) (v := .ref q124) (ty := .array .int) (C := RX13) (T := TX13) (N := 97) hx hb hts iw_m_init_X13 tyX13 tyX13_ok nmX13 hown hK hP hD hS 0 rfl rfl 82 (by decide) (hts (.fieldLink RX13 198 "UnlikeBoatsModel" "evenSeconds" "[I") (List.mem_of_getElem? (i := 69) rfl)) (fun _ h9 => h9) rfl hin rfl (by decide +kernel) rfl rfl (mL_lt (Nat.le_of_ble_eq_true rfl)) dX13_init_527 (fun H locs hP hD hS => ?_)
  have hP : va_P (dC, dI) vwCl [(h, .inr (14, (mL g123).set 82 (.ref q124))), (q13, .inl (kq13, 200, .inl (fun _ => (0 : Int32)))), (q23, .inl (kq1, 128, .inl (fun _ => (0 : Int32)))), (q26, .inl (kq1, 20, .inl (fun _ => (0 : Int32)))), (q28, .inl (kq1, 20, .inl (fun _ => (0 : Int32)))), (q30, .inl (kq1, 20, .inl (fun _ => (0 : Int32)))), (q32, .inl (kq1, 20, .inl (fun _ => (0 : Int32)))), (q34, .inl (kq1, 20, .inl (fun _ => (0 : Int32)))), (q36, .inl (kq1, 20, .inl (fun _ => (0 : Int32)))), (q38, .inl (kq1, 20, .inl (fun _ => (0 : Int32)))), (q40, .inl (kq1, 20, .inl (fun _ => (0 : Int32)))), (q42, .inl (kq1, 320, .inl (fun _ => (0 : Int32)))), (q44, .inl (kq1, 320, .inl (fun _ => (0 : Int32)))), (q124, .inl (kq1, 80, .inl (fun _ => (0 : Int32))))] H := hP
  have hD : va_D A [(h, .inr (14, (mL g123).set 82 (.ref q124))), (q13, .inl (kq13, 200, .inl (fun _ => (0 : Int32)))), (q23, .inl (kq1, 128, .inl (fun _ => (0 : Int32)))), (q26, .inl (kq1, 20, .inl (fun _ => (0 : Int32)))), (q28, .inl (kq1, 20, .inl (fun _ => (0 : Int32)))), (q30, .inl (kq1, 20, .inl (fun _ => (0 : Int32)))), (q32, .inl (kq1, 20, .inl (fun _ => (0 : Int32)))), (q34, .inl (kq1, 20, .inl (fun _ => (0 : Int32)))), (q36, .inl (kq1, 20, .inl (fun _ => (0 : Int32)))), (q38, .inl (kq1, 20, .inl (fun _ => (0 : Int32)))), (q40, .inl (kq1, 20, .inl (fun _ => (0 : Int32)))), (q42, .inl (kq1, 320, .inl (fun _ => (0 : Int32)))), (q44, .inl (kq1, 320, .inl (fun _ => (0 : Int32)))), (q124, .inl (kq1, 80, .inl (fun _ => (0 : Int32))))] := hD
  obtain ⟨g125, eg125⟩ : ∃ z9, z9 = va_up g123 82 (.ref q124) := ⟨_, rfl⟩
  rw [mL_upd, ← eg125] at hP hD
  have hg125_0 : g125 0 = .int 0 := (congrFun eg125 0).trans ((va_up_ne _ _ (Nat.ne_of_beq_eq_false rfl)).trans hg123_0)
  have hg125_1 : g125 1 = .int 0 := (congrFun eg125 1).trans ((va_up_ne _ _ (Nat.ne_of_beq_eq_false rfl)).trans hg123_1)
  have hg125_8 : g125 8 = .int 0 := (congrFun eg125 8).trans ((va_up_ne _ _ (Nat.ne_of_beq_eq_false rfl)).trans hg123_8)
  have hg125_9 : g125 9 = .int 0 := (congrFun eg125 9).trans ((va_up_ne _ _ (Nat.ne_of_beq_eq_false rfl)).trans hg123_9)
  have hg125_16 : g125 16 = .int 0 := (congrFun eg125 16).trans ((va_up_ne _ _ (Nat.ne_of_beq_eq_false rfl)).trans hg123_16)
  have hg125_17 : g125 17 = .int 0 := (congrFun eg125 17).trans ((va_up_ne _ _ (Nat.ne_of_beq_eq_false rfl)).trans hg123_17)
  have hg125_46 : g125 46 = .int 0 := (congrFun eg125 46).trans ((va_up_ne _ _ (Nat.ne_of_beq_eq_false rfl)).trans hg123_46)
  have hg125_47 : g125 47 = .int 0 := (congrFun eg125 47).trans ((va_up_ne _ _ (Nat.ne_of_beq_eq_false rfl)).trans hg123_47)
  have hg125_48 : g125 48 = .int 0 := (congrFun eg125 48).trans ((va_up_ne _ _ (Nat.ne_of_beq_eq_false rfl)).trans hg123_48)
  have hg125_74 : g125 74 = .int 0 := (congrFun eg125 74).trans ((va_up_ne _ _ (Nat.ne_of_beq_eq_false rfl)).trans hg123_74)
  have hg125_75 : g125 75 = .int 0 := (congrFun eg125 75).trans ((va_up_ne _ _ (Nat.ne_of_beq_eq_false rfl)).trans hg123_75)
  have hg125_55 : g125 55 = .int 0 := (congrFun eg125 55).trans ((va_up_ne _ _ (Nat.ne_of_beq_eq_false rfl)).trans hg123_55)
  have hg125_10 : g125 10 = .ref q13 := (congrFun eg125 10).trans ((va_up_ne _ _ (Nat.ne_of_beq_eq_false rfl)).trans hg123_10)
  have hg125_15 : g125 15 = .ref q23 := (congrFun eg125 15).trans ((va_up_ne _ _ (Nat.ne_of_beq_eq_false rfl)).trans hg123_15)
  have hg125_27 : g125 27 = .ref q26 := (congrFun eg125 27).trans ((va_up_ne _ _ (Nat.ne_of_beq_eq_false rfl)).trans hg123_27)
  have hg125_28 : g125 28 = .ref q28 := (congrFun eg125 28).trans ((va_up_ne _ _ (Nat.ne_of_beq_eq_false rfl)).trans hg123_28)
  have hg125_29 : g125 29 = .ref q30 := (congrFun eg125 29).trans ((va_up_ne _ _ (Nat.ne_of_beq_eq_false rfl)).trans hg123_29)
  have hg125_30 : g125 30 = .ref q32 := (congrFun eg125 30).trans ((va_up_ne _ _ (Nat.ne_of_beq_eq_false rfl)).trans hg123_30)
  have hg125_31 : g125 31 = .ref q34 := (congrFun eg125 31).trans ((va_up_ne _ _ (Nat.ne_of_beq_eq_false rfl)).trans hg123_31)
  have hg125_32 : g125 32 = .ref q36 := (congrFun eg125 32).trans ((va_up_ne _ _ (Nat.ne_of_beq_eq_false rfl)).trans hg123_32)
  have hg125_33 : g125 33 = .ref q38 := (congrFun eg125 33).trans ((va_up_ne _ _ (Nat.ne_of_beq_eq_false rfl)).trans hg123_33)
  have hg125_34 : g125 34 = .ref q40 := (congrFun eg125 34).trans ((va_up_ne _ _ (Nat.ne_of_beq_eq_false rfl)).trans hg123_34)
  have hg125_35 : g125 35 = .ref q42 := (congrFun eg125 35).trans ((va_up_ne _ _ (Nat.ne_of_beq_eq_false rfl)).trans hg123_35)
  have hg125_36 : g125 36 = .ref q44 := (congrFun eg125 36).trans ((va_up_ne _ _ (Nat.ne_of_beq_eq_false rfl)).trans hg123_36)
  clear hg123_0 hg123_1 hg123_8 hg123_9 hg123_16 hg123_17 hg123_46 hg123_47 hg123_48 hg123_74 hg123_75 hg123_55 hg123_10 hg123_15 hg123_27 hg123_28 hg123_29 hg123_30 hg123_31 hg123_32 hg123_33 hg123_34 hg123_35 hg123_36
  have hg125_82 : g125 82 = .ref q124 := by rw [eg125]; exact va_up_self _ _ _
  replace hP := hP.sub (ws' := [(h, .inr (14, mL g125)), (q13, .inl (kq13, 200, .inl (fun _ => (0 : Int32)))), (q23, .inl (kq1, 128, .inl (fun _ => (0 : Int32)))), (q26, .inl (kq1, 20, .inl (fun _ => (0 : Int32)))), (q28, .inl (kq1, 20, .inl (fun _ => (0 : Int32)))), (q30, .inl (kq1, 20, .inl (fun _ => (0 : Int32)))), (q32, .inl (kq1, 20, .inl (fun _ => (0 : Int32)))), (q34, .inl (kq1, 20, .inl (fun _ => (0 : Int32)))), (q36, .inl (kq1, 20, .inl (fun _ => (0 : Int32)))), (q38, .inl (kq1, 20, .inl (fun _ => (0 : Int32)))), (q40, .inl (kq1, 20, .inl (fun _ => (0 : Int32)))), (q42, .inl (kq1, 320, .inl (fun _ => (0 : Int32)))), (q44, .inl (kq1, 320, .inl (fun _ => (0 : Int32))))]) [0, 1, 2, 3, 4, 5, 6, 7, 8, 9, 10, 11, 12] rfl
  replace hD := hD.sub (ws' := [(h, .inr (14, mL g125)), (q13, .inl (kq13, 200, .inl (fun _ => (0 : Int32)))), (q23, .inl (kq1, 128, .inl (fun _ => (0 : Int32)))), (q26, .inl (kq1, 20, .inl (fun _ => (0 : Int32)))), (q28, .inl (kq1, 20, .inl (fun _ => (0 : Int32)))), (q30, .inl (kq1, 20, .inl (fun _ => (0 : Int32)))), (q32, .inl (kq1, 20, .inl (fun _ => (0 : Int32)))), (q34, .inl (kq1, 20, .inl (fun _ => (0 : Int32)))), (q36, .inl (kq1, 20, .inl (fun _ => (0 : Int32)))), (q38, .inl (kq1, 20, .inl (fun _ => (0 : Int32)))), (q40, .inl (kq1, 20, .inl (fun _ => (0 : Int32)))), (q42, .inl (kq1, 320, .inl (fun _ => (0 : Int32)))), (q44, .inl (kq1, 320, .inl (fun _ => (0 : Int32))))]) [0, 1, 2, 3, 4, 5, 6, 7, 8, 9, 10, 11, 12] (by decide) rfl
  refine lv_aload_n hx hb dX13_init_530 rfl (lv_at hl 0 rfl) ?_
  refine lv_bipush (v := 80) hx hb dX13_init_531 (by decide) ?_
  refine va_newa (atype := .int) (ty := .int) (N' := 80) (a0 := (80, .inl (fun _ => (0 : Int32)))) hx hb (hts (.arrayClass .int) (List.mem_of_getElem? (i := 4) rfl)) rfl hK hP hD hS hA (fun _ => rfl) (by decide) (by decide) (Nat.le_of_ble_eq_true rfl) (Nat.le_of_ble_eq_true rfl) (Nat.le_of_ble_eq_true rfl) dX13_init_533 (fun q126 kq126 H hK hP hD hS => ?_)
  have hK : va_K (dC, dI) vwCl [(kq1, .int), (kq13, .byte), (kq72, .boolean), (kq126, .int)] s := hK
  replace hP : va_P (dC, dI) vwCl [(h, .inr (14, mL g125)), (q13, .inl (kq13, 200, .inl (fun _ => (0 : Int32)))), (q23, .inl (kq1, 128, .inl (fun _ => (0 : Int32)))), (q26, .inl (kq1, 20, .inl (fun _ => (0 : Int32)))), (q28, .inl (kq1, 20, .inl (fun _ => (0 : Int32)))), (q30, .inl (kq1, 20, .inl (fun _ => (0 : Int32)))), (q32, .inl (kq1, 20, .inl (fun _ => (0 : Int32)))), (q34, .inl (kq1, 20, .inl (fun _ => (0 : Int32)))), (q36, .inl (kq1, 20, .inl (fun _ => (0 : Int32)))), (q38, .inl (kq1, 20, .inl (fun _ => (0 : Int32)))), (q40, .inl (kq1, 20, .inl (fun _ => (0 : Int32)))), (q42, .inl (kq1, 320, .inl (fun _ => (0 : Int32)))), (q44, .inl (kq1, 320, .inl (fun _ => (0 : Int32)))), (q126, .inl (kq126, 80, .inl (fun _ => (0 : Int32))))] H := hP
  replace hD : va_D A [(h, .inr (14, mL g125)), (q13, .inl (kq13, 200, .inl (fun _ => (0 : Int32)))), (q23, .inl (kq1, 128, .inl (fun _ => (0 : Int32)))), (q26, .inl (kq1, 20, .inl (fun _ => (0 : Int32)))), (q28, .inl (kq1, 20, .inl (fun _ => (0 : Int32)))), (q30, .inl (kq1, 20, .inl (fun _ => (0 : Int32)))), (q32, .inl (kq1, 20, .inl (fun _ => (0 : Int32)))), (q34, .inl (kq1, 20, .inl (fun _ => (0 : Int32)))), (q36, .inl (kq1, 20, .inl (fun _ => (0 : Int32)))), (q38, .inl (kq1, 20, .inl (fun _ => (0 : Int32)))), (q40, .inl (kq1, 20, .inl (fun _ => (0 : Int32)))), (q42, .inl (kq1, 320, .inl (fun _ => (0 : Int32)))), (q44, .inl (kq1, 320, .inl (fun _ => (0 : Int32)))), (q126, .inl (kq126, 80, .inl (fun _ => (0 : Int32))))] := hD
  refine W.widen (k := 63) (n := 10392) (by omega) (by omega) ?_
  obtain rfl : kq1 = kq126 := ub_sa_int hK 0 3 rfl rfl
  have hK := hK.sub (tys' := [(kq1, .int), (kq13, .byte), (kq72, .boolean)]) [0, 1, 2] rfl
  refine va_putF (D := (dC, dI)) (ci := 14) (v := .ref q126) (ty := .array .int) (C := RX13) (T := TX13) (N := 97) hx hb hts iw_m_init_X13 tyX13 tyX13_ok nmX13 hown hK hP hD hS 0 rfl rfl 83 (by decide) (hts (.fieldLink RX13 201 "UnlikeBoatsModel" "evenNumber" "[I") (List.mem_of_getElem? (i := 70) rfl)) (fun _ h9 => h9) rfl hin rfl (by decide +kernel) rfl rfl (mL_lt (Nat.le_of_ble_eq_true rfl)) dX13_init_535 (fun H locs hP hD hS => ?_)
  have hP : va_P (dC, dI) vwCl [(h, .inr (14, (mL g125).set 83 (.ref q126))), (q13, .inl (kq13, 200, .inl (fun _ => (0 : Int32)))), (q23, .inl (kq1, 128, .inl (fun _ => (0 : Int32)))), (q26, .inl (kq1, 20, .inl (fun _ => (0 : Int32)))), (q28, .inl (kq1, 20, .inl (fun _ => (0 : Int32)))), (q30, .inl (kq1, 20, .inl (fun _ => (0 : Int32)))), (q32, .inl (kq1, 20, .inl (fun _ => (0 : Int32)))), (q34, .inl (kq1, 20, .inl (fun _ => (0 : Int32)))), (q36, .inl (kq1, 20, .inl (fun _ => (0 : Int32)))), (q38, .inl (kq1, 20, .inl (fun _ => (0 : Int32)))), (q40, .inl (kq1, 20, .inl (fun _ => (0 : Int32)))), (q42, .inl (kq1, 320, .inl (fun _ => (0 : Int32)))), (q44, .inl (kq1, 320, .inl (fun _ => (0 : Int32)))), (q126, .inl (kq1, 80, .inl (fun _ => (0 : Int32))))] H := hP
  have hD : va_D A [(h, .inr (14, (mL g125).set 83 (.ref q126))), (q13, .inl (kq13, 200, .inl (fun _ => (0 : Int32)))), (q23, .inl (kq1, 128, .inl (fun _ => (0 : Int32)))), (q26, .inl (kq1, 20, .inl (fun _ => (0 : Int32)))), (q28, .inl (kq1, 20, .inl (fun _ => (0 : Int32)))), (q30, .inl (kq1, 20, .inl (fun _ => (0 : Int32)))), (q32, .inl (kq1, 20, .inl (fun _ => (0 : Int32)))), (q34, .inl (kq1, 20, .inl (fun _ => (0 : Int32)))), (q36, .inl (kq1, 20, .inl (fun _ => (0 : Int32)))), (q38, .inl (kq1, 20, .inl (fun _ => (0 : Int32)))), (q40, .inl (kq1, 20, .inl (fun _ => (0 : Int32)))), (q42, .inl (kq1, 320, .inl (fun _ => (0 : Int32)))), (q44, .inl (kq1, 320, .inl (fun _ => (0 : Int32)))), (q126, .inl (kq1, 80, .inl (fun _ => (0 : Int32))))] := hD
  obtain ⟨g127, eg127⟩ : ∃ z9, z9 = va_up g125 83 (.ref q126) := ⟨_, rfl⟩
  rw [mL_upd, ← eg127] at hP hD
  have hg127_0 : g127 0 = .int 0 := (congrFun eg127 0).trans ((va_up_ne _ _ (Nat.ne_of_beq_eq_false rfl)).trans hg125_0)
  have hg127_1 : g127 1 = .int 0 := (congrFun eg127 1).trans ((va_up_ne _ _ (Nat.ne_of_beq_eq_false rfl)).trans hg125_1)
  have hg127_8 : g127 8 = .int 0 := (congrFun eg127 8).trans ((va_up_ne _ _ (Nat.ne_of_beq_eq_false rfl)).trans hg125_8)
  have hg127_9 : g127 9 = .int 0 := (congrFun eg127 9).trans ((va_up_ne _ _ (Nat.ne_of_beq_eq_false rfl)).trans hg125_9)
  have hg127_16 : g127 16 = .int 0 := (congrFun eg127 16).trans ((va_up_ne _ _ (Nat.ne_of_beq_eq_false rfl)).trans hg125_16)
  have hg127_17 : g127 17 = .int 0 := (congrFun eg127 17).trans ((va_up_ne _ _ (Nat.ne_of_beq_eq_false rfl)).trans hg125_17)
  have hg127_46 : g127 46 = .int 0 := (congrFun eg127 46).trans ((va_up_ne _ _ (Nat.ne_of_beq_eq_false rfl)).trans hg125_46)
  have hg127_47 : g127 47 = .int 0 := (congrFun eg127 47).trans ((va_up_ne _ _ (Nat.ne_of_beq_eq_false rfl)).trans hg125_47)
  have hg127_48 : g127 48 = .int 0 := (congrFun eg127 48).trans ((va_up_ne _ _ (Nat.ne_of_beq_eq_false rfl)).trans hg125_48)
  have hg127_74 : g127 74 = .int 0 := (congrFun eg127 74).trans ((va_up_ne _ _ (Nat.ne_of_beq_eq_false rfl)).trans hg125_74)
  have hg127_75 : g127 75 = .int 0 := (congrFun eg127 75).trans ((va_up_ne _ _ (Nat.ne_of_beq_eq_false rfl)).trans hg125_75)
  have hg127_55 : g127 55 = .int 0 := (congrFun eg127 55).trans ((va_up_ne _ _ (Nat.ne_of_beq_eq_false rfl)).trans hg125_55)
  have hg127_10 : g127 10 = .ref q13 := (congrFun eg127 10).trans ((va_up_ne _ _ (Nat.ne_of_beq_eq_false rfl)).trans hg125_10)
  have hg127_15 : g127 15 = .ref q23 := (congrFun eg127 15).trans ((va_up_ne _ _ (Nat.ne_of_beq_eq_false rfl)).trans hg125_15)
  have hg127_27 : g127 27 = .ref q26 := (congrFun eg127 27).trans ((va_up_ne _ _ (Nat.ne_of_beq_eq_false rfl)).trans hg125_27)
  have hg127_28 : g127 28 = .ref q28 := (congrFun eg127 28).trans ((va_up_ne _ _ (Nat.ne_of_beq_eq_false rfl)).trans hg125_28)
  have hg127_29 : g127 29 = .ref q30 := (congrFun eg127 29).trans ((va_up_ne _ _ (Nat.ne_of_beq_eq_false rfl)).trans hg125_29)
  have hg127_30 : g127 30 = .ref q32 := (congrFun eg127 30).trans ((va_up_ne _ _ (Nat.ne_of_beq_eq_false rfl)).trans hg125_30)
  have hg127_31 : g127 31 = .ref q34 := (congrFun eg127 31).trans ((va_up_ne _ _ (Nat.ne_of_beq_eq_false rfl)).trans hg125_31)
  have hg127_32 : g127 32 = .ref q36 := (congrFun eg127 32).trans ((va_up_ne _ _ (Nat.ne_of_beq_eq_false rfl)).trans hg125_32)
  have hg127_33 : g127 33 = .ref q38 := (congrFun eg127 33).trans ((va_up_ne _ _ (Nat.ne_of_beq_eq_false rfl)).trans hg125_33)
  have hg127_34 : g127 34 = .ref q40 := (congrFun eg127 34).trans ((va_up_ne _ _ (Nat.ne_of_beq_eq_false rfl)).trans hg125_34)
  have hg127_35 : g127 35 = .ref q42 := (congrFun eg127 35).trans ((va_up_ne _ _ (Nat.ne_of_beq_eq_false rfl)).trans hg125_35)
  have hg127_36 : g127 36 = .ref q44 := (congrFun eg127 36).trans ((va_up_ne _ _ (Nat.ne_of_beq_eq_false rfl)).trans hg125_36)
  clear hg125_0 hg125_1 hg125_8 hg125_9 hg125_16 hg125_17 hg125_46 hg125_47 hg125_48 hg125_74 hg125_75 hg125_55 hg125_10 hg125_15 hg125_27 hg125_28 hg125_29 hg125_30 hg125_31 hg125_32 hg125_33 hg125_34 hg125_35 hg125_36
  have hg127_83 : g127 83 = .ref q126 := by rw [eg127]; exact va_up_self _ _ _
  replace hP := hP.sub (ws' := [(h, .inr (14, mL g127)), (q13, .inl (kq13, 200, .inl (fun _ => (0 : Int32)))), (q23, .inl (kq1, 128, .inl (fun _ => (0 : Int32)))), (q26, .inl (kq1, 20, .inl (fun _ => (0 : Int32)))), (q28, .inl (kq1, 20, .inl (fun _ => (0 : Int32)))), (q30, .inl (kq1, 20, .inl (fun _ => (0 : Int32)))), (q32, .inl (kq1, 20, .inl (fun _ => (0 : Int32)))), (q34, .inl (kq1, 20, .inl (fun _ => (0 : Int32)))), (q36, .inl (kq1, 20, .inl (fun _ => (0 : Int32)))), (q38, .inl (kq1, 20, .inl (fun _ => (0 : Int32)))), (q40, .inl (kq1, 20, .inl (fun _ => (0 : Int32)))), (q42, .inl (kq1, 320, .inl (fun _ => (0 : Int32)))), (q44, .inl (kq1, 320, .inl (fun _ => (0 : Int32))))]) [0, 1, 2, 3, 4, 5, 6, 7, 8, 9, 10, 11, 12] rfl
  replace hD := hD.sub (ws' := [(h, .inr (14, mL g127)), (q13, .inl (kq13, 200, .inl (fun _ => (0 : Int32)))), (q23, .inl (kq1, 128, .inl (fun _ => (0 : Int32)))), (q26, .inl (kq1, 20, .inl (fun _ => (0 : Int32)))), (q28, .inl (kq1, 20, .inl (fun _ => (0 : Int32)))), (q30, .inl (kq1, 20, .inl (fun _ => (0 : Int32)))), (q32, .inl (kq1, 20, .inl (fun _ => (0 : Int32)))), (q34, .inl (kq1, 20, .inl (fun _ => (0 : Int32)))), (q36, .inl (kq1, 20, .inl (fun _ => (0 : Int32)))), (q38, .inl (kq1, 20, .inl (fun _ => (0 : Int32)))), (q40, .inl (kq1, 20, .inl (fun _ => (0 : Int32)))), (q42, .inl (kq1, 320, .inl (fun _ => (0 : Int32)))), (q44, .inl (kq1, 320, .inl (fun _ => (0 : Int32))))]) [0, 1, 2, 3, 4, 5, 6, 7, 8, 9, 10, 11, 12] (by decide) rfl
  refine lv_aload_n hx hb dX13_init_538 rfl (lv_at hl 0 rfl) ?_
  refine lv_iconst (v := 4) hx hb dX13_init_539 (by decide) ?_
  refine va_newa (atype := .int) (ty := .int) (N' := 4) (a0 := (4, .inl (fun _ => (0 : Int32)))) hx hb (hts (.arrayClass .int) (List.mem_of_getElem? (i := 4) rfl)) rfl hK hP hD hS hA (fun _ => rfl) (by decide) (by decide) (Nat.le_of_ble_eq_true rfl) (Nat.le_of_ble_eq_true rfl) (Nat.le_of_ble_eq_true rfl) dX13_init_540 (fun q128 kq128 H hK hP hD hS => ?_)
  have hK : va_K (dC, dI) vwCl [(kq1, .int), (kq13, .byte), (kq72, .boolean), (kq128, .int)] s := hK
  replace hP : va_P (dC, dI) vwCl [(h, .inr (14, mL g127)), (q13, .inl (kq13, 200, .inl (fun _ => (0 : Int32)))), (q23, .inl (kq1, 128, .inl (fun _ => (0 : Int32)))), (q26, .inl (kq1, 20, .inl (fun _ => (0 : Int32)))), (q28, .inl (kq1, 20, .inl (fun _ => (0 : Int32)))), (q30, .inl (kq1, 20, .inl (fun _ => (0 : Int32)))), (q32, .inl (kq1, 20, .inl (fun _ => (0 : Int32)))), (q34, .inl (kq1, 20, .inl (fun _ => (0 : Int32)))), (q36, .inl (kq1, 20, .inl (fun _ => (0 : Int32)))), (q38, .inl (kq1, 20, .inl (fun _ => (0 : Int32)))), (q40, .inl (kq1, 20, .inl (fun _ => (0 : Int32)))), (q42, .inl (kq1, 320, .inl (fun _ => (0 : Int32)))), (q44, .inl (kq1, 320, .inl (fun _ => (0 : Int32)))), (q128, .inl (kq128, 4, .inl (fun _ => (0 : Int32))))] H := hP
  replace hD : va_D A [(h, .inr (14, mL g127)), (q13, .inl (kq13, 200, .inl (fun _ => (0 : Int32)))), (q23, .inl (kq1, 128, .inl (fun _ => (0 : Int32)))), (q26, .inl (kq1, 20, .inl (fun _ => (0 : Int32)))), (q28, .inl (kq1, 20, .inl (fun _ => (0 : Int32)))), (q30, .inl (kq1, 20, .inl (fun _ => (0 : Int32)))), (q32, .inl (kq1, 20, .inl (fun _ => (0 : Int32)))), (q34, .inl (kq1, 20, .inl (fun _ => (0 : Int32)))), (q36, .inl (kq1, 20, .inl (fun _ => (0 : Int32)))), (q38, .inl (kq1, 20, .inl (fun _ => (0 : Int32)))), (q40, .inl (kq1, 20, .inl (fun _ => (0 : Int32)))), (q42, .inl (kq1, 320, .inl (fun _ => (0 : Int32)))), (q44, .inl (kq1, 320, .inl (fun _ => (0 : Int32)))), (q128, .inl (kq128, 4, .inl (fun _ => (0 : Int32))))] := hD
  refine W.widen (k := 64) (n := 10396) (by omega) (by omega) ?_
  obtain rfl : kq1 = kq128 := ub_sa_int hK 0 3 rfl rfl
  have hK := hK.sub (tys' := [(kq1, .int), (kq13, .byte), (kq72, .boolean)]) [0, 1, 2] rfl
  refine va_putF (D := (dC, dI)) (ci := 14) (v := .ref q128) (ty := .array .int) (C := RX13) (T := TX13) (N := 97) hx hb hts iw_m_init_X13 tyX13 tyX13_ok nmX13 hown hK hP hD hS 0 rfl rfl 84 (by decide) (hts (.fieldLink RX13 204 "UnlikeBoatsModel" "tried" "[I") (List.mem_of_getElem? (i := 71) rfl)) (fun _ h9 => h9) rfl hin rfl (by decide +kernel) rfl rfl (mL_lt (Nat.le_of_ble_eq_true rfl)) dX13_init_542 (fun H locs hP hD hS => ?_)
  have hP : va_P (dC, dI) vwCl [(h, .inr (14, (mL g127).set 84 (.ref q128))), (q13, .inl (kq13, 200, .inl (fun _ => (0 : Int32)))), (q23, .inl (kq1, 128, .inl (fun _ => (0 : Int32)))), (q26, .inl (kq1, 20, .inl (fun _ => (0 : Int32)))), (q28, .inl (kq1, 20, .inl (fun _ => (0 : Int32)))), (q30, .inl (kq1, 20, .inl (fun _ => (0 : Int32)))), (q32, .inl (kq1, 20, .inl (fun _ => (0 : Int32)))), (q34, .inl (kq1, 20, .inl (fun _ => (0 : Int32)))), (q36, .inl (kq1, 20, .inl (fun _ => (0 : Int32)))), (q38, .inl (kq1, 20, .inl (fun _ => (0 : Int32)))), (q40, .inl (kq1, 20, .inl (fun _ => (0 : Int32)))), (q42, .inl (kq1, 320, .inl (fun _ => (0 : Int32)))), (q44, .inl (kq1, 320, .inl (fun _ => (0 : Int32)))), (q128, .inl (kq1, 4, .inl (fun _ => (0 : Int32))))] H := hP
  have hD : va_D A [(h, .inr (14, (mL g127).set 84 (.ref q128))), (q13, .inl (kq13, 200, .inl (fun _ => (0 : Int32)))), (q23, .inl (kq1, 128, .inl (fun _ => (0 : Int32)))), (q26, .inl (kq1, 20, .inl (fun _ => (0 : Int32)))), (q28, .inl (kq1, 20, .inl (fun _ => (0 : Int32)))), (q30, .inl (kq1, 20, .inl (fun _ => (0 : Int32)))), (q32, .inl (kq1, 20, .inl (fun _ => (0 : Int32)))), (q34, .inl (kq1, 20, .inl (fun _ => (0 : Int32)))), (q36, .inl (kq1, 20, .inl (fun _ => (0 : Int32)))), (q38, .inl (kq1, 20, .inl (fun _ => (0 : Int32)))), (q40, .inl (kq1, 20, .inl (fun _ => (0 : Int32)))), (q42, .inl (kq1, 320, .inl (fun _ => (0 : Int32)))), (q44, .inl (kq1, 320, .inl (fun _ => (0 : Int32)))), (q128, .inl (kq1, 4, .inl (fun _ => (0 : Int32))))] := hD
  obtain ⟨g129, eg129⟩ : ∃ z9, z9 = va_up g127 84 (.ref q128) := ⟨_, rfl⟩
  rw [mL_upd, ← eg129] at hP hD
  have hg129_0 : g129 0 = .int 0 := (congrFun eg129 0).trans ((va_up_ne _ _ (Nat.ne_of_beq_eq_false rfl)).trans hg127_0)
  have hg129_1 : g129 1 = .int 0 := (congrFun eg129 1).trans ((va_up_ne _ _ (Nat.ne_of_beq_eq_false rfl)).trans hg127_1)
  have hg129_8 : g129 8 = .int 0 := (congrFun eg129 8).trans ((va_up_ne _ _ (Nat.ne_of_beq_eq_false rfl)).trans hg127_8)
  have hg129_9 : g129 9 = .int 0 := (congrFun eg129 9).trans ((va_up_ne _ _ (Nat.ne_of_beq_eq_false rfl)).trans hg127_9)
  have hg129_16 : g129 16 = .int 0 := (congrFun eg129 16).trans ((va_up_ne _ _ (Nat.ne_of_beq_eq_false rfl)).trans hg127_16)
  have hg129_17 : g129 17 = .int 0 := (congrFun eg129 17).trans ((va_up_ne _ _ (Nat.ne_of_beq_eq_false rfl)).trans hg127_17)
  have hg129_46 : g129 46 = .int 0 := (congrFun eg129 46).trans ((va_up_ne _ _ (Nat.ne_of_beq_eq_false rfl)).trans hg127_46)
  have hg129_47 : g129 47 = .int 0 := (congrFun eg129 47).trans ((va_up_ne _ _ (Nat.ne_of_beq_eq_false rfl)).trans hg127_47)
  have hg129_48 : g129 48 = .int 0 := (congrFun eg129 48).trans ((va_up_ne _ _ (Nat.ne_of_beq_eq_false rfl)).trans hg127_48)
  have hg129_74 : g129 74 = .int 0 := (congrFun eg129 74).trans ((va_up_ne _ _ (Nat.ne_of_beq_eq_false rfl)).trans hg127_74)
  have hg129_75 : g129 75 = .int 0 := (congrFun eg129 75).trans ((va_up_ne _ _ (Nat.ne_of_beq_eq_false rfl)).trans hg127_75)
  have hg129_55 : g129 55 = .int 0 := (congrFun eg129 55).trans ((va_up_ne _ _ (Nat.ne_of_beq_eq_false rfl)).trans hg127_55)
  have hg129_10 : g129 10 = .ref q13 := (congrFun eg129 10).trans ((va_up_ne _ _ (Nat.ne_of_beq_eq_false rfl)).trans hg127_10)
  have hg129_15 : g129 15 = .ref q23 := (congrFun eg129 15).trans ((va_up_ne _ _ (Nat.ne_of_beq_eq_false rfl)).trans hg127_15)
  have hg129_27 : g129 27 = .ref q26 := (congrFun eg129 27).trans ((va_up_ne _ _ (Nat.ne_of_beq_eq_false rfl)).trans hg127_27)
  have hg129_28 : g129 28 = .ref q28 := (congrFun eg129 28).trans ((va_up_ne _ _ (Nat.ne_of_beq_eq_false rfl)).trans hg127_28)
  have hg129_29 : g129 29 = .ref q30 := (congrFun eg129 29).trans ((va_up_ne _ _ (Nat.ne_of_beq_eq_false rfl)).trans hg127_29)
  have hg129_30 : g129 30 = .ref q32 := (congrFun eg129 30).trans ((va_up_ne _ _ (Nat.ne_of_beq_eq_false rfl)).trans hg127_30)
  have hg129_31 : g129 31 = .ref q34 := (congrFun eg129 31).trans ((va_up_ne _ _ (Nat.ne_of_beq_eq_false rfl)).trans hg127_31)
  have hg129_32 : g129 32 = .ref q36 := (congrFun eg129 32).trans ((va_up_ne _ _ (Nat.ne_of_beq_eq_false rfl)).trans hg127_32)
  have hg129_33 : g129 33 = .ref q38 := (congrFun eg129 33).trans ((va_up_ne _ _ (Nat.ne_of_beq_eq_false rfl)).trans hg127_33)
  have hg129_34 : g129 34 = .ref q40 := (congrFun eg129 34).trans ((va_up_ne _ _ (Nat.ne_of_beq_eq_false rfl)).trans hg127_34)
  have hg129_35 : g129 35 = .ref q42 := (congrFun eg129 35).trans ((va_up_ne _ _ (Nat.ne_of_beq_eq_false rfl)).trans hg127_35)
  have hg129_36 : g129 36 = .ref q44 := (congrFun eg129 36).trans ((va_up_ne _ _ (Nat.ne_of_beq_eq_false rfl)).trans hg127_36)
  clear hg127_0 hg127_1 hg127_8 hg127_9 hg127_16 hg127_17 hg127_46 hg127_47 hg127_48 hg127_74 hg127_75 hg127_55 hg127_10 hg127_15 hg127_27 hg127_28 hg127_29 hg127_30 hg127_31 hg127_32 hg127_33 hg127_34 hg127_35 hg127_36
  have hg129_84 : g129 84 = .ref q128 := by rw [eg129]; exact va_up_self _ _ _
  replace hP := hP.sub (ws' := [(h, .inr (14, mL g129)), (q13, .inl (kq13, 200, .inl (fun _ => (0 : Int32)))), (q23, .inl (kq1, 128, .inl (fun _ => (0 : Int32)))), (q26, .inl (kq1, 20, .inl (fun _ => (0 : Int32)))), (q28, .inl (kq1, 20, .inl (fun _ => (0 : Int32)))), (q30, .inl (kq1, 20, .inl (fun _ => (0 : Int32)))), (q32, .inl (kq1, 20, .inl (fun _ => (0 : Int32)))), (q34, .inl (kq1, 20, .inl (fun _ => (0 : Int32)))), (q36, .inl (kq1, 20, .inl (fun _ => (0 : Int32)))), (q38, .inl (kq1, 20, .inl (fun _ => (0 : Int32)))), (q40, .inl (kq1, 20, .inl (fun _ => (0 : Int32)))), (q42, .inl (kq1, 320, .inl (fun _ => (0 : Int32)))), (q44, .inl (kq1, 320, .inl (fun _ => (0 : Int32))))]) [0, 1, 2, 3, 4, 5, 6, 7, 8, 9, 10, 11, 12] rfl
  replace hD := hD.sub (ws' := [(h, .inr (14, mL g129)), (q13, .inl (kq13, 200, .inl (fun _ => (0 : Int32)))), (q23, .inl (kq1, 128, .inl (fun _ => (0 : Int32)))), (q26, .inl (kq1, 20, .inl (fun _ => (0 : Int32)))), (q28, .inl (kq1, 20, .inl (fun _ => (0 : Int32)))), (q30, .inl (kq1, 20, .inl (fun _ => (0 : Int32)))), (q32, .inl (kq1, 20, .inl (fun _ => (0 : Int32)))), (q34, .inl (kq1, 20, .inl (fun _ => (0 : Int32)))), (q36, .inl (kq1, 20, .inl (fun _ => (0 : Int32)))), (q38, .inl (kq1, 20, .inl (fun _ => (0 : Int32)))), (q40, .inl (kq1, 20, .inl (fun _ => (0 : Int32)))), (q42, .inl (kq1, 320, .inl (fun _ => (0 : Int32)))), (q44, .inl (kq1, 320, .inl (fun _ => (0 : Int32))))]) [0, 1, 2, 3, 4, 5, 6, 7, 8, 9, 10, 11, 12] (by decide) rfl
  refine lv_aload_n hx hb dX13_init_545 rfl (lv_at hl 0 rfl) ?_
  refine lv_iconst (v := 4) hx hb dX13_init_546 (by decide) ?_
  refine va_newa (atype := .int) (ty := .int) (N' := 4) (a0 := (4, .inl (fun _ => (0 : Int32)))) hx hb (hts (.arrayClass .int) (List.mem_of_getElem? (i := 4) rfl)) rfl hK hP hD hS hA (fun _ => rfl) (by decide) (by decide) (Nat.le_of_ble_eq_true rfl) (Nat.le_of_ble_eq_true rfl) (Nat.le_of_ble_eq_true rfl) dX13_init_547 (fun q130 kq130 H hK hP hD hS => ?_)
  have hK : va_K (dC, dI) vwCl [(kq1, .int), (kq13, .byte), (kq72, .boolean), (kq130, .int)] s := hK
  replace hP : va_P (dC, dI) vwCl [(h, .inr (14, mL g129)), (q13, .inl (kq13, 200, .inl (fun _ => (0 : Int32)))), (q23, .inl (kq1, 128, .inl (fun _ => (0 : Int32)))), (q26, .inl (kq1, 20, .inl (fun _ => (0 : Int32)))), (q28, .inl (kq1, 20, .inl (fun _ => (0 : Int32)))), (q30, .inl (kq1, 20, .inl (fun _ => (0 : Int32)))), (q32, .inl (kq1, 20, .inl (fun _ => (0 : Int32)))), (q34, .inl (kq1, 20, .inl (fun _ => (0 : Int32)))), (q36, .inl (kq1, 20, .inl (fun _ => (0 : Int32)))), (q38, .inl (kq1, 20, .inl (fun _ => (0 : Int32)))), (q40, .inl (kq1, 20, .inl (fun _ => (0 : Int32)))), (q42, .inl (kq1, 320, .inl (fun _ => (0 : Int32)))), (q44, .inl (kq1, 320, .inl (fun _ => (0 : Int32)))), (q130, .inl (kq130, 4, .inl (fun _ => (0 : Int32))))] H := hP
  replace hD : va_D A [(h, .inr (14, mL g129)), (q13, .inl (kq13, 200, .inl (fun _ => (0 : Int32)))), (q23, .inl (kq1, 128, .inl (fun _ => (0 : Int32)))), (q26, .inl (kq1, 20, .inl (fun _ => (0 : Int32)))), (q28, .inl (kq1, 20, .inl (fun _ => (0 : Int32)))), (q30, .inl (kq1, 20, .inl (fun _ => (0 : Int32)))), (q32, .inl (kq1, 20, .inl (fun _ => (0 : Int32)))), (q34, .inl (kq1, 20, .inl (fun _ => (0 : Int32)))), (q36, .inl (kq1, 20, .inl (fun _ => (0 : Int32)))), (q38, .inl (kq1, 20, .inl (fun _ => (0 : Int32)))), (q40, .inl (kq1, 20, .inl (fun _ => (0 : Int32)))), (q42, .inl (kq1, 320, .inl (fun _ => (0 : Int32)))), (q44, .inl (kq1, 320, .inl (fun _ => (0 : Int32)))), (q130, .inl (kq130, 4, .inl (fun _ => (0 : Int32))))] := hD
  refine W.widen (k := 65) (n := 10400) (by omega) (by omega) ?_
  obtain rfl : kq1 = kq130 := ub_sa_int hK 0 3 rfl rfl
  have hK := hK.sub (tys' := [(kq1, .int), (kq13, .byte), (kq72, .boolean)]) [0, 1, 2] rfl
  refine va_putF (D := (dC, dI)) (ci := 14) (v := .ref q130) (ty := .array .int) (C := RX13) (T := TX13) (N := 97) hx hb hts iw_m_init_X13 tyX13 tyX13_ok nmX13 hown hK hP hD hS 0 rfl rfl 85 (by decide) (hts (.fieldLink RX13 207 "UnlikeBoatsModel" "bestChange" "[I") (List.mem_of_getElem? (i := 72) rfl)) (fun _ h9 => h9) rfl hin rfl (by decide +kernel) rfl rfl (mL_lt (Nat.le_of_ble_eq_true rfl)) dX13_init_549 (fun H locs hP hD hS => ?_)
  have hP : va_P (dC, dI) vwCl [(h, .inr (14, (mL g129).set 85 (.ref q130))), (q13, .inl (kq13, 200, .inl (fun _ => (0 : Int32)))), (q23, .inl (kq1, 128, .inl (fun _ => (0 : Int32)))), (q26, .inl (kq1, 20, .inl (fun _ => (0 : Int32)))), (q28, .inl (kq1, 20, .inl (fun _ => (0 : Int32)))), (q30, .inl (kq1, 20, .inl (fun _ => (0 : Int32)))), (q32, .inl (kq1, 20, .inl (fun _ => (0 : Int32)))), (q34, .inl (kq1, 20, .inl (fun _ => (0 : Int32)))), (q36, .inl (kq1, 20, .inl (fun _ => (0 : Int32)))), (q38, .inl (kq1, 20, .inl (fun _ => (0 : Int32)))), (q40, .inl (kq1, 20, .inl (fun _ => (0 : Int32)))), (q42, .inl (kq1, 320, .inl (fun _ => (0 : Int32)))), (q44, .inl (kq1, 320, .inl (fun _ => (0 : Int32)))), (q130, .inl (kq1, 4, .inl (fun _ => (0 : Int32))))] H := hP
  have hD : va_D A [(h, .inr (14, (mL g129).set 85 (.ref q130))), (q13, .inl (kq13, 200, .inl (fun _ => (0 : Int32)))), (q23, .inl (kq1, 128, .inl (fun _ => (0 : Int32)))), (q26, .inl (kq1, 20, .inl (fun _ => (0 : Int32)))), (q28, .inl (kq1, 20, .inl (fun _ => (0 : Int32)))), (q30, .inl (kq1, 20, .inl (fun _ => (0 : Int32)))), (q32, .inl (kq1, 20, .inl (fun _ => (0 : Int32)))), (q34, .inl (kq1, 20, .inl (fun _ => (0 : Int32)))), (q36, .inl (kq1, 20, .inl (fun _ => (0 : Int32)))), (q38, .inl (kq1, 20, .inl (fun _ => (0 : Int32)))), (q40, .inl (kq1, 20, .inl (fun _ => (0 : Int32)))), (q42, .inl (kq1, 320, .inl (fun _ => (0 : Int32)))), (q44, .inl (kq1, 320, .inl (fun _ => (0 : Int32)))), (q130, .inl (kq1, 4, .inl (fun _ => (0 : Int32))))] := hD
  obtain ⟨g131, eg131⟩ : ∃ z9, z9 = va_up g129 85 (.ref q130) := ⟨_, rfl⟩
  rw [mL_upd, ← eg131] at hP hD
  have hg131_0 : g131 0 = .int 0 := (congrFun eg131 0).trans ((va_up_ne _ _ (Nat.ne_of_beq_eq_false rfl)).trans hg129_0)
  have hg131_1 : g131 1 = .int 0 := (congrFun eg131 1).trans ((va_up_ne _ _ (Nat.ne_of_beq_eq_false rfl)).trans hg129_1)
  have hg131_8 : g131 8 = .int 0 := (congrFun eg131 8).trans ((va_up_ne _ _ (Nat.ne_of_beq_eq_false rfl)).trans hg129_8)
  have hg131_9 : g131 9 = .int 0 := (congrFun eg131 9).trans ((va_up_ne _ _ (Nat.ne_of_beq_eq_false rfl)).trans hg129_9)
  have hg131_16 : g131 16 = .int 0 := (congrFun eg131 16).trans ((va_up_ne _ _ (Nat.ne_of_beq_eq_false rfl)).trans hg129_16)
  have hg131_17 : g131 17 = .int 0 := (congrFun eg131 17).trans ((va_up_ne _ _ (Nat.ne_of_beq_eq_false rfl)).trans hg129_17)
  have hg131_46 : g131 46 = .int 0 := (congrFun eg131 46).trans ((va_up_ne _ _ (Nat.ne_of_beq_eq_false rfl)).trans hg129_46)
  have hg131_47 : g131 47 = .int 0 := (congrFun eg131 47).trans ((va_up_ne _ _ (Nat.ne_of_beq_eq_false rfl)).trans hg129_47)
  have hg131_48 : g131 48 = .int 0 := (congrFun eg131 48).trans ((va_up_ne _ _ (Nat.ne_of_beq_eq_false rfl)).trans hg129_48)
  have hg131_74 : g131 74 = .int 0 := (congrFun eg131 74).trans ((va_up_ne _ _ (Nat.ne_of_beq_eq_false rfl)).trans hg129_74)
  have hg131_75 : g131 75 = .int 0 := (congrFun eg131 75).trans ((va_up_ne _ _ (Nat.ne_of_beq_eq_false rfl)).trans hg129_75)
  have hg131_55 : g131 55 = .int 0 := (congrFun eg131 55).trans ((va_up_ne _ _ (Nat.ne_of_beq_eq_false rfl)).trans hg129_55)
  have hg131_10 : g131 10 = .ref q13 := (congrFun eg131 10).trans ((va_up_ne _ _ (Nat.ne_of_beq_eq_false rfl)).trans hg129_10)
  have hg131_15 : g131 15 = .ref q23 := (congrFun eg131 15).trans ((va_up_ne _ _ (Nat.ne_of_beq_eq_false rfl)).trans hg129_15)
  have hg131_27 : g131 27 = .ref q26 := (congrFun eg131 27).trans ((va_up_ne _ _ (Nat.ne_of_beq_eq_false rfl)).trans hg129_27)
  have hg131_28 : g131 28 = .ref q28 := (congrFun eg131 28).trans ((va_up_ne _ _ (Nat.ne_of_beq_eq_false rfl)).trans hg129_28)
  have hg131_29 : g131 29 = .ref q30 := (congrFun eg131 29).trans ((va_up_ne _ _ (Nat.ne_of_beq_eq_false rfl)).trans hg129_29)
  have hg131_30 : g131 30 = .ref q32 := (congrFun eg131 30).trans ((va_up_ne _ _ (Nat.ne_of_beq_eq_false rfl)).trans hg129_30)
  have hg131_31 : g131 31 = .ref q34 := (congrFun eg131 31).trans ((va_up_ne _ _ (Nat.ne_of_beq_eq_false rfl)).trans hg129_31)
  have hg131_32 : g131 32 = .ref q36 := (congrFun eg131 32).trans ((va_up_ne _ _ (Nat.ne_of_beq_eq_false rfl)).trans hg129_32)
  have hg131_33 : g131 33 = .ref q38 := (congrFun eg131 33).trans ((va_up_ne _ _ (Nat.ne_of_beq_eq_false rfl)).trans hg129_33)
  have hg131_34 : g131 34 = .ref q40 := (congrFun eg131 34).trans ((va_up_ne _ _ (Nat.ne_of_beq_eq_false rfl)).trans hg129_34)
  have hg131_35 : g131 35 = .ref q42 := (congrFun eg131 35).trans ((va_up_ne _ _ (Nat.ne_of_beq_eq_false rfl)).trans hg129_35)
  have hg131_36 : g131 36 = .ref q44 := (congrFun eg131 36).trans ((va_up_ne _ _ (Nat.ne_of_beq_eq_false rfl)).trans hg129_36)
  clear hg129_0 hg129_1 hg129_8 hg129_9 hg129_16 hg129_17 hg129_46 hg129_47 hg129_48 hg129_74 hg129_75 hg129_55 hg129_10 hg129_15 hg129_27 hg129_28 hg129_29 hg129_30 hg129_31 hg129_32 hg129_33 hg129_34 hg129_35 hg129_36
  have hg131_85 : g131 85 = .ref q130 := by rw [eg131]; exact va_up_self _ _ _
  replace hP := hP.sub (ws' := [(h, .inr (14, mL g131)), (q13, .inl (kq13, 200, .inl (fun _ => (0 : Int32)))), (q23, .inl (kq1, 128, .inl (fun _ => (0 : Int32)))), (q26, .inl (kq1, 20, .inl (fun _ => (0 : Int32)))), (q28, .inl (kq1, 20, .inl (fun _ => (0 : Int32)))), (q30, .inl (kq1, 20, .inl (fun _ => (0 : Int32)))), (q32, .inl (kq1, 20, .inl (fun _ => (0 : Int32)))), (q34, .inl (kq1, 20, .inl (fun _ => (0 : Int32)))), (q36, .inl (kq1, 20, .inl (fun _ => (0 : Int32)))), (q38, .inl (kq1, 20, .inl (fun _ => (0 : Int32)))), (q40, .inl (kq1, 20, .inl (fun _ => (0 : Int32)))), (q42, .inl (kq1, 320, .inl (fun _ => (0 : Int32)))), (q44, .inl (kq1, 320, .inl (fun _ => (0 : Int32))))]) [0, 1, 2, 3, 4, 5, 6, 7, 8, 9, 10, 11, 12] rfl
  replace hD := hD.sub (ws' := [(h, .inr (14, mL g131)), (q13, .inl (kq13, 200, .inl (fun _ => (0 : Int32)))), (q23, .inl (kq1, 128, .inl (fun _ => (0 : Int32)))), (q26, .inl (kq1, 20, .inl (fun _ => (0 : Int32)))), (q28, .inl (kq1, 20, .inl (fun _ => (0 : Int32)))), (q30, .inl (kq1, 20, .inl (fun _ => (0 : Int32)))), (q32, .inl (kq1, 20, .inl (fun _ => (0 : Int32)))), (q34, .inl (kq1, 20, .inl (fun _ => (0 : Int32)))), (q36, .inl (kq1, 20, .inl (fun _ => (0 : Int32)))), (q38, .inl (kq1, 20, .inl (fun _ => (0 : Int32)))), (q40, .inl (kq1, 20, .inl (fun _ => (0 : Int32)))), (q42, .inl (kq1, 320, .inl (fun _ => (0 : Int32)))), (q44, .inl (kq1, 320, .inl (fun _ => (0 : Int32))))]) [0, 1, 2, 3, 4, 5, 6, 7, 8, 9, 10, 11, 12] (by decide) rfl
  refine lv_aload_n hx hb dX13_init_552 rfl (lv_at hl 0 rfl) ?_
  refine lv_bipush (v := 16) hx hb dX13_init_553 (by decide) ?_
  refine va_newa (atype := .int) (ty := .int) (N' := 16) (a0 := (16, .inl (fun _ => (0 : Int32)))) hx hb (hts (.arrayClass .int) (List.mem_of_getElem? (i := 4) rfl)) rfl hK hP hD hS hA (fun _ => rfl) (by decide) (by decide) (Nat.le_of_ble_eq_true rfl) (Nat.le_of_ble_eq_true rfl) (Nat.le_of_ble_eq_true rfl) dX13_init_555 (fun q132 kq132 H hK hP hD hS => ?_)
  have hK : va_K (dC, dI) vwCl [(kq1, .int), (kq13, .byte), (kq72, .boolean), (kq132, .int)] s := hK
  replace hP : va_P (dC, dI) vwCl [(h, .inr (14, mL g131)), (q13, .inl (kq13, 200, .inl (fun _ => (0 : Int32)))), (q23, .inl (kq1, 128, .inl (fun _ => (0 : Int32)))), (q26, .inl (kq1, 20, .inl (fun _ => (0 : Int32)))), (q28, .inl (kq1, 20, .inl (fun _ => (0 : Int32)))), (q30, .inl (kq1, 20, .inl (fun _ => (0 : Int32)))), (q32, .inl (kq1, 20, .inl (fun _ => (0 : Int32)))), (q34, .inl (kq1, 20, .inl (fun _ => (0 : Int32)))), (q36, .inl (kq1, 20, .inl (fun _ => (0 : Int32)))), (q38, .inl (kq1, 20, .inl (fun _ => (0 : Int32)))), (q40, .inl (kq1, 20, .inl (fun _ => (0 : Int32)))), (q42, .inl (kq1, 320, .inl (fun _ => (0 : Int32)))), (q44, .inl (kq1, 320, .inl (fun _ => (0 : Int32)))), (q132, .inl (kq132, 16, .inl (fun _ => (0 : Int32))))] H := hP
  replace hD : va_D A [(h, .inr (14, mL g131)), (q13, .inl (kq13, 200, .inl (fun _ => (0 : Int32)))), (q23, .inl (kq1, 128, .inl (fun _ => (0 : Int32)))), (q26, .inl (kq1, 20, .inl (fun _ => (0 : Int32)))), (q28, .inl (kq1, 20, .inl (fun _ => (0 : Int32)))), (q30, .inl (kq1, 20, .inl (fun _ => (0 : Int32)))), (q32, .inl (kq1, 20, .inl (fun _ => (0 : Int32)))), (q34, .inl (kq1, 20, .inl (fun _ => (0 : Int32)))), (q36, .inl (kq1, 20, .inl (fun _ => (0 : Int32)))), (q38, .inl (kq1, 20, .inl (fun _ => (0 : Int32)))), (q40, .inl (kq1, 20, .inl (fun _ => (0 : Int32)))), (q42, .inl (kq1, 320, .inl (fun _ => (0 : Int32)))), (q44, .inl (kq1, 320, .inl (fun _ => (0 : Int32)))), (q132, .inl (kq132, 16, .inl (fun _ => (0 : Int32))))] := hD
  refine W.widen (k := 66) (n := 10416) (by omega) (by omega) ?_
  obtain rfl : kq1 = kq132 := ub_sa_int hK 0 3 rfl rfl
  have hK := hK.sub (tys' := [(kq1, .int), (kq13, .byte), (kq72, .boolean)]) [0, 1, 2] rfl
  refine va_putF (D := (dC, dI)) (ci := 14) (v := .ref q132) (ty := .array .int) (C := RX13) (T := TX13) (N := 97) hx hb hts iw_m_init_X13 tyX13 tyX13_ok nmX13 hown hK hP hD hS 0 rfl rfl 90 (by decide) (hts (.fieldLink RX13 210 "UnlikeBoatsModel" "row" "[I") (List.mem_of_getElem? (i := 73) rfl)) (fun _ h9 => h9) rfl hin rfl (by decide +kernel) rfl rfl (mL_lt (Nat.le_of_ble_eq_true rfl)) dX13_init_557 (fun H locs hP hD hS => ?_)
  have hP : va_P (dC, dI) vwCl [(h, .inr (14, (mL g131).set 90 (.ref q132))), (q13, .inl (kq13, 200, .inl (fun _ => (0 : Int32)))), (q23, .inl (kq1, 128, .inl (fun _ => (0 : Int32)))), (q26, .inl (kq1, 20, .inl (fun _ => (0 : Int32)))), (q28, .inl (kq1, 20, .inl (fun _ => (0 : Int32)))), (q30, .inl (kq1, 20, .inl (fun _ => (0 : Int32)))), (q32, .inl (kq1, 20, .inl (fun _ => (0 : Int32)))), (q34, .inl (kq1, 20, .inl (fun _ => (0 : Int32)))), (q36, .inl (kq1, 20, .inl (fun _ => (0 : Int32)))), (q38, .inl (kq1, 20, .inl (fun _ => (0 : Int32)))), (q40, .inl (kq1, 20, .inl (fun _ => (0 : Int32)))), (q42, .inl (kq1, 320, .inl (fun _ => (0 : Int32)))), (q44, .inl (kq1, 320, .inl (fun _ => (0 : Int32)))), (q132, .inl (kq1, 16, .inl (fun _ => (0 : Int32))))] H := hP
  have hD : va_D A [(h, .inr (14, (mL g131).set 90 (.ref q132))), (q13, .inl (kq13, 200, .inl (fun _ => (0 : Int32)))), (q23, .inl (kq1, 128, .inl (fun _ => (0 : Int32)))), (q26, .inl (kq1, 20, .inl (fun _ => (0 : Int32)))), (q28, .inl (kq1, 20, .inl (fun _ => (0 : Int32)))), (q30, .inl (kq1, 20, .inl (fun _ => (0 : Int32)))), (q32, .inl (kq1, 20, .inl (fun _ => (0 : Int32)))), (q34, .inl (kq1, 20, .inl (fun _ => (0 : Int32)))), (q36, .inl (kq1, 20, .inl (fun _ => (0 : Int32)))), (q38, .inl (kq1, 20, .inl (fun _ => (0 : Int32)))), (q40, .inl (kq1, 20, .inl (fun _ => (0 : Int32)))), (q42, .inl (kq1, 320, .inl (fun _ => (0 : Int32)))), (q44, .inl (kq1, 320, .inl (fun _ => (0 : Int32)))), (q132, .inl (kq1, 16, .inl (fun _ => (0 : Int32))))] := hD
  obtain ⟨g133, eg133⟩ : ∃ z9, z9 = va_up g131 90 (.ref q132) := ⟨_, rfl⟩
  rw [mL_upd, ← eg133] at hP hD
  have hg133_0 : g133 0 = .int 0 := (congrFun eg133 0).trans ((va_up_ne _ _ (Nat.ne_of_beq_eq_false rfl)).trans hg131_0)
  have hg133_1 : g133 1 = .int 0 := (congrFun eg133 1).trans ((va_up_ne _ _ (Nat.ne_of_beq_eq_false rfl)).trans hg131_1)
  have hg133_8 : g133 8 = .int 0 := (congrFun eg133 8).trans ((va_up_ne _ _ (Nat.ne_of_beq_eq_false rfl)).trans hg131_8)
  have hg133_9 : g133 9 = .int 0 := (congrFun eg133 9).trans ((va_up_ne _ _ (Nat.ne_of_beq_eq_false rfl)).trans hg131_9)
  have hg133_16 : g133 16 = .int 0 := (congrFun eg133 16).trans ((va_up_ne _ _ (Nat.ne_of_beq_eq_false rfl)).trans hg131_16)
  have hg133_17 : g133 17 = .int 0 := (congrFun eg133 17).trans ((va_up_ne _ _ (Nat.ne_of_beq_eq_false rfl)).trans hg131_17)
  have hg133_46 : g133 46 = .int 0 := (congrFun eg133 46).trans ((va_up_ne _ _ (Nat.ne_of_beq_eq_false rfl)).trans hg131_46)
  have hg133_47 : g133 47 = .int 0 := (congrFun eg133 47).trans ((va_up_ne _ _ (Nat.ne_of_beq_eq_false rfl)).trans hg131_47)
  have hg133_48 : g133 48 = .int 0 := (congrFun eg133 48).trans ((va_up_ne _ _ (Nat.ne_of_beq_eq_false rfl)).trans hg131_48)
  have hg133_74 : g133 74 = .int 0 := (congrFun eg133 74).trans ((va_up_ne _ _ (Nat.ne_of_beq_eq_false rfl)).trans hg131_74)
  have hg133_75 : g133 75 = .int 0 := (congrFun eg133 75).trans ((va_up_ne _ _ (Nat.ne_of_beq_eq_false rfl)).trans hg131_75)
  have hg133_55 : g133 55 = .int 0 := (congrFun eg133 55).trans ((va_up_ne _ _ (Nat.ne_of_beq_eq_false rfl)).trans hg131_55)
  have hg133_10 : g133 10 = .ref q13 := (congrFun eg133 10).trans ((va_up_ne _ _ (Nat.ne_of_beq_eq_false rfl)).trans hg131_10)
  have hg133_15 : g133 15 = .ref q23 := (congrFun eg133 15).trans ((va_up_ne _ _ (Nat.ne_of_beq_eq_false rfl)).trans hg131_15)
  have hg133_27 : g133 27 = .ref q26 := (congrFun eg133 27).trans ((va_up_ne _ _ (Nat.ne_of_beq_eq_false rfl)).trans hg131_27)
  have hg133_28 : g133 28 = .ref q28 := (congrFun eg133 28).trans ((va_up_ne _ _ (Nat.ne_of_beq_eq_false rfl)).trans hg131_28)
  have hg133_29 : g133 29 = .ref q30 := (congrFun eg133 29).trans ((va_up_ne _ _ (Nat.ne_of_beq_eq_false rfl)).trans hg131_29)
  have hg133_30 : g133 30 = .ref q32 := (congrFun eg133 30).trans ((va_up_ne _ _ (Nat.ne_of_beq_eq_false rfl)).trans hg131_30)
  have hg133_31 : g133 31 = .ref q34 := (congrFun eg133 31).trans ((va_up_ne _ _ (Nat.ne_of_beq_eq_false rfl)).trans hg131_31)
  have hg133_32 : g133 32 = .ref q36 := (congrFun eg133 32).trans ((va_up_ne _ _ (Nat.ne_of_beq_eq_false rfl)).trans hg131_32)
  have hg133_33 : g133 33 = .ref q38 := (congrFun eg133 33).trans ((va_up_ne _ _ (Nat.ne_of_beq_eq_false rfl)).trans hg131_33)
  have hg133_34 : g133 34 = .ref q40 := (congrFun eg133 34).trans ((va_up_ne _ _ (Nat.ne_of_beq_eq_false rfl)).trans hg131_34)
  have hg133_35 : g133 35 = .ref q42 := (congrFun eg133 35).trans ((va_up_ne _ _ (Nat.ne_of_beq_eq_false rfl)).trans hg131_35)
  have hg133_36 : g133 36 = .ref q44 := (congrFun eg133 36).trans ((va_up_ne _ _ (Nat.ne_of_beq_eq_false rfl)).trans hg131_36)
  clear hg131_0 hg131_1 hg131_8 hg131_9 hg131_16 hg131_17 hg131_46 hg131_47 hg131_48 hg131_74 hg131_75 hg131_55 hg131_10 hg131_15 hg131_27 hg131_28 hg131_29 hg131_30 hg131_31 hg131_32 hg131_33 hg131_34 hg131_35 hg131_36
  have hg133_90 : g133 90 = .ref q132 := by rw [eg133]; exact va_up_self _ _ _
  replace hP := hP.sub (ws' := [(h, .inr (14, mL g133)), (q13, .inl (kq13, 200, .inl (fun _ => (0 : Int32)))), (q23, .inl (kq1, 128, .inl (fun _ => (0 : Int32)))), (q26, .inl (kq1, 20, .inl (fun _ => (0 : Int32)))), (q28, .inl (kq1, 20, .inl (fun _ => (0 : Int32)))), (q30, .inl (kq1, 20, .inl (fun _ => (0 : Int32)))), (q32, .inl (kq1, 20, .inl (fun _ => (0 : Int32)))), (q34, .inl (kq1, 20, .inl (fun _ => (0 : Int32)))), (q36, .inl (kq1, 20, .inl (fun _ => (0 : Int32)))), (q38, .inl (kq1, 20, .inl (fun _ => (0 : Int32)))), (q40, .inl (kq1, 20, .inl (fun _ => (0 : Int32)))), (q42, .inl (kq1, 320, .inl (fun _ => (0 : Int32)))), (q44, .inl (kq1, 320, .inl (fun _ => (0 : Int32))))]) [0, 1, 2, 3, 4, 5, 6, 7, 8, 9, 10, 11, 12] rfl
  replace hD := hD.sub (ws' := [(h, .inr (14, mL g133)), (q13, .inl (kq13, 200, .inl (fun _ => (0 : Int32)))), (q23, .inl (kq1, 128, .inl (fun _ => (0 : Int32)))), (q26, .inl (kq1, 20, .inl (fun _ => (0 : Int32)))), (q28, .inl (kq1, 20, .inl (fun _ => (0 : Int32)))), (q30, .inl (kq1, 20, .inl (fun _ => (0 : Int32)))), (q32, .inl (kq1, 20, .inl (fun _ => (0 : Int32)))), (q34, .inl (kq1, 20, .inl (fun _ => (0 : Int32)))), (q36, .inl (kq1, 20, .inl (fun _ => (0 : Int32)))), (q38, .inl (kq1, 20, .inl (fun _ => (0 : Int32)))), (q40, .inl (kq1, 20, .inl (fun _ => (0 : Int32)))), (q42, .inl (kq1, 320, .inl (fun _ => (0 : Int32)))), (q44, .inl (kq1, 320, .inl (fun _ => (0 : Int32))))]) [0, 1, 2, 3, 4, 5, 6, 7, 8, 9, 10, 11, 12] (by decide) rfl
  refine lv_aload_n hx hb dX13_init_560 rfl (lv_at hl 0 rfl) ?_
  refine lv_bipush (v := 20) hx hb dX13_init_561 (by decide) ?_
  refine va_newa (atype := .int) (ty := .int) (N' := 20) (a0 := (20, .inl (fun _ => (0 : Int32)))) hx hb (hts (.arrayClass .int) (List.mem_of_getElem? (i := 4) rfl)) rfl hK hP hD hS hA (fun _ => rfl) (by decide) (by decide) (Nat.le_of_ble_eq_true rfl) (Nat.le_of_ble_eq_true rfl) (Nat.le_of_ble_eq_true rfl) dX13_init_563 (fun q134 kq134 H hK hP hD hS => ?_)
  have hK : va_K (dC, dI) vwCl [(kq1, .int), (kq13, .byte), (kq72, .boolean), (kq134, .int)] s := hK
  replace hP : va_P (dC, dI) vwCl [(h, .inr (14, mL g133)), (q13, .inl (kq13, 200, .inl (fun _ => (0 : Int32)))), (q23, .inl (kq1, 128, .inl (fun _ => (0 : Int32)))), (q26, .inl (kq1, 20, .inl (fun _ => (0 : Int32)))), (q28, .inl (kq1, 20, .inl (fun _ => (0 : Int32)))), (q30, .inl (kq1, 20, .inl (fun _ => (0 : Int32)))), (q32, .inl (kq1, 20, .inl (fun _ => (0 : Int32)))), (q34, .inl (kq1, 20, .inl (fun _ => (0 : Int32)))), (q36, .inl (kq1, 20, .inl (fun _ => (0 : Int32)))), (q38, .inl (kq1, 20, .inl (fun _ => (0 : Int32)))), (q40, .inl (kq1, 20, .inl (fun _ => (0 : Int32)))), (q42, .inl (kq1, 320, .inl (fun _ => (0 : Int32)))), (q44, .inl (kq1, 320, .inl (fun _ => (0 : Int32)))), (q134, .inl (kq134, 20, .inl (fun _ => (0 : Int32))))] H := hP
  replace hD : va_D A [(h, .inr (14, mL g133)), (q13, .inl (kq13, 200, .inl (fun _ => (0 : Int32)))), (q23, .inl (kq1, 128, .inl (fun _ => (0 : Int32)))), (q26, .inl (kq1, 20, .inl (fun _ => (0 : Int32)))), (q28, .inl (kq1, 20, .inl (fun _ => (0 : Int32)))), (q30, .inl (kq1, 20, .inl (fun _ => (0 : Int32)))), (q32, .inl (kq1, 20, .inl (fun _ => (0 : Int32)))), (q34, .inl (kq1, 20, .inl (fun _ => (0 : Int32)))), (q36, .inl (kq1, 20, .inl (fun _ => (0 : Int32)))), (q38, .inl (kq1, 20, .inl (fun _ => (0 : Int32)))), (q40, .inl (kq1, 20, .inl (fun _ => (0 : Int32)))), (q42, .inl (kq1, 320, .inl (fun _ => (0 : Int32)))), (q44, .inl (kq1, 320, .inl (fun _ => (0 : Int32)))), (q134, .inl (kq134, 20, .inl (fun _ => (0 : Int32))))] := hD
  refine W.widen (k := 67) (n := 10436) (by omega) (by omega) ?_
  obtain rfl : kq1 = kq134 := ub_sa_int hK 0 3 rfl rfl
  have hK := hK.sub (tys' := [(kq1, .int), (kq13, .byte), (kq72, .boolean)]) [0, 1, 2] rfl
  refine va_putF (D := (dC, dI)) (ci := 14) (v := .ref q134) (ty := .array .int) (C := RX13) (T := TX13) (N := 97) hx hb hts iw_m_init_X13 tyX13 tyX13_ok nmX13 hown hK hP hD hS 0 rfl rfl 91 (by decide) (hts (.fieldLink RX13 213 "UnlikeBoatsModel" "fitSeconds" "[I") (List.mem_of_getElem? (i := 74) rfl)) (fun _ h9 => h9) rfl hin rfl (by decide +kernel) rfl rfl (mL_lt (Nat.le_of_ble_eq_true rfl)) dX13_init_565 (fun H locs hP hD hS => ?_)
  have hP : va_P (dC, dI) vwCl [(h, .inr (14, (mL g133).set 91 (.ref q134))), (q13, .inl (kq13, 200, .inl (fun _ => (0 : Int32)))), (q23, .inl (kq1, 128, .inl (fun _ => (0 : Int32)))), (q26, .inl (kq1, 20, .inl (fun _ => (0 : Int32)))), (q28, .inl (kq1, 20, .inl (fun _ => (0 : Int32)))), (q30, .inl (kq1, 20, .inl (fun _ => (0 : Int32)))), (q32, .inl (kq1, 20, .inl (fun _ => (0 : Int32)))), (q34, .inl (kq1, 20, .inl (fun _ => (0 : Int32)))), (q36, .inl (kq1, 20, .inl (fun _ => (0 : Int32)))), (q38, .inl (kq1, 20, .inl (fun _ => (0 : Int32)))), (q40, .inl (kq1, 20, .inl (fun _ => (0 : Int32)))), (q42, .inl (kq1, 320, .inl (fun _ => (0 : Int32)))), (q44, .inl (kq1, 320, .inl (fun _ => (0 : Int32)))), (q134, .inl (kq1, 20, .inl (fun _ => (0 : Int32))))] H := hP
  have hD : va_D A [(h, .inr (14, (mL g133).set 91 (.ref q134))), (q13, .inl (kq13, 200, .inl (fun _ => (0 : Int32)))), (q23, .inl (kq1, 128, .inl (fun _ => (0 : Int32)))), (q26, .inl (kq1, 20, .inl (fun _ => (0 : Int32)))), (q28, .inl (kq1, 20, .inl (fun _ => (0 : Int32)))), (q30, .inl (kq1, 20, .inl (fun _ => (0 : Int32)))), (q32, .inl (kq1, 20, .inl (fun _ => (0 : Int32)))), (q34, .inl (kq1, 20, .inl (fun _ => (0 : Int32)))), (q36, .inl (kq1, 20, .inl (fun _ => (0 : Int32)))), (q38, .inl (kq1, 20, .inl (fun _ => (0 : Int32)))), (q40, .inl (kq1, 20, .inl (fun _ => (0 : Int32)))), (q42, .inl (kq1, 320, .inl (fun _ => (0 : Int32)))), (q44, .inl (kq1, 320, .inl (fun _ => (0 : Int32)))), (q134, .inl (kq1, 20, .inl (fun _ => (0 : Int32))))] := hD
  obtain ⟨g135, eg135⟩ : ∃ z9, z9 = va_up g133 91 (.ref q134) := ⟨_, rfl⟩
  rw [mL_upd, ← eg135] at hP hD
  have hg135_0 : g135 0 = .int 0 := (congrFun eg135 0).trans ((va_up_ne _ _ (Nat.ne_of_beq_eq_false rfl)).trans hg133_0)
  have hg135_1 : g135 1 = .int 0 := (congrFun eg135 1).trans ((va_up_ne _ _ (Nat.ne_of_beq_eq_false rfl)).trans hg133_1)
  have hg135_8 : g135 8 = .int 0 := (congrFun eg135 8).trans ((va_up_ne _ _ (Nat.ne_of_beq_eq_false rfl)).trans hg133_8)
  have hg135_9 : g135 9 = .int 0 := (congrFun eg135 9).trans ((va_up_ne _ _ (Nat.ne_of_beq_eq_false rfl)).trans hg133_9)
  have hg135_16 : g135 16 = .int 0 := (congrFun eg135 16).trans ((va_up_ne _ _ (Nat.ne_of_beq_eq_false rfl)).trans hg133_16)
  have hg135_17 : g135 17 = .int 0 := (congrFun eg135 17).trans ((va_up_ne _ _ (Nat.ne_of_beq_eq_false rfl)).trans hg133_17)
  have hg135_46 : g135 46 = .int 0 := (congrFun eg135 46).trans ((va_up_ne _ _ (Nat.ne_of_beq_eq_false rfl)).trans hg133_46)
  have hg135_47 : g135 47 = .int 0 := (congrFun eg135 47).trans ((va_up_ne _ _ (Nat.ne_of_beq_eq_false rfl)).trans hg133_47)
  have hg135_48 : g135 48 = .int 0 := (congrFun eg135 48).trans ((va_up_ne _ _ (Nat.ne_of_beq_eq_false rfl)).trans hg133_48)
  have hg135_74 : g135 74 = .int 0 := (congrFun eg135 74).trans ((va_up_ne _ _ (Nat.ne_of_beq_eq_false rfl)).trans hg133_74)
  have hg135_75 : g135 75 = .int 0 := (congrFun eg135 75).trans ((va_up_ne _ _ (Nat.ne_of_beq_eq_false rfl)).trans hg133_75)
  have hg135_55 : g135 55 = .int 0 := (congrFun eg135 55).trans ((va_up_ne _ _ (Nat.ne_of_beq_eq_false rfl)).trans hg133_55)
  have hg135_10 : g135 10 = .ref q13 := (congrFun eg135 10).trans ((va_up_ne _ _ (Nat.ne_of_beq_eq_false rfl)).trans hg133_10)
  have hg135_15 : g135 15 = .ref q23 := (congrFun eg135 15).trans ((va_up_ne _ _ (Nat.ne_of_beq_eq_false rfl)).trans hg133_15)
  have hg135_27 : g135 27 = .ref q26 := (congrFun eg135 27).trans ((va_up_ne _ _ (Nat.ne_of_beq_eq_false rfl)).trans hg133_27)
  have hg135_28 : g135 28 = .ref q28 := (congrFun eg135 28).trans ((va_up_ne _ _ (Nat.ne_of_beq_eq_false rfl)).trans hg133_28)
  have hg135_29 : g135 29 = .ref q30 := (congrFun eg135 29).trans ((va_up_ne _ _ (Nat.ne_of_beq_eq_false rfl)).trans hg133_29)
  have hg135_30 : g135 30 = .ref q32 := (congrFun eg135 30).trans ((va_up_ne _ _ (Nat.ne_of_beq_eq_false rfl)).trans hg133_30)
  have hg135_31 : g135 31 = .ref q34 := (congrFun eg135 31).trans ((va_up_ne _ _ (Nat.ne_of_beq_eq_false rfl)).trans hg133_31)
  have hg135_32 : g135 32 = .ref q36 := (congrFun eg135 32).trans ((va_up_ne _ _ (Nat.ne_of_beq_eq_false rfl)).trans hg133_32)
  have hg135_33 : g135 33 = .ref q38 := (congrFun eg135 33).trans ((va_up_ne _ _ (Nat.ne_of_beq_eq_false rfl)).trans hg133_33)
  have hg135_34 : g135 34 = .ref q40 := (congrFun eg135 34).trans ((va_up_ne _ _ (Nat.ne_of_beq_eq_false rfl)).trans hg133_34)
  have hg135_35 : g135 35 = .ref q42 := (congrFun eg135 35).trans ((va_up_ne _ _ (Nat.ne_of_beq_eq_false rfl)).trans hg133_35)
  have hg135_36 : g135 36 = .ref q44 := (congrFun eg135 36).trans ((va_up_ne _ _ (Nat.ne_of_beq_eq_false rfl)).trans hg133_36)
  clear hg133_0 hg133_1 hg133_8 hg133_9 hg133_16 hg133_17 hg133_46 hg133_47 hg133_48 hg133_74 hg133_75 hg133_55 hg133_10 hg133_15 hg133_27 hg133_28 hg133_29 hg133_30 hg133_31 hg133_32 hg133_33 hg133_34 hg133_35 hg133_36
  have hg135_91 : g135 91 = .ref q134 := by rw [eg135]; exact va_up_self _ _ _
  replace hP := hP.sub (ws' := [(h, .inr (14, mL g135)), (q13, .inl (kq13, 200, .inl (fun _ => (0 : Int32)))), (q23, .inl (kq1, 128, .inl (fun _ => (0 : Int32)))), (q26, .inl (kq1, 20, .inl (fun _ => (0 : Int32)))), (q28, .inl (kq1, 20, .inl (fun _ => (0 : Int32)))), (q30, .inl (kq1, 20, .inl (fun _ => (0 : Int32)))), (q32, .inl (kq1, 20, .inl (fun _ => (0 : Int32)))), (q34, .inl (kq1, 20, .inl (fun _ => (0 : Int32)))), (q36, .inl (kq1, 20, .inl (fun _ => (0 : Int32)))), (q38, .inl (kq1, 20, .inl (fun _ => (0 : Int32)))), (q40, .inl (kq1, 20, .inl (fun _ => (0 : Int32)))), (q42, .inl (kq1, 320, .inl (fun _ => (0 : Int32)))), (q44, .inl (kq1, 320, .inl (fun _ => (0 : Int32))))]) [0, 1, 2, 3, 4, 5, 6, 7, 8, 9, 10, 11, 12] rfl
  replace hD := hD.sub (ws' := [(h, .inr (14, mL g135)), (q13, .inl (kq13, 200, .inl (fun _ => (0 : Int32)))), (q23, .inl (kq1, 128, .inl (fun _ => (0 : Int32)))), (q26, .inl (kq1, 20, .inl (fun _ => (0 : Int32)))), (q28, .inl (kq1, 20, .inl (fun _ => (0 : Int32)))), (q30, .inl (kq1, 20, .inl (fun _ => (0 : Int32)))), (q32, .inl (kq1, 20, .inl (fun _ => (0 : Int32)))), (q34, .inl (kq1, 20, .inl (fun _ => (0 : Int32)))), (q36, .inl (kq1, 20, .inl (fun _ => (0 : Int32)))), (q38, .inl (kq1, 20, .inl (fun _ => (0 : Int32)))), (q40, .inl (kq1, 20, .inl (fun _ => (0 : Int32)))), (q42, .inl (kq1, 320, .inl (fun _ => (0 : Int32)))), (q44, .inl (kq1, 320, .inl (fun _ => (0 : Int32))))]) [0, 1, 2, 3, 4, 5, 6, 7, 8, 9, 10, 11, 12] (by decide) rfl
  refine lv_aload_n hx hb dX13_init_568 rfl (lv_at hl 0 rfl) ?_
  refine lv_bipush (v := 20) hx hb dX13_init_569 (by decide) ?_
  refine va_newa (atype := .int) (ty := .int) (N' := 20) (a0 := (20, .inl (fun _ => (0 : Int32)))) hx hb (hts (.arrayClass .int) (List.mem_of_getElem? (i := 4) rfl)) rfl hK hP hD hS hA (fun _ => rfl) (by decide) (by decide) (Nat.le_of_ble_eq_true rfl) (Nat.le_of_ble_eq_true rfl) (Nat.le_of_ble_eq_true rfl) dX13_init_571 (fun q136 kq136 H hK hP hD hS => ?_)
  have hK : va_K (dC, dI) vwCl [(kq1, .int), (kq13, .byte), (kq72, .boolean), (kq136, .int)] s := hK
  replace hP : va_P (dC, dI) vwCl [(h, .inr (14, mL g135)), (q13, .inl (kq13, 200, .inl (fun _ => (0 : Int32)))), (q23, .inl (kq1, 128, .inl (fun _ => (0 : Int32)))), (q26, .inl (kq1, 20, .inl (fun _ => (0 : Int32)))), (q28, .inl (kq1, 20, .inl (fun _ => (0 : Int32)))), (q30, .inl (kq1, 20, .inl (fun _ => (0 : Int32)))), (q32, .inl (kq1, 20, .inl (fun _ => (0 : Int32)))), (q34, .inl (kq1, 20, .inl (fun _ => (0 : Int32)))), (q36, .inl (kq1, 20, .inl (fun _ => (0 : Int32)))), (q38, .inl (kq1, 20, .inl (fun _ => (0 : Int32)))), (q40, .inl (kq1, 20, .inl (fun _ => (0 : Int32)))), (q42, .inl (kq1, 320, .inl (fun _ => (0 : Int32)))), (q44, .inl (kq1, 320, .inl (fun _ => (0 : Int32)))), (q136, .inl (kq136, 20, .inl (fun _ => (0 : Int32))))] H := hP
  replace hD : va_D A [(h, .inr (14, mL g135)), (q13, .inl (kq13, 200, .inl (fun _ => (0 : Int32)))), (q23, .inl (kq1, 128, .inl (fun _ => (0 : Int32)))), (q26, .inl (kq1, 20, .inl (fun _ => (0 : Int32)))), (q28, .inl (kq1, 20, .inl (fun _ => (0 : Int32)))), (q30, .inl (kq1, 20, .inl (fun _ => (0 : Int32)))), (q32, .inl (kq1, 20, .inl (fun _ => (0 : Int32)))), (q34, .inl (kq1, 20, .inl (fun _ => (0 : Int32)))), (q36, .inl (kq1, 20, .inl (fun _ => (0 : Int32)))), (q38, .inl (kq1, 20, .inl (fun _ => (0 : Int32)))), (q40, .inl (kq1, 20, .inl (fun _ => (0 : Int32)))), (q42, .inl (kq1, 320, .inl (fun _ => (0 : Int32)))), (q44, .inl (kq1, 320, .inl (fun _ => (0 : Int32)))), (q136, .inl (kq136, 20, .inl (fun _ => (0 : Int32))))] := hD
  refine W.widen (k := 68) (n := 10456) (by omega) (by omega) ?_
  obtain rfl : kq1 = kq136 := ub_sa_int hK 0 3 rfl rfl
  have hK := hK.sub (tys' := [(kq1, .int), (kq13, .byte), (kq72, .boolean)]) [0, 1, 2] rfl
  refine va_putF (D := (dC, dI)) (ci := 14) (v := .ref q136) (ty := .array .int) (C := RX13) (T := TX13) (N := 97) hx hb hts iw_m_init_X13 tyX13 tyX13_ok nmX13 hown hK hP hD hS 0 rfl rfl 92 (by decide) (hts (.fieldLink RX13 216 "UnlikeBoatsModel" "fitMiddle" "[I") (List.mem_of_getElem? (i := 75) rfl)) (fun _ h9 => h9) rfl hin rfl (by decide +kernel) rfl rfl (mL_lt (Nat.le_of_ble_eq_true rfl)) dX13_init_573 (fun H locs hP hD hS => ?_)
  have hP : va_P (dC, dI) vwCl [(h, .inr (14, (mL g135).set 92 (.ref q136))), (q13, .inl (kq13, 200, .inl (fun _ => (0 : Int32)))), (q23, .inl (kq1, 128, .inl (fun _ => (0 : Int32)))), (q26, .inl (kq1, 20, .inl (fun _ => (0 : Int32)))), (q28, .inl (kq1, 20, .inl (fun _ => (0 : Int32)))), (q30, .inl (kq1, 20, .inl (fun _ => (0 : Int32)))), (q32, .inl (kq1, 20, .inl (fun _ => (0 : Int32)))), (q34, .inl (kq1, 20, .inl (fun _ => (0 : Int32)))), (q36, .inl (kq1, 20, .inl (fun _ => (0 : Int32)))), (q38, .inl (kq1, 20, .inl (fun _ => (0 : Int32)))), (q40, .inl (kq1, 20, .inl (fun _ => (0 : Int32)))), (q42, .inl (kq1, 320, .inl (fun _ => (0 : Int32)))), (q44, .inl (kq1, 320, .inl (fun _ => (0 : Int32)))), (q136, .inl (kq1, 20, .inl (fun _ => (0 : Int32))))] H := hP
  have hD : va_D A [(h, .inr (14, (mL g135).set 92 (.ref q136))), (q13, .inl (kq13, 200, .inl (fun _ => (0 : Int32)))), (q23, .inl (kq1, 128, .inl (fun _ => (0 : Int32)))), (q26, .inl (kq1, 20, .inl (fun _ => (0 : Int32)))), (q28, .inl (kq1, 20, .inl (fun _ => (0 : Int32)))), (q30, .inl (kq1, 20, .inl (fun _ => (0 : Int32)))), (q32, .inl (kq1, 20, .inl (fun _ => (0 : Int32)))), (q34, .inl (kq1, 20, .inl (fun _ => (0 : Int32)))), (q36, .inl (kq1, 20, .inl (fun _ => (0 : Int32)))), (q38, .inl (kq1, 20, .inl (fun _ => (0 : Int32)))), (q40, .inl (kq1, 20, .inl (fun _ => (0 : Int32)))), (q42, .inl (kq1, 320, .inl (fun _ => (0 : Int32)))), (q44, .inl (kq1, 320, .inl (fun _ => (0 : Int32)))), (q136, .inl (kq1, 20, .inl (fun _ => (0 : Int32))))] := hD
  obtain ⟨g137, eg137⟩ : ∃ z9, z9 = va_up g135 92 (.ref q136) := ⟨_, rfl⟩
  rw [mL_upd, ← eg137] at hP hD
  have hg137_0 : g137 0 = .int 0 := (congrFun eg137 0).trans ((va_up_ne _ _ (Nat.ne_of_beq_eq_false rfl)).trans hg135_0)
  have hg137_1 : g137 1 = .int 0 := (congrFun eg137 1).trans ((va_up_ne _ _ (Nat.ne_of_beq_eq_false rfl)).trans hg135_1)
  have hg137_8 : g137 8 = .int 0 := (congrFun eg137 8).trans ((va_up_ne _ _ (Nat.ne_of_beq_eq_false rfl)).trans hg135_8)
  have hg137_9 : g137 9 = .int 0 := (congrFun eg137 9).trans ((va_up_ne _ _ (Nat.ne_of_beq_eq_false rfl)).trans hg135_9)
  have hg137_16 : g137 16 = .int 0 := (congrFun eg137 16).trans ((va_up_ne _ _ (Nat.ne_of_beq_eq_false rfl)).trans hg135_16)
  have hg137_17 : g137 17 = .int 0 := (congrFun eg137 17).trans ((va_up_ne _ _ (Nat.ne_of_beq_eq_false rfl)).trans hg135_17)
  have hg137_46 : g137 46 = .int 0 := (congrFun eg137 46).trans ((va_up_ne _ _ (Nat.ne_of_beq_eq_false rfl)).trans hg135_46)
  have hg137_47 : g137 47 = .int 0 := (congrFun eg137 47).trans ((va_up_ne _ _ (Nat.ne_of_beq_eq_false rfl)).trans hg135_47)
  have hg137_48 : g137 48 = .int 0 := (congrFun eg137 48).trans ((va_up_ne _ _ (Nat.ne_of_beq_eq_false rfl)).trans hg135_48)
  have hg137_74 : g137 74 = .int 0 := (congrFun eg137 74).trans ((va_up_ne _ _ (Nat.ne_of_beq_eq_false rfl)).trans hg135_74)
  have hg137_75 : g137 75 = .int 0 := (congrFun eg137 75).trans ((va_up_ne _ _ (Nat.ne_of_beq_eq_false rfl)).trans hg135_75)
  have hg137_55 : g137 55 = .int 0 := (congrFun eg137 55).trans ((va_up_ne _ _ (Nat.ne_of_beq_eq_false rfl)).trans hg135_55)
  have hg137_10 : g137 10 = .ref q13 := (congrFun eg137 10).trans ((va_up_ne _ _ (Nat.ne_of_beq_eq_false rfl)).trans hg135_10)
  have hg137_15 : g137 15 = .ref q23 := (congrFun eg137 15).trans ((va_up_ne _ _ (Nat.ne_of_beq_eq_false rfl)).trans hg135_15)
  have hg137_27 : g137 27 = .ref q26 := (congrFun eg137 27).trans ((va_up_ne _ _ (Nat.ne_of_beq_eq_false rfl)).trans hg135_27)
  have hg137_28 : g137 28 = .ref q28 := (congrFun eg137 28).trans ((va_up_ne _ _ (Nat.ne_of_beq_eq_false rfl)).trans hg135_28)
  have hg137_29 : g137 29 = .ref q30 := (congrFun eg137 29).trans ((va_up_ne _ _ (Nat.ne_of_beq_eq_false rfl)).trans hg135_29)
  have hg137_30 : g137 30 = .ref q32 := (congrFun eg137 30).trans ((va_up_ne _ _ (Nat.ne_of_beq_eq_false rfl)).trans hg135_30)
  have hg137_31 : g137 31 = .ref q34 := (congrFun eg137 31).trans ((va_up_ne _ _ (Nat.ne_of_beq_eq_false rfl)).trans hg135_31)
  have hg137_32 : g137 32 = .ref q36 := (congrFun eg137 32).trans ((va_up_ne _ _ (Nat.ne_of_beq_eq_false rfl)).trans hg135_32)
  have hg137_33 : g137 33 = .ref q38 := (congrFun eg137 33).trans ((va_up_ne _ _ (Nat.ne_of_beq_eq_false rfl)).trans hg135_33)
  have hg137_34 : g137 34 = .ref q40 := (congrFun eg137 34).trans ((va_up_ne _ _ (Nat.ne_of_beq_eq_false rfl)).trans hg135_34)
  have hg137_35 : g137 35 = .ref q42 := (congrFun eg137 35).trans ((va_up_ne _ _ (Nat.ne_of_beq_eq_false rfl)).trans hg135_35)
  have hg137_36 : g137 36 = .ref q44 := (congrFun eg137 36).trans ((va_up_ne _ _ (Nat.ne_of_beq_eq_false rfl)).trans hg135_36)
  clear hg135_0 hg135_1 hg135_8 hg135_9 hg135_16 hg135_17 hg135_46 hg135_47 hg135_48 hg135_74 hg135_75 hg135_55 hg135_10 hg135_15 hg135_27 hg135_28 hg135_29 hg135_30 hg135_31 hg135_32 hg135_33 hg135_34 hg135_35 hg135_36
  have hg137_92 : g137 92 = .ref q136 := by rw [eg137]; exact va_up_self _ _ _
  replace hP := hP.sub (ws' := [(h, .inr (14, mL g137)), (q13, .inl (kq13, 200, .inl (fun _ => (0 : Int32)))), (q23, .inl (kq1, 128, .inl (fun _ => (0 : Int32)))), (q26, .inl (kq1, 20, .inl (fun _ => (0 : Int32)))), (q28, .inl (kq1, 20, .inl (fun _ => (0 : Int32)))), (q30, .inl (kq1, 20, .inl (fun _ => (0 : Int32)))), (q32, .inl (kq1, 20, .inl (fun _ => (0 : Int32)))), (q34, .inl (kq1, 20, .inl (fun _ => (0 : Int32)))), (q36, .inl (kq1, 20, .inl (fun _ => (0 : Int32)))), (q38, .inl (kq1, 20, .inl (fun _ => (0 : Int32)))), (q40, .inl (kq1, 20, .inl (fun _ => (0 : Int32)))), (q42, .inl (kq1, 320, .inl (fun _ => (0 : Int32)))), (q44, .inl (kq1, 320, .inl (fun _ => (0 : Int32))))]) [0, 1, 2, 3, 4, 5, 6, 7, 8, 9, 10, 11, 12] rfl
  replace hD := hD.sub (ws' := [(h, .inr (14, mL g137)), (q13, .inl (kq13, 200, .inl (fun _ => (0 : Int32)))), (q23, .inl (kq1, 128, .inl (fun _ => (0 : Int32)))), (q26, .inl (kq1, 20, .inl (fun _ => (0 : Int32)))), (q28, .inl (kq1, 20, .inl (fun _ => (0 : Int32)))), (q30, .inl (kq1, 20, .inl (fun _ => (0 : Int32)))), (q32, .inl (kq1, 20, .inl (fun _ => (0 : Int32)))), (q34, .inl (kq1, 20, .inl (fun _ => (0 : Int32)))), (q36, .inl (kq1, 20, .inl (fun _ => (0 : Int32)))), (q38, .inl (kq1, 20, .inl (fun _ => (0 : Int32)))), (q40, .inl (kq1, 20, .inl (fun _ => (0 : Int32)))), (q42, .inl (kq1, 320, .inl (fun _ => (0 : Int32)))), (q44, .inl (kq1, 320, .inl (fun _ => (0 : Int32))))]) [0, 1, 2, 3, 4, 5, 6, 7, 8, 9, 10, 11, 12] (by decide) rfl
  refine lv_aload_n hx hb dX13_init_576 rfl (lv_at hl 0 rfl) ?_
  refine lv_bipush (v := 20) hx hb dX13_init_577 (by decide) ?_
  refine va_newa (atype := .int) (ty := .int) (N' := 20) (a0 := (20, .inl (fun _ => (0 : Int32)))) hx hb (hts (.arrayClass .int) (List.mem_of_getElem? (i := 4) rfl)) rfl hK hP hD hS hA (fun _ => rfl) (by decide) (by decide) (Nat.le_of_ble_eq_true rfl) (Nat.le_of_ble_eq_true rfl) (Nat.le_of_ble_eq_true rfl) dX13_init_579 (fun q138 kq138 H hK hP hD hS => ?_)
  have hK : va_K (dC, dI) vwCl [(kq1, .int), (kq13, .byte), (kq72, .boolean), (kq138, .int)] s := hK
  replace hP : va_P (dC, dI) vwCl [(h, .inr (14, mL g137)), (q13, .inl (kq13, 200, .inl (fun _ => (0 : Int32)))), (q23, .inl (kq1, 128, .inl (fun _ => (0 : Int32)))), (q26, .inl (kq1, 20, .inl (fun _ => (0 : Int32)))), (q28, .inl (kq1, 20, .inl (fun _ => (0 : Int32)))), (q30, .inl (kq1, 20, .inl (fun _ => (0 : Int32)))), (q32, .inl (kq1, 20, .inl (fun _ => (0 : Int32)))), (q34, .inl (kq1, 20, .inl (fun _ => (0 : Int32)))), (q36, .inl (kq1, 20, .inl (fun _ => (0 : Int32)))), (q38, .inl (kq1, 20, .inl (fun _ => (0 : Int32)))), (q40, .inl (kq1, 20, .inl (fun _ => (0 : Int32)))), (q42, .inl (kq1, 320, .inl (fun _ => (0 : Int32)))), (q44, .inl (kq1, 320, .inl (fun _ => (0 : Int32)))), (q138, .inl (kq138, 20, .inl (fun _ => (0 : Int32))))] H := hP
  replace hD : va_D A [(h, .inr (14, mL g137)), (q13, .inl (kq13, 200, .inl (fun _ => (0 : Int32)))), (q23, .inl (kq1, 128, .inl (fun _ => (0 : Int32)))), (q26, .inl (kq1, 20, .inl (fun _ => (0 : Int32)))), (q28, .inl (kq1, 20, .inl (fun _ => (0 : Int32)))), (q30, .inl (kq1, 20, .inl (fun _ => (0 : Int32)))), (q32, .inl (kq1, 20, .inl (fun _ => (0 : Int32)))), (q34, .inl (kq1, 20, .inl (fun _ => (0 : Int32)))), (q36, .inl (kq1, 20, .inl (fun _ => (0 : Int32)))), (q38, .inl (kq1, 20, .inl (fun _ => (0 : Int32)))), (q40, .inl (kq1, 20, .inl (fun _ => (0 : Int32)))), (q42, .inl (kq1, 320, .inl (fun _ => (0 : Int32)))), (q44, .inl (kq1, 320, .inl (fun _ => (0 : Int32)))), (q138, .inl (kq138, 20, .inl (fun _ => (0 : Int32))))] := hD
  refine W.widen (k := 69) (n := 10476) (by omega) (by omega) ?_
  obtain rfl : kq1 = kq138 := ub_sa_int hK 0 3 rfl rfl
  have hK := hK.sub (tys' := [(kq1, .int), (kq13, .byte), (kq72, .boolean)]) [0, 1, 2] rfl
  refine va_putF (D := (dC, dI)) (ci := 14) (v := .ref q138) (ty := .array .int) (C := RX13) (T := TX13) (N := 97) hx hb hts iw_m_init_X13 tyX13 tyX13_ok nmX13 hown hK hP hD hS 0 rfl rfl 93 (by decide) (hts (.fieldLink RX13 219 "UnlikeBoatsModel" "ratioRace" "[I") (List.mem_of_getElem? (i := 76) rfl)) (fun _ h9 => h9) rfl hin rfl (by decide +kernel) rfl rfl (mL_lt (Nat.le_of_ble_eq_true rfl)) dX13_init_581 (fun H locs hP hD hS => ?_)
  have hP : va_P (dC, dI) vwCl [(h, .inr (14, (mL g137).set 93 (.ref q138))), (q13, .inl (kq13, 200, .inl (fun _ => (0 : Int32)))), (q23, .inl (kq1, 128, .inl (fun _ => (0 : Int32)))), (q26, .inl (kq1, 20, .inl (fun _ => (0 : Int32)))), (q28, .inl (kq1, 20, .inl (fun _ => (0 : Int32)))), (q30, .inl (kq1, 20, .inl (fun _ => (0 : Int32)))), (q32, .inl (kq1, 20, .inl (fun _ => (0 : Int32)))), (q34, .inl (kq1, 20, .inl (fun _ => (0 : Int32)))), (q36, .inl (kq1, 20, .inl (fun _ => (0 : Int32)))), (q38, .inl (kq1, 20, .inl (fun _ => (0 : Int32)))), (q40, .inl (kq1, 20, .inl (fun _ => (0 : Int32)))), (q42, .inl (kq1, 320, .inl (fun _ => (0 : Int32)))), (q44, .inl (kq1, 320, .inl (fun _ => (0 : Int32)))), (q138, .inl (kq1, 20, .inl (fun _ => (0 : Int32))))] H := hP
  have hD : va_D A [(h, .inr (14, (mL g137).set 93 (.ref q138))), (q13, .inl (kq13, 200, .inl (fun _ => (0 : Int32)))), (q23, .inl (kq1, 128, .inl (fun _ => (0 : Int32)))), (q26, .inl (kq1, 20, .inl (fun _ => (0 : Int32)))), (q28, .inl (kq1, 20, .inl (fun _ => (0 : Int32)))), (q30, .inl (kq1, 20, .inl (fun _ => (0 : Int32)))), (q32, .inl (kq1, 20, .inl (fun _ => (0 : Int32)))), (q34, .inl (kq1, 20, .inl (fun _ => (0 : Int32)))), (q36, .inl (kq1, 20, .inl (fun _ => (0 : Int32)))), (q38, .inl (kq1, 20, .inl (fun _ => (0 : Int32)))), (q40, .inl (kq1, 20, .inl (fun _ => (0 : Int32)))), (q42, .inl (kq1, 320, .inl (fun _ => (0 : Int32)))), (q44, .inl (kq1, 320, .inl (fun _ => (0 : Int32)))), (q138, .inl (kq1, 20, .inl (fun _ => (0 : Int32))))] := hD
  obtain ⟨g139, eg139⟩ : ∃ z9, z9 = va_up g137 93 (.ref q138) := ⟨_, rfl⟩
  rw [mL_upd, ← eg139] at hP hD
  have hg139_0 : g139 0 = .int 0 := (congrFun eg139 0).trans ((va_up_ne _ _ (Nat.ne_of_beq_eq_false rfl)).trans hg137_0)
  have hg139_1 : g139 1 = .int 0 := (congrFun eg139 1).trans ((va_up_ne _ _ (Nat.ne_of_beq_eq_false rfl)).trans hg137_1)
  have hg139_8 : g139 8 = .int 0 := (congrFun eg139 8).trans ((va_up_ne _ _ (Nat.ne_of_beq_eq_false rfl)).trans hg137_8)
  have hg139_9 : g139 9 = .int 0 := (congrFun eg139 9).trans ((va_up_ne _ _ (Nat.ne_of_beq_eq_false rfl)).trans hg137_9)
  have hg139_16 : g139 16 = .int 0 := (congrFun eg139 16).trans ((va_up_ne _ _ (Nat.ne_of_beq_eq_false rfl)).trans hg137_16)
  have hg139_17 : g139 17 = .int 0 := (congrFun eg139 17).trans ((va_up_ne _ _ (Nat.ne_of_beq_eq_false rfl)).trans hg137_17)
  have hg139_46 : g139 46 = .int 0 := (congrFun eg139 46).trans ((va_up_ne _ _ (Nat.ne_of_beq_eq_false rfl)).trans hg137_46)
  have hg139_47 : g139 47 = .int 0 := (congrFun eg139 47).trans ((va_up_ne _ _ (Nat.ne_of_beq_eq_false rfl)).trans hg137_47)
  have hg139_48 : g139 48 = .int 0 := (congrFun eg139 48).trans ((va_up_ne _ _ (Nat.ne_of_beq_eq_false rfl)).trans hg137_48)
  have hg139_74 : g139 74 = .int 0 := (congrFun eg139 74).trans ((va_up_ne _ _ (Nat.ne_of_beq_eq_false rfl)).trans hg137_74)
  have hg139_75 : g139 75 = .int 0 := (congrFun eg139 75).trans ((va_up_ne _ _ (Nat.ne_of_beq_eq_false rfl)).trans hg137_75)
  have hg139_55 : g139 55 = .int 0 := (congrFun eg139 55).trans ((va_up_ne _ _ (Nat.ne_of_beq_eq_false rfl)).trans hg137_55)
  have hg139_10 : g139 10 = .ref q13 := (congrFun eg139 10).trans ((va_up_ne _ _ (Nat.ne_of_beq_eq_false rfl)).trans hg137_10)
  have hg139_15 : g139 15 = .ref q23 := (congrFun eg139 15).trans ((va_up_ne _ _ (Nat.ne_of_beq_eq_false rfl)).trans hg137_15)
  have hg139_27 : g139 27 = .ref q26 := (congrFun eg139 27).trans ((va_up_ne _ _ (Nat.ne_of_beq_eq_false rfl)).trans hg137_27)
  have hg139_28 : g139 28 = .ref q28 := (congrFun eg139 28).trans ((va_up_ne _ _ (Nat.ne_of_beq_eq_false rfl)).trans hg137_28)
  have hg139_29 : g139 29 = .ref q30 := (congrFun eg139 29).trans ((va_up_ne _ _ (Nat.ne_of_beq_eq_false rfl)).trans hg137_29)
  have hg139_30 : g139 30 = .ref q32 := (congrFun eg139 30).trans ((va_up_ne _ _ (Nat.ne_of_beq_eq_false rfl)).trans hg137_30)
  have hg139_31 : g139 31 = .ref q34 := (congrFun eg139 31).trans ((va_up_ne _ _ (Nat.ne_of_beq_eq_false rfl)).trans hg137_31)
  have hg139_32 : g139 32 = .ref q36 := (congrFun eg139 32).trans ((va_up_ne _ _ (Nat.ne_of_beq_eq_false rfl)).trans hg137_32)
  have hg139_33 : g139 33 = .ref q38 := (congrFun eg139 33).trans ((va_up_ne _ _ (Nat.ne_of_beq_eq_false rfl)).trans hg137_33)
  have hg139_34 : g139 34 = .ref q40 := (congrFun eg139 34).trans ((va_up_ne _ _ (Nat.ne_of_beq_eq_false rfl)).trans hg137_34)
  have hg139_35 : g139 35 = .ref q42 := (congrFun eg139 35).trans ((va_up_ne _ _ (Nat.ne_of_beq_eq_false rfl)).trans hg137_35)
  have hg139_36 : g139 36 = .ref q44 := (congrFun eg139 36).trans ((va_up_ne _ _ (Nat.ne_of_beq_eq_false rfl)).trans hg137_36)
  clear hg137_0 hg137_1 hg137_8 hg137_9 hg137_16 hg137_17 hg137_46 hg137_47 hg137_48 hg137_74 hg137_75 hg137_55 hg137_10 hg137_15 hg137_27 hg137_28 hg137_29 hg137_30 hg137_31 hg137_32 hg137_33 hg137_34 hg137_35 hg137_36
  have hg139_93 : g139 93 = .ref q138 := by rw [eg139]; exact va_up_self _ _ _
  replace hP := hP.sub (ws' := [(h, .inr (14, mL g139)), (q13, .inl (kq13, 200, .inl (fun _ => (0 : Int32)))), (q23, .inl (kq1, 128, .inl (fun _ => (0 : Int32)))), (q26, .inl (kq1, 20, .inl (fun _ => (0 : Int32)))), (q28, .inl (kq1, 20, .inl (fun _ => (0 : Int32)))), (q30, .inl (kq1, 20, .inl (fun _ => (0 : Int32)))), (q32, .inl (kq1, 20, .inl (fun _ => (0 : Int32)))), (q34, .inl (kq1, 20, .inl (fun _ => (0 : Int32)))), (q36, .inl (kq1, 20, .inl (fun _ => (0 : Int32)))), (q38, .inl (kq1, 20, .inl (fun _ => (0 : Int32)))), (q40, .inl (kq1, 20, .inl (fun _ => (0 : Int32)))), (q42, .inl (kq1, 320, .inl (fun _ => (0 : Int32)))), (q44, .inl (kq1, 320, .inl (fun _ => (0 : Int32))))]) [0, 1, 2, 3, 4, 5, 6, 7, 8, 9, 10, 11, 12] rfl
  replace hD := hD.sub (ws' := [(h, .inr (14, mL g139)), (q13, .inl (kq13, 200, .inl (fun _ => (0 : Int32)))), (q23, .inl (kq1, 128, .inl (fun _ => (0 : Int32)))), (q26, .inl (kq1, 20, .inl (fun _ => (0 : Int32)))), (q28, .inl (kq1, 20, .inl (fun _ => (0 : Int32)))), (q30, .inl (kq1, 20, .inl (fun _ => (0 : Int32)))), (q32, .inl (kq1, 20, .inl (fun _ => (0 : Int32)))), (q34, .inl (kq1, 20, .inl (fun _ => (0 : Int32)))), (q36, .inl (kq1, 20, .inl (fun _ => (0 : Int32)))), (q38, .inl (kq1, 20, .inl (fun _ => (0 : Int32)))), (q40, .inl (kq1, 20, .inl (fun _ => (0 : Int32)))), (q42, .inl (kq1, 320, .inl (fun _ => (0 : Int32)))), (q44, .inl (kq1, 320, .inl (fun _ => (0 : Int32))))]) [0, 1, 2, 3, 4, 5, 6, 7, 8, 9, 10, 11, 12] (by decide) rfl
  refine lv_aload_n hx hb dX13_init_584 rfl (lv_at hl 0 rfl) ?_
  refine lv_bipush (v := 20) hx hb dX13_init_585 (by decide) ?_
  refine va_newa (atype := .int) (ty := .int) (N' := 20) (a0 := (20, .inl (fun _ => (0 : Int32)))) hx hb (hts (.arrayClass .int) (List.mem_of_getElem? (i := 4) rfl)) rfl hK hP hD hS hA (fun _ => rfl) (by decide) (by decide) (Nat.le_of_ble_eq_true rfl) (Nat.le_of_ble_eq_true rfl) (Nat.le_of_ble_eq_true rfl) dX13_init_587 (fun q140 kq140 H hK hP hD hS => ?_)
  have hK : va_K (dC, dI) vwCl [(kq1, .int), (kq13, .byte), (kq72, .boolean), (kq140, .int)] s := hK
  replace hP : va_P (dC, dI) vwCl [(h, .inr (14, mL g139)), (q13, .inl (kq13, 200, .inl (fun _ => (0 : Int32)))), (q23, .inl (kq1, 128, .inl (fun _ => (0 : Int32)))), (q26, .inl (kq1, 20, .inl (fun _ => (0 : Int32)))), (q28, .inl (kq1, 20, .inl (fun _ => (0 : Int32)))), (q30, .inl (kq1, 20, .inl (fun _ => (0 : Int32)))), (q32, .inl (kq1, 20, .inl (fun _ => (0 : Int32)))), (q34, .inl (kq1, 20, .inl (fun _ => (0 : Int32)))), (q36, .inl (kq1, 20, .inl (fun _ => (0 : Int32)))), (q38, .inl (kq1, 20, .inl (fun _ => (0 : Int32)))), (q40, .inl (kq1, 20, .inl (fun _ => (0 : Int32)))), (q42, .inl (kq1, 320, .inl (fun _ => (0 : Int32)))), (q44, .inl (kq1, 320, .inl (fun _ => (0 : Int32)))), (q140, .inl (kq140, 20, .inl (fun _ => (0 : Int32))))] H := hP
  replace hD : va_D A [(h, .inr (14, mL g139)), (q13, .inl (kq13, 200, .inl (fun _ => (0 : Int32)))), (q23, .inl (kq1, 128, .inl (fun _ => (0 : Int32)))), (q26, .inl (kq1, 20, .inl (fun _ => (0 : Int32)))), (q28, .inl (kq1, 20, .inl (fun _ => (0 : Int32)))), (q30, .inl (kq1, 20, .inl (fun _ => (0 : Int32)))), (q32, .inl (kq1, 20, .inl (fun _ => (0 : Int32)))), (q34, .inl (kq1, 20, .inl (fun _ => (0 : Int32)))), (q36, .inl (kq1, 20, .inl (fun _ => (0 : Int32)))), (q38, .inl (kq1, 20, .inl (fun _ => (0 : Int32)))), (q40, .inl (kq1, 20, .inl (fun _ => (0 : Int32)))), (q42, .inl (kq1, 320, .inl (fun _ => (0 : Int32)))), (q44, .inl (kq1, 320, .inl (fun _ => (0 : Int32)))), (q140, .inl (kq140, 20, .inl (fun _ => (0 : Int32))))] := hD
  refine W.widen (k := 70) (n := 10496) (by omega) (by omega) ?_
  obtain rfl : kq1 = kq140 := ub_sa_int hK 0 3 rfl rfl
  have hK := hK.sub (tys' := [(kq1, .int), (kq13, .byte), (kq72, .boolean)]) [0, 1, 2] rfl
  refine va_putF (D := (dC, dI)) (ci := 14) (v := .ref q140) (ty := .array .int) (C := RX13) (T := TX13) (N := 97) hx hb hts iw_m_init_X13 tyX13 tyX13_ok nmX13 hown hK hP hD hS 0 rfl rfl 94 (by decide) (hts (.fieldLink RX13 222 "UnlikeBoatsModel" "ratio" "[I") (List.mem_of_getElem? (i := 77) rfl)) (fun _ h9 => h9) rfl hin rfl (by decide +kernel) rfl rfl (mL_lt (Nat.le_of_ble_eq_true rfl)) dX13_init_589 (fun H locs hP hD hS => ?_)
  have hP : va_P (dC, dI) vwCl [(h, .inr (14, (mL g139).set 94 (.ref q140))), (q13, .inl (kq13, 200, .inl (fun _ => (0 : Int32)))), (q23, .inl (kq1, 128, .inl (fun _ => (0 : Int32)))), (q26, .inl (kq1, 20, .inl (fun _ => (0 : Int32)))), (q28, .inl (kq1, 20, .inl (fun _ => (0 : Int32)))), (q30, .inl (kq1, 20, .inl (fun _ => (0 : Int32)))), (q32, .inl (kq1, 20, .inl (fun _ => (0 : Int32)))), (q34, .inl (kq1, 20, .inl (fun _ => (0 : Int32)))), (q36, .inl (kq1, 20, .inl (fun _ => (0 : Int32)))), (q38, .inl (kq1, 20, .inl (fun _ => (0 : Int32)))), (q40, .inl (kq1, 20, .inl (fun _ => (0 : Int32)))), (q42, .inl (kq1, 320, .inl (fun _ => (0 : Int32)))), (q44, .inl (kq1, 320, .inl (fun _ => (0 : Int32)))), (q140, .inl (kq1, 20, .inl (fun _ => (0 : Int32))))] H := hP
  have hD : va_D A [(h, .inr (14, (mL g139).set 94 (.ref q140))), (q13, .inl (kq13, 200, .inl (fun _ => (0 : Int32)))), (q23, .inl (kq1, 128, .inl (fun _ => (0 : Int32)))), (q26, .inl (kq1, 20, .inl (fun _ => (0 : Int32)))), (q28, .inl (kq1, 20, .inl (fun _ => (0 : Int32)))), (q30, .inl (kq1, 20, .inl (fun _ => (0 : Int32)))), (q32, .inl (kq1, 20, .inl (fun _ => (0 : Int32)))), (q34, .inl (kq1, 20, .inl (fun _ => (0 : Int32)))), (q36, .inl (kq1, 20, .inl (fun _ => (0 : Int32)))), (q38, .inl (kq1, 20, .inl (fun _ => (0 : Int32)))), (q40, .inl (kq1, 20, .inl (fun _ => (0 : Int32)))), (q42, .inl (kq1, 320, .inl (fun _ => (0 : Int32)))), (q44, .inl (kq1, 320, .inl (fun _ => (0 : Int32)))), (q140, .inl (kq1, 20, .inl (fun _ => (0 : Int32))))] := hD
  obtain ⟨g141, eg141⟩ : ∃ z9, z9 = va_up g139 94 (.ref q140) := ⟨_, rfl⟩
  rw [mL_upd, ← eg141] at hP hD
  have hg141_0 : g141 0 = .int 0 := (congrFun eg141 0).trans ((va_up_ne _ _ (Nat.ne_of_beq_eq_false rfl)).trans hg139_0)
  have hg141_1 : g141 1 = .int 0 := (congrFun eg141 1).trans ((va_up_ne _ _ (Nat.ne_of_beq_eq_false rfl)).trans hg139_1)
  have hg141_8 : g141 8 = .int 0 := (congrFun eg141 8).trans ((va_up_ne _ _ (Nat.ne_of_beq_eq_false rfl)).trans hg139_8)
  have hg141_9 : g141 9 = .int 0 := (congrFun eg141 9).trans ((va_up_ne _ _ (Nat.ne_of_beq_eq_false rfl)).trans hg139_9)
  have hg141_16 : g141 16 = .int 0 := (congrFun eg141 16).trans ((va_up_ne _ _ (Nat.ne_of_beq_eq_false rfl)).trans hg139_16)
  have hg141_17 : g141 17 = .int 0 := (congrFun eg141 17).trans ((va_up_ne _ _ (Nat.ne_of_beq_eq_false rfl)).trans hg139_17)
  have hg141_46 : g141 46 = .int 0 := (congrFun eg141 46).trans ((va_up_ne _ _ (Nat.ne_of_beq_eq_false rfl)).trans hg139_46)
  have hg141_47 : g141 47 = .int 0 := (congrFun eg141 47).trans ((va_up_ne _ _ (Nat.ne_of_beq_eq_false rfl)).trans hg139_47)
  have hg141_48 : g141 48 = .int 0 := (congrFun eg141 48).trans ((va_up_ne _ _ (Nat.ne_of_beq_eq_false rfl)).trans hg139_48)
  have hg141_74 : g141 74 = .int 0 := (congrFun eg141 74).trans ((va_up_ne _ _ (Nat.ne_of_beq_eq_false rfl)).trans hg139_74)
  have hg141_75 : g141 75 = .int 0 := (congrFun eg141 75).trans ((va_up_ne _ _ (Nat.ne_of_beq_eq_false rfl)).trans hg139_75)
  have hg141_55 : g141 55 = .int 0 := (congrFun eg141 55).trans ((va_up_ne _ _ (Nat.ne_of_beq_eq_false rfl)).trans hg139_55)
  have hg141_10 : g141 10 = .ref q13 := (congrFun eg141 10).trans ((va_up_ne _ _ (Nat.ne_of_beq_eq_false rfl)).trans hg139_10)
  have hg141_15 : g141 15 = .ref q23 := (congrFun eg141 15).trans ((va_up_ne _ _ (Nat.ne_of_beq_eq_false rfl)).trans hg139_15)
  have hg141_27 : g141 27 = .ref q26 := (congrFun eg141 27).trans ((va_up_ne _ _ (Nat.ne_of_beq_eq_false rfl)).trans hg139_27)
  have hg141_28 : g141 28 = .ref q28 := (congrFun eg141 28).trans ((va_up_ne _ _ (Nat.ne_of_beq_eq_false rfl)).trans hg139_28)
  have hg141_29 : g141 29 = .ref q30 := (congrFun eg141 29).trans ((va_up_ne _ _ (Nat.ne_of_beq_eq_false rfl)).trans hg139_29)
  have hg141_30 : g141 30 = .ref q32 := (congrFun eg141 30).trans ((va_up_ne _ _ (Nat.ne_of_beq_eq_false rfl)).trans hg139_30)
  have hg141_31 : g141 31 = .ref q34 := (congrFun eg141 31).trans ((va_up_ne _ _ (Nat.ne_of_beq_eq_false rfl)).trans hg139_31)
  have hg141_32 : g141 32 = .ref q36 := (congrFun eg141 32).trans ((va_up_ne _ _ (Nat.ne_of_beq_eq_false rfl)).trans hg139_32)
  have hg141_33 : g141 33 = .ref q38 := (congrFun eg141 33).trans ((va_up_ne _ _ (Nat.ne_of_beq_eq_false rfl)).trans hg139_33)
  have hg141_34 : g141 34 = .ref q40 := (congrFun eg141 34).trans ((va_up_ne _ _ (Nat.ne_of_beq_eq_false rfl)).trans hg139_34)
  have hg141_35 : g141 35 = .ref q42 := (congrFun eg141 35).trans ((va_up_ne _ _ (Nat.ne_of_beq_eq_false rfl)).trans hg139_35)
  have hg141_36 : g141 36 = .ref q44 := (congrFun eg141 36).trans ((va_up_ne _ _ (Nat.ne_of_beq_eq_false rfl)).trans hg139_36)
  clear hg139_0 hg139_1 hg139_8 hg139_9 hg139_16 hg139_17 hg139_46 hg139_47 hg139_48 hg139_74 hg139_75 hg139_55 hg139_10 hg139_15 hg139_27 hg139_28 hg139_29 hg139_30 hg139_31 hg139_32 hg139_33 hg139_34 hg139_35 hg139_36
  have hg141_94 : g141 94 = .ref q140 := by rw [eg141]; exact va_up_self _ _ _
  replace hP := hP.sub (ws' := [(h, .inr (14, mL g141)), (q13, .inl (kq13, 200, .inl (fun _ => (0 : Int32)))), (q23, .inl (kq1, 128, .inl (fun _ => (0 : Int32)))), (q26, .inl (kq1, 20, .inl (fun _ => (0 : Int32)))), (q28, .inl (kq1, 20, .inl (fun _ => (0 : Int32)))), (q30, .inl (kq1, 20, .inl (fun _ => (0 : Int32)))), (q32, .inl (kq1, 20, .inl (fun _ => (0 : Int32)))), (q34, .inl (kq1, 20, .inl (fun _ => (0 : Int32)))), (q36, .inl (kq1, 20, .inl (fun _ => (0 : Int32)))), (q38, .inl (kq1, 20, .inl (fun _ => (0 : Int32)))), (q40, .inl (kq1, 20, .inl (fun _ => (0 : Int32)))), (q42, .inl (kq1, 320, .inl (fun _ => (0 : Int32)))), (q44, .inl (kq1, 320, .inl (fun _ => (0 : Int32))))]) [0, 1, 2, 3, 4, 5, 6, 7, 8, 9, 10, 11, 12] rfl
  replace hD := hD.sub (ws' := [(h, .inr (14, mL g141)), (q13, .inl (kq13, 200, .inl (fun _ => (0 : Int32)))), (q23, .inl (kq1, 128, .inl (fun _ => (0 : Int32)))), (q26, .inl (kq1, 20, .inl (fun _ => (0 : Int32)))), (q28, .inl (kq1, 20, .inl (fun _ => (0 : Int32)))), (q30, .inl (kq1, 20, .inl (fun _ => (0 : Int32)))), (q32, .inl (kq1, 20, .inl (fun _ => (0 : Int32)))), (q34, .inl (kq1, 20, .inl (fun _ => (0 : Int32)))), (q36, .inl (kq1, 20, .inl (fun _ => (0 : Int32)))), (q38, .inl (kq1, 20, .inl (fun _ => (0 : Int32)))), (q40, .inl (kq1, 20, .inl (fun _ => (0 : Int32)))), (q42, .inl (kq1, 320, .inl (fun _ => (0 : Int32)))), (q44, .inl (kq1, 320, .inl (fun _ => (0 : Int32))))]) [0, 1, 2, 3, 4, 5, 6, 7, 8, 9, 10, 11, 12] (by decide) rfl
  refine lv_aload_n hx hb dX13_init_592 rfl (lv_at hl 0 rfl) ?_
  refine lv_bipush (v := 16) hx hb dX13_init_593 (by decide) ?_
  refine va_newa (atype := .int) (ty := .int) (N' := 16) (a0 := (16, .inl (fun _ => (0 : Int32)))) hx hb (hts (.arrayClass .int) (List.mem_of_getElem? (i := 4) rfl)) rfl hK hP hD hS hA (fun _ => rfl) (by decide) (by decide) (Nat.le_of_ble_eq_true rfl) (Nat.le_of_ble_eq_true rfl) (Nat.le_of_ble_eq_true rfl) dX13_init_595 (fun q142 kq142 H hK hP hD hS => ?_)
  have hK : va_K (dC, dI) vwCl [(kq1, .int), (kq13, .byte), (kq72, .boolean), (kq142, .int)] s := hK
  replace hP : va_P (dC, dI) vwCl [(h, .inr (14, mL g141)), (q13, .inl (kq13, 200, .inl (fun _ => (0 : Int32)))), (q23, .inl (kq1, 128, .inl (fun _ => (0 : Int32)))), (q26, .inl (kq1, 20, .inl (fun _ => (0 : Int32)))), (q28, .inl (kq1, 20, .inl (fun _ => (0 : Int32)))), (q30, .inl (kq1, 20, .inl (fun _ => (0 : Int32)))), (q32, .inl (kq1, 20, .inl (fun _ => (0 : Int32)))), (q34, .inl (kq1, 20, .inl (fun _ => (0 : Int32)))), (q36, .inl (kq1, 20, .inl (fun _ => (0 : Int32)))), (q38, .inl (kq1, 20, .inl (fun _ => (0 : Int32)))), (q40, .inl (kq1, 20, .inl (fun _ => (0 : Int32)))), (q42, .inl (kq1, 320, .inl (fun _ => (0 : Int32)))), (q44, .inl (kq1, 320, .inl (fun _ => (0 : Int32)))), (q142, .inl (kq142, 16, .inl (fun _ => (0 : Int32))))] H := hP
  replace hD : va_D A [(h, .inr (14, mL g141)), (q13, .inl (kq13, 200, .inl (fun _ => (0 : Int32)))), (q23, .inl (kq1, 128, .inl (fun _ => (0 : Int32)))), (q26, .inl (kq1, 20, .inl (fun _ => (0 : Int32)))), (q28, .inl (kq1, 20, .inl (fun _ => (0 : Int32)))), (q30, .inl (kq1, 20, .inl (fun _ => (0 : Int32)))), (q32, .inl (kq1, 20, .inl (fun _ => (0 : Int32)))), (q34, .inl (kq1, 20, .inl (fun _ => (0 : Int32)))), (q36, .inl (kq1, 20, .inl (fun _ => (0 : Int32)))), (q38, .inl (kq1, 20, .inl (fun _ => (0 : Int32)))), (q40, .inl (kq1, 20, .inl (fun _ => (0 : Int32)))), (q42, .inl (kq1, 320, .inl (fun _ => (0 : Int32)))), (q44, .inl (kq1, 320, .inl (fun _ => (0 : Int32)))), (q142, .inl (kq142, 16, .inl (fun _ => (0 : Int32))))] := hD
  refine W.widen (k := 71) (n := 10512) (by omega) (by omega) ?_
  obtain rfl : kq1 = kq142 := ub_sa_int hK 0 3 rfl rfl
  have hK := hK.sub (tys' := [(kq1, .int), (kq13, .byte), (kq72, .boolean)]) [0, 1, 2] rfl
  refine va_putF (D := (dC, dI)) (ci := 14) (v := .ref q142) (ty := .array .int) (C := RX13) (T := TX13) (N := 97) hx hb hts iw_m_init_X13 tyX13 tyX13_ok nmX13 hown hK hP hD hS 0 rfl rfl 96 (by decide) (hts (.fieldLink RX13 225 "UnlikeBoatsModel" "weight" "[I") (List.mem_of_getElem? (i := 78) rfl)) (fun _ h9 => h9) rfl hin rfl (by decide +kernel) rfl rfl (mL_lt (Nat.le_of_ble_eq_true rfl)) dX13_init_597 (fun H locs hP hD hS => ?_)
  have hP : va_P (dC, dI) vwCl [(h, .inr (14, (mL g141).set 96 (.ref q142))), (q13, .inl (kq13, 200, .inl (fun _ => (0 : Int32)))), (q23, .inl (kq1, 128, .inl (fun _ => (0 : Int32)))), (q26, .inl (kq1, 20, .inl (fun _ => (0 : Int32)))), (q28, .inl (kq1, 20, .inl (fun _ => (0 : Int32)))), (q30, .inl (kq1, 20, .inl (fun _ => (0 : Int32)))), (q32, .inl (kq1, 20, .inl (fun _ => (0 : Int32)))), (q34, .inl (kq1, 20, .inl (fun _ => (0 : Int32)))), (q36, .inl (kq1, 20, .inl (fun _ => (0 : Int32)))), (q38, .inl (kq1, 20, .inl (fun _ => (0 : Int32)))), (q40, .inl (kq1, 20, .inl (fun _ => (0 : Int32)))), (q42, .inl (kq1, 320, .inl (fun _ => (0 : Int32)))), (q44, .inl (kq1, 320, .inl (fun _ => (0 : Int32)))), (q142, .inl (kq1, 16, .inl (fun _ => (0 : Int32))))] H := hP
  have hD : va_D A [(h, .inr (14, (mL g141).set 96 (.ref q142))), (q13, .inl (kq13, 200, .inl (fun _ => (0 : Int32)))), (q23, .inl (kq1, 128, .inl (fun _ => (0 : Int32)))), (q26, .inl (kq1, 20, .inl (fun _ => (0 : Int32)))), (q28, .inl (kq1, 20, .inl (fun _ => (0 : Int32)))), (q30, .inl (kq1, 20, .inl (fun _ => (0 : Int32)))), (q32, .inl (kq1, 20, .inl (fun _ => (0 : Int32)))), (q34, .inl (kq1, 20, .inl (fun _ => (0 : Int32)))), (q36, .inl (kq1, 20, .inl (fun _ => (0 : Int32)))), (q38, .inl (kq1, 20, .inl (fun _ => (0 : Int32)))), (q40, .inl (kq1, 20, .inl (fun _ => (0 : Int32)))), (q42, .inl (kq1, 320, .inl (fun _ => (0 : Int32)))), (q44, .inl (kq1, 320, .inl (fun _ => (0 : Int32)))), (q142, .inl (kq1, 16, .inl (fun _ => (0 : Int32))))] := hD
  obtain ⟨g143, eg143⟩ : ∃ z9, z9 = va_up g141 96 (.ref q142) := ⟨_, rfl⟩
  rw [mL_upd, ← eg143] at hP hD
  have hg143_0 : g143 0 = .int 0 := (congrFun eg143 0).trans ((va_up_ne _ _ (Nat.ne_of_beq_eq_false rfl)).trans hg141_0)
  have hg143_1 : g143 1 = .int 0 := (congrFun eg143 1).trans ((va_up_ne _ _ (Nat.ne_of_beq_eq_false rfl)).trans hg141_1)
  have hg143_8 : g143 8 = .int 0 := (congrFun eg143 8).trans ((va_up_ne _ _ (Nat.ne_of_beq_eq_false rfl)).trans hg141_8)
  have hg143_9 : g143 9 = .int 0 := (congrFun eg143 9).trans ((va_up_ne _ _ (Nat.ne_of_beq_eq_false rfl)).trans hg141_9)
  have hg143_16 : g143 16 = .int 0 := (congrFun eg143 16).trans ((va_up_ne _ _ (Nat.ne_of_beq_eq_false rfl)).trans hg141_16)
  have hg143_17 : g143 17 = .int 0 := (congrFun eg143 17).trans ((va_up_ne _ _ (Nat.ne_of_beq_eq_false rfl)).trans hg141_17)
  have hg143_46 : g143 46 = .int 0 := (congrFun eg143 46).trans ((va_up_ne _ _ (Nat.ne_of_beq_eq_false rfl)).trans hg141_46)
  have hg143_47 : g143 47 = .int 0 := (congrFun eg143 47).trans ((va_up_ne _ _ (Nat.ne_of_beq_eq_false rfl)).trans hg141_47)
  have hg143_48 : g143 48 = .int 0 := (congrFun eg143 48).trans ((va_up_ne _ _ (Nat.ne_of_beq_eq_false rfl)).trans hg141_48)
  have hg143_74 : g143 74 = .int 0 := (congrFun eg143 74).trans ((va_up_ne _ _ (Nat.ne_of_beq_eq_false rfl)).trans hg141_74)
  have hg143_75 : g143 75 = .int 0 := (congrFun eg143 75).trans ((va_up_ne _ _ (Nat.ne_of_beq_eq_false rfl)).trans hg141_75)
  have hg143_55 : g143 55 = .int 0 := (congrFun eg143 55).trans ((va_up_ne _ _ (Nat.ne_of_beq_eq_false rfl)).trans hg141_55)
  have hg143_10 : g143 10 = .ref q13 := (congrFun eg143 10).trans ((va_up_ne _ _ (Nat.ne_of_beq_eq_false rfl)).trans hg141_10)
  have hg143_15 : g143 15 = .ref q23 := (congrFun eg143 15).trans ((va_up_ne _ _ (Nat.ne_of_beq_eq_false rfl)).trans hg141_15)
  have hg143_27 : g143 27 = .ref q26 := (congrFun eg143 27).trans ((va_up_ne _ _ (Nat.ne_of_beq_eq_false rfl)).trans hg141_27)
  have hg143_28 : g143 28 = .ref q28 := (congrFun eg143 28).trans ((va_up_ne _ _ (Nat.ne_of_beq_eq_false rfl)).trans hg141_28)
  have hg143_29 : g143 29 = .ref q30 := (congrFun eg143 29).trans ((va_up_ne _ _ (Nat.ne_of_beq_eq_false rfl)).trans hg141_29)
  have hg143_30 : g143 30 = .ref q32 := (congrFun eg143 30).trans ((va_up_ne _ _ (Nat.ne_of_beq_eq_false rfl)).trans hg141_30)
  have hg143_31 : g143 31 = .ref q34 := (congrFun eg143 31).trans ((va_up_ne _ _ (Nat.ne_of_beq_eq_false rfl)).trans hg141_31)
  have hg143_32 : g143 32 = .ref q36 := (congrFun eg143 32).trans ((va_up_ne _ _ (Nat.ne_of_beq_eq_false rfl)).trans hg141_32)
  have hg143_33 : g143 33 = .ref q38 := (congrFun eg143 33).trans ((va_up_ne _ _ (Nat.ne_of_beq_eq_false rfl)).trans hg141_33)
  have hg143_34 : g143 34 = .ref q40 := (congrFun eg143 34).trans ((va_up_ne _ _ (Nat.ne_of_beq_eq_false rfl)).trans hg141_34)
  have hg143_35 : g143 35 = .ref q42 := (congrFun eg143 35).trans ((va_up_ne _ _ (Nat.ne_of_beq_eq_false rfl)).trans hg141_35)
  have hg143_36 : g143 36 = .ref q44 := (congrFun eg143 36).trans ((va_up_ne _ _ (Nat.ne_of_beq_eq_false rfl)).trans hg141_36)
  clear hg141_0 hg141_1 hg141_8 hg141_9 hg141_16 hg141_17 hg141_46 hg141_47 hg141_48 hg141_74 hg141_75 hg141_55 hg141_10 hg141_15 hg141_27 hg141_28 hg141_29 hg141_30 hg141_31 hg141_32 hg141_33 hg141_34 hg141_35 hg141_36
  have hg143_96 : g143 96 = .ref q142 := by rw [eg143]; exact va_up_self _ _ _
  replace hP := hP.sub (ws' := [(h, .inr (14, mL g143)), (q13, .inl (kq13, 200, .inl (fun _ => (0 : Int32)))), (q23, .inl (kq1, 128, .inl (fun _ => (0 : Int32)))), (q26, .inl (kq1, 20, .inl (fun _ => (0 : Int32)))), (q28, .inl (kq1, 20, .inl (fun _ => (0 : Int32)))), (q30, .inl (kq1, 20, .inl (fun _ => (0 : Int32)))), (q32, .inl (kq1, 20, .inl (fun _ => (0 : Int32)))), (q34, .inl (kq1, 20, .inl (fun _ => (0 : Int32)))), (q36, .inl (kq1, 20, .inl (fun _ => (0 : Int32)))), (q38, .inl (kq1, 20, .inl (fun _ => (0 : Int32)))), (q40, .inl (kq1, 20, .inl (fun _ => (0 : Int32)))), (q42, .inl (kq1, 320, .inl (fun _ => (0 : Int32)))), (q44, .inl (kq1, 320, .inl (fun _ => (0 : Int32))))]) [0, 1, 2, 3, 4, 5, 6, 7, 8, 9, 10, 11, 12] rfl
  replace hD := hD.sub (ws' := [(h, .inr (14, mL g143)), (q13, .inl (kq13, 200, .inl (fun _ => (0 : Int32)))), (q23, .inl (kq1, 128, .inl (fun _ => (0 : Int32)))), (q26, .inl (kq1, 20, .inl (fun _ => (0 : Int32)))), (q28, .inl (kq1, 20, .inl (fun _ => (0 : Int32)))), (q30, .inl (kq1, 20, .inl (fun _ => (0 : Int32)))), (q32, .inl (kq1, 20, .inl (fun _ => (0 : Int32)))), (q34, .inl (kq1, 20, .inl (fun _ => (0 : Int32)))), (q36, .inl (kq1, 20, .inl (fun _ => (0 : Int32)))), (q38, .inl (kq1, 20, .inl (fun _ => (0 : Int32)))), (q40, .inl (kq1, 20, .inl (fun _ => (0 : Int32)))), (q42, .inl (kq1, 320, .inl (fun _ => (0 : Int32)))), (q44, .inl (kq1, 320, .inl (fun _ => (0 : Int32))))]) [0, 1, 2, 3, 4, 5, 6, 7, 8, 9, 10, 11, 12] (by decide) rfl
  have hP9 := hP.sub (ws' := [(h, .inr (14, mL g143)), (q13, .inl (kq13, 200, .inl (fun _ => (0 : Int32)))), (q23, .inl (kq1, 128, .inl (fun _ => (0 : Int32)))), (q26, .inl (kq1, 20, .inl (fun _ => (0 : Int32)))), (q28, .inl (kq1, 20, .inl (fun _ => (0 : Int32)))), (q30, .inl (kq1, 20, .inl (fun _ => (0 : Int32)))), (q32, .inl (kq1, 20, .inl (fun _ => (0 : Int32)))), (q34, .inl (kq1, 20, .inl (fun _ => (0 : Int32)))), (q36, .inl (kq1, 20, .inl (fun _ => (0 : Int32)))), (q38, .inl (kq1, 20, .inl (fun _ => (0 : Int32)))), (q40, .inl (kq1, 20, .inl (fun _ => (0 : Int32)))), (q42, .inl (kq1, 320, .inl (fun _ => (0 : Int32)))), (q44, .inl (kq1, 320, .inl (fun _ => (0 : Int32))))]) [0, 1, 2, 3, 4, 5, 6, 7, 8, 9, 10, 11, 12] rfl
  have hD9 := hD.sub (ws' := [(h, .inr (14, mL g143)), (q13, .inl (kq13, 200, .inl (fun _ => (0 : Int32)))), (q23, .inl (kq1, 128, .inl (fun _ => (0 : Int32)))), (q26, .inl (kq1, 20, .inl (fun _ => (0 : Int32)))), (q28, .inl (kq1, 20, .inl (fun _ => (0 : Int32)))), (q30, .inl (kq1, 20, .inl (fun _ => (0 : Int32)))), (q32, .inl (kq1, 20, .inl (fun _ => (0 : Int32)))), (q34, .inl (kq1, 20, .inl (fun _ => (0 : Int32)))), (q36, .inl (kq1, 20, .inl (fun _ => (0 : Int32)))), (q38, .inl (kq1, 20, .inl (fun _ => (0 : Int32)))), (q40, .inl (kq1, 20, .inl (fun _ => (0 : Int32)))), (q42, .inl (kq1, 320, .inl (fun _ => (0 : Int32)))), (q44, .inl (kq1, 320, .inl (fun _ => (0 : Int32))))]) [0, 1, 2, 3, 4, 5, 6, 7, 8, 9, 10, 11, 12] (by decide) rfl
  have hK9 := hK.sub (tys' := [(kq1, .int), (kq13, .byte)]) [0, 1] rfl
  exact W.vret hx hb hr (fun t ht hW => ⟨⟨(g143, q13, q23, q26, q28, q30, q32, q34, q36, q38, q40, q42, q44, kq1, kq13), rfl, ⟨hg143_0, hg143_1, hg143_8, hg143_9, hg143_16, hg143_17, hg143_46, hg143_47, hg143_48, hg143_74, hg143_75, hg143_55, hg143_10, hg143_15, hg143_27, hg143_28, hg143_29, hg143_30, hg143_31, hg143_32, hg143_33, hg143_34, hg143_35, hg143_36⟩, (by rw [ht]; exact hP9), va_K.moved hW.alike hK9, hD9⟩, hS.F ht⟩) hS.2.2 dX13_init_600
