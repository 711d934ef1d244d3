abbrev cL_law : ByteArray := code
set_option maxRecDepth 100000 in
theorem zh_dL_law_208_200 : zc cL_law 200 [0, 0, 6, 218, 0, 0, 7, 2, 43, 42, 21, 4, 4, 96, 46, 182, 0, 19, 87, 44, 42, 21, 4, 4, 96, 46, 182, 0, 23, 87, 167, 6, 93, 43, 182, 0, 24, 87, 44, 182] = true := by decide +kernel
set_option maxRecDepth 100000 in
theorem zh_dL_law_239_240 : zc cL_law 240 [0, 28, 87, 167, 6, 80, 43, 42, 21, 4, 4, 96, 46, 42, 21, 4, 5, 96, 46, 42, 21, 4, 6, 96, 46, 42, 21, 4, 7, 96, 46, 42, 21, 4, 8, 96, 46, 182, 0, 29] = true := by decide +kernel
set_option maxRecDepth 100000 in
theorem zh_dL_law_280_280 : zc cL_law 280 [87, 44, 42, 21, 4, 4, 96, 46, 42, 21, 4, 5, 96, 46, 42, 21, 4, 6, 96, 46, 42, 21, 4, 7, 96, 46, 42, 21, 4, 8, 96, 46, 182, 0, 33, 87, 167, 6, 7, 43] = true := by decide +kernel
set_option maxRecDepth 100000 in
theorem zh_dL_law_320_320 : zc cL_law 320 [42, 21, 4, 4, 96, 46, 42, 21, 4, 5, 96, 46, 42, 21, 4, 6, 96, 46, 182, 0, 34, 87, 44, 42, 21, 4, 4, 96, 46, 42, 21, 4, 5, 96, 46, 42, 21, 4, 6, 96] = true := by decide +kernel
set_option maxRecDepth 100000 in
theorem zh_dL_law_360_360 : zc cL_law 360 [46, 182, 0, 38, 87, 167, 5, 214, 43, 42, 21, 4, 4, 96, 46, 42, 21, 4, 5, 96, 46, 42, 21, 4, 6, 96, 46, 42, 21, 4, 7, 96, 46, 42, 21, 4, 8, 96, 46, 182] = true := by decide +kernel
set_option maxRecDepth 100000 in
theorem zh_dL_law_399_400 : zc cL_law 400 [0, 39, 87, 44, 42, 21, 4, 4, 96, 46, 42, 21, 4, 5, 96, 46, 42, 21, 4, 6, 96, 46, 42, 21, 4, 7, 96, 46, 42, 21, 4, 8, 96, 46, 182, 0, 42, 87, 167, 5] = true := by decide +kernel
set_option maxRecDepth 100000 in
theorem zh_dL_law_438_440 : zc cL_law 440 [141, 43, 42, 21, 4, 4, 96, 46, 182, 0, 43, 87, 44, 42, 21, 4, 4, 96, 46, 182, 0, 47, 87, 167, 5, 116, 43, 182, 0, 48, 87, 44, 182, 0, 51, 87, 167, 5, 103, 43] = true := by decide +kernel
set_option maxRecDepth 100000 in
theorem zh_dL_law_480_480 : zc cL_law 480 [42, 21, 4, 4, 96, 46, 182, 0, 52, 87, 44, 42, 21, 4, 4, 96, 46, 182, 0, 55, 87, 167, 5, 78, 43, 42, 21, 4, 4, 96, 46, 42, 21, 4, 5, 96, 46, 182, 0, 56] = true := by decide +kernel
set_option maxRecDepth 100000 in
theorem zh_dL_law_520_520 : zc cL_law 520 [87, 44, 42, 21, 4, 4, 96, 46, 42, 21, 4, 5, 96, 46, 182, 0, 59, 87, 167, 5, 41, 43, 42, 21, 4, 4, 96, 46, 42, 21, 4, 5, 96, 46, 42, 21, 4, 6, 96, 46] = true := by decide +kernel
set_option maxRecDepth 100000 in
theorem zh_dL_law_560_560 : zc cL_law 560 [182, 0, 60, 87, 44, 42, 21, 4, 4, 96, 46, 42, 21, 4, 5, 96, 46, 42, 21, 4, 6, 96, 46, 182, 0, 63, 87, 167, 4, 248, 43, 42, 21, 4, 4, 96, 46, 42, 21, 4] = true := by decide +kernel
theorem dL_law_208 : decode cL_law 208 = .ok (.aload_n 1, 1) := zo_43 (zi_at zh_dL_law_208_200 8 rfl)
theorem dL_law_209 : decode cL_law 209 = .ok (.aload_n 0, 1) := zo_42 (zi_at zh_dL_law_208_200 9 rfl)
theorem dL_law_210 : decode cL_law 210 = .ok (.iload 4, 2) := zo_21 (zi_at zh_dL_law_208_200 10 rfl) (zi_at zh_dL_law_208_200 11 rfl)
theorem dL_law_212 : decode cL_law 212 = .ok (.iconst 1, 1) := zo_4 (zi_at zh_dL_law_208_200 12 rfl)
theorem dL_law_213 : decode cL_law 213 = .ok (.iadd, 1) := zo_96 (zi_at zh_dL_law_208_200 13 rfl)
theorem dL_law_214 : decode cL_law 214 = .ok (.iaload, 1) := zo_46 (zi_at zh_dL_law_208_200 14 rfl)
theorem dL_law_215 : decode cL_law 215 = .ok (.invokevirtual 19, 3) := zo_182 (zi_at zh_dL_law_208_200 15 rfl) (zi_at zh_dL_law_208_200 16 rfl) (zi_at zh_dL_law_208_200 17 rfl) rfl
theorem dL_law_218 : decode cL_law 218 = .ok (.pop, 1) := zo_87 (zi_at zh_dL_law_208_200 18 rfl)
theorem dL_law_219 : decode cL_law 219 = .ok (.aload_n 2, 1) := zo_44 (zi_at zh_dL_law_208_200 19 rfl)
theorem dL_law_220 : decode cL_law 220 = .ok (.aload_n 0, 1) := zo_42 (zi_at zh_dL_law_208_200 20 rfl)
theorem dL_law_221 : decode cL_law 221 = .ok (.iload 4, 2) := zo_21 (zi_at zh_dL_law_208_200 21 rfl) (zi_at zh_dL_law_208_200 22 rfl)
theorem dL_law_223 : decode cL_law 223 = .ok (.iconst 1, 1) := zo_4 (zi_at zh_dL_law_208_200 23 rfl)
theorem dL_law_224 : decode cL_law 224 = .ok (.iadd, 1) := zo_96 (zi_at zh_dL_law_208_200 24 rfl)
theorem dL_law_225 : decode cL_law 225 = .ok (.iaload, 1) := zo_46 (zi_at zh_dL_law_208_200 25 rfl)
theorem dL_law_226 : decode cL_law 226 = .ok (.invokevirtual 23, 3) := zo_182 (zi_at zh_dL_law_208_200 26 rfl) (zi_at zh_dL_law_208_200 27 rfl) (zi_at zh_dL_law_208_200 28 rfl) rfl
theorem dL_law_229 : decode cL_law 229 = .ok (.pop, 1) := zo_87 (zi_at zh_dL_law_208_200 29 rfl)
theorem dL_law_230 : decode cL_law 230 = .ok (.goto 1629, 3) := zo_167 (zi_at zh_dL_law_208_200 30 rfl) (zi_at zh_dL_law_208_200 31 rfl) (zi_at zh_dL_law_208_200 32 rfl) rfl
theorem dL_law_233 : decode cL_law 233 = .ok (.aload_n 1, 1) := zo_43 (zi_at zh_dL_law_208_200 33 rfl)
theorem dL_law_234 : decode cL_law 234 = .ok (.invokevirtual 24, 3) := zo_182 (zi_at zh_dL_law_208_200 34 rfl) (zi_at zh_dL_law_208_200 35 rfl) (zi_at zh_dL_law_208_200 36 rfl) rfl
theorem dL_law_237 : decode cL_law 237 = .ok (.pop, 1) := zo_87 (zi_at zh_dL_law_208_200 37 rfl)
theorem dL_law_238 : decode cL_law 238 = .ok (.aload_n 2, 1) := zo_44 (zi_at zh_dL_law_208_200 38 rfl)
theorem dL_law_239 : decode cL_law 239 = .ok (.invokevirtual 28, 3) := zo_182 (zi_at zh_dL_law_208_200 39 rfl) (zi_at zh_dL_law_239_240 0 rfl) (zi_at zh_dL_law_239_240 1 rfl) rfl
theorem dL_law_242 : decode cL_law 242 = .ok (.pop, 1) := zo_87 (zi_at zh_dL_law_239_240 2 rfl)
theorem dL_law_243 : decode cL_law 243 = .ok (.goto 1616, 3) := zo_167 (zi_at zh_dL_law_239_240 3 rfl) (zi_at zh_dL_law_239_240 4 rfl) (zi_at zh_dL_law_239_240 5 rfl) rfl
theorem dL_law_246 : decode cL_law 246 = .ok (.aload_n 1, 1) := zo_43 (zi_at zh_dL_law_239_240 6 rfl)
theorem dL_law_247 : decode cL_law 247 = .ok (.aload_n 0, 1) := zo_42 (zi_at zh_dL_law_239_240 7 rfl)
theorem dL_law_248 : decode cL_law 248 = .ok (.iload 4, 2) := zo_21 (zi_at zh_dL_law_239_240 8 rfl) (zi_at zh_dL_law_239_240 9 rfl)
theorem dL_law_250 : decode cL_law 250 = .ok (.iconst 1, 1) := zo_4 (zi_at zh_dL_law_239_240 10 rfl)
theorem dL_law_251 : decode cL_law 251 = .ok (.iadd, 1) := zo_96 (zi_at zh_dL_law_239_240 11 rfl)
theorem dL_law_252 : decode cL_law 252 = .ok (.iaload, 1) := zo_46 (zi_at zh_dL_law_239_240 12 rfl)
theorem dL_law_253 : decode cL_law 253 = .ok (.aload_n 0, 1) := zo_42 (zi_at zh_dL_law_239_240 13 rfl)
theorem dL_law_254 : decode cL_law 254 = .ok (.iload 4, 2) := zo_21 (zi_at zh_dL_law_239_240 14 rfl) (zi_at zh_dL_law_239_240 15 rfl)
theorem dL_law_256 : decode cL_law 256 = .ok (.iconst 2, 1) := zo_5 (zi_at zh_dL_law_239_240 16 rfl)
theorem dL_law_257 : decode cL_law 257 = .ok (.iadd, 1) := zo_96 (zi_at zh_dL_law_239_240 17 rfl)
theorem dL_law_258 : decode cL_law 258 = .ok (.iaload, 1) := zo_46 (zi_at zh_dL_law_239_240 18 rfl)
theorem dL_law_259 : decode cL_law 259 = .ok (.aload_n 0, 1) := zo_42 (zi_at zh_dL_law_239_240 19 rfl)
theorem dL_law_260 : decode cL_law 260 = .ok (.iload 4, 2) := zo_21 (zi_at zh_dL_law_239_240 20 rfl) (zi_at zh_dL_law_239_240 21 rfl)
theorem dL_law_262 : decode cL_law 262 = .ok (.iconst 3, 1) := zo_6 (zi_at zh_dL_law_239_240 22 rfl)
theorem dL_law_263 : decode cL_law 263 = .ok (.iadd, 1) := zo_96 (zi_at zh_dL_law_239_240 23 rfl)
theorem dL_law_264 : decode cL_law 264 = .ok (.iaload, 1) := zo_46 (zi_at zh_dL_law_239_240 24 rfl)
theorem dL_law_265 : decode cL_law 265 = .ok (.aload_n 0, 1) := zo_42 (zi_at zh_dL_law_239_240 25 rfl)
theorem dL_law_266 : decode cL_law 266 = .ok (.iload 4, 2) := zo_21 (zi_at zh_dL_law_239_240 26 rfl) (zi_at zh_dL_law_239_240 27 rfl)
theorem dL_law_268 : decode cL_law 268 = .ok (.iconst 4, 1) := zo_7 (zi_at zh_dL_law_239_240 28 rfl)
theorem dL_law_269 : decode cL_law 269 = .ok (.iadd, 1) := zo_96 (zi_at zh_dL_law_239_240 29 rfl)
theorem dL_law_270 : decode cL_law 270 = .ok (.iaload, 1) := zo_46 (zi_at zh_dL_law_239_240 30 rfl)
theorem dL_law_271 : decode cL_law 271 = .ok (.aload_n 0, 1) := zo_42 (zi_at zh_dL_law_239_240 31 rfl)
theorem dL_law_272 : decode cL_law 272 = .ok (.iload 4, 2) := zo_21 (zi_at zh_dL_law_239_240 32 rfl) (zi_at zh_dL_law_239_240 33 rfl)
theorem dL_law_274 : decode cL_law 274 = .ok (.iconst 5, 1) := zo_8 (zi_at zh_dL_law_239_240 34 rfl)
theorem dL_law_275 : decode cL_law 275 = .ok (.iadd, 1) := zo_96 (zi_at zh_dL_law_239_240 35 rfl)
theorem dL_law_276 : decode cL_law 276 = .ok (.iaload, 1) := zo_46 (zi_at zh_dL_law_239_240 36 rfl)
theorem dL_law_277 : decode cL_law 277 = .ok (.invokevirtual 29, 3) := zo_182 (zi_at zh_dL_law_239_240 37 rfl) (zi_at zh_dL_law_239_240 38 rfl) (zi_at zh_dL_law_239_240 39 rfl) rfl
theorem dL_law_280 : decode cL_law 280 = .ok (.pop, 1) := zo_87 (zi_at zh_dL_law_280_280 0 rfl)
theorem dL_law_281 : decode cL_law 281 = .ok (.aload_n 2, 1) := zo_44 (zi_at zh_dL_law_280_280 1 rfl)
theorem dL_law_282 : decode cL_law 282 = .ok (.aload_n 0, 1) := zo_42 (zi_at zh_dL_law_280_280 2 rfl)
theorem dL_law_283 : decode cL_law 283 = .ok (.iload 4, 2) := zo_21 (zi_at zh_dL_law_280_280 3 rfl) (zi_at zh_dL_law_280_280 4 rfl)
theorem dL_law_285 : decode cL_law 285 = .ok (.iconst 1, 1) := zo_4 (zi_at zh_dL_law_280_280 5 rfl)
theorem dL_law_286 : decode cL_law 286 = .ok (.iadd, 1) := zo_96 (zi_at zh_dL_law_280_280 6 rfl)
theorem dL_law_287 : decode cL_law 287 = .ok (.iaload, 1) := zo_46 (zi_at zh_dL_law_280_280 7 rfl)
theorem dL_law_288 : decode cL_law 288 = .ok (.aload_n 0, 1) := zo_42 (zi_at zh_dL_law_280_280 8 rfl)
theorem dL_law_289 : decode cL_law 289 = .ok (.iload 4, 2) := zo_21 (zi_at zh_dL_law_280_280 9 rfl) (zi_at zh_dL_law_280_280 10 rfl)
theorem dL_law_291 : decode cL_law 291 = .ok (.iconst 2, 1) := zo_5 (zi_at zh_dL_law_280_280 11 rfl)
theorem dL_law_292 : decode cL_law 292 = .ok (.iadd, 1) := zo_96 (zi_at zh_dL_law_280_280 12 rfl)
theorem dL_law_293 : decode cL_law 293 = .ok (.iaload, 1) := zo_46 (zi_at zh_dL_law_280_280 13 rfl)
theorem dL_law_294 : decode cL_law 294 = .ok (.aload_n 0, 1) := zo_42 (zi_at zh_dL_law_280_280 14 rfl)
theorem dL_law_295 : decode cL_law 295 = .ok (.iload 4, 2) := zo_21 (zi_at zh_dL_law_280_280 15 rfl) (zi_at zh_dL_law_280_280 16 rfl)
theorem dL_law_297 : decode cL_law 297 = .ok (.iconst 3, 1) := zo_6 (zi_at zh_dL_law_280_280 17 rfl)
theorem dL_law_298 : decode cL_law 298 = .ok (.iadd, 1) := zo_96 (zi_at zh_dL_law_280_280 18 rfl)
theorem dL_law_299 : decode cL_law 299 = .ok (.iaload, 1) := zo_46 (zi_at zh_dL_law_280_280 19 rfl)
theorem dL_law_300 : decode cL_law 300 = .ok (.aload_n 0, 1) := zo_42 (zi_at zh_dL_law_280_280 20 rfl)
theorem dL_law_301 : decode cL_law 301 = .ok (.iload 4, 2) := zo_21 (zi_at zh_dL_law_280_280 21 rfl) (zi_at zh_dL_law_280_280 22 rfl)
theorem dL_law_303 : decode cL_law 303 = .ok (.iconst 4, 1) := zo_7 (zi_at zh_dL_law_280_280 23 rfl)
theorem dL_law_304 : decode cL_law 304 = .ok (.iadd, 1) := zo_96 (zi_at zh_dL_law_280_280 24 rfl)
theorem dL_law_305 : decode cL_law 305 = .ok (.iaload, 1) := zo_46 (zi_at zh_dL_law_280_280 25 rfl)
theorem dL_law_306 : decode cL_law 306 = .ok (.aload_n 0, 1) := zo_42 (zi_at zh_dL_law_280_280 26 rfl)
theorem dL_law_307 : decode cL_law 307 = .ok (.iload 4, 2) := zo_21 (zi_at zh_dL_law_280_280 27 rfl) (zi_at zh_dL_law_280_280 28 rfl)
theorem dL_law_309 : decode cL_law 309 = .ok (.iconst 5, 1) := zo_8 (zi_at zh_dL_law_280_280 29 rfl)
theorem dL_law_310 : decode cL_law 310 = .ok (.iadd, 1) := zo_96 (zi_at zh_dL_law_280_280 30 rfl)
theorem dL_law_311 : decode cL_law 311 = .ok (.iaload, 1) := zo_46 (zi_at zh_dL_law_280_280 31 rfl)
theorem dL_law_312 : decode cL_law 312 = .ok (.invokevirtual 33, 3) := zo_182 (zi_at zh_dL_law_280_280 32 rfl) (zi_at zh_dL_law_280_280 33 rfl) (zi_at zh_dL_law_280_280 34 rfl) rfl
theorem dL_law_315 : decode cL_law 315 = .ok (.pop, 1) := zo_87 (zi_at zh_dL_law_280_280 35 rfl)
theorem dL_law_316 : decode cL_law 316 = .ok (.goto 1543, 3) := zo_167 (zi_at zh_dL_law_280_280 36 rfl) (zi_at zh_dL_law_280_280 37 rfl) (zi_at zh_dL_law_280_280 38 rfl) rfl
theorem dL_law_319 : decode cL_law 319 = .ok (.aload_n 1, 1) := zo_43 (zi_at zh_dL_law_280_280 39 rfl)
theorem dL_law_320 : decode cL_law 320 = .ok (.aload_n 0, 1) := zo_42 (zi_at zh_dL_law_320_320 0 rfl)
theorem dL_law_321 : decode cL_law 321 = .ok (.iload 4, 2) := zo_21 (zi_at zh_dL_law_320_320 1 rfl) (zi_at zh_dL_law_320_320 2 rfl)
theorem dL_law_323 : decode cL_law 323 = .ok (.iconst 1, 1) := zo_4 (zi_at zh_dL_law_320_320 3 rfl)
theorem dL_law_324 : decode cL_law 324 = .ok (.iadd, 1) := zo_96 (zi_at zh_dL_law_320_320 4 rfl)
theorem dL_law_325 : decode cL_law 325 = .ok (.iaload, 1) := zo_46 (zi_at zh_dL_law_320_320 5 rfl)
theorem dL_law_326 : decode cL_law 326 = .ok (.aload_n 0, 1) := zo_42 (zi_at zh_dL_law_320_320 6 rfl)
theorem dL_law_327 : decode cL_law 327 = .ok (.iload 4, 2) := zo_21 (zi_at zh_dL_law_320_320 7 rfl) (zi_at zh_dL_law_320_320 8 rfl)
theorem dL_law_329 : decode cL_law 329 = .ok (.iconst 2, 1) := zo_5 (zi_at zh_dL_law_320_320 9 rfl)
theorem dL_law_330 : decode cL_law 330 = .ok (.iadd, 1) := zo_96 (zi_at zh_dL_law_320_320 10 rfl)
theorem dL_law_331 : decode cL_law 331 = .ok (.iaload, 1) := zo_46 (zi_at zh_dL_law_320_320 11 rfl)
theorem dL_law_332 : decode cL_law 332 = .ok (.aload_n 0, 1) := zo_42 (zi_at zh_dL_law_320_320 12 rfl)
theorem dL_law_333 : decode cL_law 333 = .ok (.iload 4, 2) := zo_21 (zi_at zh_dL_law_320_320 13 rfl) (zi_at zh_dL_law_320_320 14 rfl)
theorem dL_law_335 : decode cL_law 335 = .ok (.iconst 3, 1) := zo_6 (zi_at zh_dL_law_320_320 15 rfl)
theorem dL_law_336 : decode cL_law 336 = .ok (.iadd, 1) := zo_96 (zi_at zh_dL_law_320_320 16 rfl)
theorem dL_law_337 : decode cL_law 337 = .ok (.iaload, 1) := zo_46 (zi_at zh_dL_law_320_320 17 rfl)
theorem dL_law_338 : decode cL_law 338 = .ok (.invokevirtual 34, 3) := zo_182 (zi_at zh_dL_law_320_320 18 rfl) (zi_at zh_dL_law_320_320 19 rfl) (zi_at zh_dL_law_320_320 20 rfl) rfl
theorem dL_law_341 : decode cL_law 341 = .ok (.pop, 1) := zo_87 (zi_at zh_dL_law_320_320 21 rfl)
theorem dL_law_342 : decode cL_law 342 = .ok (.aload_n 2, 1) := zo_44 (zi_at zh_dL_law_320_320 22 rfl)
theorem dL_law_343 : decode cL_law 343 = .ok (.aload_n 0, 1) := zo_42 (zi_at zh_dL_law_320_320 23 rfl)
theorem dL_law_344 : decode cL_law 344 = .ok (.iload 4, 2) := zo_21 (zi_at zh_dL_law_320_320 24 rfl) (zi_at zh_dL_law_320_320 25 rfl)
theorem dL_law_346 : decode cL_law 346 = .ok (.iconst 1, 1) := zo_4 (zi_at zh_dL_law_320_320 26 rfl)
theorem dL_law_347 : decode cL_law 347 = .ok (.iadd, 1) := zo_96 (zi_at zh_dL_law_320_320 27 rfl)
theorem dL_law_348 : decode cL_law 348 = .ok (.iaload, 1) := zo_46 (zi_at zh_dL_law_320_320 28 rfl)
theorem dL_law_349 : decode cL_law 349 = .ok (.aload_n 0, 1) := zo_42 (zi_at zh_dL_law_320_320 29 rfl)
theorem dL_law_350 : decode cL_law 350 = .ok (.iload 4, 2) := zo_21 (zi_at zh_dL_law_320_320 30 rfl) (zi_at zh_dL_law_320_320 31 rfl)
theorem dL_law_352 : decode cL_law 352 = .ok (.iconst 2, 1) := zo_5 (zi_at zh_dL_law_320_320 32 rfl)
theorem dL_law_353 : decode cL_law 353 = .ok (.iadd, 1) := zo_96 (zi_at zh_dL_law_320_320 33 rfl)
theorem dL_law_354 : decode cL_law 354 = .ok (.iaload, 1) := zo_46 (zi_at zh_dL_law_320_320 34 rfl)
theorem dL_law_355 : decode cL_law 355 = .ok (.aload_n 0, 1) := zo_42 (zi_at zh_dL_law_320_320 35 rfl)
theorem dL_law_356 : decode cL_law 356 = .ok (.iload 4, 2) := zo_21 (zi_at zh_dL_law_320_320 36 rfl) (zi_at zh_dL_law_320_320 37 rfl)
theorem dL_law_358 : decode cL_law 358 = .ok (.iconst 3, 1) := zo_6 (zi_at zh_dL_law_320_320 38 rfl)
theorem dL_law_359 : decode cL_law 359 = .ok (.iadd, 1) := zo_96 (zi_at zh_dL_law_320_320 39 rfl)
theorem dL_law_360 : decode cL_law 360 = .ok (.iaload, 1) := zo_46 (zi_at zh_dL_law_360_360 0 rfl)
theorem dL_law_361 : decode cL_law 361 = .ok (.invokevirtual 38, 3) := zo_182 (zi_at zh_dL_law_360_360 1 rfl) (zi_at zh_dL_law_360_360 2 rfl) (zi_at zh_dL_law_360_360 3 rfl) rfl
theorem dL_law_364 : decode cL_law 364 = .ok (.pop, 1) := zo_87 (zi_at zh_dL_law_360_360 4 rfl)
theorem dL_law_365 : decode cL_law 365 = .ok (.goto 1494, 3) := zo_167 (zi_at zh_dL_law_360_360 5 rfl) (zi_at zh_dL_law_360_360 6 rfl) (zi_at zh_dL_law_360_360 7 rfl) rfl
theorem dL_law_368 : decode cL_law 368 = .ok (.aload_n 1, 1) := zo_43 (zi_at zh_dL_law_360_360 8 rfl)
theorem dL_law_369 : decode cL_law 369 = .ok (.aload_n 0, 1) := zo_42 (zi_at zh_dL_law_360_360 9 rfl)
theorem dL_law_370 : decode cL_law 370 = .ok (.iload 4, 2) := zo_21 (zi_at zh_dL_law_360_360 10 rfl) (zi_at zh_dL_law_360_360 11 rfl)
theorem dL_law_372 : decode cL_law 372 = .ok (.iconst 1, 1) := zo_4 (zi_at zh_dL_law_360_360 12 rfl)
theorem dL_law_373 : decode cL_law 373 = .ok (.iadd, 1) := zo_96 (zi_at zh_dL_law_360_360 13 rfl)
theorem dL_law_374 : decode cL_law 374 = .ok (.iaload, 1) := zo_46 (zi_at zh_dL_law_360_360 14 rfl)
theorem dL_law_375 : decode cL_law 375 = .ok (.aload_n 0, 1) := zo_42 (zi_at zh_dL_law_360_360 15 rfl)
theorem dL_law_376 : decode cL_law 376 = .ok (.iload 4, 2) := zo_21 (zi_at zh_dL_law_360_360 16 rfl) (zi_at zh_dL_law_360_360 17 rfl)
theorem dL_law_378 : decode cL_law 378 = .ok (.iconst 2, 1) := zo_5 (zi_at zh_dL_law_360_360 18 rfl)
theorem dL_law_379 : decode cL_law 379 = .ok (.iadd, 1) := zo_96 (zi_at zh_dL_law_360_360 19 rfl)
theorem dL_law_380 : decode cL_law 380 = .ok (.iaload, 1) := zo_46 (zi_at zh_dL_law_360_360 20 rfl)
theorem dL_law_381 : decode cL_law 381 = .ok (.aload_n 0, 1) := zo_42 (zi_at zh_dL_law_360_360 21 rfl)
theorem dL_law_382 : decode cL_law 382 = .ok (.iload 4, 2) := zo_21 (zi_at zh_dL_law_360_360 22 rfl) (zi_at zh_dL_law_360_360 23 rfl)
theorem dL_law_384 : decode cL_law 384 = .ok (.iconst 3, 1) := zo_6 (zi_at zh_dL_law_360_360 24 rfl)
theorem dL_law_385 : decode cL_law 385 = .ok (.iadd, 1) := zo_96 (zi_at zh_dL_law_360_360 25 rfl)
theorem dL_law_386 : decode cL_law 386 = .ok (.iaload, 1) := zo_46 (zi_at zh_dL_law_360_360 26 rfl)
theorem dL_law_387 : decode cL_law 387 = .ok (.aload_n 0, 1) := zo_42 (zi_at zh_dL_law_360_360 27 rfl)
theorem dL_law_388 : decode cL_law 388 = .ok (.iload 4, 2) := zo_21 (zi_at zh_dL_law_360_360 28 rfl) (zi_at zh_dL_law_360_360 29 rfl)
theorem dL_law_390 : decode cL_law 390 = .ok (.iconst 4, 1) := zo_7 (zi_at zh_dL_law_360_360 30 rfl)
theorem dL_law_391 : decode cL_law 391 = .ok (.iadd, 1) := zo_96 (zi_at zh_dL_law_360_360 31 rfl)
theorem dL_law_392 : decode cL_law 392 = .ok (.iaload, 1) := zo_46 (zi_at zh_dL_law_360_360 32 rfl)
theorem dL_law_393 : decode cL_law 393 = .ok (.aload_n 0, 1) := zo_42 (zi_at zh_dL_law_360_360 33 rfl)
theorem dL_law_394 : decode cL_law 394 = .ok (.iload 4, 2) := zo_21 (zi_at zh_dL_law_360_360 34 rfl) (zi_at zh_dL_law_360_360 35 rfl)
theorem dL_law_396 : decode cL_law 396 = .ok (.iconst 5, 1) := zo_8 (zi_at zh_dL_law_360_360 36 rfl)
theorem dL_law_397 : decode cL_law 397 = .ok (.iadd, 1) := zo_96 (zi_at zh_dL_law_360_360 37 rfl)
theorem dL_law_398 : decode cL_law 398 = .ok (.iaload, 1) := zo_46 (zi_at zh_dL_law_360_360 38 rfl)
theorem dL_law_399 : decode cL_law 399 = .ok (.invokevirtual 39, 3) := zo_182 (zi_at zh_dL_law_360_360 39 rfl) (zi_at zh_dL_law_399_400 0 rfl) (zi_at zh_dL_law_399_400 1 rfl) rfl
theorem dL_law_402 : decode cL_law 402 = .ok (.pop, 1) := zo_87 (zi_at zh_dL_law_399_400 2 rfl)
theorem dL_law_403 : decode cL_law 403 = .ok (.aload_n 2, 1) := zo_44 (zi_at zh_dL_law_399_400 3 rfl)
theorem dL_law_404 : decode cL_law 404 = .ok (.aload_n 0, 1) := zo_42 (zi_at zh_dL_law_399_400 4 rfl)
theorem dL_law_405 : decode cL_law 405 = .ok (.iload 4, 2) := zo_21 (zi_at zh_dL_law_399_400 5 rfl) (zi_at zh_dL_law_399_400 6 rfl)
theorem dL_law_407 : decode cL_law 407 = .ok (.iconst 1, 1) := zo_4 (zi_at zh_dL_law_399_400 7 rfl)
theorem dL_law_408 : decode cL_law 408 = .ok (.iadd, 1) := zo_96 (zi_at zh_dL_law_399_400 8 rfl)
theorem dL_law_409 : decode cL_law 409 = .ok (.iaload, 1) := zo_46 (zi_at zh_dL_law_399_400 9 rfl)
theorem dL_law_410 : decode cL_law 410 = .ok (.aload_n 0, 1) := zo_42 (zi_at zh_dL_law_399_400 10 rfl)
theorem dL_law_411 : decode cL_law 411 = .ok (.iload 4, 2) := zo_21 (zi_at zh_dL_law_399_400 11 rfl) (zi_at zh_dL_law_399_400 12 rfl)
theorem dL_law_413 : decode cL_law 413 = .ok (.iconst 2, 1) := zo_5 (zi_at zh_dL_law_399_400 13 rfl)
theorem dL_law_414 : decode cL_law 414 = .ok (.iadd, 1) := zo_96 (zi_at zh_dL_law_399_400 14 rfl)
theorem dL_law_415 : decode cL_law 415 = .ok (.iaload, 1) := zo_46 (zi_at zh_dL_law_399_400 15 rfl)
theorem dL_law_416 : decode cL_law 416 = .ok (.aload_n 0, 1) := zo_42 (zi_at zh_dL_law_399_400 16 rfl)
theorem dL_law_417 : decode cL_law 417 = .ok (.iload 4, 2) := zo_21 (zi_at zh_dL_law_399_400 17 rfl) (zi_at zh_dL_law_399_400 18 rfl)
theorem dL_law_419 : decode cL_law 419 = .ok (.iconst 3, 1) := zo_6 (zi_at zh_dL_law_399_400 19 rfl)
theorem dL_law_420 : decode cL_law 420 = .ok (.iadd, 1) := zo_96 (zi_at zh_dL_law_399_400 20 rfl)
theorem dL_law_421 : decode cL_law 421 = .ok (.iaload, 1) := zo_46 (zi_at zh_dL_law_399_400 21 rfl)
theorem dL_law_422 : decode cL_law 422 = .ok (.aload_n 0, 1) := zo_42 (zi_at zh_dL_law_399_400 22 rfl)
theorem dL_law_423 : decode cL_law 423 = .ok (.iload 4, 2) := zo_21 (zi_at zh_dL_law_399_400 23 rfl) (zi_at zh_dL_law_399_400 24 rfl)
theorem dL_law_425 : decode cL_law 425 = .ok (.iconst 4, 1) := zo_7 (zi_at zh_dL_law_399_400 25 rfl)
theorem dL_law_426 : decode cL_law 426 = .ok (.iadd, 1) := zo_96 (zi_at zh_dL_law_399_400 26 rfl)
theorem dL_law_427 : decode cL_law 427 = .ok (.iaload, 1) := zo_46 (zi_at zh_dL_law_399_400 27 rfl)
theorem dL_law_428 : decode cL_law 428 = .ok (.aload_n 0, 1) := zo_42 (zi_at zh_dL_law_399_400 28 rfl)
theorem dL_law_429 : decode cL_law 429 = .ok (.iload 4, 2) := zo_21 (zi_at zh_dL_law_399_400 29 rfl) (zi_at zh_dL_law_399_400 30 rfl)
theorem dL_law_431 : decode cL_law 431 = .ok (.iconst 5, 1) := zo_8 (zi_at zh_dL_law_399_400 31 rfl)
theorem dL_law_432 : decode cL_law 432 = .ok (.iadd, 1) := zo_96 (zi_at zh_dL_law_399_400 32 rfl)
theorem dL_law_433 : decode cL_law 433 = .ok (.iaload, 1) := zo_46 (zi_at zh_dL_law_399_400 33 rfl)
theorem dL_law_434 : decode cL_law 434 = .ok (.invokevirtual 42, 3) := zo_182 (zi_at zh_dL_law_399_400 34 rfl) (zi_at zh_dL_law_399_400 35 rfl) (zi_at zh_dL_law_399_400 36 rfl) rfl
theorem dL_law_437 : decode cL_law 437 = .ok (.pop, 1) := zo_87 (zi_at zh_dL_law_399_400 37 rfl)
theorem dL_law_438 : decode cL_law 438 = .ok (.goto 1421, 3) := zo_167 (zi_at zh_dL_law_399_400 38 rfl) (zi_at zh_dL_law_399_400 39 rfl) (zi_at zh_dL_law_438_440 0 rfl) rfl
theorem dL_law_441 : decode cL_law 441 = .ok (.aload_n 1, 1) := zo_43 (zi_at zh_dL_law_438_440 1 rfl)
theorem dL_law_442 : decode cL_law 442 = .ok (.aload_n 0, 1) := zo_42 (zi_at zh_dL_law_438_440 2 rfl)
theorem dL_law_443 : decode cL_law 443 = .ok (.iload 4, 2) := zo_21 (zi_at zh_dL_law_438_440 3 rfl) (zi_at zh_dL_law_438_440 4 rfl)
theorem dL_law_445 : decode cL_law 445 = .ok (.iconst 1, 1) := zo_4 (zi_at zh_dL_law_438_440 5 rfl)
theorem dL_law_446 : decode cL_law 446 = .ok (.iadd, 1) := zo_96 (zi_at zh_dL_law_438_440 6 rfl)
theorem dL_law_447 : decode cL_law 447 = .ok (.iaload, 1) := zo_46 (zi_at zh_dL_law_438_440 7 rfl)
theorem dL_law_448 : decode cL_law 448 = .ok (.invokevirtual 43, 3) := zo_182 (zi_at zh_dL_law_438_440 8 rfl) (zi_at zh_dL_law_438_440 9 rfl) (zi_at zh_dL_law_438_440 10 rfl) rfl
theorem dL_law_451 : decode cL_law 451 = .ok (.pop, 1) := zo_87 (zi_at zh_dL_law_438_440 11 rfl)
theorem dL_law_452 : decode cL_law 452 = .ok (.aload_n 2, 1) := zo_44 (zi_at zh_dL_law_438_440 12 rfl)
theorem dL_law_453 : decode cL_law 453 = .ok (.aload_n 0, 1) := zo_42 (zi_at zh_dL_law_438_440 13 rfl)
theorem dL_law_454 : decode cL_law 454 = .ok (.iload 4, 2) := zo_21 (zi_at zh_dL_law_438_440 14 rfl) (zi_at zh_dL_law_438_440 15 rfl)
theorem dL_law_456 : decode cL_law 456 = .ok (.iconst 1, 1) := zo_4 (zi_at zh_dL_law_438_440 16 rfl)
theorem dL_law_457 : decode cL_law 457 = .ok (.iadd, 1) := zo_96 (zi_at zh_dL_law_438_440 17 rfl)
theorem dL_law_458 : decode cL_law 458 = .ok (.iaload, 1) := zo_46 (zi_at zh_dL_law_438_440 18 rfl)
theorem dL_law_459 : decode cL_law 459 = .ok (.invokevirtual 47, 3) := zo_182 (zi_at zh_dL_law_438_440 19 rfl) (zi_at zh_dL_law_438_440 20 rfl) (zi_at zh_dL_law_438_440 21 rfl) rfl
theorem dL_law_462 : decode cL_law 462 = .ok (.pop, 1) := zo_87 (zi_at zh_dL_law_438_440 22 rfl)
theorem dL_law_463 : decode cL_law 463 = .ok (.goto 1396, 3) := zo_167 (zi_at zh_dL_law_438_440 23 rfl) (zi_at zh_dL_law_438_440 24 rfl) (zi_at zh_dL_law_438_440 25 rfl) rfl
theorem dL_law_466 : decode cL_law 466 = .ok (.aload_n 1, 1) := zo_43 (zi_at zh_dL_law_438_440 26 rfl)
theorem dL_law_467 : decode cL_law 467 = .ok (.invokevirtual 48, 3) := zo_182 (zi_at zh_dL_law_438_440 27 rfl) (zi_at zh_dL_law_438_440 28 rfl) (zi_at zh_dL_law_438_440 29 rfl) rfl
theorem dL_law_470 : decode cL_law 470 = .ok (.pop, 1) := zo_87 (zi_at zh_dL_law_438_440 30 rfl)
theorem dL_law_471 : decode cL_law 471 = .ok (.aload_n 2, 1) := zo_44 (zi_at zh_dL_law_438_440 31 rfl)
theorem dL_law_472 : decode cL_law 472 = .ok (.invokevirtual 51, 3) := zo_182 (zi_at zh_dL_law_438_440 32 rfl) (zi_at zh_dL_law_438_440 33 rfl) (zi_at zh_dL_law_438_440 34 rfl) rfl
theorem dL_law_475 : decode cL_law 475 = .ok (.pop, 1) := zo_87 (zi_at zh_dL_law_438_440 35 rfl)
theorem dL_law_476 : decode cL_law 476 = .ok (.goto 1383, 3) := zo_167 (zi_at zh_dL_law_438_440 36 rfl) (zi_at zh_dL_law_438_440 37 rfl) (zi_at zh_dL_law_438_440 38 rfl) rfl
theorem dL_law_479 : decode cL_law 479 = .ok (.aload_n 1, 1) := zo_43 (zi_at zh_dL_law_438_440 39 rfl)
theorem dL_law_480 : decode cL_law 480 = .ok (.aload_n 0, 1) := zo_42 (zi_at zh_dL_law_480_480 0 rfl)
theorem dL_law_481 : decode cL_law 481 = .ok (.iload 4, 2) := zo_21 (zi_at zh_dL_law_480_480 1 rfl) (zi_at zh_dL_law_480_480 2 rfl)
theorem dL_law_483 : decode cL_law 483 = .ok (.iconst 1, 1) := zo_4 (zi_at zh_dL_law_480_480 3 rfl)
theorem dL_law_484 : decode cL_law 484 = .ok (.iadd, 1) := zo_96 (zi_at zh_dL_law_480_480 4 rfl)
theorem dL_law_485 : decode cL_law 485 = .ok (.iaload, 1) := zo_46 (zi_at zh_dL_law_480_480 5 rfl)
theorem dL_law_486 : decode cL_law 486 = .ok (.invokevirtual 52, 3) := zo_182 (zi_at zh_dL_law_480_480 6 rfl) (zi_at zh_dL_law_480_480 7 rfl) (zi_at zh_dL_law_480_480 8 rfl) rfl
theorem dL_law_489 : decode cL_law 489 = .ok (.pop, 1) := zo_87 (zi_at zh_dL_law_480_480 9 rfl)
theorem dL_law_490 : decode cL_law 490 = .ok (.aload_n 2, 1) := zo_44 (zi_at zh_dL_law_480_480 10 rfl)
theorem dL_law_491 : decode cL_law 491 = .ok (.aload_n 0, 1) := zo_42 (zi_at zh_dL_law_480_480 11 rfl)
theorem dL_law_492 : decode cL_law 492 = .ok (.iload 4, 2) := zo_21 (zi_at zh_dL_law_480_480 12 rfl) (zi_at zh_dL_law_480_480 13 rfl)
theorem dL_law_494 : decode cL_law 494 = .ok (.iconst 1, 1) := zo_4 (zi_at zh_dL_law_480_480 14 rfl)
theorem dL_law_495 : decode cL_law 495 = .ok (.iadd, 1) := zo_96 (zi_at zh_dL_law_480_480 15 rfl)
theorem dL_law_496 : decode cL_law 496 = .ok (.iaload, 1) := zo_46 (zi_at zh_dL_law_480_480 16 rfl)
theorem dL_law_497 : decode cL_law 497 = .ok (.invokevirtual 55, 3) := zo_182 (zi_at zh_dL_law_480_480 17 rfl) (zi_at zh_dL_law_480_480 18 rfl) (zi_at zh_dL_law_480_480 19 rfl) rfl
theorem dL_law_500 : decode cL_law 500 = .ok (.pop, 1) := zo_87 (zi_at zh_dL_law_480_480 20 rfl)
theorem dL_law_501 : decode cL_law 501 = .ok (.goto 1358, 3) := zo_167 (zi_at zh_dL_law_480_480 21 rfl) (zi_at zh_dL_law_480_480 22 rfl) (zi_at zh_dL_law_480_480 23 rfl) rfl
theorem dL_law_504 : decode cL_law 504 = .ok (.aload_n 1, 1) := zo_43 (zi_at zh_dL_law_480_480 24 rfl)
theorem dL_law_505 : decode cL_law 505 = .ok (.aload_n 0, 1) := zo_42 (zi_at zh_dL_law_480_480 25 rfl)
theorem dL_law_506 : decode cL_law 506 = .ok (.iload 4, 2) := zo_21 (zi_at zh_dL_law_480_480 26 rfl) (zi_at zh_dL_law_480_480 27 rfl)
theorem dL_law_508 : decode cL_law 508 = .ok (.iconst 1, 1) := zo_4 (zi_at zh_dL_law_480_480 28 rfl)
theorem dL_law_509 : decode cL_law 509 = .ok (.iadd, 1) := zo_96 (zi_at zh_dL_law_480_480 29 rfl)
theorem dL_law_510 : decode cL_law 510 = .ok (.iaload, 1) := zo_46 (zi_at zh_dL_law_480_480 30 rfl)
theorem dL_law_511 : decode cL_law 511 = .ok (.aload_n 0, 1) := zo_42 (zi_at zh_dL_law_480_480 31 rfl)
theorem dL_law_512 : decode cL_law 512 = .ok (.iload 4, 2) := zo_21 (zi_at zh_dL_law_480_480 32 rfl) (zi_at zh_dL_law_480_480 33 rfl)
theorem dL_law_514 : decode cL_law 514 = .ok (.iconst 2, 1) := zo_5 (zi_at zh_dL_law_480_480 34 rfl)
theorem dL_law_515 : decode cL_law 515 = .ok (.iadd, 1) := zo_96 (zi_at zh_dL_law_480_480 35 rfl)
theorem dL_law_516 : decode cL_law 516 = .ok (.iaload, 1) := zo_46 (zi_at zh_dL_law_480_480 36 rfl)
theorem dL_law_517 : decode cL_law 517 = .ok (.invokevirtual 56, 3) := zo_182 (zi_at zh_dL_law_480_480 37 rfl) (zi_at zh_dL_law_480_480 38 rfl) (zi_at zh_dL_law_480_480 39 rfl) rfl
theorem dL_law_520 : decode cL_law 520 = .ok (.pop, 1) := zo_87 (zi_at zh_dL_law_520_520 0 rfl)
theorem dL_law_521 : decode cL_law 521 = .ok (.aload_n 2, 1) := zo_44 (zi_at zh_dL_law_520_520 1 rfl)
theorem dL_law_522 : decode cL_law 522 = .ok (.aload_n 0, 1) := zo_42 (zi_at zh_dL_law_520_520 2 rfl)
theorem dL_law_523 : decode cL_law 523 = .ok (.iload 4, 2) := zo_21 (zi_at zh_dL_law_520_520 3 rfl) (zi_at zh_dL_law_520_520 4 rfl)
theorem dL_law_525 : decode cL_law 525 = .ok (.iconst 1, 1) := zo_4 (zi_at zh_dL_law_520_520 5 rfl)
theorem dL_law_526 : decode cL_law 526 = .ok (.iadd, 1) := zo_96 (zi_at zh_dL_law_520_520 6 rfl)
theorem dL_law_527 : decode cL_law 527 = .ok (.iaload, 1) := zo_46 (zi_at zh_dL_law_520_520 7 rfl)
theorem dL_law_528 : decode cL_law 528 = .ok (.aload_n 0, 1) := zo_42 (zi_at zh_dL_law_520_520 8 rfl)
theorem dL_law_529 : decode cL_law 529 = .ok (.iload 4, 2) := zo_21 (zi_at zh_dL_law_520_520 9 rfl) (zi_at zh_dL_law_520_520 10 rfl)
theorem dL_law_531 : decode cL_law 531 = .ok (.iconst 2, 1) := zo_5 (zi_at zh_dL_law_520_520 11 rfl)
theorem dL_law_532 : decode cL_law 532 = .ok (.iadd, 1) := zo_96 (zi_at zh_dL_law_520_520 12 rfl)
theorem dL_law_533 : decode cL_law 533 = .ok (.iaload, 1) := zo_46 (zi_at zh_dL_law_520_520 13 rfl)
theorem dL_law_534 : decode cL_law 534 = .ok (.invokevirtual 59, 3) := zo_182 (zi_at zh_dL_law_520_520 14 rfl) (zi_at zh_dL_law_520_520 15 rfl) (zi_at zh_dL_law_520_520 16 rfl) rfl
theorem dL_law_537 : decode cL_law 537 = .ok (.pop, 1) := zo_87 (zi_at zh_dL_law_520_520 17 rfl)
theorem dL_law_538 : decode cL_law 538 = .ok (.goto 1321, 3) := zo_167 (zi_at zh_dL_law_520_520 18 rfl) (zi_at zh_dL_law_520_520 19 rfl) (zi_at zh_dL_law_520_520 20 rfl) rfl
theorem dL_law_541 : decode cL_law 541 = .ok (.aload_n 1, 1) := zo_43 (zi_at zh_dL_law_520_520 21 rfl)
theorem dL_law_542 : decode cL_law 542 = .ok (.aload_n 0, 1) := zo_42 (zi_at zh_dL_law_520_520 22 rfl)
theorem dL_law_543 : decode cL_law 543 = .ok (.iload 4, 2) := zo_21 (zi_at zh_dL_law_520_520 23 rfl) (zi_at zh_dL_law_520_520 24 rfl)
theorem dL_law_545 : decode cL_law 545 = .ok (.iconst 1, 1) := zo_4 (zi_at zh_dL_law_520_520 25 rfl)
theorem dL_law_546 : decode cL_law 546 = .ok (.iadd, 1) := zo_96 (zi_at zh_dL_law_520_520 26 rfl)
theorem dL_law_547 : decode cL_law 547 = .ok (.iaload, 1) := zo_46 (zi_at zh_dL_law_520_520 27 rfl)
theorem dL_law_548 : decode cL_law 548 = .ok (.aload_n 0, 1) := zo_42 (zi_at zh_dL_law_520_520 28 rfl)
theorem dL_law_549 : decode cL_law 549 = .ok (.iload 4, 2) := zo_21 (zi_at zh_dL_law_520_520 29 rfl) (zi_at zh_dL_law_520_520 30 rfl)
theorem dL_law_551 : decode cL_law 551 = .ok (.iconst 2, 1) := zo_5 (zi_at zh_dL_law_520_520 31 rfl)
theorem dL_law_552 : decode cL_law 552 = .ok (.iadd, 1) := zo_96 (zi_at zh_dL_law_520_520 32 rfl)
theorem dL_law_553 : decode cL_law 553 = .ok (.iaload, 1) := zo_46 (zi_at zh_dL_law_520_520 33 rfl)
theorem dL_law_554 : decode cL_law 554 = .ok (.aload_n 0, 1) := zo_42 (zi_at zh_dL_law_520_520 34 rfl)
theorem dL_law_555 : decode cL_law 555 = .ok (.iload 4, 2) := zo_21 (zi_at zh_dL_law_520_520 35 rfl) (zi_at zh_dL_law_520_520 36 rfl)
theorem dL_law_557 : decode cL_law 557 = .ok (.iconst 3, 1) := zo_6 (zi_at zh_dL_law_520_520 37 rfl)
theorem dL_law_558 : decode cL_law 558 = .ok (.iadd, 1) := zo_96 (zi_at zh_dL_law_520_520 38 rfl)
theorem dL_law_559 : decode cL_law 559 = .ok (.iaload, 1) := zo_46 (zi_at zh_dL_law_520_520 39 rfl)
theorem dL_law_560 : decode cL_law 560 = .ok (.invokevirtual 60, 3) := zo_182 (zi_at zh_dL_law_560_560 0 rfl) (zi_at zh_dL_law_560_560 1 rfl) (zi_at zh_dL_law_560_560 2 rfl) rfl
theorem dL_law_563 : decode cL_law 563 = .ok (.pop, 1) := zo_87 (zi_at zh_dL_law_560_560 3 rfl)
theorem dL_law_564 : decode cL_law 564 = .ok (.aload_n 2, 1) := zo_44 (zi_at zh_dL_law_560_560 4 rfl)
theorem dL_law_565 : decode cL_law 565 = .ok (.aload_n 0, 1) := zo_42 (zi_at zh_dL_law_560_560 5 rfl)
theorem dL_law_566 : decode cL_law 566 = .ok (.iload 4, 2) := zo_21 (zi_at zh_dL_law_560_560 6 rfl) (zi_at zh_dL_law_560_560 7 rfl)
theorem dL_law_568 : decode cL_law 568 = .ok (.iconst 1, 1) := zo_4 (zi_at zh_dL_law_560_560 8 rfl)
theorem dL_law_569 : decode cL_law 569 = .ok (.iadd, 1) := zo_96 (zi_at zh_dL_law_560_560 9 rfl)
theorem dL_law_570 : decode cL_law 570 = .ok (.iaload, 1) := zo_46 (zi_at zh_dL_law_560_560 10 rfl)
theorem dL_law_571 : decode cL_law 571 = .ok (.aload_n 0, 1) := zo_42 (zi_at zh_dL_law_560_560 11 rfl)
theorem dL_law_572 : decode cL_law 572 = .ok (.iload 4, 2) := zo_21 (zi_at zh_dL_law_560_560 12 rfl) (zi_at zh_dL_law_560_560 13 rfl)
theorem dL_law_574 : decode cL_law 574 = .ok (.iconst 2, 1) := zo_5 (zi_at zh_dL_law_560_560 14 rfl)
theorem dL_law_575 : decode cL_law 575 = .ok (.iadd, 1) := zo_96 (zi_at zh_dL_law_560_560 15 rfl)
theorem dL_law_576 : decode cL_law 576 = .ok (.iaload, 1) := zo_46 (zi_at zh_dL_law_560_560 16 rfl)
theorem dL_law_577 : decode cL_law 577 = .ok (.aload_n 0, 1) := zo_42 (zi_at zh_dL_law_560_560 17 rfl)
theorem dL_law_578 : decode cL_law 578 = .ok (.iload 4, 2) := zo_21 (zi_at zh_dL_law_560_560 18 rfl) (zi_at zh_dL_law_560_560 19 rfl)
theorem dL_law_580 : decode cL_law 580 = .ok (.iconst 3, 1) := zo_6 (zi_at zh_dL_law_560_560 20 rfl)
theorem dL_law_581 : decode cL_law 581 = .ok (.iadd, 1) := zo_96 (zi_at zh_dL_law_560_560 21 rfl)
theorem dL_law_582 : decode cL_law 582 = .ok (.iaload, 1) := zo_46 (zi_at zh_dL_law_560_560 22 rfl)
theorem dL_law_583 : decode cL_law 583 = .ok (.invokevirtual 63, 3) := zo_182 (zi_at zh_dL_law_560_560 23 rfl) (zi_at zh_dL_law_560_560 24 rfl) (zi_at zh_dL_law_560_560 25 rfl) rfl
theorem dL_law_586 : decode cL_law 586 = .ok (.pop, 1) := zo_87 (zi_at zh_dL_law_560_560 26 rfl)
theorem dL_law_587 : decode cL_law 587 = .ok (.goto 1272, 3) := zo_167 (zi_at zh_dL_law_560_560 27 rfl) (zi_at zh_dL_law_560_560 28 rfl) (zi_at zh_dL_law_560_560 29 rfl) rfl
theorem hz_yX12_days_1 : yX12_days.cls ≠ "java/lang/invoke/MethodHandle" ∧ yX12_days.cls ≠ "java/lang/invoke/VarHandle" ∧ (parseMethodDescriptor yX12_days.desc).map (fun d => d.parameters.length) = some 1 := by decide +kernel
theorem hz_yX13_days_1 : yX13_days.cls ≠ "java/lang/invoke/MethodHandle" ∧ yX13_days.cls ≠ "java/lang/invoke/VarHandle" ∧ (parseMethodDescriptor yX13_days.desc).map (fun d => d.parameters.length) = some 1 := by decide +kernel
theorem hz_yX12_boat_0 : yX12_boat.cls ≠ "java/lang/invoke/MethodHandle" ∧ yX12_boat.cls ≠ "java/lang/invoke/VarHandle" ∧ (parseMethodDescriptor yX12_boat.desc).map (fun d => d.parameters.length) = some 0 := by decide +kernel
theorem hz_yX13_boat_0 : yX13_boat.cls ≠ "java/lang/invoke/MethodHandle" ∧ yX13_boat.cls ≠ "java/lang/invoke/VarHandle" ∧ (parseMethodDescriptor yX13_boat.desc).map (fun d => d.parameters.length) = some 0 := by decide +kernel
theorem hz_yX12_certificate_5 : yX12_certificate.cls ≠ "java/lang/invoke/MethodHandle" ∧ yX12_certificate.cls ≠ "java/lang/invoke/VarHandle" ∧ (parseMethodDescriptor yX12_certificate.desc).map (fun d => d.parameters.length) = some 5 := by decide +kernel
theorem hz_yX13_certificate_5 : yX13_certificate.cls ≠ "java/lang/invoke/MethodHandle" ∧ yX13_certificate.cls ≠ "java/lang/invoke/VarHandle" ∧ (parseMethodDescriptor yX13_certificate.desc).map (fun d => d.parameters.length) = some 5 := by decide +kernel
theorem hz_yX12_measured_3 : yX12_measured.cls ≠ "java/lang/invoke/MethodHandle" ∧ yX12_measured.cls ≠ "java/lang/invoke/VarHandle" ∧ (parseMethodDescriptor yX12_measured.desc).map (fun d => d.parameters.length) = some 3 := by decide +kernel
theorem hz_yX13_measured_3 : yX13_measured.cls ≠ "java/lang/invoke/MethodHandle" ∧ yX13_measured.cls ≠ "java/lang/invoke/VarHandle" ∧ (parseMethodDescriptor yX13_measured.desc).map (fun d => d.parameters.length) = some 3 := by decide +kernel
theorem hz_yX12_feed_5 : yX12_feed.cls ≠ "java/lang/invoke/MethodHandle" ∧ yX12_feed.cls ≠ "java/lang/invoke/VarHandle" ∧ (parseMethodDescriptor yX12_feed.desc).map (fun d => d.parameters.length) = some 5 := by decide +kernel
theorem hz_yX13_feed_5 : yX13_feed.cls ≠ "java/lang/invoke/MethodHandle" ∧ yX13_feed.cls ≠ "java/lang/invoke/VarHandle" ∧ (parseMethodDescriptor yX13_feed.desc).map (fun d => d.parameters.length) = some 5 := by decide +kernel
theorem hz_yX12_end_1 : yX12_end.cls ≠ "java/lang/invoke/MethodHandle" ∧ yX12_end.cls ≠ "java/lang/invoke/VarHandle" ∧ (parseMethodDescriptor yX12_end.desc).map (fun d => d.parameters.length) = some 1 := by decide +kernel
theorem hz_yX13_end_1 : yX13_end.cls ≠ "java/lang/invoke/MethodHandle" ∧ yX13_end.cls ≠ "java/lang/invoke/VarHandle" ∧ (parseMethodDescriptor yX13_end.desc).map (fun d => d.parameters.length) = some 1 := by decide +kernel
theorem hz_yX12_fault_0 : yX12_fault.cls ≠ "java/lang/invoke/MethodHandle" ∧ yX12_fault.cls ≠ "java/lang/invoke/VarHandle" ∧ (parseMethodDescriptor yX12_fault.desc).map (fun d => d.parameters.length) = some 0 := by decide +kernel
theorem hz_yX13_fault_0 : yX13_fault.cls ≠ "java/lang/invoke/MethodHandle" ∧ yX13_fault.cls ≠ "java/lang/invoke/VarHandle" ∧ (parseMethodDescriptor yX13_fault.desc).map (fun d => d.parameters.length) = some 0 := by decide +kernel
theorem hz_yX12_rules_1 : yX12_rules.cls ≠ "java/lang/invoke/MethodHandle" ∧ yX12_rules.cls ≠ "java/lang/invoke/VarHandle" ∧ (parseMethodDescriptor yX12_rules.desc).map (fun d => d.parameters.length) = some 1 := by decide +kernel
theorem hz_yX13_rules_1 : yX13_rules.cls ≠ "java/lang/invoke/MethodHandle" ∧ yX13_rules.cls ≠ "java/lang/invoke/VarHandle" ∧ (parseMethodDescriptor yX13_rules.desc).map (fun d => d.parameters.length) = some 1 := by decide +kernel
theorem hz_yX12_force_2 : yX12_force.cls ≠ "java/lang/invoke/MethodHandle" ∧ yX12_force.cls ≠ "java/lang/invoke/VarHandle" ∧ (parseMethodDescriptor yX12_force.desc).map (fun d => d.parameters.length) = some 2 := by decide +kernel
theorem hz_yX13_force_2 : yX13_force.cls ≠ "java/lang/invoke/MethodHandle" ∧ yX13_force.cls ≠ "java/lang/invoke/VarHandle" ∧ (parseMethodDescriptor yX13_force.desc).map (fun d => d.parameters.length) = some 2 := by decide +kernel
theorem hz_yX12_number_3 : yX12_number.cls ≠ "java/lang/invoke/MethodHandle" ∧ yX12_number.cls ≠ "java/lang/invoke/VarHandle" ∧ (parseMethodDescriptor yX12_number.desc).map (fun d => d.parameters.length) = some 3 := by decide +kernel
theorem hz_yX13_number_3 : yX13_number.cls ≠ "java/lang/invoke/MethodHandle" ∧ yX13_number.cls ≠ "java/lang/invoke/VarHandle" ∧ (parseMethodDescriptor yX13_number.desc).map (fun d => d.parameters.length) = some 3 := by decide +kernel

set_option maxHeartbeats 4000000 in
set_option maxRecDepth 100000 in
theorem law_case_0 {p : Program} {e : Env} {s : State} {m : MethodId} {below : List Frame} {meth : Method} {c : Code} (l : Launch) {b L : Nat} {xs : Nat → Int32} (hL : L ≤ 4096) (C0 : lw_At p s m meth c b L xs) {A : Nat → Prop} {ed : Nat} {dC : Nat → ClassId} {dI : Nat → Nat → Nat} {cT : Nat → ClassId} {cL : ClassId} (F : FX l s A ed dC dI cT cL) {x ou : Nat} {am cf ad : Nat → Nat} {E EM : Nat → va_E} {f : Nat → Int64} {H : Heap} {locs : List Loc} (V : INV s A ed dC dI cT cL x ou am cf ad E EM f H locs) (hR : REL15 cf E EM) {i : Int32} (hi0 : 0 ≤ i.toInt) (hi8 : i.toInt + 8 ≤ (L : Int)) {cn sn : Nat} (hcn : cn + 7 ≤ 601024) (hsn : sn + 3300 ≤ 7293034) (ls : Array Slot) (hl : lv_has ls 7 [(0, .ref b), (1, .ref x), (2, .ref (am 0)), (3, .ref ou), (4, .int i)]) (tail : (∀ (cf ad : Nat → Nat) (E EM : Nat → va_E) (f : Nat → Int64) (H : Heap) (locs : List Loc) (ls : Array Slot), INV s A ed dC dI cT cL x ou am cf ad E EM f H locs → REL15 cf E EM → lv_has ls 7 [(0, .ref b), (1, .ref x), (2, .ref (am 0)), (3, .ref ou), (4, .int i)] → W p l e room_1 s m #[Value.ref b] below meth c H locs (cn + 7) (sn + 3300) (lw_Z below #[Value.ref b] s) (F0 m 1859 ls []))) : W p l e room_1 s m #[Value.ref b] below meth c H locs cn sn (lw_Z below #[Value.ref b] s) (F0 m 208 ls []) := by
  obtain ⟨hx, hb, hr, hml, hown, hts0, hX, hbl, hlocks, hgv⟩ := id C0
  have hts := fun w (h : w ∈ v_law) => hts0 w (v_law_in w h)
  have hbA : ¬ A b := F.hnA b hbl
  obtain rfl := V.hx
  obtain ⟨⟨⟨⟨⟨hR, hT⟩, hU⟩, hG⟩, hB⟩, hRS⟩ := hR
  refine lv_aload_n hx hb dL_law_208 rfl (lv_at hl 1 rfl) ?_
  refine lv_aload_n hx hb dL_law_209 rfl (lv_at hl 0 rfl) ?_
  refine lv_iload hx hb dL_law_210 (lv_at hl 4 rfl) ?_
  refine lv_iconst (v := 1) hx hb dL_law_212 (by decide) ?_
  refine lv_iadd hx hb dL_law_213 ?_
  refine va_sld hx hb hX hbl hbA V.hS (law_in (k := 1) hi0 hi8 hL (by decide) rfl) dL_law_214 ?_
  have hI0 := V.hI
  have hC0 := V.hC
  have hM0 := V.hM
  have bn : (0 : Int) ≤ (xi (E 1) 0).toInt ∧ (xi (E 1) 0).toInt ≤ 400 := hI0.iv 1 (mF 1 rfl) rfl (Nat.le_of_ble_eq_true rfl) rfl
  have bb : (0 : Int) ≤ (xi (E 1) 1).toInt ∧ (xi (E 1) 1).toInt ≤ 16 := hI0.iv 1 (mF 1 rfl) rfl (Nat.le_of_ble_eq_true rfl) rfl
  obtain ⟨⟨k0, k1, k2, k3, k4, k5⟩, -⟩ := id hC0
  refine lC F V (fun r u h => h.1) (va_runV (As := [.int (xs (i + 1).toNatClampNeg)]) (rest := []) ⟨hx, hb, hml, hown, hts⟩ (q_u_days l dC dI cT cf V.hC ad E H.size (xs (i + 1).toNatClampNeg) V.hI) (cwV 1 hts (gl_V (al_0 _ zs0) (al_0 _ (zs1 (zs0))) (al_0 _ (zs1 (zs1 (zs0)))) (vl_A _ (in_4 _ (zs16 (zs4 (zs1 (zs1 (zs1 (zs0)))))))) (vl_A _ (in_14 _ (zs16 (zs1 (zs0)))))) rfl rfl rfl ⟨rfl, hz_yX12_days_1⟩ ⟨Nat.le_of_ble_eq_true rfl, Nat.le_of_ble_eq_true rfl⟩) ⟨HWL_bl, va_recv F.kc V.cp (ci := 13) (q0 := posL 0 (LC cf)) rfl (V.hI.ob 0 (mF 0 rfl) rfl), HWL_wi V.cp F.kc V.dc V.hS F.hA (V.ec F)⟩ rfl rfl hl.1 rfl (lv_room (Nat.le_of_ble_eq_true rfl)) dL_law_215 ⟨by show cn + 0 ≤ 601024; omega, by show sn + 0 ≤ 7293034; omega⟩) (fun r1 E1 H locs hw1 V => ?_)
  refine lv_pop hx hb dL_law_218 rfl ?_
  refine lv_aload_n hx hb dL_law_219 rfl (lv_at hl 2 rfl) ?_
  refine lv_aload_n hx hb dL_law_220 rfl (lv_at hl 0 rfl) ?_
  refine lv_iload hx hb dL_law_221 (lv_at hl 4 rfl) ?_
  refine lv_iconst (v := 1) hx hb dL_law_223 (by decide) ?_
  refine lv_iadd hx hb dL_law_224 ?_
  refine va_sld hx hb hX hbl hbA V.hS (law_in (k := 1) hi0 hi8 hL (by decide) rfl) dL_law_225 ?_
  refine lM F V (fun r u h => ⟨h.1, DIr_kp h.2.1 (fun _ => rfl) (fun _ => rfl) V.hDI⟩) (va_runV (As := [.int (xs (i + 1).toNatClampNeg)]) (rest := []) ⟨hx, hb, hml, hown, hts⟩ (q_daysX l dC dI cT am EM H.size (xs (i + 1).toNatClampNeg) V.hM) (cwV 1 hts (gl_V (al_0 _ (zs1 (zs1 (zs1 (zs0))))) (al_0 _ (zs4 (zs0))) (al_0 _ (zs4 (zs1 (zs0)))) (vl_A _ (in_24 _ (zs4 (zs4 (zs4 (zs1 (zs1 (zs1 (zs0))))))))) (vl_A _ (in_30 _ (zs16 (zs4 (zs1 (zs1 (zs0)))))))) rfl rfl rfl ⟨rfl, hz_yX13_days_1⟩ ⟨Nat.le_of_ble_eq_true rfl, Nat.le_of_ble_eq_true rfl⟩) ⟨HW_bl, va_recv F.km V.pm (ci := 14) (q0 := 0) rfl (V.hM.ob 0 (Nat.le_of_ble_eq_true rfl) rfl), HW_wi V.pm F.km V.dm V.hS F.hA F.hEV⟩ rfl rfl hl.1 rfl (lv_room (Nat.le_of_ble_eq_true rfl)) dL_law_226 ⟨by show cn + 0 ≤ 601024; omega, by show sn + 0 ≤ 7293034; omega⟩) (fun r2 EM1 H locs hw2 V => ?_)
  have hRS := hRS.keep (cf' := cf) (E' := E1) rfl (fun i9 _ => xik hw1.2.1 (o := 64 * (i9 + 1) + 12) (j := 2) (by first | exact wl_p rfl rfl (by omega) | (simp [wl]; done) | (simp [wl]; omega))) (fun i9 _ => xik hw1.2.1 (o := 64 * (i9 + 1) + 12) (j := 3) (by first | exact wl_p rfl rfl (by omega) | (simp [wl]; done) | (simp [wl]; omega)))
  have hb9 : (xi (E 1) 1).toInt ≤ (xi (E1 1) 1).toInt := by rw [show xi (E1 1) 1 = xi (E 1) 1 from xik hw1.2.1 (o := 1) (j := 1) (by first | rfl | (simp [wl]; done) | (simp [wl]; omega))]; exact Int.le_refl _
  have hB := hB.keep (cf' := cf) (E' := E1) rfl hb9 (fun i9 _ => xik hw1.2.1 (o := 64 * (i9 + 1) + 0) (j := 0) (by first | exact wl_p rfl rfl (by omega) | (simp [wl]; done) | (simp [wl]; omega)))
  have hT := hT.keep (cf' := cf) (E' := E1) rfl (xik hw1.2.1 (o := 2) (j := 1) (by first | rfl | (simp [wl]; done) | (simp [wl]; omega))) (fun j9 => xik hw1.2.1 (o := 21) (j := j9) (by first | rfl | (simp [wl]; done) | (simp [wl]; omega))) (fun i9 j9 _ => xik hw1.2.1 (o := 64 * (i9 + 1) + 1) (j := j9) (by first | exact wl_p rfl rfl (by omega) | (simp [wl]; done) | (simp [wl]; omega))) (xik hw2.2.1 (o := 0) (j := 16) rfl) (xik hw2.2.1 (o := 0) (j := 17) rfl) (fun j9 => xik hw2.2.1 (o := 7) (j := j9) rfl) (fun j9 => xik hw2.2.1 (o := 10) (j := j9) rfl) (fun j9 => xik hw2.2.1 (o := 11) (j := j9) rfl)
  have hU := hU.keep (cf' := cf) (E' := E1) rfl (fun _ _ => ⟨rfl, rfl⟩) (fun i9 _ t9 _ _ j9 => xik hw1.2.1 (o := 64 * (i9 + 1) + t9) (j := j9) (by first | exact wl_p rfl rfl (by omega) | (simp [wl]; done) | (simp [wl]; omega))) (fun j9 => xik hw2.2.1 (o := 8) (j := j9) rfl) (fun j9 => xik hw2.2.1 (o := 9) (j := j9) rfl)
  have hG := hG.keep (cf' := cf) (E' := E1) rfl (fun i9 j9 _ => xik hw1.2.1 (o := 64 * (i9 + 1) + 14) (j := j9) (by first | exact wl_p rfl rfl (by omega) | (simp [wl]; done) | (simp [wl]; omega))) (fun j9 => xik hw2.2.1 (o := 51) (j := j9) rfl)
  have e0 : (xi (E 1) 0).toInt = (xi (EM 0) 1).toInt := congrArg Int32.toInt hR.now
  have e1 : (xi (E 1) 1).toInt = (xi (EM 0) 8).toInt := congrArg Int32.toInt hR.boats
  have e2 : (xi (E 1) 2).toInt = (xi (EM 0) 48).toInt := congrArg Int32.toInt hR.red
  obtain ⟨q0, q2, q3, q4, q5⟩ := hR.cnt
  have lm : (-1 : Int32).toInt = -1 := rfl
  have l0 : (0 : Int32).toInt = 0 := rfl
  have l1 : (1 : Int32).toInt = 1 := rfl
  have l2 : (2 : Int32).toInt = 2 := rfl
  have lk : (1000 : Int32).toInt = 1000 := rfl
  have hd : r1.toInt = r2.toInt ∧ (xi (E1 1) 0).toInt = (xi (EM1 0) 1).toInt ∧ (xi (E 1) 0).toInt ≤ (xi (E1 1) 0).toInt := by
    obtain ⟨-, -, p1, p2⟩ := hw1
    obtain ⟨-, -, m1, m2⟩ := hw2
    by_cases q : 0 ≤ (xs (i + 1).toNatClampNeg).toInt ∧ (xs (i + 1).toNatClampNeg).toInt ≤ 400 - (xi (E 1) 0).toInt
    · have h1 := p1 q; have h2 := m1 (by rw [← e0]; exact q); omega
    · have h1 := p2 q; have h2 := m2 (by rw [← e0]; exact q); omega
  have kk1 : xi (E1 1) 1 = xi (E 1) 1 := xik hw1.2.1 (o := 1) (j := 1) (by first | rfl | (simp [wl]; done) | (simp [wl]; omega))
  have kk2 : xi (E1 1) 2 = xi (E 1) 2 := xik hw1.2.1 (o := 1) (j := 2) (by first | rfl | (simp [wl]; done) | (simp [wl]; omega))
  have hp : PK X0 cf E E1 := fun t i j _ _ _ _ => xik hw1.2.1 (by first | exact wl_p rfl rfl (by omega) | (simp [wl]; done) | (simp [wl]; omega))
  have hn0 := hd.2.2
  have hb0 : (xi (E 1) 1).toInt ≤ (xi (E1 1) 1).toInt := by rw [kk1]; exact Int.le_refl _
  have hst : ENst (cf 2) E E1 := ENst.of (fun i j hi => hp 7 i j (by decide) (by decide) rfl hi)
  have hsx := kpSx [1] hw2.2.1 rfl
  have hrx := kpRx [] hw2.2.1 rfl
  have hR : REL cf E1 EM1 := ⟨Int32.toInt_inj.mp hd.2.1,
      (kk1.trans hR.boats).trans ((hsx 8 (by decide) rfl)).symm,
      (kk2.trans hR.red).trans ((hsx 48 (by decide) rfl)).symm,
      CNT.mv (hR.cnt.k rfl rfl rfl rfl rfl) (fun j hj => by simp only [List.mem_cons, List.not_mem_nil, or_false] at hj; rcases hj with rfl | rfl | rfl | rfl | rfl; exact (hsx 9 (by decide) rfl); exact (hsx 46 (by decide) rfl); exact (hsx 47 (by decide) rfl); exact (hsx 74 (by decide) rfl); exact (hsx 75 (by decide) rfl)),
      EN.m (EM' := EM1) (EN.k (E' := E1) hR.en rfl (fun i j hi => hp 7 i j (by decide) (by decide) rfl hi)) (hrx 21 (by decide) rfl),
      (TBj.km (TBj.kc (E' := E1) hR.tb0 rfl (hp.tb (J := 0) rfl)) (fun q hq j => (show ∀ r ∈ [1, 2, 3, 4, 5, 6], ∀ j, xi (EM1 r) j = xi (EM r) j from fun r hr9 => by simp only [List.mem_cons, List.not_mem_nil, or_false] at hr9; rcases hr9 with rfl | rfl | rfl | rfl | rfl | rfl; exact (hrx 1 (by decide) rfl); exact (hrx 2 (by decide) rfl); exact (hrx 3 (by decide) rfl); exact (hrx 4 (by decide) rfl); exact (hrx 5 (by decide) rfl); exact (hrx 6 (by decide) rfl)) _ (tbm0 q hq) j)),
      (TBj.km (TBj.kc (E' := E1) hR.tb2 rfl (hp.tb (J := 2) rfl)) (fun q hq j => (show ∀ r ∈ [20, 13, 14, 15, 16, 17, 18], ∀ j, xi (EM1 r) j = xi (EM r) j from fun r hr9 => by simp only [List.mem_cons, List.not_mem_nil, or_false] at hr9; rcases hr9 with rfl | rfl | rfl | rfl | rfl | rfl | rfl; exact (hrx 20 (by decide) rfl); exact (hrx 13 (by decide) rfl); exact (hrx 14 (by decide) rfl); exact (hrx 15 (by decide) rfl); exact (hrx 16 (by decide) rfl); exact (hrx 17 (by decide) rfl); exact (hrx 18 (by decide) rfl)) _ (tbm2 q hq) j)),
      (TBj.km (TBj.kc (E' := E1) hR.tb3 rfl (hp.tb (J := 3) rfl)) (fun q hq j => (show ∀ r ∈ [24, 25, 26, 27, 28], ∀ j, xi (EM1 r) j = xi (EM r) j from fun r hr9 => by simp only [List.mem_cons, List.not_mem_nil, or_false] at hr9; rcases hr9 with rfl | rfl | rfl | rfl | rfl; exact (hrx 24 (by decide) rfl); exact (hrx 25 (by decide) rfl); exact (hrx 26 (by decide) rfl); exact (hrx 27 (by decide) rfl); exact (hrx 28 (by decide) rfl)) _ (tbm3 q hq) j)),
      (TBj.km (TBj.kc (E' := E1) hR.tb4 rfl (hp.tb (J := 4) rfl)) (fun q hq j => (show ∀ r ∈ [38, 39, 45, 40, 41, 42, 43, 44], ∀ j, xi (EM1 r) j = xi (EM r) j from fun r hr9 => by simp only [List.mem_cons, List.not_mem_nil, or_false] at hr9; rcases hr9 with rfl | rfl | rfl | rfl | rfl | rfl | rfl | rfl; exact (hrx 38 (by decide) rfl); exact (hrx 39 (by decide) rfl); exact (hrx 45 (by decide) rfl); exact (hrx 40 (by decide) rfl); exact (hrx 41 (by decide) rfl); exact (hrx 42 (by decide) rfl); exact (hrx 43 (by decide) rfl); exact (hrx 44 (by decide) rfl)) _ (tbm4 q hq) j)),
      (TBj.km (TBj.kc (E' := E1) hR.tb5 rfl (hp.tb (J := 5) rfl)) (fun q hq j => (show ∀ r ∈ [46, 47, 48, 49, 50], ∀ j, xi (EM1 r) j = xi (EM r) j from fun r hr9 => by simp only [List.mem_cons, List.not_mem_nil, or_false] at hr9; rcases hr9 with rfl | rfl | rfl | rfl | rfl; exact (hrx 46 (by decide) rfl); exact (hrx 47 (by decide) rfl); exact (hrx 48 (by decide) rfl); exact (hrx 49 (by decide) rfl); exact (hrx 50 (by decide) rfl)) _ (tbm5 q hq) j)),
      (hR.eb.kc rfl hn0 hb0 (fun i hi => hp 6 i 0 (by decide) (by decide) rfl hi) (fun i j hi => hp 7 i j (by decide) (by decide) rfl hi)),
      RD.km (RD.kc (E' := E1) hR.rd rfl hn0 (fun i j hi => hp 8 i j (by decide) (by decide) rfl hi)) (hsx 48 (by decide) rfl) (hrx 29 (by decide) rfl) (hrx 30 (by decide) rfl) (hrx 31 (by decide) rfl),
      ST.km (ST.kc (E' := E1) hR.st rfl hb0 (fun i j hi => hp 9 i j (by decide) (by decide) rfl hi) (fun i j hi => hp 10 i j (by decide) (by decide) rfl hi)) (hrx 22 (by decide) rfl) (hrx 23 (by decide) rfl),
      SW.km (SW.kc (E' := E1) hR.sw rfl hn0 (fun i hi => hp 6 i 0 (by decide) (by decide) rfl hi) (fun i j hi => hp 11 i j (by decide) (by decide) rfl hi)) (hrx 19 (by decide) rfl),
      DC.km (DC.kc (E' := E1) hR.dc rfl hn0 (fun i j hi => hp 14 i j (by decide) (by decide) rfl hi)) (hrx 52 (by decide) rfl) (hrx 53 (by decide) rfl) (hrx 54 (by decide) rfl) (hrx 55 (by decide) rfl),
      (hR.tn0.kc rfl hn0 (hp.tn (J := 0) rfl)),
      (hR.tn2.kc rfl hn0 (hp.tn (J := 2) rfl)),
      (hR.tn3.kc rfl hn0 (hp.tn (J := 3) rfl)),
      (hR.tn4.kc rfl hn0 (hp.tn (J := 4) rfl)),
      (hR.tn5.kc rfl hn0 (hp.tn (J := 5) rfl)),
      (hR.rmo.kc rfl (fun i hi => hp 6 i 0 (by decide) (by decide) rfl hi)),
      (hR.er3.kc rfl (Nat.le_of_eq (rfl).symm) hst (hp.er (J := 3) rfl)),
      (hR.er4.kc rfl (Nat.le_of_eq (rfl).symm) hst (hp.er (J := 4) rfl)),
      (hR.er5.kc rfl (Nat.le_of_eq (rfl).symm) hst (hp.er (J := 5) rfl)),
      (hR.pne.kc rfl (fun i hi => hp 14 i 1 (by decide) (by decide) rfl hi) (fun i hi => hp 14 i 2 (by decide) (by decide) rfl hi)),
      DZ.km (DZ.kc (cf' := _) hR.dz (Nat.le_of_eq (rfl).symm)) (hrx 54 (by decide) rfl) (hrx 55 (by decide) rfl),
      RRo.km (RRo.kc (cf' := _) hR.rro (Nat.le_of_eq (rfl).symm)) (hsx 48 (by decide) rfl) (hrx 29 (by decide) rfl)⟩
  refine lv_pop hx hb dL_law_229 rfl ?_
  refine lv_goto (tgt := 1859) hx hb dL_law_230 (by decide) ?_
  exact W.widen (k := cn + 7) (n := sn + 3300) (by omega) (by omega) (tail _ _ _ _ _ _ _ _ V ⟨⟨⟨⟨⟨hR, hT⟩, hU⟩, hG⟩, hB⟩, hRS⟩ hl)
set_option maxHeartbeats 4000000 in
set_option maxRecDepth 100000 in
theorem law_case_1 {p : Program} {e : Env} {s : State} {m : MethodId} {below : List Frame} {meth : Method} {c : Code} (l : Launch) {b L : Nat} {xs : Nat → Int32} (hL : L ≤ 4096) (C0 : lw_At p s m meth c b L xs) {A : Nat → Prop} {ed : Nat} {dC : Nat → ClassId} {dI : Nat → Nat → Nat} {cT : Nat → ClassId} {cL : ClassId} (F : FX l s A ed dC dI cT cL) {x ou : Nat} {am cf ad : Nat → Nat} {E EM : Nat → va_E} {f : Nat → Int64} {H : Heap} {locs : List Loc} (V : INV s A ed dC dI cT cL x ou am cf ad E EM f H locs) (hR : REL15 cf E EM) {i : Int32} (hi0 : 0 ≤ i.toInt) (hi8 : i.toInt + 8 ≤ (L : Int)) {cn sn : Nat} (hcn : cn + 7 ≤ 601024) (hsn : sn + 3300 ≤ 7293034) (ls : Array Slot) (hl : lv_has ls 7 [(0, .ref b), (1, .ref x), (2, .ref (am 0)), (3, .ref ou), (4, .int i)]) (tail : (∀ (cf ad : Nat → Nat) (E EM : Nat → va_E) (f : Nat → Int64) (H : Heap) (locs : List Loc) (ls : Array Slot), INV s A ed dC dI cT cL x ou am cf ad E EM f H locs → REL15 cf E EM → lv_has ls 7 [(0, .ref b), (1, .ref x), (2, .ref (am 0)), (3, .ref ou), (4, .int i)] → W p l e room_1 s m #[Value.ref b] below meth c H locs (cn + 7) (sn + 3300) (lw_Z below #[Value.ref b] s) (F0 m 1859 ls []))) : W p l e room_1 s m #[Value.ref b] below meth c H locs cn sn (lw_Z below #[Value.ref b] s) (F0 m 233 ls []) := by
  obtain ⟨hx, hb, hr, hml, hown, hts0, hX, hbl, hlocks, hgv⟩ := id C0
  have hts := fun w (h : w ∈ v_law) => hts0 w (v_law_in w h)
  have hbA : ¬ A b := F.hnA b hbl
  obtain rfl := V.hx
  obtain ⟨⟨⟨⟨⟨hR, hT⟩, hU⟩, hG⟩, hB⟩, hRS⟩ := hR
  refine lv_aload_n hx hb dL_law_233 rfl (lv_at hl 1 rfl) ?_
  have hI0 := V.hI
  have hC0 := V.hC
  have hM0 := V.hM
  have bn : (0 : Int) ≤ (xi (E 1) 0).toInt ∧ (xi (E 1) 0).toInt ≤ 400 := hI0.iv 1 (mF 1 rfl) rfl (Nat.le_of_ble_eq_true rfl) rfl
  have bb : (0 : Int) ≤ (xi (E 1) 1).toInt ∧ (xi (E 1) 1).toInt ≤ 16 := hI0.iv 1 (mF 1 rfl) rfl (Nat.le_of_ble_eq_true rfl) rfl
  obtain ⟨⟨k0, k1, k2, k3, k4, k5⟩, -⟩ := id hC0
  refine lC F V (fun r u h => h.1) (va_runV (As := []) (rest := []) ⟨hx, hb, hml, hown, hts⟩ (q_u_boat l dC dI cT cf V.hC ad E H.size  V.hI) (cwV 0 hts (gl_V (al_0 _ (zs4 (zs1 (zs1 (zs0))))) (al_0 _ (zs4 (zs1 (zs1 (zs1 (zs0)))))) (al_0 _ (zs4 (zs4 (zs0)))) (vl_A _ (in_4 _ (zs16 (zs4 (zs1 (zs1 (zs1 (zs0)))))))) (vl_A _ (in_10 _ (zs16 (zs0))))) rfl rfl rfl ⟨rfl, hz_yX12_boat_0⟩ ⟨Nat.le_of_ble_eq_true rfl, Nat.le_of_ble_eq_true rfl⟩) ⟨HWL_bl, va_recv F.kc V.cp (ci := 13) (q0 := posL 0 (LC cf)) rfl (V.hI.ob 0 (mF 0 rfl) rfl), HWL_wi V.cp F.kc V.dc V.hS F.hA (V.ec F)⟩ rfl rfl hl.1 rfl (lv_room (Nat.le_of_ble_eq_true rfl)) dL_law_234 ⟨by show cn + 0 ≤ 601024; omega, by show sn + 0 ≤ 7293034; omega⟩) (fun r1 E1 H locs hw1 V => ?_)
  refine lv_pop hx hb dL_law_237 rfl ?_
  refine lv_aload_n hx hb dL_law_238 rfl (lv_at hl 2 rfl) ?_
  refine lM F V (fun r u h => ⟨h.1, DIr_kp h.2.1 (fun _ => rfl) (fun _ => rfl) V.hDI⟩) (va_runV (As := []) (rest := []) ⟨hx, hb, hml, hown, hts⟩ (q_boatX l dC dI cT am EM H.size  V.hM) (cwV 0 hts (gl_V (al_0 _ (zs4 (zs4 (zs1 (zs0))))) (al_0 _ (zs4 (zs4 (zs1 (zs1 (zs0)))))) (al_0 _ (zs4 (zs4 (zs1 (zs1 (zs1 (zs0))))))) (vl_A _ (in_24 _ (zs4 (zs4 (zs4 (zs1 (zs1 (zs1 (zs0))))))))) (vl_A _ (in_27 _ (zs4 (zs1 (zs1 (zs0))))))) rfl rfl rfl ⟨rfl, hz_yX13_boat_0⟩ ⟨Nat.le_of_ble_eq_true rfl, Nat.le_of_ble_eq_true rfl⟩) ⟨HW_bl, va_recv F.km V.pm (ci := 14) (q0 := 0) rfl (V.hM.ob 0 (Nat.le_of_ble_eq_true rfl) rfl), HW_wi V.pm F.km V.dm V.hS F.hA F.hEV⟩ rfl rfl hl.1 rfl (lv_room (Nat.le_of_ble_eq_true rfl)) dL_law_239 ⟨by show cn + 0 ≤ 601024; omega, by show sn + 0 ≤ 7293034; omega⟩) (fun r2 EM1 H locs hw2 V => ?_)
  have hRS := hRS.keep (cf' := cf) (E' := E1) rfl (fun i9 _ => xik hw1.2.1 (o := 64 * (i9 + 1) + 12) (j := 2) (by first | exact wl_p rfl rfl (by omega) | (simp [wl]; done) | (simp [wl]; omega))) (fun i9 _ => xik hw1.2.1 (o := 64 * (i9 + 1) + 12) (j := 3) (by first | exact wl_p rfl rfl (by omega) | (simp [wl]; done) | (simp [wl]; omega)))
  have hb9 : (xi (E 1) 1).toInt ≤ (xi (E1 1) 1).toInt := by
    obtain ⟨-, -, p1, p2⟩ := id hw1
    by_cases q : (xi (E 1) 1).toInt < 16
    · have h1 := p1 q; omega
    · have h1 := p2 q; omega
  have hB := hB.keep (cf' := cf) (E' := E1) rfl hb9 (fun i9 _ => xik hw1.2.1 (o := 64 * (i9 + 1) + 0) (j := 0) (by first | exact wl_p rfl rfl (by omega) | (simp [wl]; done) | (simp [wl]; omega)))
  have hT := hT.keep (cf' := cf) (E' := E1) rfl (xik hw1.2.1 (o := 2) (j := 1) (by first | rfl | (simp [wl]; done) | (simp [wl]; omega))) (fun j9 => xik hw1.2.1 (o := 21) (j := j9) (by first | rfl | (simp [wl]; done) | (simp [wl]; omega))) (fun i9 j9 _ => xik hw1.2.1 (o := 64 * (i9 + 1) + 1) (j := j9) (by first | exact wl_p rfl rfl (by omega) | (simp [wl]; done) | (simp [wl]; omega))) (xik hw2.2.1 (o := 0) (j := 16) rfl) (xik hw2.2.1 (o := 0) (j := 17) rfl) (fun j9 => xik hw2.2.1 (o := 7) (j := j9) rfl) (fun j9 => xik hw2.2.1 (o := 10) (j := j9) rfl) (fun j9 => xik hw2.2.1 (o := 11) (j := j9) rfl)
  have hU := hU.keep (cf' := cf) (E' := E1) rfl (fun _ _ => ⟨rfl, rfl⟩) (fun i9 _ t9 _ _ j9 => xik hw1.2.1 (o := 64 * (i9 + 1) + t9) (j := j9) (by first | exact wl_p rfl rfl (by omega) | (simp [wl]; done) | (simp [wl]; omega))) (fun j9 => xik hw2.2.1 (o := 8) (j := j9) rfl) (fun j9 => xik hw2.2.1 (o := 9) (j := j9) rfl)
  have hG := hG.keep (cf' := cf) (E' := E1) rfl (fun i9 j9 _ => xik hw1.2.1 (o := 64 * (i9 + 1) + 14) (j := j9) (by first | exact wl_p rfl rfl (by omega) | (simp [wl]; done) | (simp [wl]; omega))) (fun j9 => xik hw2.2.1 (o := 51) (j := j9) rfl)
  have e0 : (xi (E 1) 0).toInt = (xi (EM 0) 1).toInt := congrArg Int32.toInt hR.now
  have e1 : (xi (E 1) 1).toInt = (xi (EM 0) 8).toInt := congrArg Int32.toInt hR.boats
  have e2 : (xi (E 1) 2).toInt = (xi (EM 0) 48).toInt := congrArg Int32.toInt hR.red
  obtain ⟨q0, q2, q3, q4, q5⟩ := hR.cnt
  have lm : (-1 : Int32).toInt = -1 := rfl
  have l0 : (0 : Int32).toInt = 0 := rfl
  have l1 : (1 : Int32).toInt = 1 := rfl
  have l2 : (2 : Int32).toInt = 2 := rfl
  have lk : (1000 : Int32).toInt = 1000 := rfl
  have hd : r1.toInt = r2.toInt ∧ (xi (E1 1) 1).toInt = (xi (EM1 0) 8).toInt ∧ (xi (E 1) 1).toInt ≤ (xi (E1 1) 1).toInt := by
    obtain ⟨-, -, p1, p2⟩ := hw1
    obtain ⟨-, -, m1, m2⟩ := hw2
    by_cases q : (xi (E 1) 1).toInt < 16
    · have h1 := p1 q; have h2 := m1 (by rw [← e1]; exact q); omega
    · have h1 := p2 q; have h2 := m2 (by rw [← e1]; exact q); omega
  have kk0 : xi (E1 1) 0 = xi (E 1) 0 := xik hw1.2.1 (o := 1) (j := 0) (by first | rfl | (simp [wl]; done) | (simp [wl]; omega))
  have kk2 : xi (E1 1) 2 = xi (E 1) 2 := xik hw1.2.1 (o := 1) (j := 2) (by first | rfl | (simp [wl]; done) | (simp [wl]; omega))
  have hp : PK X0 cf E E1 := fun t i j _ _ _ _ => xik hw1.2.1 (by first | exact wl_p rfl rfl (by omega) | (simp [wl]; done) | (simp [wl]; omega))
  have hb0 := hd.2.2
  have hn0 : (xi (E 1) 0).toInt ≤ (xi (E1 1) 0).toInt := by rw [kk0]; exact Int.le_refl _
  have hst : ENst (cf 2) E E1 := ENst.of (fun i j hi => hp 7 i j (by decide) (by decide) rfl hi)
  have hsx := kpSx [8] hw2.2.1 rfl
  have hrx := kpRx [] hw2.2.1 rfl
  have hR : REL cf E1 EM1 := ⟨(kk0.trans hR.now).trans ((hsx 1 (by decide) rfl)).symm,
      Int32.toInt_inj.mp hd.2.1,
      (kk2.trans hR.red).trans ((hsx 48 (by decide) rfl)).symm,
      CNT.mv (hR.cnt.k rfl rfl rfl rfl rfl) (fun j hj => by simp only [List.mem_cons, List.not_mem_nil, or_false] at hj; rcases hj with rfl | rfl | rfl | rfl | rfl; exact (hsx 9 (by decide) rfl); exact (hsx 46 (by decide) rfl); exact (hsx 47 (by decide) rfl); exact (hsx 74 (by decide) rfl); exact (hsx 75 (by decide) rfl)),
      EN.m (EM' := EM1) (EN.k (E' := E1) hR.en rfl (fun i j hi => hp 7 i j (by decide) (by decide) rfl hi)) (hrx 21 (by decide) rfl),
      (TBj.km (TBj.kc (E' := E1) hR.tb0 rfl (hp.tb (J := 0) rfl)) (fun q hq j => (show ∀ r ∈ [1, 2, 3, 4, 5, 6], ∀ j, xi (EM1 r) j = xi (EM r) j from fun r hr9 => by simp only [List.mem_cons, List.not_mem_nil, or_false] at hr9; rcases hr9 with rfl | rfl | rfl | rfl | rfl | rfl; exact (hrx 1 (by decide) rfl); exact (hrx 2 (by decide) rfl); exact (hrx 3 (by decide) rfl); exact (hrx 4 (by decide) rfl); exact (hrx 5 (by decide) rfl); exact (hrx 6 (by decide) rfl)) _ (tbm0 q hq) j)),
      (TBj.km (TBj.kc (E' := E1) hR.tb2 rfl (hp.tb (J := 2) rfl)) (fun q hq j => (show ∀ r ∈ [20, 13, 14, 15, 16, 17, 18], ∀ j, xi (EM1 r) j = xi (EM r) j from fun r hr9 => by simp only [List.mem_cons, List.not_mem_nil, or_false] at hr9; rcases hr9 with rfl | rfl | rfl | rfl | rfl | rfl | rfl; exact (hrx 20 (by decide) rfl); exact (hrx 13 (by decide) rfl); exact (hrx 14 (by decide) rfl); exact (hrx 15 (by decide) rfl); exact (hrx 16 (by decide) rfl); exact (hrx 17 (by decide) rfl); exact (hrx 18 (by decide) rfl)) _ (tbm2 q hq) j)),
      (TBj.km (TBj.kc (E' := E1) hR.tb3 rfl (hp.tb (J := 3) rfl)) (fun q hq j => (show ∀ r ∈ [24, 25, 26, 27, 28], ∀ j, xi (EM1 r) j = xi (EM r) j from fun r hr9 => by simp only [List.mem_cons, List.not_mem_nil, or_false] at hr9; rcases hr9 with rfl | rfl | rfl | rfl | rfl; exact (hrx 24 (by decide) rfl); exact (hrx 25 (by decide) rfl); exact (hrx 26 (by decide) rfl); exact (hrx 27 (by decide) rfl); exact (hrx 28 (by decide) rfl)) _ (tbm3 q hq) j)),
      (TBj.km (TBj.kc (E' := E1) hR.tb4 rfl (hp.tb (J := 4) rfl)) (fun q hq j => (show ∀ r ∈ [38, 39, 45, 40, 41, 42, 43, 44], ∀ j, xi (EM1 r) j = xi (EM r) j from fun r hr9 => by simp only [List.mem_cons, List.not_mem_nil, or_false] at hr9; rcases hr9 with rfl | rfl | rfl | rfl | rfl | rfl | rfl | rfl; exact (hrx 38 (by decide) rfl); exact (hrx 39 (by decide) rfl); exact (hrx 45 (by decide) rfl); exact (hrx 40 (by decide) rfl); exact (hrx 41 (by decide) rfl); exact (hrx 42 (by decide) rfl); exact (hrx 43 (by decide) rfl); exact (hrx 44 (by decide) rfl)) _ (tbm4 q hq) j)),
      (TBj.km (TBj.kc (E' := E1) hR.tb5 rfl (hp.tb (J := 5) rfl)) (fun q hq j => (show ∀ r ∈ [46, 47, 48, 49, 50], ∀ j, xi (EM1 r) j = xi (EM r) j from fun r hr9 => by simp only [List.mem_cons, List.not_mem_nil, or_false] at hr9; rcases hr9 with rfl | rfl | rfl | rfl | rfl; exact (hrx 46 (by decide) rfl); exact (hrx 47 (by decide) rfl); exact (hrx 48 (by decide) rfl); exact (hrx 49 (by decide) rfl); exact (hrx 50 (by decide) rfl)) _ (tbm5 q hq) j)),
      (hR.eb.kc rfl hn0 hb0 (fun i hi => hp 6 i 0 (by decide) (by decide) rfl hi) (fun i j hi => hp 7 i j (by decide) (by decide) rfl hi)),
      RD.km (RD.kc (E' := E1) hR.rd rfl hn0 (fun i j hi => hp 8 i j (by decide) (by decide) rfl hi)) (hsx 48 (by decide) rfl) (hrx 29 (by decide) rfl) (hrx 30 (by decide) rfl) (hrx 31 (by decide) rfl),
      ST.km (ST.kc (E' := E1) hR.st rfl hb0 (fun i j hi => hp 9 i j (by decide) (by decide) rfl hi) (fun i j hi => hp 10 i j (by decide) (by decide) rfl hi)) (hrx 22 (by decide) rfl) (hrx 23 (by decide) rfl),
      SW.km (SW.kc (E' := E1) hR.sw rfl hn0 (fun i hi => hp 6 i 0 (by decide) (by decide) rfl hi) (fun i j hi => hp 11 i j (by decide) (by decide) rfl hi)) (hrx 19 (by decide) rfl),
      DC.km (DC.kc (E' := E1) hR.dc rfl hn0 (fun i j hi => hp 14 i j (by decide) (by decide) rfl hi)) (hrx 52 (by decide) rfl) (hrx 53 (by decide) rfl) (hrx 54 (by decide) rfl) (hrx 55 (by decide) rfl),
      (hR.tn0.kc rfl hn0 (hp.tn (J := 0) rfl)),
      (hR.tn2.kc rfl hn0 (hp.tn (J := 2) rfl)),
      (hR.tn3.kc rfl hn0 (hp.tn (J := 3) rfl)),
      (hR.tn4.kc rfl hn0 (hp.tn (J := 4) rfl)),
      (hR.tn5.kc rfl hn0 (hp.tn (J := 5) rfl)),
      (hR.rmo.kc rfl (fun i hi => hp 6 i 0 (by decide) (by decide) rfl hi)),
      (hR.er3.kc rfl (Nat.le_of_eq (rfl).symm) hst (hp.er (J := 3) rfl)),
      (hR.er4.kc rfl (Nat.le_of_eq (rfl).symm) hst (hp.er (J := 4) rfl)),
      (hR.er5.kc rfl (Nat.le_of_eq (rfl).symm) hst (hp.er (J := 5) rfl)),
      (hR.pne.kc rfl (fun i hi => hp 14 i 1 (by decide) (by decide) rfl hi) (fun i hi => hp 14 i 2 (by decide) (by decide) rfl hi)),
      DZ.km (DZ.kc (cf' := _) hR.dz (Nat.le_of_eq (rfl).symm)) (hrx 54 (by decide) rfl) (hrx 55 (by decide) rfl),
      RRo.km (RRo.kc (cf' := _) hR.rro (Nat.le_of_eq (rfl).symm)) (hsx 48 (by decide) rfl) (hrx 29 (by decide) rfl)⟩
  refine lv_pop hx hb dL_law_242 rfl ?_
  refine lv_goto (tgt := 1859) hx hb dL_law_243 (by decide) ?_
  exact W.widen (k := cn + 7) (n := sn + 3300) (by omega) (by omega) (tail _ _ _ _ _ _ _ _ V ⟨⟨⟨⟨⟨hR, hT⟩, hU⟩, hG⟩, hB⟩, hRS⟩ hl)
set_option maxHeartbeats 4000000 in
set_option maxRecDepth 100000 in
theorem law_case_2 {p : Program} {e : Env} {s : State} {m : MethodId} {below : List Frame} {meth : Method} {c : Code} (l : Launch) {b L : Nat} {xs : Nat → Int32} (hL : L ≤ 4096) (C0 : lw_At p s m meth c b L xs) {A : Nat → Prop} {ed : Nat} {dC : Nat → ClassId} {dI : Nat → Nat → Nat} {cT : Nat → ClassId} {cL : ClassId} (F : FX l s A ed dC dI cT cL) {x ou : Nat} {am cf ad : Nat → Nat} {E EM : Nat → va_E} {f : Nat → Int64} {H : Heap} {locs : List Loc} (V : INV s A ed dC dI cT cL x ou am cf ad E EM f H locs) (hR : REL15 cf E EM) {i : Int32} (hi0 : 0 ≤ i.toInt) (hi8 : i.toInt + 8 ≤ (L : Int)) {cn sn : Nat} (hcn : cn + 7 ≤ 601024) (hsn : sn + 3300 ≤ 7293034) (ls : Array Slot) (hl : lv_has ls 7 [(0, .ref b), (1, .ref x), (2, .ref (am 0)), (3, .ref ou), (4, .int i)]) (tail : (∀ (cf ad : Nat → Nat) (E EM : Nat → va_E) (f : Nat → Int64) (H : Heap) (locs : List Loc) (ls : Array Slot), INV s A ed dC dI cT cL x ou am cf ad E EM f H locs → REL15 cf E EM → lv_has ls 7 [(0, .ref b), (1, .ref x), (2, .ref (am 0)), (3, .ref ou), (4, .int i)] → W p l e room_1 s m #[Value.ref b] below meth c H locs (cn + 7) (sn + 3300) (lw_Z below #[Value.ref b] s) (F0 m 1859 ls []))) : W p l e room_1 s m #[Value.ref b] below meth c H locs cn sn (lw_Z below #[Value.ref b] s) (F0 m 246 ls []) := by
  obtain ⟨hx, hb, hr, hml, hown, hts0, hX, hbl, hlocks, hgv⟩ := id C0
  have hts := fun w (h : w ∈ v_law) => hts0 w (v_law_in w h)
  have hbA : ¬ A b := F.hnA b hbl
  obtain rfl := V.hx
  obtain ⟨⟨⟨⟨⟨hR, hT⟩, hU⟩, hG⟩, hB⟩, hRS⟩ := hR
  refine lv_aload_n hx hb dL_law_246 rfl (lv_at hl 1 rfl) ?_
  refine lv_aload_n hx hb dL_law_247 rfl (lv_at hl 0 rfl) ?_
  refine lv_iload hx hb dL_law_248 (lv_at hl 4 rfl) ?_
  refine lv_iconst (v := 1) hx hb dL_law_250 (by decide) ?_
  refine lv_iadd hx hb dL_law_251 ?_
  refine va_sld hx hb hX hbl hbA V.hS (law_in (k := 1) hi0 hi8 hL (by decide) rfl) dL_law_252 ?_
  refine lv_aload_n hx hb dL_law_253 rfl (lv_at hl 0 rfl) ?_
  refine lv_iload hx hb dL_law_254 (lv_at hl 4 rfl) ?_
  refine lv_iconst (v := 2) hx hb dL_law_256 (by decide) ?_
  refine lv_iadd hx hb dL_law_257 ?_
  refine va_sld hx hb hX hbl hbA V.hS (law_in (k := 2) hi0 hi8 hL (by decide) rfl) dL_law_258 ?_
  refine lv_aload_n hx hb dL_law_259 rfl (lv_at hl 0 rfl) ?_
  refine lv_iload hx hb dL_law_260 (lv_at hl 4 rfl) ?_
  refine lv_iconst (v := 3) hx hb dL_law_262 (by decide) ?_
  refine lv_iadd hx hb dL_law_263 ?_
  refine va_sld hx hb hX hbl hbA V.hS (law_in (k := 3) hi0 hi8 hL (by decide) rfl) dL_law_264 ?_
  refine lv_aload_n hx hb dL_law_265 rfl (lv_at hl 0 rfl) ?_
  refine lv_iload hx hb dL_law_266 (lv_at hl 4 rfl) ?_
  refine lv_iconst (v := 4) hx hb dL_law_268 (by decide) ?_
  refine lv_iadd hx hb dL_law_269 ?_
  refine va_sld hx hb hX hbl hbA V.hS (law_in (k := 4) hi0 hi8 hL (by decide) rfl) dL_law_270 ?_
  refine lv_aload_n hx hb dL_law_271 rfl (lv_at hl 0 rfl) ?_
  refine lv_iload hx hb dL_law_272 (lv_at hl 4 rfl) ?_
  refine lv_iconst (v := 5) hx hb dL_law_274 (by decide) ?_
  refine lv_iadd hx hb dL_law_275 ?_
  refine va_sld hx hb hX hbl hbA V.hS (law_in (k := 5) hi0 hi8 hL (by decide) rfl) dL_law_276 ?_
  have hI0 := V.hI
  have hC0 := V.hC
  have hM0 := V.hM
  have bn : (0 : Int) ≤ (xi (E 1) 0).toInt ∧ (xi (E 1) 0).toInt ≤ 400 := hI0.iv 1 (mF 1 rfl) rfl (Nat.le_of_ble_eq_true rfl) rfl
  have bb : (0 : Int) ≤ (xi (E 1) 1).toInt ∧ (xi (E 1) 1).toInt ≤ 16 := hI0.iv 1 (mF 1 rfl) rfl (Nat.le_of_ble_eq_true rfl) rfl
  obtain ⟨⟨k0, k1, k2, k3, k4, k5⟩, -⟩ := id hC0
  refine lCm F V (fun r u h => (made_o h).1) (va_runV (As := [.int (xs (i + 1).toNatClampNeg), .int (xs (i + 2).toNatClampNeg), .int (xs (i + 3).toNatClampNeg), .int (xs (i + 4).toNatClampNeg), .int (xs (i + 5).toNatClampNeg)]) (rest := []) ⟨hx, hb, hml, hown, hts⟩ (q_u_certificate l dC dI cT cf V.hC ad E H.size (xs (i + 1).toNatClampNeg) (xs (i + 2).toNatClampNeg) (xs (i + 3).toNatClampNeg) (xs (i + 4).toNatClampNeg) (xs (i + 5).toNatClampNeg) V.hI) (cwV 5 hts (gl_V (al_0 _ (zs4 (zs4 (zs4 (zs0))))) (al_0 _ (zs4 (zs4 (zs4 (zs1 (zs0)))))) (al_0 _ (zs4 (zs4 (zs4 (zs1 (zs1 (zs0))))))) (vl_A _ (in_4 _ (zs16 (zs4 (zs1 (zs1 (zs1 (zs0)))))))) (vl_A _ (in_10 _ (zs16 (zs4 (zs1 (zs0))))))) rfl rfl rfl ⟨rfl, hz_yX12_certificate_5⟩ ⟨Nat.le_of_ble_eq_true rfl, Nat.le_of_ble_eq_true rfl⟩) ⟨HWL_bl, va_recv F.kc V.cp (ci := 13) (q0 := posL 0 (LC cf)) rfl (V.hI.ob 0 (mF 0 rfl) rfl), HWL_wi V.cp F.kc V.dc V.hS F.hA (V.ec F)⟩ rfl rfl hl.1 rfl (lv_room (Nat.le_of_ble_eq_true rfl)) dL_law_277 ⟨by show cn + 2 ≤ 601024; omega, by show sn + 646 ≤ 7293034; omega⟩) (fun r1 cf1 ad1 E1 H locs hw1 V => ?_)
  refine lv_pop hx hb dL_law_280 rfl ?_
  refine lv_aload_n hx hb dL_law_281 rfl (lv_at hl 2 rfl) ?_
  refine lv_aload_n hx hb dL_law_282 rfl (lv_at hl 0 rfl) ?_
  refine lv_iload hx hb dL_law_283 (lv_at hl 4 rfl) ?_
  refine lv_iconst (v := 1) hx hb dL_law_285 (by decide) ?_
  refine lv_iadd hx hb dL_law_286 ?_
  refine va_sld hx hb hX hbl hbA V.hS (law_in (k := 1) hi0 hi8 hL (by decide) rfl) dL_law_287 ?_
  refine lv_aload_n hx hb dL_law_288 rfl (lv_at hl 0 rfl) ?_
  refine lv_iload hx hb dL_law_289 (lv_at hl 4 rfl) ?_
  refine lv_iconst (v := 2) hx hb dL_law_291 (by decide) ?_
  refine lv_iadd hx hb dL_law_292 ?_
  refine va_sld hx hb hX hbl hbA V.hS (law_in (k := 2) hi0 hi8 hL (by decide) rfl) dL_law_293 ?_
  refine lv_aload_n hx hb dL_law_294 rfl (lv_at hl 0 rfl) ?_
  refine lv_iload hx hb dL_law_295 (lv_at hl 4 rfl) ?_
  refine lv_iconst (v := 3) hx hb dL_law_297 (by decide) ?_
  refine lv_iadd hx hb dL_law_298 ?_
  refine va_sld hx hb hX hbl hbA V.hS (law_in (k := 3) hi0 hi8 hL (by decide) rfl) dL_law_299 ?_
  refine lv_aload_n hx hb dL_law_300 rfl (lv_at hl 0 rfl) ?_
  refine lv_iload hx hb dL_law_301 (lv_at hl 4 rfl) ?_
  refine lv_iconst (v := 4) hx hb dL_law_303 (by decide) ?_
  refine lv_iadd hx hb dL_law_304 ?_
  refine va_sld hx hb hX hbl hbA V.hS (law_in (k := 4) hi0 hi8 hL (by decide) rfl) dL_law_305 ?_
  refine lv_aload_n hx hb dL_law_306 rfl (lv_at hl 0 rfl) ?_
  refine lv_iload hx hb dL_law_307 (lv_at hl 4 rfl) ?_
  refine lv_iconst (v := 5) hx hb dL_law_309 (by decide) ?_
  refine lv_iadd hx hb dL_law_310 ?_
  refine va_sld hx hb hX hbl hbA V.hS (law_in (k := 5) hi0 hi8 hL (by decide) rfl) dL_law_311 ?_
  refine lM F V (fun r u h => ⟨h.1, DIr_kp h.2.1 (fun _ => rfl) (fun _ => rfl) V.hDI⟩) (va_runV (As := [.int (xs (i + 1).toNatClampNeg), .int (xs (i + 2).toNatClampNeg), .int (xs (i + 3).toNatClampNeg), .int (xs (i + 4).toNatClampNeg), .int (xs (i + 5).toNatClampNeg)]) (rest := []) ⟨hx, hb, hml, hown, hts⟩ (q_certificateR l dC dI cT am EM H.size (xs (i + 1).toNatClampNeg) (xs (i + 2).toNatClampNeg) (xs (i + 3).toNatClampNeg) (xs (i + 4).toNatClampNeg) (xs (i + 5).toNatClampNeg) V.hM) (cwV 5 hts (gl_V (al_0 _ (zs4 (zs4 (zs4 (zs1 (zs1 (zs1 (zs0)))))))) (al_0 _ (zs16 (zs0))) (al_0 _ (zs16 (zs1 (zs0)))) (vl_A _ (in_24 _ (zs4 (zs4 (zs4 (zs1 (zs1 (zs1 (zs0))))))))) (vl_A _ (in_27 _ (zs4 (zs4 (zs4 (zs1 (zs0)))))))) rfl rfl rfl ⟨rfl, hz_yX13_certificate_5⟩ ⟨Nat.le_of_ble_eq_true rfl, Nat.le_of_ble_eq_true rfl⟩) ⟨HW_bl, va_recv F.km V.pm (ci := 14) (q0 := 0) rfl (V.hM.ob 0 (Nat.le_of_ble_eq_true rfl) rfl), HW_wi V.pm F.km V.dm V.hS F.hA F.hEV⟩ rfl rfl hl.1 rfl (lv_room (Nat.le_of_ble_eq_true rfl)) dL_law_312 ⟨by show cn + 2 + 0 ≤ 601024; omega, by show sn + 646 + 0 ≤ 7293034; omega⟩) (fun r2 EM1 H locs hw2 V => ?_)
  have hs29 : ∀ i9, i9 < cf 3 → xi (E1 (64 * (i9 + 1) + 12)) 2 = xi (E (64 * (i9 + 1) + 12)) 2 := fun i9 hi9 => made_p hw1 (by decide) (fun o j ho => by first | exact wl_p rfl rfl (by omega) | (simp [wl]; done) | (simp [wl]; omega)) 12 i9 2 (by decide) hi9
  have hs39 : ∀ i9, i9 < cf 3 → xi (E1 (64 * (i9 + 1) + 12)) 3 = xi (E (64 * (i9 + 1) + 12)) 3 := fun i9 hi9 => made_p hw1 (by decide) (fun o j ho => by first | exact wl_p rfl rfl (by omega) | (simp [wl]; done) | (simp [wl]; omega)) 12 i9 3 (by decide) hi9
  have hRS := hRS.keep (cf' := cf1) (E' := E1) (made_c hw1 3 (by decide) (by decide)) hs29 hs39
  have hb9 : xi (E1 1) 1 = xi (E 1) 1 := congrArg vi ((made_o hw1).2 1 (by first | rfl | (simp [wl]; done) | (simp [wl]; omega)))
  have hk9 : ∀ i9, i9 < cf 0 → xi (E1 (64 * (i9 + 1) + 0)) 0 = xi (E (64 * (i9 + 1) + 0)) 0 := fun i9 hi9 => made_p hw1 (by decide) (fun o j ho => by first | exact wl_p rfl rfl (by omega) | (simp [wl]; done) | (simp [wl]; omega)) 0 i9 0 (by decide) hi9
  have hB : CB cf1 E1 := by
    rcases hw1.2.2 with ⟨c9, -, -, -, -⟩ | ⟨g9, -, -, y8, y7, y9⟩
    · exact hB.keep (congrFun c9 0) (by rw [hb9]; exact Int.le_refl _) hk9
    · have yc9 : E1 (64 * (cf 0 + 1) + 0) = _ := y9
      have f9 : xi (E1 (64 * (cf 0 + 1) + 0)) 0 = (xs (i + 1).toNatClampNeg) := by rw [yc9]; rfl
      exact hB.push g9.1 (by rw [hb9]; exact Int.le_refl _) hk9 (by rw [hb9, f9]; omega)
  have hT := hT.keep (cf' := cf1) (E' := E1) (made_c hw1 1 (by decide) (by decide)) (made_f hw1 (o := 2) (j := 1) (by decide) (by first | rfl | (simp [wl]; done) | (simp [wl]; omega))) (fun j9 => made_f hw1 (o := 21) (j := j9) (by decide) (by first | rfl | (simp [wl]; done) | (simp [wl]; omega))) (fun i9 j9 hi9 => made_p hw1 (by decide) (fun o j ho => by first | exact wl_p rfl rfl (by omega) | (simp [wl]; done) | (simp [wl]; omega)) 1 i9 j9 (by decide) hi9) (xik hw2.2.1 (o := 0) (j := 16) rfl) (xik hw2.2.1 (o := 0) (j := 17) rfl) (fun j9 => xik hw2.2.1 (o := 7) (j := j9) rfl) (fun j9 => xik hw2.2.1 (o := 10) (j := j9) rfl) (fun j9 => xik hw2.2.1 (o := 11) (j := j9) rfl)
  have hU := hU.keep (cf' := cf1) (E' := E1) (made_c hw1 1 (by decide) (by decide)) (fun i9 _ => made_8 hw1 (by decide) i9) (fun i9 hi9 t9 g1 g2 j9 => made_p hw1 (by decide) (fun o j ho => by first | exact wl_p rfl rfl (by omega) | (simp [wl]; done) | (simp [wl]; omega)) t9 i9 j9 (by omega) (by rw [kl1 t9 g1 g2]; exact hi9)) (fun j9 => xik hw2.2.1 (o := 8) (j := j9) rfl) (fun j9 => xik hw2.2.1 (o := 9) (j := j9) rfl)
  have hG := hG.keep (cf' := cf1) (E' := E1) (made_c hw1 5 (by decide) (by decide)) (fun i9 j9 hi9 => made_p hw1 (by decide) (fun o j ho => by first | exact wl_p rfl rfl (by omega) | (simp [wl]; done) | (simp [wl]; omega)) 14 i9 j9 (by decide) hi9) (fun j9 => xik hw2.2.1 (o := 51) (j := j9) rfl)
  have e0 : (xi (E 1) 0).toInt = (xi (EM 0) 1).toInt := congrArg Int32.toInt hR.now
  have e1 : (xi (E 1) 1).toInt = (xi (EM 0) 8).toInt := congrArg Int32.toInt hR.boats
  have e2 : (xi (E 1) 2).toInt = (xi (EM 0) 48).toInt := congrArg Int32.toInt hR.red
  obtain ⟨q0, q2, q3, q4, q5⟩ := hR.cnt
  have lm : (-1 : Int32).toInt = -1 := rfl
  have l0 : (0 : Int32).toInt = 0 := rfl
  have l1 : (1 : Int32).toInt = 1 := rfl
  have l2 : (2 : Int32).toInt = 2 := rfl
  have lk : (1000 : Int32).toInt = 1000 := rfl
  have kk0 : xi (E1 1) 0 = xi (E 1) 0 := congrArg vi ((made_o hw1).2 0 (by first | rfl | (simp [wl]; done) | (simp [wl]; omega)))
  have kk1 : xi (E1 1) 1 = xi (E 1) 1 := congrArg vi ((made_o hw1).2 1 (by first | rfl | (simp [wl]; done) | (simp [wl]; omega)))
  have kk2 : xi (E1 1) 2 = xi (E 1) 2 := congrArg vi ((made_o hw1).2 2 (by first | rfl | (simp [wl]; done) | (simp [wl]; omega)))
  have hn0 : (xi (E 1) 0).toInt ≤ (xi (E1 1) 0).toInt := by rw [kk0]; exact Int.le_refl _
  have hb0 : (xi (E 1) 1).toInt ≤ (xi (E1 1) 1).toInt := by rw [kk1]; exact Int.le_refl _
  have hp : PK X0 cf E E1 := fun t i j ht _ _ hi => made_p hw1 (by decide) (fun o j ho => by first | exact wl_p rfl rfl (by omega) | (simp [wl]; done) | (simp [wl]; omega)) t i j ht hi
  have hst : ENst (cf 2) E E1 := ENst.of (fun i j hi => hp 7 i j (by decide) (by decide) rfl hi)
  have hsx := kpSx [9] hw2.2.1 rfl
  have hrx := kpRx [1, 2, 3, 4, 5, 6] hw2.2.1 rfl
  have hcJ : ∀ j, j < 6 → j ≠ 0 → cf1 j = cf j := made_c hw1
  have hd : r1.toInt = r2.toInt ∧ REL cf1 E1 EM1 := by
    obtain ⟨-, -, ⟨m1, m2⟩, ⟨m3, m4⟩⟩ := id hw2
    have hN : (xi (EM 0) 9).toNatClampNeg = cf 0 := by rw [tn_]; omega
    by_cases gm : (0 ≤ (xs (i + 1).toNatClampNeg).toInt ∧ (xs (i + 1).toNatClampNeg).toInt < (xi (EM 0) 8).toInt) ∧ (0 ≤ (xs (i + 2).toNatClampNeg).toInt ∧ (xs (i + 2).toNatClampNeg).toInt ≤ 400) ∧ (10 ≤ (xs (i + 3).toNatClampNeg).toInt ∧ (xs (i + 3).toNatClampNeg).toInt ≤ 400) ∧ (1 ≤ (xs (i + 4).toNatClampNeg).toInt ∧ (xs (i + 4).toNatClampNeg).toInt ≤ 4000) ∧ (1 ≤ (xs (i + 5).toNatClampNeg).toInt ∧ (xs (i + 5).toNatClampNeg).toInt ≤ 900) ∧ (xi (EM 0) 9).toInt < 80
    · have h2 := m1 gm
      obtain ⟨b1, b2, b3, b4, b5, b6⟩ := m3 gm
      rcases hw1.2.2 with ⟨c1, -, -, n1, n2⟩ | ⟨g, -, -, y1, y2, y3⟩
      · exfalso; omega
      · have g1 : cf1 0 = cf 0 + 1 := g.1
        rw [hN] at b1 b2 b3 b4 b5 b6
        have yc : E1 (64 * (cf 0 + 1) + 0) = _ := y3
        have f0 : xi (E1 (64 * (cf 0 + 1) + 0)) 0 = ((xs (i + 1).toNatClampNeg) : Int32) := by rw [yc]; rfl
        have f1 : xi (E1 (64 * (cf 0 + 1) + 0)) 1 = ((xs (i + 2).toNatClampNeg) : Int32) := by rw [yc]; rfl
        have f2 : xi (E1 (64 * (cf 0 + 1) + 0)) 2 = (xi (E 1) 0 : Int32) := by rw [yc]; rfl
        have f3 : xi (E1 (64 * (cf 0 + 1) + 0)) 3 = ((xs (i + 3).toNatClampNeg) : Int32) := by rw [yc]; rfl
        have f4 : xi (E1 (64 * (cf 0 + 1) + 0)) 4 = ((xs (i + 4).toNatClampNeg) : Int32) := by rw [yc]; rfl
        have f5 : xi (E1 (64 * (cf 0 + 1) + 0)) 5 = ((xs (i + 5).toNatClampNeg) : Int32) := by rw [yc]; rfl
        refine ⟨by omega, ?_⟩
        exact ⟨(kk0.trans hR.now).trans ((hsx 1 (by decide) rfl)).symm,
          (kk1.trans hR.boats).trans ((hsx 8 (by decide) rfl)).symm,
          (kk2.trans hR.red).trans ((hsx 48 (by decide) rfl)).symm,
          ⟨(by omega), (by have c9 : cf1 2 = cf 2 := hcJ 2 (by decide) (by decide); have d9 := congrArg Int32.toInt (hsx 46 (by decide) rfl); omega), (by have c9 : cf1 3 = cf 3 := hcJ 3 (by decide) (by decide); have d9 := congrArg Int32.toInt (hsx 47 (by decide) rfl); omega), (by have c9 : cf1 4 = cf 4 := hcJ 4 (by decide) (by decide); have d9 := congrArg Int32.toInt (hsx 74 (by decide) rfl); omega), (by have c9 : cf1 5 = cf 5 := hcJ 5 (by decide) (by decide); have d9 := congrArg Int32.toInt (hsx 75 (by decide) rfl); omega)⟩,
          EN.m (EM' := EM1) (EN.k (E' := E1) hR.en (hcJ 2 (by decide) (by decide)) (fun i j hi => hp 7 i j (by decide) (by decide) rfl hi)) (hrx 21 (by decide) rfl),
          (by rw [g1]; exact TBj.push hR.tb0 (hp.tb (J := 0) rfl) (fun q hq i hi => by simp only [tb0, List.mem_cons, List.not_mem_nil, or_false] at hq; rcases hq with rfl | rfl | rfl | rfl | rfl | rfl; exact ((congrFun b1 i).trans (upd_n (by omega))); exact ((congrFun b2 i).trans (upd_n (by omega))); exact ((congrFun b3 i).trans (upd_n (by omega))); exact ((congrFun b4 i).trans (upd_n (by omega))); exact ((congrFun b5 i).trans (upd_n (by omega))); exact ((congrFun b6 i).trans (upd_n (by omega)))) (fun q hq => by simp only [tb0, List.mem_cons, List.not_mem_nil, or_false] at hq; rcases hq with rfl | rfl | rfl | rfl | rfl | rfl; exact (f0.trans (((congrFun b1 _).trans pk_us).symm)); exact (f1.trans (((congrFun b2 _).trans pk_us).symm)); exact (f3.trans (((congrFun b3 _).trans pk_us).symm)); exact (f4.trans (((congrFun b4 _).trans pk_us).symm)); exact (f5.trans (((congrFun b5 _).trans pk_us).symm)); exact (f2.trans (hR.now.trans ((congrFun b6 _).trans pk_us).symm)))),
          (TBj.km (TBj.kc (E' := E1) hR.tb2 (hcJ 2 (by decide) (by decide)) (hp.tb (J := 2) rfl)) (fun q hq j => (show ∀ r ∈ [20, 13, 14, 15, 16, 17, 18], ∀ j, xi (EM1 r) j = xi (EM r) j from fun r hr9 => by simp only [List.mem_cons, List.not_mem_nil, or_false] at hr9; rcases hr9 with rfl | rfl | rfl | rfl | rfl | rfl | rfl; exact (hrx 20 (by decide) rfl); exact (hrx 13 (by decide) rfl); exact (hrx 14 (by decide) rfl); exact (hrx 15 (by decide) rfl); exact (hrx 16 (by decide) rfl); exact (hrx 17 (by decide) rfl); exact (hrx 18 (by decide) rfl)) _ (tbm2 q hq) j)),
          (TBj.km (TBj.kc (E' := E1) hR.tb3 (hcJ 3 (by decide) (by decide)) (hp.tb (J := 3) rfl)) (fun q hq j => (show ∀ r ∈ [24, 25, 26, 27, 28], ∀ j, xi (EM1 r) j = xi (EM r) j from fun r hr9 => by simp only [List.mem_cons, List.not_mem_nil, or_false] at hr9; rcases hr9 with rfl | rfl | rfl | rfl | rfl; exact (hrx 24 (by decide) rfl); exact (hrx 25 (by decide) rfl); exact (hrx 26 (by decide) rfl); exact (hrx 27 (by decide) rfl); exact (hrx 28 (by decide) rfl)) _ (tbm3 q hq) j)),
          (TBj.km (TBj.kc (E' := E1) hR.tb4 (hcJ 4 (by decide) (by decide)) (hp.tb (J := 4) rfl)) (fun q hq j => (show ∀ r ∈ [38, 39, 45, 40, 41, 42, 43, 44], ∀ j, xi (EM1 r) j = xi (EM r) j from fun r hr9 => by simp only [List.mem_cons, List.not_mem_nil, or_false] at hr9; rcases hr9 with rfl | rfl | rfl | rfl | rfl | rfl | rfl | rfl; exact (hrx 38 (by decide) rfl); exact (hrx 39 (by decide) rfl); exact (hrx 45 (by decide) rfl); exact (hrx 40 (by decide) rfl); exact (hrx 41 (by decide) rfl); exact (hrx 42 (by decide) rfl); exact (hrx 43 (by decide) rfl); exact (hrx 44 (by decide) rfl)) _ (tbm4 q hq) j)),
          (TBj.km (TBj.kc (E' := E1) hR.tb5 (hcJ 5 (by decide) (by decide)) (hp.tb (J := 5) rfl)) (fun q hq j => (show ∀ r ∈ [46, 47, 48, 49, 50], ∀ j, xi (EM1 r) j = xi (EM r) j from fun r hr9 => by simp only [List.mem_cons, List.not_mem_nil, or_false] at hr9; rcases hr9 with rfl | rfl | rfl | rfl | rfl; exact (hrx 46 (by decide) rfl); exact (hrx 47 (by decide) rfl); exact (hrx 48 (by decide) rfl); exact (hrx 49 (by decide) rfl); exact (hrx 50 (by decide) rfl)) _ (tbm5 q hq) j)),
          (hR.eb.kc (hcJ 2 (by decide) (by decide)) hn0 hb0 (fun i hi => hp 6 i 0 (by decide) (by decide) rfl hi) (fun i j hi => hp 7 i j (by decide) (by decide) rfl hi)),
          RD.km (RD.kc (E' := E1) hR.rd (hcJ 2 (by decide) (by decide)) hn0 (fun i j hi => hp 8 i j (by decide) (by decide) rfl hi)) (hsx 48 (by decide) rfl) (hrx 29 (by decide) rfl) (hrx 30 (by decide) rfl) (hrx 31 (by decide) rfl),
          ST.km (ST.kc (E' := E1) hR.st (hcJ 2 (by decide) (by decide)) hb0 (fun i j hi => hp 9 i j (by decide) (by decide) rfl hi) (fun i j hi => hp 10 i j (by decide) (by decide) rfl hi)) (hrx 22 (by decide) rfl) (hrx 23 (by decide) rfl),
          SW.km (SW.kc (E' := E1) hR.sw (hcJ 2 (by decide) (by decide)) hn0 (fun i hi => hp 6 i 0 (by decide) (by decide) rfl hi) (fun i j hi => hp 11 i j (by decide) (by decide) rfl hi)) (hrx 19 (by decide) rfl),
          DC.km (DC.kc (E' := E1) hR.dc (hcJ 5 (by decide) (by decide)) hn0 (fun i j hi => hp 14 i j (by decide) (by decide) rfl hi)) (hrx 52 (by decide) rfl) (hrx 53 (by decide) rfl) (hrx 54 (by decide) rfl) (hrx 55 (by decide) rfl),
          (by rw [g1]; exact TNj.push hR.tn0 hn0 (hp.tn (J := 0) rfl) (fun q hq => by simp only [List.mem_cons, List.not_mem_nil, or_false] at hq; rcases hq with rfl; exact ((by show (xi (E1 (64 * (cf 0 + 1) + 0)) 2).toInt ≤ _; rw [f2, kk0]; exact Int.le_refl _)))),
          (hR.tn2.kc (hcJ 2 (by decide) (by decide)) hn0 (hp.tn (J := 2) rfl)),
          (hR.tn3.kc (hcJ 3 (by decide) (by decide)) hn0 (hp.tn (J := 3) rfl)),
          (hR.tn4.kc (hcJ 4 (by decide) (by decide)) hn0 (hp.tn (J := 4) rfl)),
          (hR.tn5.kc (hcJ 5 (by decide) (by decide)) hn0 (hp.tn (J := 5) rfl)),
          (hR.rmo.kc (hcJ 2 (by decide) (by decide)) (fun i hi => hp 6 i 0 (by decide) (by decide) rfl hi)),
          (hR.er3.kc (hcJ 3 (by decide) (by decide)) (Nat.le_of_eq ((hcJ 2 (by decide) (by decide))).symm) hst (hp.er (J := 3) rfl)),
          (hR.er4.kc (hcJ 4 (by decide) (by decide)) (Nat.le_of_eq ((hcJ 2 (by decide) (by decide))).symm) hst (hp.er (J := 4) rfl)),
          (hR.er5.kc (hcJ 5 (by decide) (by decide)) (Nat.le_of_eq ((hcJ 2 (by decide) (by decide))).symm) hst (hp.er (J := 5) rfl)),
          (hR.pne.kc (hcJ 5 (by decide) (by decide)) (fun i hi => hp 14 i 1 (by decide) (by decide) rfl hi) (fun i hi => hp 14 i 2 (by decide) (by decide) rfl hi)),
          DZ.km (DZ.kc (cf' := _) hR.dz (Nat.le_of_eq ((hcJ 5 (by decide) (by decide))).symm)) (hrx 54 (by decide) rfl) (hrx 55 (by decide) rfl),
          RRo.km (RRo.kc (cf' := _) hR.rro (Nat.le_of_eq ((hcJ 2 (by decide) (by decide))).symm)) (hsx 48 (by decide) rfl) (hrx 29 (by decide) rfl)⟩
    · have h2 := m2 gm
      obtain ⟨b1, b2, b3, b4, b5, b6⟩ := m4 gm
      rcases hw1.2.2 with ⟨c1, -, -, n1, n2⟩ | ⟨g, -, -, y1, y2, y3⟩
      · have n3 := congrArg Int32.toInt n1
        refine ⟨by omega, ?_⟩
        exact hR.keep (fun j _ _ => congrFun c1 j) kk0 kk1 kk2 hp (kpSy [9] (kpSx [9] hw2.2.1 rfl) (fun j hq => by simp only [List.mem_cons, List.not_mem_nil, or_false] at hq; rcases hq with rfl; exact (Int32.toInt_inj.mp h2.2))) (kpRy [1, 2, 3, 4, 5, 6] (kpRx [1, 2, 3, 4, 5, 6] hw2.2.1 rfl) (fun r hq j => by simp only [List.mem_cons, List.not_mem_nil, or_false] at hq; rcases hq with rfl | rfl | rfl | rfl | rfl | rfl; exact (congrFun b1 j); exact (congrFun b2 j); exact (congrFun b3 j); exact (congrFun b4 j); exact (congrFun b5 j); exact (congrFun b6 j)))
      · exfalso; omega
  have hR := hd.2
  refine lv_pop hx hb dL_law_315 rfl ?_
  refine lv_goto (tgt := 1859) hx hb dL_law_316 (by decide) ?_
  exact W.widen (k := cn + 7) (n := sn + 3300) (by omega) (by omega) (tail _ _ _ _ _ _ _ _ V ⟨⟨⟨⟨⟨hR, hT⟩, hU⟩, hG⟩, hB⟩, hRS⟩ hl)
set_option maxHeartbeats 4000000 in
set_option maxRecDepth 100000 in
theorem law_case_3 {p : Program} {e : Env} {s : State} {m : MethodId} {below : List Frame} {meth : Method} {c : Code} (l : Launch) {b L : Nat} {xs : Nat → Int32} (hL : L ≤ 4096) (C0 : lw_At p s m meth c b L xs) {A : Nat → Prop} {ed : Nat} {dC : Nat → ClassId} {dI : Nat → Nat → Nat} {cT : Nat → ClassId} {cL : ClassId} (F : FX l s A ed dC dI cT cL) {x ou : Nat} {am cf ad : Nat → Nat} {E EM : Nat → va_E} {f : Nat → Int64} {H : Heap} {locs : List Loc} (V : INV s A ed dC dI cT cL x ou am cf ad E EM f H locs) (hR : REL15 cf E EM) {i : Int32} (hi0 : 0 ≤ i.toInt) (hi8 : i.toInt + 8 ≤ (L : Int)) {cn sn : Nat} (hcn : cn + 7 ≤ 601024) (hsn : sn + 3300 ≤ 7293034) (ls : Array Slot) (hl : lv_has ls 7 [(0, .ref b), (1, .ref x), (2, .ref (am 0)), (3, .ref ou), (4, .int i)]) (tail : (∀ (cf ad : Nat → Nat) (E EM : Nat → va_E) (f : Nat → Int64) (H : Heap) (locs : List Loc) (ls : Array Slot), INV s A ed dC dI cT cL x ou am cf ad E EM f H locs → REL15 cf E EM → lv_has ls 7 [(0, .ref b), (1, .ref x), (2, .ref (am 0)), (3, .ref ou), (4, .int i)] → W p l e room_1 s m #[Value.ref b] below meth c H locs (cn + 7) (sn + 3300) (lw_Z below #[Value.ref b] s) (F0 m 1859 ls []))) : W p l e room_1 s m #[Value.ref b] below meth c H locs cn sn (lw_Z below #[Value.ref b] s) (F0 m 319 ls []) := by
  obtain ⟨hx, hb, hr, hml, hown, hts0, hX, hbl, hlocks, hgv⟩ := id C0
  have hts := fun w (h : w ∈ v_law) => hts0 w (v_law_in w h)
  have hbA : ¬ A b := F.hnA b hbl
  obtain rfl := V.hx
  obtain ⟨⟨⟨⟨⟨hR, hT⟩, hU⟩, hG⟩, hB⟩, hRS⟩ := hR
  refine lv_aload_n hx hb dL_law_319 rfl (lv_at hl 1 rfl) ?_
  refine lv_aload_n hx hb dL_law_320 rfl (lv_at hl 0 rfl) ?_
  refine lv_iload hx hb dL_law_321 (lv_at hl 4 rfl) ?_
  refine lv_iconst (v := 1) hx hb dL_law_323 (by decide) ?_
  refine lv_iadd hx hb dL_law_324 ?_
  refine va_sld hx hb hX hbl hbA V.hS (law_in (k := 1) hi0 hi8 hL (by decide) rfl) dL_law_325 ?_
  refine lv_aload_n hx hb dL_law_326 rfl (lv_at hl 0 rfl) ?_
  refine lv_iload hx hb dL_law_327 (lv_at hl 4 rfl) ?_
  refine lv_iconst (v := 2) hx hb dL_law_329 (by decide) ?_
  refine lv_iadd hx hb dL_law_330 ?_
  refine va_sld hx hb hX hbl hbA V.hS (law_in (k := 2) hi0 hi8 hL (by decide) rfl) dL_law_331 ?_
  refine lv_aload_n hx hb dL_law_332 rfl (lv_at hl 0 rfl) ?_
  refine lv_iload hx hb dL_law_333 (lv_at hl 4 rfl) ?_
  refine lv_iconst (v := 3) hx hb dL_law_335 (by decide) ?_
  refine lv_iadd hx hb dL_law_336 ?_
  refine va_sld hx hb hX hbl hbA V.hS (law_in (k := 3) hi0 hi8 hL (by decide) rfl) dL_law_337 ?_
  have hI0 := V.hI
  have hC0 := V.hC
  have hM0 := V.hM
  have bn : (0 : Int) ≤ (xi (E 1) 0).toInt ∧ (xi (E 1) 0).toInt ≤ 400 := hI0.iv 1 (mF 1 rfl) rfl (Nat.le_of_ble_eq_true rfl) rfl
  have bb : (0 : Int) ≤ (xi (E 1) 1).toInt ∧ (xi (E 1) 1).toInt ≤ 16 := hI0.iv 1 (mF 1 rfl) rfl (Nat.le_of_ble_eq_true rfl) rfl
  obtain ⟨⟨k0, k1, k2, k3, k4, k5⟩, -⟩ := id hC0
  refine lC F V (fun r u h => h.1) (va_runV (As := [.int (xs (i + 1).toNatClampNeg), .int (xs (i + 2).toNatClampNeg), .int (xs (i + 3).toNatClampNeg)]) (rest := []) ⟨hx, hb, hml, hown, hts⟩ (q_u_measuredX l dC dI cT cf V.hC ad E H.size (xs (i + 1).toNatClampNeg) (xs (i + 2).toNatClampNeg) (xs (i + 3).toNatClampNeg) V.hI) (cwV 3 hts (gl_V (al_0 _ (zs16 (zs1 (zs1 (zs0))))) (al_0 _ (zs16 (zs1 (zs1 (zs1 (zs0)))))) (al_0 _ (zs16 (zs4 (zs0)))) (vl_A _ (in_4 _ (zs16 (zs4 (zs1 (zs1 (zs1 (zs0)))))))) (vl_A _ (in_19 _ (zs16 (zs16 (zs4 (zs0))))))) rfl rfl rfl ⟨rfl, hz_yX12_measured_3⟩ ⟨Nat.le_of_ble_eq_true rfl, Nat.le_of_ble_eq_true rfl⟩) ⟨HWL_bl, va_recv F.kc V.cp (ci := 13) (q0 := posL 0 (LC cf)) rfl (V.hI.ob 0 (mF 0 rfl) rfl), HWL_wi V.cp F.kc V.dc V.hS F.hA (V.ec F)⟩ rfl rfl hl.1 rfl (lv_room (Nat.le_of_ble_eq_true rfl)) dL_law_338 ⟨by show cn + 0 ≤ 601024; omega, by show sn + 0 ≤ 7293034; omega⟩) (fun r1 E1 H locs hw1 V => ?_)
  have hcf : ∀ j, j < 6 → j ≠ 1 → cf j = cf j := fun _ _ _ => rfl
  have k6 : xi (E1 1) 0 = xi (E 1) 0 := xik hw1.2.1 (o := 1) (j := 0) (by first | rfl | (simp [wl]; done) | (simp [wl]; omega))
  have k7 : xi (E1 1) 1 = xi (E 1) 1 := xik hw1.2.1 (o := 1) (j := 1) (by first | rfl | (simp [wl]; done) | (simp [wl]; omega))
  have k8 : xi (E1 1) 2 = xi (E 1) 2 := xik hw1.2.1 (o := 1) (j := 2) (by first | rfl | (simp [wl]; done) | (simp [wl]; omega))
  have hp : PK X0 cf E E1 := fun t i j _ _ _ _ => xik hw1.2.1 (by first | exact wl_p rfl rfl (by omega) | (simp [wl]; done) | (simp [wl]; omega))
  refine lv_pop hx hb dL_law_341 rfl ?_
  refine lv_aload_n hx hb dL_law_342 rfl (lv_at hl 2 rfl) ?_
  refine lv_aload_n hx hb dL_law_343 rfl (lv_at hl 0 rfl) ?_
  refine lv_iload hx hb dL_law_344 (lv_at hl 4 rfl) ?_
  refine lv_iconst (v := 1) hx hb dL_law_346 (by decide) ?_
  refine lv_iadd hx hb dL_law_347 ?_
  refine va_sld hx hb hX hbl hbA V.hS (law_in (k := 1) hi0 hi8 hL (by decide) rfl) dL_law_348 ?_
  refine lv_aload_n hx hb dL_law_349 rfl (lv_at hl 0 rfl) ?_
  refine lv_iload hx hb dL_law_350 (lv_at hl 4 rfl) ?_
  refine lv_iconst (v := 2) hx hb dL_law_352 (by decide) ?_
  refine lv_iadd hx hb dL_law_353 ?_
  refine va_sld hx hb hX hbl hbA V.hS (law_in (k := 2) hi0 hi8 hL (by decide) rfl) dL_law_354 ?_
  refine lv_aload_n hx hb dL_law_355 rfl (lv_at hl 0 rfl) ?_
  refine lv_iload hx hb dL_law_356 (lv_at hl 4 rfl) ?_
  refine lv_iconst (v := 3) hx hb dL_law_358 (by decide) ?_
  refine lv_iadd hx hb dL_law_359 ?_
  refine va_sld hx hb hX hbl hbA V.hS (law_in (k := 3) hi0 hi8 hL (by decide) rfl) dL_law_360 ?_
  refine lM F V (fun r u h => ⟨h.1, DIr_kp h.2.1 (fun _ => rfl) (fun _ => rfl) V.hDI⟩) (va_runV (As := [.int (xs (i + 1).toNatClampNeg), .int (xs (i + 2).toNatClampNeg), .int (xs (i + 3).toNatClampNeg)]) (rest := []) ⟨hx, hb, hml, hown, hts⟩ (q_measuredX l dC dI cT am EM H.size (xs (i + 1).toNatClampNeg) (xs (i + 2).toNatClampNeg) (xs (i + 3).toNatClampNeg) V.hM) (cwV 3 hts (gl_V (al_0 _ (zs16 (zs4 (zs1 (zs0))))) (al_0 _ (zs16 (zs4 (zs1 (zs1 (zs0)))))) (al_0 _ (zs16 (zs4 (zs1 (zs1 (zs1 (zs0))))))) (vl_A _ (in_24 _ (zs4 (zs4 (zs4 (zs1 (zs1 (zs1 (zs0))))))))) (vl_A _ (in_32 _ (zs16 (zs4 (zs4 (zs1 (zs1 (zs0))))))))) rfl rfl rfl ⟨rfl, hz_yX13_measured_3⟩ ⟨Nat.le_of_ble_eq_true rfl, Nat.le_of_ble_eq_true rfl⟩) ⟨HW_bl, va_recv F.km V.pm (ci := 14) (q0 := 0) rfl (V.hM.ob 0 (Nat.le_of_ble_eq_true rfl) rfl), HW_wi V.pm F.km V.dm V.hS F.hA F.hEV⟩ rfl rfl hl.1 rfl (lv_room (Nat.le_of_ble_eq_true rfl)) dL_law_361 ⟨by show cn + 0 ≤ 601024; omega, by show sn + 0 ≤ 7293034; omega⟩) (fun r2 EM1 H locs hw2 V => ?_)
  have hRS := hRS.keep (cf' := cf) (E' := E1) rfl (fun i9 _ => xik hw1.2.1 (o := 64 * (i9 + 1) + 12) (j := 2) (by first | exact wl_p rfl rfl (by omega) | (simp [wl]; done) | (simp [wl]; omega))) (fun i9 _ => xik hw1.2.1 (o := 64 * (i9 + 1) + 12) (j := 3) (by first | exact wl_p rfl rfl (by omega) | (simp [wl]; done) | (simp [wl]; omega)))
  have hb9 : (xi (E 1) 1).toInt ≤ (xi (E1 1) 1).toInt := by rw [show xi (E1 1) 1 = xi (E 1) 1 from xik hw1.2.1 (o := 1) (j := 1) (by first | rfl | (simp [wl]; done) | (simp [wl]; omega))]; exact Int.le_refl _
  have hB := hB.keep (cf' := cf) (E' := E1) rfl hb9 (fun i9 _ => xik hw1.2.1 (o := 64 * (i9 + 1) + 0) (j := 0) (by first | exact wl_p rfl rfl (by omega) | (simp [wl]; done) | (simp [wl]; omega)))
  have hT := hT.keep (cf' := cf) (E' := E1) rfl (xik hw1.2.1 (o := 2) (j := 1) (by first | rfl | (simp [wl]; done) | (simp [wl]; omega))) (fun j9 => xik hw1.2.1 (o := 21) (j := j9) (by first | rfl | (simp [wl]; done) | (simp [wl]; omega))) (fun i9 j9 _ => xik hw1.2.1 (o := 64 * (i9 + 1) + 1) (j := j9) (by first | exact wl_p rfl rfl (by omega) | (simp [wl]; done) | (simp [wl]; omega))) (xik hw2.2.1 (o := 0) (j := 16) rfl) (xik hw2.2.1 (o := 0) (j := 17) rfl) (fun j9 => xik hw2.2.1 (o := 7) (j := j9) rfl) (fun j9 => xik hw2.2.1 (o := 10) (j := j9) rfl) (fun j9 => xik hw2.2.1 (o := 11) (j := j9) rfl)
  have hU := hU.keep (cf' := cf) (E' := E1) rfl (fun _ _ => ⟨rfl, rfl⟩) (fun i9 _ t9 _ _ j9 => xik hw1.2.1 (o := 64 * (i9 + 1) + t9) (j := j9) (by first | exact wl_p rfl rfl (by omega) | (simp [wl]; done) | (simp [wl]; omega))) (fun j9 => xik hw2.2.1 (o := 8) (j := j9) rfl) (fun j9 => xik hw2.2.1 (o := 9) (j := j9) rfl)
  have hG := hG.keep (cf' := cf) (E' := E1) rfl (fun i9 j9 _ => xik hw1.2.1 (o := 64 * (i9 + 1) + 14) (j := j9) (by first | exact wl_p rfl rfl (by omega) | (simp [wl]; done) | (simp [wl]; omega))) (fun j9 => xik hw2.2.1 (o := 51) (j := j9) rfl)
  have e0 : (xi (E 1) 0).toInt = (xi (EM 0) 1).toInt := congrArg Int32.toInt hR.now
  have e1 : (xi (E 1) 1).toInt = (xi (EM 0) 8).toInt := congrArg Int32.toInt hR.boats
  have e2 : (xi (E 1) 2).toInt = (xi (EM 0) 48).toInt := congrArg Int32.toInt hR.red
  obtain ⟨q0, q2, q3, q4, q5⟩ := hR.cnt
  have lm : (-1 : Int32).toInt = -1 := rfl
  have l0 : (0 : Int32).toInt = 0 := rfl
  have l1 : (1 : Int32).toInt = 1 := rfl
  have l2 : (2 : Int32).toInt = 2 := rfl
  have lk : (1000 : Int32).toInt = 1000 := rfl
  have hd : r1.toInt = r2.toInt ∧ True := by
    obtain ⟨-, -, p1, p2⟩ := hw1
    obtain ⟨-, -, m1, m2⟩ := hw2
    have hN : (xi (EM 0) 9).toNatClampNeg = cf 0 := by rw [tn_]; omega
    have hc := (cO_cg (gB := fun k9 => xi (E (64 * (k9 + 1) + 0)) 0) (gF := fun k9 => xi (E (64 * (k9 + 1) + 0)) 1) (gT := fun k9 => xi (E (64 * (k9 + 1) + 0)) 2) (gB' := xi (EM 1)) (gF' := xi (EM 2)) (gT' := xi (EM 6)) (boat := (xs (i + 1).toNatClampNeg)) (day := (xs (i + 2).toNatClampNeg)) (q := (xs (i + 3).toNatClampNeg)) (cf 0) (by omega) (fun k hk => ⟨hR.tb0 (0, 0, 1) (by decide) k hk, hR.tb0 (0, 1, 2) (by decide) k hk, hR.tb0 (0, 2, 6) (by decide) k hk⟩)).1
    by_cases q : (0 ≤ (xs (i + 1).toNatClampNeg).toInt ∧ (xs (i + 1).toNatClampNeg).toInt < (xi (E 1) 1).toInt) ∧ (0 ≤ (xs (i + 2).toNatClampNeg).toInt ∧ (xs (i + 2).toNatClampNeg).toInt ≤ 400) ∧ (0 ≤ (xs (i + 3).toNatClampNeg).toInt ∧ (xs (i + 3).toNatClampNeg).toInt ≤ (xi (E 1) 0).toInt)
    · have h1 := p1 q; have h2 := m1 (by rw [← e0, ← e1]; exact q); exact ⟨by rw [h1, h2, hN, hc], trivial⟩
    · have h1 := p2 q; have h2 := m2 (by rw [← e0, ← e1]; exact q); exact ⟨by rw [h1, h2], trivial⟩
  have hR := hR.keep hcf k6 k7 k8 hp (kpS hw2.2.1 rfl) (kpR hw2.2.1 rfl)
  refine lv_pop hx hb dL_law_364 rfl ?_
  refine lv_goto (tgt := 1859) hx hb dL_law_365 (by decide) ?_
  exact W.widen (k := cn + 7) (n := sn + 3300) (by omega) (by omega) (tail _ _ _ _ _ _ _ _ V ⟨⟨⟨⟨⟨hR, hT⟩, hU⟩, hG⟩, hB⟩, hRS⟩ hl)
set_option maxHeartbeats 4000000 in
set_option maxRecDepth 100000 in
theorem law_case_4 {p : Program} {e : Env} {s : State} {m : MethodId} {below : List Frame} {meth : Method} {c : Code} (l : Launch) {b L : Nat} {xs : Nat → Int32} (hL : L ≤ 4096) (C0 : lw_At p s m meth c b L xs) {A : Nat → Prop} {ed : Nat} {dC : Nat → ClassId} {dI : Nat → Nat → Nat} {cT : Nat → ClassId} {cL : ClassId} (F : FX l s A ed dC dI cT cL) {x ou : Nat} {am cf ad : Nat → Nat} {E EM : Nat → va_E} {f : Nat → Int64} {H : Heap} {locs : List Loc} (V : INV s A ed dC dI cT cL x ou am cf ad E EM f H locs) (hR : REL15 cf E EM) {i : Int32} (hi0 : 0 ≤ i.toInt) (hi8 : i.toInt + 8 ≤ (L : Int)) {cn sn : Nat} (hcn : cn + 7 ≤ 601024) (hsn : sn + 3300 ≤ 7293034) (ls : Array Slot) (hl : lv_has ls 7 [(0, .ref b), (1, .ref x), (2, .ref (am 0)), (3, .ref ou), (4, .int i)]) (tail : (∀ (cf ad : Nat → Nat) (E EM : Nat → va_E) (f : Nat → Int64) (H : Heap) (locs : List Loc) (ls : Array Slot), INV s A ed dC dI cT cL x ou am cf ad E EM f H locs → REL15 cf E EM → lv_has ls 7 [(0, .ref b), (1, .ref x), (2, .ref (am 0)), (3, .ref ou), (4, .int i)] → W p l e room_1 s m #[Value.ref b] below meth c H locs (cn + 7) (sn + 3300) (lw_Z below #[Value.ref b] s) (F0 m 1859 ls []))) : W p l e room_1 s m #[Value.ref b] below meth c H locs cn sn (lw_Z below #[Value.ref b] s) (F0 m 368 ls []) := by
  obtain ⟨hx, hb, hr, hml, hown, hts0, hX, hbl, hlocks, hgv⟩ := id C0
  have hts := fun w (h : w ∈ v_law) => hts0 w (v_law_in w h)
  have hbA : ¬ A b := F.hnA b hbl
  obtain rfl := V.hx
  obtain ⟨⟨⟨⟨⟨hR, hT⟩, hU⟩, hG⟩, hB⟩, hRS⟩ := hR
  refine lv_aload_n hx hb dL_law_368 rfl (lv_at hl 1 rfl) ?_
  refine lv_aload_n hx hb dL_law_369 rfl (lv_at hl 0 rfl) ?_
  refine lv_iload hx hb dL_law_370 (lv_at hl 4 rfl) ?_
  refine lv_iconst (v := 1) hx hb dL_law_372 (by decide) ?_
  refine lv_iadd hx hb dL_law_373 ?_
  refine va_sld hx hb hX hbl hbA V.hS (law_in (k := 1) hi0 hi8 hL (by decide) rfl) dL_law_374 ?_
  refine lv_aload_n hx hb dL_law_375 rfl (lv_at hl 0 rfl) ?_
  refine lv_iload hx hb dL_law_376 (lv_at hl 4 rfl) ?_
  refine lv_iconst (v := 2) hx hb dL_law_378 (by decide) ?_
  refine lv_iadd hx hb dL_law_379 ?_
  refine va_sld hx hb hX hbl hbA V.hS (law_in (k := 2) hi0 hi8 hL (by decide) rfl) dL_law_380 ?_
  refine lv_aload_n hx hb dL_law_381 rfl (lv_at hl 0 rfl) ?_
  refine lv_iload hx hb dL_law_382 (lv_at hl 4 rfl) ?_
  refine lv_iconst (v := 3) hx hb dL_law_384 (by decide) ?_
  refine lv_iadd hx hb dL_law_385 ?_
  refine va_sld hx hb hX hbl hbA V.hS (law_in (k := 3) hi0 hi8 hL (by decide) rfl) dL_law_386 ?_
  refine lv_aload_n hx hb dL_law_387 rfl (lv_at hl 0 rfl) ?_
  refine lv_iload hx hb dL_law_388 (lv_at hl 4 rfl) ?_
  refine lv_iconst (v := 4) hx hb dL_law_390 (by decide) ?_
  refine lv_iadd hx hb dL_law_391 ?_
  refine va_sld hx hb hX hbl hbA V.hS (law_in (k := 4) hi0 hi8 hL (by decide) rfl) dL_law_392 ?_
  refine lv_aload_n hx hb dL_law_393 rfl (lv_at hl 0 rfl) ?_
  refine lv_iload hx hb dL_law_394 (lv_at hl 4 rfl) ?_
  refine lv_iconst (v := 5) hx hb dL_law_396 (by decide) ?_
  refine lv_iadd hx hb dL_law_397 ?_
  refine va_sld hx hb hX hbl hbA V.hS (law_in (k := 5) hi0 hi8 hL (by decide) rfl) dL_law_398 ?_
  have hI0 := V.hI
  have hC0 := V.hC
  have hM0 := V.hM
  have bn : (0 : Int) ≤ (xi (E 1) 0).toInt ∧ (xi (E 1) 0).toInt ≤ 400 := hI0.iv 1 (mF 1 rfl) rfl (Nat.le_of_ble_eq_true rfl) rfl
  have bb : (0 : Int) ≤ (xi (E 1) 1).toInt ∧ (xi (E 1) 1).toInt ≤ 16 := hI0.iv 1 (mF 1 rfl) rfl (Nat.le_of_ble_eq_true rfl) rfl
  obtain ⟨⟨k0, k1, k2, k3, k4, k5⟩, -⟩ := id hC0
  refine lC F V (fun r u h => h.1) (va_runV (As := [.int (xs (i + 1).toNatClampNeg), .int (xs (i + 2).toNatClampNeg), .int (xs (i + 3).toNatClampNeg), .int (xs (i + 4).toNatClampNeg), .int (xs (i + 5).toNatClampNeg)]) (rest := []) ⟨hx, hb, hml, hown, hts⟩ (q_u_feedX l dC dI cT cf V.hC ad E H.size (xs (i + 1).toNatClampNeg) (xs (i + 2).toNatClampNeg) (xs (i + 3).toNatClampNeg) (xs (i + 4).toNatClampNeg) (xs (i + 5).toNatClampNeg) V.hI) (cwV 5 hts (gl_V (al_0 _ (zs16 (zs4 (zs4 (zs0))))) (al_0 _ (zs16 (zs4 (zs4 (zs1 (zs0)))))) (al_0 _ (zs16 (zs4 (zs4 (zs1 (zs1 (zs0))))))) (vl_A _ (in_4 _ (zs16 (zs4 (zs1 (zs1 (zs1 (zs0)))))))) (vl_A _ (in_18 _ (zs4 (zs4 (zs1 (zs1 (zs0)))))))) rfl rfl rfl ⟨rfl, hz_yX12_feed_5⟩ ⟨Nat.le_of_ble_eq_true rfl, Nat.le_of_ble_eq_true rfl⟩) ⟨HWL_bl, va_recv F.kc V.cp (ci := 13) (q0 := posL 0 (LC cf)) rfl (V.hI.ob 0 (mF 0 rfl) rfl), HWL_wi V.cp F.kc V.dc V.hS F.hA (V.ec F)⟩ rfl rfl hl.1 rfl (lv_room (Nat.le_of_ble_eq_true rfl)) dL_law_399 ⟨by show cn + 0 ≤ 601024; omega, by show sn + 0 ≤ 7293034; omega⟩) (fun r1 E1 H locs hw1 V => ?_)
  refine lv_pop hx hb dL_law_402 rfl ?_
  refine lv_aload_n hx hb dL_law_403 rfl (lv_at hl 2 rfl) ?_
  refine lv_aload_n hx hb dL_law_404 rfl (lv_at hl 0 rfl) ?_
  refine lv_iload hx hb dL_law_405 (lv_at hl 4 rfl) ?_
  refine lv_iconst (v := 1) hx hb dL_law_407 (by decide) ?_
  refine lv_iadd hx hb dL_law_408 ?_
  refine va_sld hx hb hX hbl hbA V.hS (law_in (k := 1) hi0 hi8 hL (by decide) rfl) dL_law_409 ?_
  refine lv_aload_n hx hb dL_law_410 rfl (lv_at hl 0 rfl) ?_
  refine lv_iload hx hb dL_law_411 (lv_at hl 4 rfl) ?_
  refine lv_iconst (v := 2) hx hb dL_law_413 (by decide) ?_
  refine lv_iadd hx hb dL_law_414 ?_
  refine va_sld hx hb hX hbl hbA V.hS (law_in (k := 2) hi0 hi8 hL (by decide) rfl) dL_law_415 ?_
  refine lv_aload_n hx hb dL_law_416 rfl (lv_at hl 0 rfl) ?_
  refine lv_iload hx hb dL_law_417 (lv_at hl 4 rfl) ?_
  refine lv_iconst (v := 3) hx hb dL_law_419 (by decide) ?_
  refine lv_iadd hx hb dL_law_420 ?_
  refine va_sld hx hb hX hbl hbA V.hS (law_in (k := 3) hi0 hi8 hL (by decide) rfl) dL_law_421 ?_
  refine lv_aload_n hx hb dL_law_422 rfl (lv_at hl 0 rfl) ?_
  refine lv_iload hx hb dL_law_423 (lv_at hl 4 rfl) ?_
  refine lv_iconst (v := 4) hx hb dL_law_425 (by decide) ?_
  refine lv_iadd hx hb dL_law_426 ?_
  refine va_sld hx hb hX hbl hbA V.hS (law_in (k := 4) hi0 hi8 hL (by decide) rfl) dL_law_427 ?_
  refine lv_aload_n hx hb dL_law_428 rfl (lv_at hl 0 rfl) ?_
  refine lv_iload hx hb dL_law_429 (lv_at hl 4 rfl) ?_
  refine lv_iconst (v := 5) hx hb dL_law_431 (by decide) ?_
  refine lv_iadd hx hb dL_law_432 ?_
  refine va_sld hx hb hX hbl hbA V.hS (law_in (k := 5) hi0 hi8 hL (by decide) rfl) dL_law_433 ?_
  refine lM F V (fun r u h => ⟨h.1, DIr_kp h.2.1 (fun _ => rfl) (fun _ => rfl) V.hDI⟩) (va_runV (As := [.int (xs (i + 1).toNatClampNeg), .int (xs (i + 2).toNatClampNeg), .int (xs (i + 3).toNatClampNeg), .int (xs (i + 4).toNatClampNeg), .int (xs (i + 5).toNatClampNeg)]) (rest := []) ⟨hx, hb, hml, hown, hts⟩ (q_feedX l dC dI cT am EM H.size (xs (i + 1).toNatClampNeg) (xs (i + 2).toNatClampNeg) (xs (i + 3).toNatClampNeg) (xs (i + 4).toNatClampNeg) (xs (i + 5).toNatClampNeg) V.hM) (cwV 5 hts (gl_V (al_0 _ (zs16 (zs4 (zs4 (zs1 (zs1 (zs1 (zs0)))))))) (al_0 _ (zs16 (zs4 (zs4 (zs4 (zs0)))))) (al_0 _ (zs16 (zs4 (zs4 (zs4 (zs1 (zs0))))))) (vl_A _ (in_24 _ (zs4 (zs4 (zs4 (zs1 (zs1 (zs1 (zs0))))))))) (vl_A _ (in_31 _ (zs16 (zs4 (zs4 (zs4 (zs1 (zs1 (zs0)))))))))) rfl rfl rfl ⟨rfl, hz_yX13_feed_5⟩ ⟨Nat.le_of_ble_eq_true rfl, Nat.le_of_ble_eq_true rfl⟩) ⟨HW_bl, va_recv F.km V.pm (ci := 14) (q0 := 0) rfl (V.hM.ob 0 (Nat.le_of_ble_eq_true rfl) rfl), HW_wi V.pm F.km V.dm V.hS F.hA F.hEV⟩ rfl rfl hl.1 rfl (lv_room (Nat.le_of_ble_eq_true rfl)) dL_law_434 ⟨by show cn + 0 ≤ 601024; omega, by show sn + 0 ≤ 7293034; omega⟩) (fun r2 EM1 H locs hw2 V => ?_)
  have hRS := hRS.keep (cf' := cf) (E' := E1) rfl (fun i9 _ => xik hw1.2.1 (o := 64 * (i9 + 1) + 12) (j := 2) (by first | exact wl_p rfl rfl (by omega) | (simp [wl]; done) | (simp [wl]; omega))) (fun i9 _ => xik hw1.2.1 (o := 64 * (i9 + 1) + 12) (j := 3) (by first | exact wl_p rfl rfl (by omega) | (simp [wl]; done) | (simp [wl]; omega)))
  have hb9 : (xi (E 1) 1).toInt ≤ (xi (E1 1) 1).toInt := by rw [show xi (E1 1) 1 = xi (E 1) 1 from xik hw1.2.1 (o := 1) (j := 1) (by first | rfl | (simp [wl]; done) | (simp [wl]; omega))]; exact Int.le_refl _
  have hB := hB.keep (cf' := cf) (E' := E1) rfl hb9 (fun i9 _ => xik hw1.2.1 (o := 64 * (i9 + 1) + 0) (j := 0) (by first | exact wl_p rfl rfl (by omega) | (simp [wl]; done) | (simp [wl]; omega)))
  have hU := hU.keep (cf' := cf) (E' := E1) rfl (fun _ _ => ⟨rfl, rfl⟩) (fun i9 _ t9 _ _ j9 => xik hw1.2.1 (o := 64 * (i9 + 1) + t9) (j := j9) (by first | exact wl_p rfl rfl (by omega) | (simp [wl]; done) | (simp [wl]; omega))) (fun j9 => xik hw2.2.1 (o := 8) (j := j9) rfl) (fun j9 => xik hw2.2.1 (o := 9) (j := j9) rfl)
  have hG := hG.keep (cf' := cf) (E' := E1) rfl (fun i9 j9 _ => xik hw1.2.1 (o := 64 * (i9 + 1) + 14) (j := j9) (by first | exact wl_p rfl rfl (by omega) | (simp [wl]; done) | (simp [wl]; omega))) (fun j9 => xik hw2.2.1 (o := 51) (j := j9) rfl)
  have hI1 := hw1.1
  have bl0 : (0 : Int) ≤ (xi (E 2) 1).toInt ∧ (xi (E 2) 1).toInt ≤ 200 := hI0.iv 2 (mF 2 rfl) rfl (Nat.le_of_ble_eq_true rfl) rfl
  have bm0 : (0 : Int) ≤ (xi (EM 0) 16).toInt ∧ (xi (EM 0) 16).toInt ≤ 200 := hM0.iv 0 (Nat.le_of_ble_eq_true rfl) rfl (Nat.le_of_ble_eq_true rfl) rfl
  have el0 : (xi (E 2) 1).toInt = (xi (EM 0) 16).toInt := by have h9 := hT.1; unfold tN lMn at h9; rw [tn_, tn_] at h9; omega
  have bl1 : (0 : Int) ≤ (xi (E1 2) 1).toInt ∧ (xi (E1 2) 1).toInt ≤ 200 := hw1.1.iv 2 (mF 2 rfl) rfl (Nat.le_of_ble_eq_true rfl) rfl
  have bm1 : (0 : Int) ≤ (xi (EM1 0) 16).toInt ∧ (xi (EM1 0) 16).toInt ≤ 200 := hw2.1.iv 0 (Nat.le_of_ble_eq_true rfl) rfl (Nat.le_of_ble_eq_true rfl) rfl
  have kk0 : xi (E1 1) 0 = xi (E 1) 0 := xik hw1.2.1 (o := 1) (j := 0) (by first | rfl | (simp [wl]; done) | (simp [wl]; omega))
  have kk1 : xi (E1 1) 1 = xi (E 1) 1 := xik hw1.2.1 (o := 1) (j := 1) (by first | rfl | (simp [wl]; done) | (simp [wl]; omega))
  have kk2 : xi (E1 1) 2 = xi (E 1) 2 := xik hw1.2.1 (o := 1) (j := 2) (by first | rfl | (simp [wl]; done) | (simp [wl]; omega))
  have hp : PK X0 cf E E1 := fun t i j _ _ _ _ => xik hw1.2.1 (by first | exact wl_p rfl rfl (by omega) | (simp [wl]; done) | (simp [wl]; omega))
  have hR1 : REL cf E1 EM1 := hR.keep (fun _ _ _ => rfl) kk0 kk1 kk2 hp (kpS hw2.2.1 rfl) (kpR hw2.2.1 rfl)
  have hd : r1.toInt = r2.toInt ∧ TP cf E1 EM1 := by
    obtain ⟨-, -, hc1⟩ := id hw1
    obtain ⟨-, -, hc2⟩ := id hw2
    rcases hc1 with ⟨n1, g1, u1⟩ | ⟨n1, g1, v1, u1⟩ <;> rcases hc2 with ⟨n2, g2, u2⟩ | ⟨n2, g2, v2, u2⟩
    · exact ⟨by rw [n1, n2], hT.feed u1 u2 (fun i9 j9 _ => xik hw1.2.1 (o := 64 * (i9 + 1) + 1) (j := j9) (by first | exact wl_p rfl rfl (by omega) | (simp [wl]; done) | (simp [wl]; omega))) (xik hw2.2.1 (o := 0) (j := 17) rfl) (fun j9 => xik hw2.2.1 (o := 10) (j := j9) rfl) (fun j9 => xik hw2.2.1 (o := 11) (j := j9) rfl)⟩
    · exfalso; omega
    · exfalso; omega
    · have hT1 := hT.feed u1 u2 (fun i9 j9 _ => xik hw1.2.1 (o := 64 * (i9 + 1) + 1) (j := j9) (by first | exact wl_p rfl rfl (by omega) | (simp [wl]; done) | (simp [wl]; omega))) (xik hw2.2.1 (o := 0) (j := 17) rfl) (fun j9 => xik hw2.2.1 (o := 10) (j := j9) rfl) (fun j9 => xik hw2.2.1 (o := 11) (j := j9) rfl)
      exact ⟨by have h9 := hT1.1; unfold tN lMn at h9; rw [tn_, tn_] at h9; omega, hT1⟩
  have hR := hR1
  have hT := hd.2
  refine lv_pop hx hb dL_law_437 rfl ?_
  refine lv_goto (tgt := 1859) hx hb dL_law_438 (by decide) ?_
  exact W.widen (k := cn + 7) (n := sn + 3300) (by omega) (by omega) (tail _ _ _ _ _ _ _ _ V ⟨⟨⟨⟨⟨hR, hT⟩, hU⟩, hG⟩, hB⟩, hRS⟩ hl)
set_option maxHeartbeats 4000000 in
set_option maxRecDepth 100000 in
theorem law_case_5 {p : Program} {e : Env} {s : State} {m : MethodId} {below : List Frame} {meth : Method} {c : Code} (l : Launch) {b L : Nat} {xs : Nat → Int32} (hL : L ≤ 4096) (C0 : lw_At p s m meth c b L xs) {A : Nat → Prop} {ed : Nat} {dC : Nat → ClassId} {dI : Nat → Nat → Nat} {cT : Nat → ClassId} {cL : ClassId} (F : FX l s A ed dC dI cT cL) {x ou : Nat} {am cf ad : Nat → Nat} {E EM : Nat → va_E} {f : Nat → Int64} {H : Heap} {locs : List Loc} (V : INV s A ed dC dI cT cL x ou am cf ad E EM f H locs) (hR : REL15 cf E EM) {i : Int32} (hi0 : 0 ≤ i.toInt) (hi8 : i.toInt + 8 ≤ (L : Int)) {cn sn : Nat} (hcn : cn + 7 ≤ 601024) (hsn : sn + 3300 ≤ 7293034) (ls : Array Slot) (hl : lv_has ls 7 [(0, .ref b), (1, .ref x), (2, .ref (am 0)), (3, .ref ou), (4, .int i)]) (tail : (∀ (cf ad : Nat → Nat) (E EM : Nat → va_E) (f : Nat → Int64) (H : Heap) (locs : List Loc) (ls : Array Slot), INV s A ed dC dI cT cL x ou am cf ad E EM f H locs → REL15 cf E EM → lv_has ls 7 [(0, .ref b), (1, .ref x), (2, .ref (am 0)), (3, .ref ou), (4, .int i)] → W p l e room_1 s m #[Value.ref b] below meth c H locs (cn + 7) (sn + 3300) (lw_Z below #[Value.ref b] s) (F0 m 1859 ls []))) : W p l e room_1 s m #[Value.ref b] below meth c H locs cn sn (lw_Z below #[Value.ref b] s) (F0 m 441 ls []) := by
  obtain ⟨hx, hb, hr, hml, hown, hts0, hX, hbl, hlocks, hgv⟩ := id C0
  have hts := fun w (h : w ∈ v_law) => hts0 w (v_law_in w h)
  have hbA : ¬ A b := F.hnA b hbl
  obtain rfl := V.hx
  obtain ⟨⟨⟨⟨⟨hR, hT⟩, hU⟩, hG⟩, hB⟩, hRS⟩ := hR
  refine lv_aload_n hx hb dL_law_441 rfl (lv_at hl 1 rfl) ?_
  refine lv_aload_n hx hb dL_law_442 rfl (lv_at hl 0 rfl) ?_
  refine lv_iload hx hb dL_law_443 (lv_at hl 4 rfl) ?_
  refine lv_iconst (v := 1) hx hb dL_law_445 (by decide) ?_
  refine lv_iadd hx hb dL_law_446 ?_
  refine va_sld hx hb hX hbl hbA V.hS (law_in (k := 1) hi0 hi8 hL (by decide) rfl) dL_law_447 ?_
  have hI0 := V.hI
  have hC0 := V.hC
  have hM0 := V.hM
  have bn : (0 : Int) ≤ (xi (E 1) 0).toInt ∧ (xi (E 1) 0).toInt ≤ 400 := hI0.iv 1 (mF 1 rfl) rfl (Nat.le_of_ble_eq_true rfl) rfl
  have bb : (0 : Int) ≤ (xi (E 1) 1).toInt ∧ (xi (E 1) 1).toInt ≤ 16 := hI0.iv 1 (mF 1 rfl) rfl (Nat.le_of_ble_eq_true rfl) rfl
  obtain ⟨⟨k0, k1, k2, k3, k4, k5⟩, -⟩ := id hC0
  refine lC F V (fun r u h => h.1) (va_runV (As := [.int (xs (i + 1).toNatClampNeg)]) (rest := []) ⟨hx, hb, hml, hown, hts⟩ (q_u_endX l dC dI cT cf V.hC ad E H.size (xs (i + 1).toNatClampNeg) V.hI) (cwV 1 hts (gl_V (al_0 _ (zs16 (zs4 (zs4 (zs4 (zs1 (zs1 (zs0)))))))) (al_0 _ (zs16 (zs4 (zs4 (zs4 (zs1 (zs1 (zs1 (zs0))))))))) (al_0 _ (zs16 (zs16 (zs0)))) (vl_A _ (in_4 _ (zs16 (zs4 (zs1 (zs1 (zs1 (zs0)))))))) (vl_A _ (in_17 _ (zs16 (zs16 (zs4 (zs0))))))) rfl rfl rfl ⟨rfl, hz_yX12_end_1⟩ ⟨Nat.le_of_ble_eq_true rfl, Nat.le_of_ble_eq_true rfl⟩) ⟨HWL_bl, va_recv F.kc V.cp (ci := 13) (q0 := posL 0 (LC cf)) rfl (V.hI.ob 0 (mF 0 rfl) rfl), HWL_wi V.cp F.kc V.dc V.hS F.hA (V.ec F)⟩ rfl rfl hl.1 rfl (lv_room (Nat.le_of_ble_eq_true rfl)) dL_law_448 ⟨by show cn + 0 ≤ 601024; omega, by show sn + 0 ≤ 7293034; omega⟩) (fun r1 E1 H locs hw1 V => ?_)
  refine lv_pop hx hb dL_law_451 rfl ?_
  refine lv_aload_n hx hb dL_law_452 rfl (lv_at hl 2 rfl) ?_
  refine lv_aload_n hx hb dL_law_453 rfl (lv_at hl 0 rfl) ?_
  refine lv_iload hx hb dL_law_454 (lv_at hl 4 rfl) ?_
  refine lv_iconst (v := 1) hx hb dL_law_456 (by decide) ?_
  refine lv_iadd hx hb dL_law_457 ?_
  refine va_sld hx hb hX hbl hbA V.hS (law_in (k := 1) hi0 hi8 hL (by decide) rfl) dL_law_458 ?_
  refine lM F V (fun r u h => ⟨h.1, DIr_kp h.2.1 (fun _ => rfl) (fun _ => rfl) V.hDI⟩) (va_runV (As := [.int (xs (i + 1).toNatClampNeg)]) (rest := []) ⟨hx, hb, hml, hown, hts⟩ (q_endX l dC dI cT am EM H.size (xs (i + 1).toNatClampNeg) V.hM) (cwV 1 hts (gl_V (al_0 _ (zs16 (zs16 (zs1 (zs0))))) (al_0 _ (zs16 (zs16 (zs1 (zs1 (zs0)))))) (al_0 _ (zs16 (zs16 (zs1 (zs1 (zs1 (zs0))))))) (vl_A _ (in_24 _ (zs4 (zs4 (zs4 (zs1 (zs1 (zs1 (zs0))))))))) (vl_A _ (in_31 _ (zs16 (zs4 (zs4 (zs1 (zs0)))))))) rfl rfl rfl ⟨rfl, hz_yX13_end_1⟩ ⟨Nat.le_of_ble_eq_true rfl, Nat.le_of_ble_eq_true rfl⟩) ⟨HW_bl, va_recv F.km V.pm (ci := 14) (q0 := 0) rfl (V.hM.ob 0 (Nat.le_of_ble_eq_true rfl) rfl), HW_wi V.pm F.km V.dm V.hS F.hA F.hEV⟩ rfl rfl hl.1 rfl (lv_room (Nat.le_of_ble_eq_true rfl)) dL_law_459 ⟨by show cn + 0 ≤ 601024; omega, by show sn + 0 ≤ 7293034; omega⟩) (fun r2 EM1 H locs hw2 V => ?_)
  have hRS := hRS.keep (cf' := cf) (E' := E1) rfl (fun i9 _ => xik hw1.2.1 (o := 64 * (i9 + 1) + 12) (j := 2) (by first | exact wl_p rfl rfl (by omega) | (simp [wl]; done) | (simp [wl]; omega))) (fun i9 _ => xik hw1.2.1 (o := 64 * (i9 + 1) + 12) (j := 3) (by first | exact wl_p rfl rfl (by omega) | (simp [wl]; done) | (simp [wl]; omega)))
  have hb9 : (xi (E 1) 1).toInt ≤ (xi (E1 1) 1).toInt := by rw [show xi (E1 1) 1 = xi (E 1) 1 from xik hw1.2.1 (o := 1) (j := 1) (by first | rfl | (simp [wl]; done) | (simp [wl]; omega))]; exact Int.le_refl _
  have hB := hB.keep (cf' := cf) (E' := E1) rfl hb9 (fun i9 _ => xik hw1.2.1 (o := 64 * (i9 + 1) + 0) (j := 0) (by first | exact wl_p rfl rfl (by omega) | (simp [wl]; done) | (simp [wl]; omega)))
  have hU := hU.keep (cf' := cf) (E' := E1) rfl (fun _ _ => ⟨rfl, rfl⟩) (fun i9 _ t9 _ _ j9 => xik hw1.2.1 (o := 64 * (i9 + 1) + t9) (j := j9) (by first | exact wl_p rfl rfl (by omega) | (simp [wl]; done) | (simp [wl]; omega))) (fun j9 => xik hw2.2.1 (o := 8) (j := j9) rfl) (fun j9 => xik hw2.2.1 (o := 9) (j := j9) rfl)
  have hG := hG.keep (cf' := cf) (E' := E1) rfl (fun i9 j9 _ => xik hw1.2.1 (o := 64 * (i9 + 1) + 14) (j := j9) (by first | exact wl_p rfl rfl (by omega) | (simp [wl]; done) | (simp [wl]; omega))) (fun j9 => xik hw2.2.1 (o := 51) (j := j9) rfl)
  have hI1 := hw1.1
  have bl0 : (0 : Int) ≤ (xi (E 2) 1).toInt ∧ (xi (E 2) 1).toInt ≤ 200 := hI0.iv 2 (mF 2 rfl) rfl (Nat.le_of_ble_eq_true rfl) rfl
  have bm0 : (0 : Int) ≤ (xi (EM 0) 16).toInt ∧ (xi (EM 0) 16).toInt ≤ 200 := hM0.iv 0 (Nat.le_of_ble_eq_true rfl) rfl (Nat.le_of_ble_eq_true rfl) rfl
  have el0 : (xi (E 2) 1).toInt = (xi (EM 0) 16).toInt := by have h9 := hT.1; unfold tN lMn at h9; rw [tn_, tn_] at h9; omega
  have bl1 : (0 : Int) ≤ (xi (E1 2) 1).toInt ∧ (xi (E1 2) 1).toInt ≤ 200 := hw1.1.iv 2 (mF 2 rfl) rfl (Nat.le_of_ble_eq_true rfl) rfl
  have bm1 : (0 : Int) ≤ (xi (EM1 0) 16).toInt ∧ (xi (EM1 0) 16).toInt ≤ 200 := hw2.1.iv 0 (Nat.le_of_ble_eq_true rfl) rfl (Nat.le_of_ble_eq_true rfl) rfl
  have kk0 : xi (E1 1) 0 = xi (E 1) 0 := xik hw1.2.1 (o := 1) (j := 0) (by first | rfl | (simp [wl]; done) | (simp [wl]; omega))
  have kk1 : xi (E1 1) 1 = xi (E 1) 1 := xik hw1.2.1 (o := 1) (j := 1) (by first | rfl | (simp [wl]; done) | (simp [wl]; omega))
  have kk2 : xi (E1 1) 2 = xi (E 1) 2 := xik hw1.2.1 (o := 1) (j := 2) (by first | rfl | (simp [wl]; done) | (simp [wl]; omega))
  have hp : PK X0 cf E E1 := fun t i j _ _ _ _ => xik hw1.2.1 (by first | exact wl_p rfl rfl (by omega) | (simp [wl]; done) | (simp [wl]; omega))
  have hR1 : REL cf E1 EM1 := hR.keep (fun _ _ _ => rfl) kk0 kk1 kk2 hp (kpS hw2.2.1 rfl) (kpR hw2.2.1 rfl)
  have hd : r1.toInt = r2.toInt ∧ TP cf E1 EM1 := by
    obtain ⟨-, -, hc1⟩ := id hw1
    obtain ⟨-, -, hc2⟩ := id hw2
    rcases hc1 with ⟨n1, g1, v1, u1⟩ | ⟨n1, g1, v1, u1⟩ <;> rcases hc2 with ⟨n2, g2, v2, u2⟩ | ⟨n2, g2, v2, u2⟩
    · exact ⟨by rw [n1, n2], hT.set (by unfold tN lMn; rw [tn_, tn_]; omega) (fun j9 => congrFun u1 j9) (fun i9 j9 _ => xik hw1.2.1 (o := 64 * (i9 + 1) + 1) (j := j9) (by first | exact wl_p rfl rfl (by omega) | (simp [wl]; done) | (simp [wl]; omega))) (xik hw2.2.1 (o := 0) (j := 17) rfl) (fun j9 => congrFun u2 j9) (fun j9 => xik hw2.2.1 (o := 10) (j := j9) rfl) (fun j9 => xik hw2.2.1 (o := 11) (j := j9) rfl)⟩
    · exfalso; omega
    · exfalso; omega
    · exact ⟨by rw [n1, n2], hT.set (by unfold tN lMn; rw [tn_, tn_]; omega) (fun j9 => congrFun u1 j9) (fun i9 j9 _ => xik hw1.2.1 (o := 64 * (i9 + 1) + 1) (j := j9) (by first | exact wl_p rfl rfl (by omega) | (simp [wl]; done) | (simp [wl]; omega))) (xik hw2.2.1 (o := 0) (j := 17) rfl) (fun j9 => congrFun u2 j9) (fun j9 => xik hw2.2.1 (o := 10) (j := j9) rfl) (fun j9 => xik hw2.2.1 (o := 11) (j := j9) rfl)⟩
  have hR := hR1
  have hT := hd.2
  refine lv_pop hx hb dL_law_462 rfl ?_
  refine lv_goto (tgt := 1859) hx hb dL_law_463 (by decide) ?_
  exact W.widen (k := cn + 7) (n := sn + 3300) (by omega) (by omega) (tail _ _ _ _ _ _ _ _ V ⟨⟨⟨⟨⟨hR, hT⟩, hU⟩, hG⟩, hB⟩, hRS⟩ hl)
set_option maxHeartbeats 4000000 in
set_option maxRecDepth 100000 in
theorem law_case_6 {p : Program} {e : Env} {s : State} {m : MethodId} {below : List Frame} {meth : Method} {c : Code} (l : Launch) {b L : Nat} {xs : Nat → Int32} (hL : L ≤ 4096) (C0 : lw_At p s m meth c b L xs) {A : Nat → Prop} {ed : Nat} {dC : Nat → ClassId} {dI : Nat → Nat → Nat} {cT : Nat → ClassId} {cL : ClassId} (F : FX l s A ed dC dI cT cL) {x ou : Nat} {am cf ad : Nat → Nat} {E EM : Nat → va_E} {f : Nat → Int64} {H : Heap} {locs : List Loc} (V : INV s A ed dC dI cT cL x ou am cf ad E EM f H locs) (hR : REL15 cf E EM) {i : Int32} (hi0 : 0 ≤ i.toInt) (hi8 : i.toInt + 8 ≤ (L : Int)) {cn sn : Nat} (hcn : cn + 7 ≤ 601024) (hsn : sn + 3300 ≤ 7293034) (ls : Array Slot) (hl : lv_has ls 7 [(0, .ref b), (1, .ref x), (2, .ref (am 0)), (3, .ref ou), (4, .int i)]) (tail : (∀ (cf ad : Nat → Nat) (E EM : Nat → va_E) (f : Nat → Int64) (H : Heap) (locs : List Loc) (ls : Array Slot), INV s A ed dC dI cT cL x ou am cf ad E EM f H locs → REL15 cf E EM → lv_has ls 7 [(0, .ref b), (1, .ref x), (2, .ref (am 0)), (3, .ref ou), (4, .int i)] → W p l e room_1 s m #[Value.ref b] below meth c H locs (cn + 7) (sn + 3300) (lw_Z below #[Value.ref b] s) (F0 m 1859 ls []))) : W p l e room_1 s m #[Value.ref b] below meth c H locs cn sn (lw_Z below #[Value.ref b] s) (F0 m 466 ls []) := by
  obtain ⟨hx, hb, hr, hml, hown, hts0, hX, hbl, hlocks, hgv⟩ := id C0
  have hts := fun w (h : w ∈ v_law) => hts0 w (v_law_in w h)
  have hbA : ¬ A b := F.hnA b hbl
  obtain rfl := V.hx
  obtain ⟨⟨⟨⟨⟨hR, hT⟩, hU⟩, hG⟩, hB⟩, hRS⟩ := hR
  refine lv_aload_n hx hb dL_law_466 rfl (lv_at hl 1 rfl) ?_
  have hI0 := V.hI
  have hC0 := V.hC
  have hM0 := V.hM
  have bn : (0 : Int) ≤ (xi (E 1) 0).toInt ∧ (xi (E 1) 0).toInt ≤ 400 := hI0.iv 1 (mF 1 rfl) rfl (Nat.le_of_ble_eq_true rfl) rfl
  have bb : (0 : Int) ≤ (xi (E 1) 1).toInt ∧ (xi (E 1) 1).toInt ≤ 16 := hI0.iv 1 (mF 1 rfl) rfl (Nat.le_of_ble_eq_true rfl) rfl
  obtain ⟨⟨k0, k1, k2, k3, k4, k5⟩, -⟩ := id hC0
  refine lC F V (fun r u h => h.1) (va_runV (As := []) (rest := []) ⟨hx, hb, hml, hown, hts⟩ (q_u_faultX l dC dI cT cf V.hC ad E H.size  V.hI) (cwV 0 hts (gl_V (al_0 _ (zs16 (zs16 (zs4 (zs0))))) (al_0 _ (zs16 (zs16 (zs4 (zs1 (zs0)))))) (al_0 _ (zs16 (zs16 (zs4 (zs1 (zs1 (zs0))))))) (vl_A _ (in_4 _ (zs16 (zs4 (zs1 (zs1 (zs1 (zs0)))))))) (vl_A _ (in_18 _ (zs4 (zs1 (zs1 (zs0))))))) rfl rfl rfl ⟨rfl, hz_yX12_fault_0⟩ ⟨Nat.le_of_ble_eq_true rfl, Nat.le_of_ble_eq_true rfl⟩) ⟨HWL_bl, va_recv F.kc V.cp (ci := 13) (q0 := posL 0 (LC cf)) rfl (V.hI.ob 0 (mF 0 rfl) rfl), HWL_wi V.cp F.kc V.dc V.hS F.hA (V.ec F)⟩ rfl rfl hl.1 rfl (lv_room (Nat.le_of_ble_eq_true rfl)) dL_law_467 ⟨by show cn + 0 ≤ 601024; omega, by show sn + 0 ≤ 7293034; omega⟩) (fun r1 E1 H locs hw1 V => ?_)
  have hcf : ∀ j, j < 6 → j ≠ 1 → cf j = cf j := fun _ _ _ => rfl
  have k6 : xi (E1 1) 0 = xi (E 1) 0 := xik hw1.2.1 (o := 1) (j := 0) (by first | rfl | (simp [wl]; done) | (simp [wl]; omega))
  have k7 : xi (E1 1) 1 = xi (E 1) 1 := xik hw1.2.1 (o := 1) (j := 1) (by first | rfl | (simp [wl]; done) | (simp [wl]; omega))
  have k8 : xi (E1 1) 2 = xi (E 1) 2 := xik hw1.2.1 (o := 1) (j := 2) (by first | rfl | (simp [wl]; done) | (simp [wl]; omega))
  have hp : PK X0 cf E E1 := fun t i j _ _ _ _ => xik hw1.2.1 (by first | exact wl_p rfl rfl (by omega) | (simp [wl]; done) | (simp [wl]; omega))
  refine lv_pop hx hb dL_law_470 rfl ?_
  refine lv_aload_n hx hb dL_law_471 rfl (lv_at hl 2 rfl) ?_
  refine lM F V (fun r u h => ⟨h.1, DIr_kp h.2.1 (fun _ => rfl) (fun _ => rfl) V.hDI⟩) (va_runV (As := []) (rest := []) ⟨hx, hb, hml, hown, hts⟩ (q_faultMX l dC dI cT am EM H.size  V.hM) (cwV 0 hts (gl_V (al_0 _ (zs16 (zs16 (zs4 (zs1 (zs1 (zs1 (zs0)))))))) (al_1 _ zs0) (al_1 _ (zs1 (zs0))) (vl_A _ (in_24 _ (zs4 (zs4 (zs4 (zs1 (zs1 (zs1 (zs0))))))))) (vl_A _ (in_31 _ (zs16 (zs4 (zs4 (zs4 (zs0)))))))) rfl rfl rfl ⟨rfl, hz_yX13_fault_0⟩ ⟨Nat.le_of_ble_eq_true rfl, Nat.le_of_ble_eq_true rfl⟩) ⟨HW_bl, va_recv F.km V.pm (ci := 14) (q0 := 0) rfl (V.hM.ob 0 (Nat.le_of_ble_eq_true rfl) rfl), HW_wi V.pm F.km V.dm V.hS F.hA F.hEV⟩ rfl rfl hl.1 rfl (lv_room (Nat.le_of_ble_eq_true rfl)) dL_law_472 ⟨by show cn + 0 ≤ 601024; omega, by show sn + 0 ≤ 7293034; omega⟩) (fun r2 EM1 H locs hw2 V => ?_)
  have hRS := hRS.keep (cf' := cf) (E' := E1) rfl (fun i9 _ => xik hw1.2.1 (o := 64 * (i9 + 1) + 12) (j := 2) (by first | exact wl_p rfl rfl (by omega) | (simp [wl]; done) | (simp [wl]; omega))) (fun i9 _ => xik hw1.2.1 (o := 64 * (i9 + 1) + 12) (j := 3) (by first | exact wl_p rfl rfl (by omega) | (simp [wl]; done) | (simp [wl]; omega)))
  have hb9 : (xi (E 1) 1).toInt ≤ (xi (E1 1) 1).toInt := by rw [show xi (E1 1) 1 = xi (E 1) 1 from xik hw1.2.1 (o := 1) (j := 1) (by first | rfl | (simp [wl]; done) | (simp [wl]; omega))]; exact Int.le_refl _
  have hB := hB.keep (cf' := cf) (E' := E1) rfl hb9 (fun i9 _ => xik hw1.2.1 (o := 64 * (i9 + 1) + 0) (j := 0) (by first | exact wl_p rfl rfl (by omega) | (simp [wl]; done) | (simp [wl]; omega)))
  have hT9 := hT
  have hT := hT.keep (cf' := cf) (E' := E1) rfl (xik hw1.2.1 (o := 2) (j := 1) (by first | rfl | (simp [wl]; done) | (simp [wl]; omega))) (fun j9 => xik hw1.2.1 (o := 21) (j := j9) (by first | rfl | (simp [wl]; done) | (simp [wl]; omega))) (fun i9 j9 _ => xik hw1.2.1 (o := 64 * (i9 + 1) + 1) (j := j9) (by first | exact wl_p rfl rfl (by omega) | (simp [wl]; done) | (simp [wl]; omega))) (xik hw2.2.1 (o := 0) (j := 16) rfl) (xik hw2.2.1 (o := 0) (j := 17) rfl) (fun j9 => xik hw2.2.1 (o := 7) (j := j9) rfl) (fun j9 => xik hw2.2.1 (o := 10) (j := j9) rfl) (fun j9 => xik hw2.2.1 (o := 11) (j := j9) rfl)
  have hU := hU.keep (cf' := cf) (E' := E1) rfl (fun _ _ => ⟨rfl, rfl⟩) (fun i9 _ t9 _ _ j9 => xik hw1.2.1 (o := 64 * (i9 + 1) + t9) (j := j9) (by first | exact wl_p rfl rfl (by omega) | (simp [wl]; done) | (simp [wl]; omega))) (fun j9 => xik hw2.2.1 (o := 8) (j := j9) rfl) (fun j9 => xik hw2.2.1 (o := 9) (j := j9) rfl)
  have hG := hG.keep (cf' := cf) (E' := E1) rfl (fun i9 j9 _ => xik hw1.2.1 (o := 64 * (i9 + 1) + 14) (j := j9) (by first | exact wl_p rfl rfl (by omega) | (simp [wl]; done) | (simp [wl]; omega))) (fun j9 => xik hw2.2.1 (o := 51) (j := j9) rfl)
  have hd : r1.toInt = r2.toInt ∧ True := ⟨by have h1 := hw1.2.2.2; have h2 := hw2.2.2; rw [h1, h2, hT9.text], trivial⟩
  have hR := hR.keep hcf k6 k7 k8 hp (kpS hw2.2.1 rfl) (kpR hw2.2.1 rfl)
  refine lv_pop hx hb dL_law_475 rfl ?_
  refine lv_goto (tgt := 1859) hx hb dL_law_476 (by decide) ?_
  exact W.widen (k := cn + 7) (n := sn + 3300) (by omega) (by omega) (tail _ _ _ _ _ _ _ _ V ⟨⟨⟨⟨⟨hR, hT⟩, hU⟩, hG⟩, hB⟩, hRS⟩ hl)
set_option maxHeartbeats 4000000 in
set_option maxRecDepth 100000 in
theorem law_case_7 {p : Program} {e : Env} {s : State} {m : MethodId} {below : List Frame} {meth : Method} {c : Code} (l : Launch) {b L : Nat} {xs : Nat → Int32} (hL : L ≤ 4096) (C0 : lw_At p s m meth c b L xs) {A : Nat → Prop} {ed : Nat} {dC : Nat → ClassId} {dI : Nat → Nat → Nat} {cT : Nat → ClassId} {cL : ClassId} (F : FX l s A ed dC dI cT cL) {x ou : Nat} {am cf ad : Nat → Nat} {E EM : Nat → va_E} {f : Nat → Int64} {H : Heap} {locs : List Loc} (V : INV s A ed dC dI cT cL x ou am cf ad E EM f H locs) (hR : REL15 cf E EM) {i : Int32} (hi0 : 0 ≤ i.toInt) (hi8 : i.toInt + 8 ≤ (L : Int)) {cn sn : Nat} (hcn : cn + 7 ≤ 601024) (hsn : sn + 3300 ≤ 7293034) (ls : Array Slot) (hl : lv_has ls 7 [(0, .ref b), (1, .ref x), (2, .ref (am 0)), (3, .ref ou), (4, .int i)]) (tail : (∀ (cf ad : Nat → Nat) (E EM : Nat → va_E) (f : Nat → Int64) (H : Heap) (locs : List Loc) (ls : Array Slot), INV s A ed dC dI cT cL x ou am cf ad E EM f H locs → REL15 cf E EM → lv_has ls 7 [(0, .ref b), (1, .ref x), (2, .ref (am 0)), (3, .ref ou), (4, .int i)] → W p l e room_1 s m #[Value.ref b] below meth c H locs (cn + 7) (sn + 3300) (lw_Z below #[Value.ref b] s) (F0 m 1859 ls []))) : W p l e room_1 s m #[Value.ref b] below meth c H locs cn sn (lw_Z below #[Value.ref b] s) (F0 m 479 ls []) := by
  obtain ⟨hx, hb, hr, hml, hown, hts0, hX, hbl, hlocks, hgv⟩ := id C0
  have hts := fun w (h : w ∈ v_law) => hts0 w (v_law_in w h)
  have hbA : ¬ A b := F.hnA b hbl
  obtain rfl := V.hx
  obtain ⟨⟨⟨⟨⟨hR, hT⟩, hU⟩, hG⟩, hB⟩, hRS⟩ := hR
  refine lv_aload_n hx hb dL_law_479 rfl (lv_at hl 1 rfl) ?_
  refine lv_aload_n hx hb dL_law_480 rfl (lv_at hl 0 rfl) ?_
  refine lv_iload hx hb dL_law_481 (lv_at hl 4 rfl) ?_
  refine lv_iconst (v := 1) hx hb dL_law_483 (by decide) ?_
  refine lv_iadd hx hb dL_law_484 ?_
  refine va_sld hx hb hX hbl hbA V.hS (law_in (k := 1) hi0 hi8 hL (by decide) rfl) dL_law_485 ?_
  have hI0 := V.hI
  have hC0 := V.hC
  have hM0 := V.hM
  have bn : (0 : Int) ≤ (xi (E 1) 0).toInt ∧ (xi (E 1) 0).toInt ≤ 400 := hI0.iv 1 (mF 1 rfl) rfl (Nat.le_of_ble_eq_true rfl) rfl
  have bb : (0 : Int) ≤ (xi (E 1) 1).toInt ∧ (xi (E 1) 1).toInt ≤ 16 := hI0.iv 1 (mF 1 rfl) rfl (Nat.le_of_ble_eq_true rfl) rfl
  obtain ⟨⟨k0, k1, k2, k3, k4, k5⟩, -⟩ := id hC0
  refine lCm F V (fun r u h => (madeX_o h).1) (va_runV (As := [.int (xs (i + 1).toNatClampNeg)]) (rest := []) ⟨hx, hb, hml, hown, hts⟩ (q_u_rulesV l dC dI cT cf V.hC ad E H.size (xs (i + 1).toNatClampNeg) V.hI) (cwV 1 hts (gl_V (al_1 _ (zs1 (zs1 (zs0)))) (al_1 _ (zs1 (zs1 (zs1 (zs0))))) (al_1 _ (zs4 (zs0))) (vl_A _ (in_4 _ (zs16 (zs4 (zs1 (zs1 (zs1 (zs0)))))))) (vl_A _ (in_22 _ (zs16 (zs16 (zs1 (zs1 (zs1 (zs0))))))))) rfl rfl rfl ⟨rfl, hz_yX12_rules_1⟩ ⟨Nat.le_of_ble_eq_true rfl, Nat.le_of_ble_eq_true rfl⟩) ⟨fun a U g mk q => ⟨(HWL_bl a U g mk ⟨q.1, q.2.1⟩).1, (HWL_bl a U g mk ⟨q.1, q.2.1⟩).2, va_Nw.same (u := U) (U := U.calling g mk a) rfl rfl q.2.2⟩, va_recv F.kc V.cp (ci := 13) (q0 := posL 0 (LC cf)) rfl (V.hI.ob 0 (mF 0 rfl) rfl), fun U hU hW => ⟨rfl, (HWL_wi (av := []) V.cp F.kc V.dc V.hS F.hA (V.ec F) U hU hW).2, va_Nw.warmC hW F.hCl⟩⟩ rfl rfl hl.1 rfl (lv_room (Nat.le_of_ble_eq_true rfl)) dL_law_486 ⟨by show cn + 6 ≤ 601024; omega, by show sn + 3206 ≤ 7293034; omega⟩) (fun r1 cf1 ad1 E1 H locs hw1 V => ?_)
  have hcf : ∀ j, j < 6 → j ≠ 1 → cf1 j = cf j := madeX_c hw1
  have k6 : xi (E1 1) 0 = xi (E 1) 0 := congrArg vi ((madeX_o hw1).2 0 (by first | rfl | (simp [wl]; done) | (simp [wl]; omega)))
  have k7 : xi (E1 1) 1 = xi (E 1) 1 := congrArg vi ((madeX_o hw1).2 1 (by first | rfl | (simp [wl]; done) | (simp [wl]; omega)))
  have k8 : xi (E1 1) 2 = xi (E 1) 2 := congrArg vi ((madeX_o hw1).2 2 (by first | rfl | (simp [wl]; done) | (simp [wl]; omega)))
  have hp : PK X0 cf E E1 := fun t i j ht _ _ hi => madeX_p hw1 (by decide) (fun o j ho => by first | exact wl_p rfl rfl (by omega) | (simp [wl]; done) | (simp [wl]; omega)) t i j ht hi
  refine lv_pop hx hb dL_law_489 rfl ?_
  refine lv_aload_n hx hb dL_law_490 rfl (lv_at hl 2 rfl) ?_
  refine lv_aload_n hx hb dL_law_491 rfl (lv_at hl 0 rfl) ?_
  refine lv_iload hx hb dL_law_492 (lv_at hl 4 rfl) ?_
  refine lv_iconst (v := 1) hx hb dL_law_494 (by decide) ?_
  refine lv_iadd hx hb dL_law_495 ?_
  refine va_sld hx hb hX hbl hbA V.hS (law_in (k := 1) hi0 hi8 hL (by decide) rfl) dL_law_496 ?_
  refine lM F V (fun r u h => ⟨h.1, DIr_kp h.2.1 (fun _ => rfl) (fun _ => rfl) V.hDI⟩) (va_runV (As := [.int (xs (i + 1).toNatClampNeg)]) (rest := []) ⟨hx, hb, hml, hown, hts⟩ (q_rulesV l dC dI cT am EM H.size (xs (i + 1).toNatClampNeg) V.hM) (cwV 1 hts (gl_V (al_1 _ (zs4 (zs1 (zs0)))) (al_1 _ (zs4 (zs1 (zs1 (zs0))))) (al_1 _ (zs4 (zs1 (zs1 (zs1 (zs0)))))) (vl_A _ (in_24 _ (zs4 (zs4 (zs4 (zs1 (zs1 (zs1 (zs0))))))))) (vl_A _ (in_33 _ (zs16 (zs4 (zs4 (zs0))))))) rfl rfl rfl ⟨rfl, hz_yX13_rules_1⟩ ⟨Nat.le_of_ble_eq_true rfl, Nat.le_of_ble_eq_true rfl⟩) ⟨HW_bl, va_recv F.km V.pm (ci := 14) (q0 := 0) rfl (V.hM.ob 0 (Nat.le_of_ble_eq_true rfl) rfl), HW_wi V.pm F.km V.dm V.hS F.hA F.hEV⟩ rfl rfl hl.1 rfl (lv_room (Nat.le_of_ble_eq_true rfl)) dL_law_497 ⟨by show cn + 6 + 0 ≤ 601024; omega, by show sn + 3206 + 0 ≤ 7293034; omega⟩) (fun r2 EM1 H locs hw2 V => ?_)
  have hs29 : ∀ i9, i9 < cf 3 → xi (E1 (64 * (i9 + 1) + 12)) 2 = xi (E (64 * (i9 + 1) + 12)) 2 := fun i9 hi9 => madeX_p hw1 (by decide) (fun o j ho => by first | exact wl_p rfl rfl (by omega) | (simp [wl]; done) | (simp [wl]; omega)) 12 i9 2 (by decide) hi9
  have hs39 : ∀ i9, i9 < cf 3 → xi (E1 (64 * (i9 + 1) + 12)) 3 = xi (E (64 * (i9 + 1) + 12)) 3 := fun i9 hi9 => madeX_p hw1 (by decide) (fun o j ho => by first | exact wl_p rfl rfl (by omega) | (simp [wl]; done) | (simp [wl]; omega)) 12 i9 3 (by decide) hi9
  have hRS := hRS.keep (cf' := cf1) (E' := E1) (madeX_c hw1 3 (by decide) (by decide)) hs29 hs39
  have hb9 : xi (E1 1) 1 = xi (E 1) 1 := congrArg vi ((madeX_o hw1).2 1 (by first | rfl | (simp [wl]; done) | (simp [wl]; omega)))
  have hk9 : ∀ i9, i9 < cf 0 → xi (E1 (64 * (i9 + 1) + 0)) 0 = xi (E (64 * (i9 + 1) + 0)) 0 := fun i9 hi9 => madeX_p hw1 (by decide) (fun o j ho => by first | exact wl_p rfl rfl (by omega) | (simp [wl]; done) | (simp [wl]; omega)) 0 i9 0 (by decide) hi9
  have hB := hB.keep (cf' := cf1) (E' := E1) (madeX_c hw1 0 (by decide) (by decide)) (by rw [hb9]; exact Int.le_refl _) hk9
  have hG := hG.keep (cf' := cf1) (E' := E1) (madeX_c hw1 5 (by decide) (by decide)) (fun i9 j9 hi9 => madeX_p hw1 (by decide) (fun o j ho => by first | exact wl_p rfl rfl (by omega) | (simp [wl]; done) | (simp [wl]; omega)) 14 i9 j9 (by decide) hi9) (fun j9 => xik hw2.2.1 (o := 51) (j := j9) rfl)
  have e0 : (xi (E 1) 0).toInt = (xi (EM 0) 1).toInt := congrArg Int32.toInt hR.now
  have hr17 := hT.2.2.1
  have htx := hT.text
  have hfx := congrArg PR.flt htx
  have hR1 : REL cf1 E1 EM1 := hR.keep hcf k6 k7 k8 hp (kpS hw2.2.1 rfl) (kpR hw2.2.1 rfl)
  have hpt : ∀ i j, i < cf 1 → xi (E1 (64 * (i + 1) + 1)) j = xi (E (64 * (i + 1) + 1)) j := fun i9 j9 hi9 => madeX_p hw1 (by decide) (fun o j ho => by first | exact wl_p rfl rfl (by omega) | (simp [wl]; done) | (simp [wl]; omega)) 1 i9 j9 (by decide) hi9
  have hpu : ∀ i, i < cf 1 → ∀ t, 2 ≤ t → t < 6 → ∀ j, xi (E1 (64 * (i + 1) + t)) j = xi (E (64 * (i + 1) + t)) j := fun i9 hi9 t9 g1 g2 j9 => madeX_p hw1 (by decide) (fun o j ho => by first | exact wl_p rfl rfl (by omega) | (simp [wl]; done) | (simp [wl]; omega)) t9 i9 j9 (by omega) (by rw [kl1 t9 g1 g2]; exact hi9)
  have h21 : ∀ j, xi (E1 21) j = xi (E 21) j := fun j9 => madeX_f hw1 (o := 21) (j := j9) (by decide) (by first | rfl | (simp [wl]; done) | (simp [wl]; omega))
  have m7 : ∀ j, xi (EM1 7) j = xi (EM 7) j := fun j9 => xik hw2.2.1 (o := 7) (j := j9) rfl
  have hlb : ∀ i, i < cf 1 → (xi (EM 9) i).toNatClampNeg ≤ 200 := fun i9 hi9 => by have q9 : (0 : Int) ≤ (xi (EM 9) i9).toInt ∧ (xi (EM 9) i9).toInt ≤ 200 := hM0.iv 9 (Nat.le_of_ble_eq_true rfl) rfl (show i9 < 16 by omega) rfl; rw [tn_]; omega
  have hd : r1.toInt = r2.toInt ∧ TP cf1 E1 EM1 ∧ RT cf1 E1 EM1 := by
    obtain ⟨-, -, hc2⟩ := id hw2
    rcases hw1.2.2 with ⟨c1, -, -, n1, g1, ts⟩ | ⟨g, -, -, n1, g1, c0, c2, c3, rn⟩ <;> rcases hc2 with ⟨n2, g2, v2, l2, ⟨x2, y2⟩, t2, z2⟩ | ⟨n2, g2, o2, v2, l2, ⟨x2, y2⟩, z2, z3⟩
    · refine ⟨by rw [n1, n2], ?_, ?_⟩
      · have c4 : cf1 = cf := c1
        subst c4
        exact hT.set (ts.2.trans (hT.1.trans (by unfold lMn; rw [tn_, tn_]; omega))) h21 hpt (Int32.toInt_inj.mp v2) m7 (fun j9 => congrFun x2 j9) (fun j9 => congrFun y2 j9)
      · have c4 : cf1 = cf := c1
        subst c4
        exact hU.keep rfl (fun _ _ => ⟨rfl, rfl⟩) hpu (fun j9 => congrFun z2.1 j9) (fun j9 => congrFun z2.2 j9)
    · exfalso; refine g1 ⟨g2.2.1, by omega, by rw [hfx]; exact g2.1⟩
    · exfalso; refine g2 ⟨by rw [← hfx]; exact g1.2.2, g1.1, by omega⟩
    · have l0 : (0 : Int32).toInt = 0 := rfl
      refine ⟨by omega, ?_, ?_⟩
      · exact hT.push g.1 (by show (xi (E1 2) 1).toNatClampNeg = (xi (EM1 0) 16).toNatClampNeg; rw [show xi (E1 2) 1 = 0 from c3, tn_, tn_]; omega) h21 hpt rfl v2 m7 c0 (c2.trans hR.now) x2 y2
      · exact hU.push g.1 (fun i9 hi9 => g.2.2.2 i9 (fun _ => by omega)) hpu rn (by rw [tn_]; omega) z2 z3 hlb htx
  have hR := hR1
  have hT := hd.2.1
  have hU := hd.2.2
  refine lv_pop hx hb dL_law_500 rfl ?_
  refine lv_goto (tgt := 1859) hx hb dL_law_501 (by decide) ?_
  exact W.widen (k := cn + 7) (n := sn + 3300) (by omega) (by omega) (tail _ _ _ _ _ _ _ _ V ⟨⟨⟨⟨⟨hR, hT⟩, hU⟩, hG⟩, hB⟩, hRS⟩ hl)
set_option maxHeartbeats 4000000 in
set_option maxRecDepth 100000 in
theorem law_case_8 {p : Program} {e : Env} {s : State} {m : MethodId} {below : List Frame} {meth : Method} {c : Code} (l : Launch) {b L : Nat} {xs : Nat → Int32} (hL : L ≤ 4096) (C0 : lw_At p s m meth c b L xs) {A : Nat → Prop} {ed : Nat} {dC : Nat → ClassId} {dI : Nat → Nat → Nat} {cT : Nat → ClassId} {cL : ClassId} (F : FX l s A ed dC dI cT cL) {x ou : Nat} {am cf ad : Nat → Nat} {E EM : Nat → va_E} {f : Nat → Int64} {H : Heap} {locs : List Loc} (V : INV s A ed dC dI cT cL x ou am cf ad E EM f H locs) (hR : REL15 cf E EM) {i : Int32} (hi0 : 0 ≤ i.toInt) (hi8 : i.toInt + 8 ≤ (L : Int)) {cn sn : Nat} (hcn : cn + 7 ≤ 601024) (hsn : sn + 3300 ≤ 7293034) (ls : Array Slot) (hl : lv_has ls 7 [(0, .ref b), (1, .ref x), (2, .ref (am 0)), (3, .ref ou), (4, .int i)]) (tail : (∀ (cf ad : Nat → Nat) (E EM : Nat → va_E) (f : Nat → Int64) (H : Heap) (locs : List Loc) (ls : Array Slot), INV s A ed dC dI cT cL x ou am cf ad E EM f H locs → REL15 cf E EM → lv_has ls 7 [(0, .ref b), (1, .ref x), (2, .ref (am 0)), (3, .ref ou), (4, .int i)] → W p l e room_1 s m #[Value.ref b] below meth c H locs (cn + 7) (sn + 3300) (lw_Z below #[Value.ref b] s) (F0 m 1859 ls []))) : W p l e room_1 s m #[Value.ref b] below meth c H locs cn sn (lw_Z below #[Value.ref b] s) (F0 m 504 ls []) := by
  obtain ⟨hx, hb, hr, hml, hown, hts0, hX, hbl, hlocks, hgv⟩ := id C0
  have hts := fun w (h : w ∈ v_law) => hts0 w (v_law_in w h)
  have hbA : ¬ A b := F.hnA b hbl
  obtain rfl := V.hx
  obtain ⟨⟨⟨⟨⟨hR, hT⟩, hU⟩, hG⟩, hB⟩, hRS⟩ := hR
  refine lv_aload_n hx hb dL_law_504 rfl (lv_at hl 1 rfl) ?_
  refine lv_aload_n hx hb dL_law_505 rfl (lv_at hl 0 rfl) ?_
  refine lv_iload hx hb dL_law_506 (lv_at hl 4 rfl) ?_
  refine lv_iconst (v := 1) hx hb dL_law_508 (by decide) ?_
  refine lv_iadd hx hb dL_law_509 ?_
  refine va_sld hx hb hX hbl hbA V.hS (law_in (k := 1) hi0 hi8 hL (by decide) rfl) dL_law_510 ?_
  refine lv_aload_n hx hb dL_law_511 rfl (lv_at hl 0 rfl) ?_
  refine lv_iload hx hb dL_law_512 (lv_at hl 4 rfl) ?_
  refine lv_iconst (v := 2) hx hb dL_law_514 (by decide) ?_
  refine lv_iadd hx hb dL_law_515 ?_
  refine va_sld hx hb hX hbl hbA V.hS (law_in (k := 2) hi0 hi8 hL (by decide) rfl) dL_law_516 ?_
  have hI0 := V.hI
  have hC0 := V.hC
  have hM0 := V.hM
  have bn : (0 : Int) ≤ (xi (E 1) 0).toInt ∧ (xi (E 1) 0).toInt ≤ 400 := hI0.iv 1 (mF 1 rfl) rfl (Nat.le_of_ble_eq_true rfl) rfl
  have bb : (0 : Int) ≤ (xi (E 1) 1).toInt ∧ (xi (E 1) 1).toInt ≤ 16 := hI0.iv 1 (mF 1 rfl) rfl (Nat.le_of_ble_eq_true rfl) rfl
  obtain ⟨⟨k0, k1, k2, k3, k4, k5⟩, -⟩ := id hC0
  refine lC F V (fun r u h => h.1) (va_runV (As := [.int (xs (i + 1).toNatClampNeg), .int (xs (i + 2).toNatClampNeg)]) (rest := []) ⟨hx, hb, hml, hown, hts⟩ (q_u_forceX l dC dI cT cf V.hC ad E H.size (xs (i + 1).toNatClampNeg) (xs (i + 2).toNatClampNeg) V.hI) (cwV 2 hts (gl_V (al_1 _ (zs4 (zs4 (zs0)))) (al_1 _ (zs4 (zs4 (zs1 (zs0))))) (al_1 _ (zs4 (zs4 (zs1 (zs1 (zs0)))))) (vl_A _ (in_4 _ (zs16 (zs4 (zs1 (zs1 (zs1 (zs0)))))))) (vl_A _ (in_18 _ (zs16 (zs1 (zs1 (zs1 (zs0)))))))) rfl rfl rfl ⟨rfl, hz_yX12_force_2⟩ ⟨Nat.le_of_ble_eq_true rfl, Nat.le_of_ble_eq_true rfl⟩) ⟨HWL_bl, va_recv F.kc V.cp (ci := 13) (q0 := posL 0 (LC cf)) rfl (V.hI.ob 0 (mF 0 rfl) rfl), HWL_wi V.cp F.kc V.dc V.hS F.hA (V.ec F)⟩ rfl rfl hl.1 rfl (lv_room (Nat.le_of_ble_eq_true rfl)) dL_law_517 ⟨by show cn + 0 ≤ 601024; omega, by show sn + 0 ≤ 7293034; omega⟩) (fun r1 E1 H locs hw1 V => ?_)
  have hcf : ∀ j, j < 6 → j ≠ 1 → cf j = cf j := fun _ _ _ => rfl
  have k6 : xi (E1 1) 0 = xi (E 1) 0 := xik hw1.2.1 (o := 1) (j := 0) (by first | rfl | (simp [wl]; done) | (simp [wl]; omega))
  have k7 : xi (E1 1) 1 = xi (E 1) 1 := xik hw1.2.1 (o := 1) (j := 1) (by first | rfl | (simp [wl]; done) | (simp [wl]; omega))
  have k8 : xi (E1 1) 2 = xi (E 1) 2 := xik hw1.2.1 (o := 1) (j := 2) (by first | rfl | (simp [wl]; done) | (simp [wl]; omega))
  have hp : PK X0 cf E E1 := fun t i j _ _ _ _ => xik hw1.2.1 (by first | exact wl_p rfl rfl (by omega) | (simp [wl]; done) | (simp [wl]; omega))
  refine lv_pop hx hb dL_law_520 rfl ?_
  refine lv_aload_n hx hb dL_law_521 rfl (lv_at hl 2 rfl) ?_
  refine lv_aload_n hx hb dL_law_522 rfl (lv_at hl 0 rfl) ?_
  refine lv_iload hx hb dL_law_523 (lv_at hl 4 rfl) ?_
  refine lv_iconst (v := 1) hx hb dL_law_525 (by decide) ?_
  refine lv_iadd hx hb dL_law_526 ?_
  refine va_sld hx hb hX hbl hbA V.hS (law_in (k := 1) hi0 hi8 hL (by decide) rfl) dL_law_527 ?_
  refine lv_aload_n hx hb dL_law_528 rfl (lv_at hl 0 rfl) ?_
  refine lv_iload hx hb dL_law_529 (lv_at hl 4 rfl) ?_
  refine lv_iconst (v := 2) hx hb dL_law_531 (by decide) ?_
  refine lv_iadd hx hb dL_law_532 ?_
  refine va_sld hx hb hX hbl hbA V.hS (law_in (k := 2) hi0 hi8 hL (by decide) rfl) dL_law_533 ?_
  refine lM F V (fun r u h => ⟨h.1, DIr_kp h.2.1 (fun _ => rfl) (fun _ => rfl) V.hDI⟩) (va_runV (As := [.int (xs (i + 1).toNatClampNeg), .int (xs (i + 2).toNatClampNeg)]) (rest := []) ⟨hx, hb, hml, hown, hts⟩ (q_forceX l dC dI cT am EM H.size (xs (i + 1).toNatClampNeg) (xs (i + 2).toNatClampNeg) V.hM) (cwV 2 hts (gl_V (al_1 _ (zs4 (zs4 (zs1 (zs1 (zs1 (zs0))))))) (al_1 _ (zs4 (zs4 (zs4 (zs0))))) (al_1 _ (zs4 (zs4 (zs4 (zs1 (zs0)))))) (vl_A _ (in_24 _ (zs4 (zs4 (zs4 (zs1 (zs1 (zs1 (zs0))))))))) (vl_A _ (in_31 _ (zs16 (zs16 (zs4 (zs1 (zs1 (zs1 (zs0)))))))))) rfl rfl rfl ⟨rfl, hz_yX13_force_2⟩ ⟨Nat.le_of_ble_eq_true rfl, Nat.le_of_ble_eq_true rfl⟩) ⟨HW_bl, va_recv F.km V.pm (ci := 14) (q0 := 0) rfl (V.hM.ob 0 (Nat.le_of_ble_eq_true rfl) rfl), HW_wi V.pm F.km V.dm V.hS F.hA F.hEV⟩ rfl rfl hl.1 rfl (lv_room (Nat.le_of_ble_eq_true rfl)) dL_law_534 ⟨by show cn + 0 ≤ 601024; omega, by show sn + 0 ≤ 7293034; omega⟩) (fun r2 EM1 H locs hw2 V => ?_)
  have hRS := hRS.keep (cf' := cf) (E' := E1) rfl (fun i9 _ => xik hw1.2.1 (o := 64 * (i9 + 1) + 12) (j := 2) (by first | exact wl_p rfl rfl (by omega) | (simp [wl]; done) | (simp [wl]; omega))) (fun i9 _ => xik hw1.2.1 (o := 64 * (i9 + 1) + 12) (j := 3) (by first | exact wl_p rfl rfl (by omega) | (simp [wl]; done) | (simp [wl]; omega)))
  have hb9 : (xi (E 1) 1).toInt ≤ (xi (E1 1) 1).toInt := by rw [show xi (E1 1) 1 = xi (E 1) 1 from xik hw1.2.1 (o := 1) (j := 1) (by first | rfl | (simp [wl]; done) | (simp [wl]; omega))]; exact Int.le_refl _
  have hB := hB.keep (cf' := cf) (E' := E1) rfl hb9 (fun i9 _ => xik hw1.2.1 (o := 64 * (i9 + 1) + 0) (j := 0) (by first | exact wl_p rfl rfl (by omega) | (simp [wl]; done) | (simp [wl]; omega)))
  have hT9 := hT
  have hT := hT.keep (cf' := cf) (E' := E1) rfl (xik hw1.2.1 (o := 2) (j := 1) (by first | rfl | (simp [wl]; done) | (simp [wl]; omega))) (fun j9 => xik hw1.2.1 (o := 21) (j := j9) (by first | rfl | (simp [wl]; done) | (simp [wl]; omega))) (fun i9 j9 _ => xik hw1.2.1 (o := 64 * (i9 + 1) + 1) (j := j9) (by first | exact wl_p rfl rfl (by omega) | (simp [wl]; done) | (simp [wl]; omega))) (xik hw2.2.1 (o := 0) (j := 16) rfl) (xik hw2.2.1 (o := 0) (j := 17) rfl) (fun j9 => xik hw2.2.1 (o := 7) (j := j9) rfl) (fun j9 => xik hw2.2.1 (o := 10) (j := j9) rfl) (fun j9 => xik hw2.2.1 (o := 11) (j := j9) rfl)
  have hU := hU.keep (cf' := cf) (E' := E1) rfl (fun _ _ => ⟨rfl, rfl⟩) (fun i9 _ t9 _ _ j9 => xik hw1.2.1 (o := 64 * (i9 + 1) + t9) (j := j9) (by first | exact wl_p rfl rfl (by omega) | (simp [wl]; done) | (simp [wl]; omega))) (fun j9 => xik hw2.2.1 (o := 8) (j := j9) rfl) (fun j9 => xik hw2.2.1 (o := 9) (j := j9) rfl)
  have hG := hG.keep (cf' := cf) (E' := E1) rfl (fun i9 j9 _ => xik hw1.2.1 (o := 64 * (i9 + 1) + 14) (j := j9) (by first | exact wl_p rfl rfl (by omega) | (simp [wl]; done) | (simp [wl]; omega))) (fun j9 => xik hw2.2.1 (o := 51) (j := j9) rfl)
  have e0 : (xi (E 1) 0).toInt = (xi (EM 0) 1).toInt := congrArg Int32.toInt hR.now
  have hd : r1.toInt = r2.toInt ∧ True := by
    obtain ⟨-, -, p1, p2⟩ := hw1
    obtain ⟨-, -, m1, m2⟩ := hw2
    obtain ⟨-, -, q1, q2⟩ := hT9
    have hN : (xi (EM 0) 17).toNatClampNeg = cf 1 := by rw [tn_]; omega
    have hc := (cO_cg (gB := fun _ => 0) (gF := fun k9 => xi (E (64 * (k9 + 1) + 1)) 0) (gT := fun k9 => xi (E (64 * (k9 + 1) + 1)) 1) (gB' := fun _ => 0) (gF' := xi (EM 10)) (gT' := xi (EM 11)) (boat := 0) (day := (xs (i + 1).toNatClampNeg)) (q := (xs (i + 2).toNatClampNeg)) (cf 1) (by omega) (fun k hk => ⟨rfl, (q2 k hk).1, (q2 k hk).2⟩)).1
    by_cases q : (0 ≤ (xs (i + 1).toNatClampNeg).toInt ∧ (xs (i + 1).toNatClampNeg).toInt ≤ 400) ∧ (0 ≤ (xs (i + 2).toNatClampNeg).toInt ∧ (xs (i + 2).toNatClampNeg).toInt ≤ (xi (E 1) 0).toInt)
    · have h1 := p1 q; have h2 := m1 (by rw [← e0]; exact q); exact ⟨by rw [h1, h2, hN, hc], trivial⟩
    · have h1 := p2 q; have h2 := m2 (by rw [← e0]; exact q); exact ⟨by rw [h1, h2], trivial⟩
  have hR := hR.keep hcf k6 k7 k8 hp (kpS hw2.2.1 rfl) (kpR hw2.2.1 rfl)
  refine lv_pop hx hb dL_law_537 rfl ?_
  refine lv_goto (tgt := 1859) hx hb dL_law_538 (by decide) ?_
  exact W.widen (k := cn + 7) (n := sn + 3300) (by omega) (by omega) (tail _ _ _ _ _ _ _ _ V ⟨⟨⟨⟨⟨hR, hT⟩, hU⟩, hG⟩, hB⟩, hRS⟩ hl)
set_option maxHeartbeats 4000000 in
set_option maxRecDepth 100000 in
theorem law_case_9 {p : Program} {e : Env} {s : State} {m : MethodId} {below : List Frame} {meth : Method} {c : Code} (l : Launch) {b L : Nat} {xs : Nat → Int32} (hL : L ≤ 4096) (C0 : lw_At p s m meth c b L xs) {A : Nat → Prop} {ed : Nat} {dC : Nat → ClassId} {dI : Nat → Nat → Nat} {cT : Nat → ClassId} {cL : ClassId} (F : FX l s A ed dC dI cT cL) {x ou : Nat} {am cf ad : Nat → Nat} {E EM : Nat → va_E} {f : Nat → Int64} {H : Heap} {locs : List Loc} (V : INV s A ed dC dI cT cL x ou am cf ad E EM f H locs) (hR : REL15 cf E EM) {i : Int32} (hi0 : 0 ≤ i.toInt) (hi8 : i.toInt + 8 ≤ (L : Int)) {cn sn : Nat} (hcn : cn + 7 ≤ 601024) (hsn : sn + 3300 ≤ 7293034) (ls : Array Slot) (hl : lv_has ls 7 [(0, .ref b), (1, .ref x), (2, .ref (am 0)), (3, .ref ou), (4, .int i)]) (tail : (∀ (cf ad : Nat → Nat) (E EM : Nat → va_E) (f : Nat → Int64) (H : Heap) (locs : List Loc) (ls : Array Slot), INV s A ed dC dI cT cL x ou am cf ad E EM f H locs → REL15 cf E EM → lv_has ls 7 [(0, .ref b), (1, .ref x), (2, .ref (am 0)), (3, .ref ou), (4, .int i)] → W p l e room_1 s m #[Value.ref b] below meth c H locs (cn + 7) (sn + 3300) (lw_Z below #[Value.ref b] s) (F0 m 1859 ls []))) : W p l e room_1 s m #[Value.ref b] below meth c H locs cn sn (lw_Z below #[Value.ref b] s) (F0 m 541 ls []) := by
  obtain ⟨hx, hb, hr, hml, hown, hts0, hX, hbl, hlocks, hgv⟩ := id C0
  have hts := fun w (h : w ∈ v_law) => hts0 w (v_law_in w h)
  have hbA : ¬ A b := F.hnA b hbl
  obtain rfl := V.hx
  obtain ⟨⟨⟨⟨⟨hR, hT⟩, hU⟩, hG⟩, hB⟩, hRS⟩ := hR
  refine lv_aload_n hx hb dL_law_541 rfl (lv_at hl 1 rfl) ?_
  refine lv_aload_n hx hb dL_law_542 rfl (lv_at hl 0 rfl) ?_
  refine lv_iload hx hb dL_law_543 (lv_at hl 4 rfl) ?_
  refine lv_iconst (v := 1) hx hb dL_law_545 (by decide) ?_
  refine lv_iadd hx hb dL_law_546 ?_
  refine va_sld hx hb hX hbl hbA V.hS (law_in (k := 1) hi0 hi8 hL (by decide) rfl) dL_law_547 ?_
  refine lv_aload_n hx hb dL_law_548 rfl (lv_at hl 0 rfl) ?_
  refine lv_iload hx hb dL_law_549 (lv_at hl 4 rfl) ?_
  refine lv_iconst (v := 2) hx hb dL_law_551 (by decide) ?_
  refine lv_iadd hx hb dL_law_552 ?_
  refine va_sld hx hb hX hbl hbA V.hS (law_in (k := 2) hi0 hi8 hL (by decide) rfl) dL_law_553 ?_
  refine lv_aload_n hx hb dL_law_554 rfl (lv_at hl 0 rfl) ?_
  refine lv_iload hx hb dL_law_555 (lv_at hl 4 rfl) ?_
  refine lv_iconst (v := 3) hx hb dL_law_557 (by decide) ?_
  refine lv_iadd hx hb dL_law_558 ?_
  refine va_sld hx hb hX hbl hbA V.hS (law_in (k := 3) hi0 hi8 hL (by decide) rfl) dL_law_559 ?_
  have hI0 := V.hI
  have hC0 := V.hC
  have hM0 := V.hM
  have bn : (0 : Int) ≤ (xi (E 1) 0).toInt ∧ (xi (E 1) 0).toInt ≤ 400 := hI0.iv 1 (mF 1 rfl) rfl (Nat.le_of_ble_eq_true rfl) rfl
  have bb : (0 : Int) ≤ (xi (E 1) 1).toInt ∧ (xi (E 1) 1).toInt ≤ 16 := hI0.iv 1 (mF 1 rfl) rfl (Nat.le_of_ble_eq_true rfl) rfl
  obtain ⟨⟨k0, k1, k2, k3, k4, k5⟩, -⟩ := id hC0
  refine lC F V (fun r u h => h.1) (va_runV (As := [.int (xs (i + 1).toNatClampNeg), .int (xs (i + 2).toNatClampNeg), .int (xs (i + 3).toNatClampNeg)]) (rest := []) ⟨hx, hb, hml, hown, hts⟩ (q_u_numberX l dC dI cT cf V.hC ad E H.size (xs (i + 1).toNatClampNeg) (xs (i + 2).toNatClampNeg) (xs (i + 3).toNatClampNeg) V.hI hU.1) (cwV 3 hts (gl_V (al_1 _ (zs4 (zs4 (zs4 (zs1 (zs1 (zs0))))))) (al_1 _ (zs4 (zs4 (zs4 (zs1 (zs1 (zs1 (zs0)))))))) (al_1 _ (zs16 (zs0))) (vl_A _ (in_4 _ (zs16 (zs4 (zs1 (zs1 (zs1 (zs0)))))))) (vl_A _ (in_20 _ (zs1 (zs0))))) rfl rfl rfl ⟨rfl, hz_yX12_number_3⟩ ⟨Nat.le_of_ble_eq_true rfl, Nat.le_of_ble_eq_true rfl⟩) ⟨HWL_bl, va_recv F.kc V.cp (ci := 13) (q0 := posL 0 (LC cf)) rfl (V.hI.ob 0 (mF 0 rfl) rfl), HWL_wi V.cp F.kc V.dc V.hS F.hA (V.ec F)⟩ rfl rfl hl.1 rfl (lv_room (Nat.le_of_ble_eq_true rfl)) dL_law_560 ⟨by show cn + 0 ≤ 601024; omega, by show sn + 0 ≤ 7293034; omega⟩) (fun r1 E1 H locs hw1 V => ?_)
  have hcf : ∀ j, j < 6 → j ≠ 1 → cf j = cf j := fun _ _ _ => rfl
  have k6 : xi (E1 1) 0 = xi (E 1) 0 := xik hw1.2.1 (o := 1) (j := 0) (by first | rfl | (simp [wl]; done) | (simp [wl]; omega))
  have k7 : xi (E1 1) 1 = xi (E 1) 1 := xik hw1.2.1 (o := 1) (j := 1) (by first | rfl | (simp [wl]; done) | (simp [wl]; omega))
  have k8 : xi (E1 1) 2 = xi (E 1) 2 := xik hw1.2.1 (o := 1) (j := 2) (by first | rfl | (simp [wl]; done) | (simp [wl]; omega))
  have hp : PK X0 cf E E1 := fun t i j _ _ _ _ => xik hw1.2.1 (by first | exact wl_p rfl rfl (by omega) | (simp [wl]; done) | (simp [wl]; omega))
  refine lv_pop hx hb dL_law_563 rfl ?_
  refine lv_aload_n hx hb dL_law_564 rfl (lv_at hl 2 rfl) ?_
  refine lv_aload_n hx hb dL_law_565 rfl (lv_at hl 0 rfl) ?_
  refine lv_iload hx hb dL_law_566 (lv_at hl 4 rfl) ?_
  refine lv_iconst (v := 1) hx hb dL_law_568 (by decide) ?_
  refine lv_iadd hx hb dL_law_569 ?_
  refine va_sld hx hb hX hbl hbA V.hS (law_in (k := 1) hi0 hi8 hL (by decide) rfl) dL_law_570 ?_
  refine lv_aload_n hx hb dL_law_571 rfl (lv_at hl 0 rfl) ?_
  refine lv_iload hx hb dL_law_572 (lv_at hl 4 rfl) ?_
  refine lv_iconst (v := 2) hx hb dL_law_574 (by decide) ?_
  refine lv_iadd hx hb dL_law_575 ?_
  refine va_sld hx hb hX hbl hbA V.hS (law_in (k := 2) hi0 hi8 hL (by decide) rfl) dL_law_576 ?_
  refine lv_aload_n hx hb dL_law_577 rfl (lv_at hl 0 rfl) ?_
  refine lv_iload hx hb dL_law_578 (lv_at hl 4 rfl) ?_
  refine lv_iconst (v := 3) hx hb dL_law_580 (by decide) ?_
  refine lv_iadd hx hb dL_law_581 ?_
  refine va_sld hx hb hX hbl hbA V.hS (law_in (k := 3) hi0 hi8 hL (by decide) rfl) dL_law_582 ?_
  refine lM F V (fun r u h => ⟨h.1, DIr_kp h.2.1 (fun _ => rfl) (fun _ => rfl) V.hDI⟩) (va_runV (As := [.int (xs (i + 1).toNatClampNeg), .int (xs (i + 2).toNatClampNeg), .int (xs (i + 3).toNatClampNeg)]) (rest := []) ⟨hx, hb, hml, hown, hts⟩ (q_numberM l dC dI cT am EM H.size (xs (i + 1).toNatClampNeg) (xs (i + 2).toNatClampNeg) (xs (i + 3).toNatClampNeg) V.hM (hU.ru hT).txm) (cwV 3 hts (gl_V (al_1 _ (zs16 (zs1 (zs0)))) (al_1 _ (zs16 (zs1 (zs1 (zs0))))) (al_1 _ (zs16 (zs1 (zs1 (zs1 (zs0)))))) (vl_A _ (in_24 _ (zs4 (zs4 (zs4 (zs1 (zs1 (zs1 (zs0))))))))) (vl_A _ (in_32 _ (zs16 (zs4 (zs4 (zs4 (zs0)))))))) rfl rfl rfl ⟨rfl, hz_yX13_number_3⟩ ⟨Nat.le_of_ble_eq_true rfl, Nat.le_of_ble_eq_true rfl⟩) ⟨HW_bl, va_recv F.km V.pm (ci := 14) (q0 := 0) rfl (V.hM.ob 0 (Nat.le_of_ble_eq_true rfl) rfl), HW_wi V.pm F.km V.dm V.hS F.hA F.hEV⟩ rfl rfl hl.1 rfl (lv_room (Nat.le_of_ble_eq_true rfl)) dL_law_583 ⟨by show cn + 0 ≤ 601024; omega, by show sn + 0 ≤ 7293034; omega⟩) (fun r2 EM1 H locs hw2 V => ?_)
  have hRS := hRS.keep (cf' := cf) (E' := E1) rfl (fun i9 _ => xik hw1.2.1 (o := 64 * (i9 + 1) + 12) (j := 2) (by first | exact wl_p rfl rfl (by omega) | (simp [wl]; done) | (simp [wl]; omega))) (fun i9 _ => xik hw1.2.1 (o := 64 * (i9 + 1) + 12) (j := 3) (by first | exact wl_p rfl rfl (by omega) | (simp [wl]; done) | (simp [wl]; omega)))
  have hb9 : (xi (E 1) 1).toInt ≤ (xi (E1 1) 1).toInt := by rw [show xi (E1 1) 1 = xi (E 1) 1 from xik hw1.2.1 (o := 1) (j := 1) (by first | rfl | (simp [wl]; done) | (simp [wl]; omega))]; exact Int.le_refl _
  have hB := hB.keep (cf' := cf) (E' := E1) rfl hb9 (fun i9 _ => xik hw1.2.1 (o := 64 * (i9 + 1) + 0) (j := 0) (by first | exact wl_p rfl rfl (by omega) | (simp [wl]; done) | (simp [wl]; omega)))
  have hT9 := hT
  have hT := hT.keep (cf' := cf) (E' := E1) rfl (xik hw1.2.1 (o := 2) (j := 1) (by first | rfl | (simp [wl]; done) | (simp [wl]; omega))) (fun j9 => xik hw1.2.1 (o := 21) (j := j9) (by first | rfl | (simp [wl]; done) | (simp [wl]; omega))) (fun i9 j9 _ => xik hw1.2.1 (o := 64 * (i9 + 1) + 1) (j := j9) (by first | exact wl_p rfl rfl (by omega) | (simp [wl]; done) | (simp [wl]; omega))) (xik hw2.2.1 (o := 0) (j := 16) rfl) (xik hw2.2.1 (o := 0) (j := 17) rfl) (fun j9 => xik hw2.2.1 (o := 7) (j := j9) rfl) (fun j9 => xik hw2.2.1 (o := 10) (j := j9) rfl) (fun j9 => xik hw2.2.1 (o := 11) (j := j9) rfl)
  have hU9 := hU
  have hU := hU.keep (cf' := cf) (E' := E1) rfl (fun _ _ => ⟨rfl, rfl⟩) (fun i9 _ t9 _ _ j9 => xik hw1.2.1 (o := 64 * (i9 + 1) + t9) (j := j9) (by first | exact wl_p rfl rfl (by omega) | (simp [wl]; done) | (simp [wl]; omega))) (fun j9 => xik hw2.2.1 (o := 8) (j := j9) rfl) (fun j9 => xik hw2.2.1 (o := 9) (j := j9) rfl)
  have hG := hG.keep (cf' := cf) (E' := E1) rfl (fun i9 j9 _ => xik hw1.2.1 (o := 64 * (i9 + 1) + 14) (j := j9) (by first | exact wl_p rfl rfl (by omega) | (simp [wl]; done) | (simp [wl]; omega))) (fun j9 => xik hw2.2.1 (o := 51) (j := j9) rfl)
  have e0 : (xi (E 1) 0).toInt = (xi (EM 0) 1).toInt := congrArg Int32.toInt hR.now
  have e1 : (xi (E 1) 1).toInt = (xi (EM 0) 8).toInt := congrArg Int32.toInt hR.boats
  have hd : r1.toInt = r2.toInt ∧ True := by
    obtain ⟨-, -, p1, p2⟩ := hw1
    obtain ⟨-, -, m1, m2⟩ := hw2
    have hc := num_eq (hU9.ru hT9) hR.ce (by omega) (by omega) (xs (i + 1).toNatClampNeg) (xs (i + 2).toNatClampNeg) (xs (i + 3).toNatClampNeg)
    by_cases q : (0 ≤ (xs (i + 1).toNatClampNeg).toInt ∧ (xs (i + 1).toNatClampNeg).toInt < (xi (E 1) 1).toInt) ∧ (0 ≤ (xs (i + 2).toNatClampNeg).toInt ∧ (xs (i + 2).toNatClampNeg).toInt ≤ 400) ∧ (0 ≤ (xs (i + 3).toNatClampNeg).toInt ∧ (xs (i + 3).toNatClampNeg).toInt ≤ (xi (E 1) 0).toInt)
    · have h1 := p1 q; have h2 := m1 (by rw [← e0, ← e1]; exact q); exact ⟨by rw [h1, h2, hc], trivial⟩
    · have h1 := p2 q; have h2 := m2 (by rw [← e0, ← e1]; exact q); exact ⟨by rw [h1, h2], trivial⟩
  have hR := hR.keep hcf k6 k7 k8 hp (kpS hw2.2.1 rfl) (kpR hw2.2.1 rfl)
  refine lv_pop hx hb dL_law_586 rfl ?_
  refine lv_goto (tgt := 1859) hx hb dL_law_587 (by decide) ?_
  exact W.widen (k := cn + 7) (n := sn + 3300) (by omega) (by omega) (tail _ _ _ _ _ _ _ _ V ⟨⟨⟨⟨⟨hR, hT⟩, hU⟩, hG⟩, hB⟩, hRS⟩ hl)
