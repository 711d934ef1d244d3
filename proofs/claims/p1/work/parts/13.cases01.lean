theorem dL_law_319 : decode cL_law 319 = .ok (.aload_n 1, 1) := by decide +kernel
theorem dL_law_320 : decode cL_law 320 = .ok (.aload_n 0, 1) := by decide +kernel
theorem dL_law_321 : decode cL_law 321 = .ok (.iload 4, 2) := by decide +kernel
theorem dL_law_323 : decode cL_law 323 = .ok (.iconst 1, 1) := by decide +kernel
theorem dL_law_324 : decode cL_law 324 = .ok (.iadd, 1) := by decide +kernel
theorem dL_law_325 : decode cL_law 325 = .ok (.iaload, 1) := by decide +kernel
theorem dL_law_326 : decode cL_law 326 = .ok (.aload_n 0, 1) := by decide +kernel
theorem dL_law_327 : decode cL_law 327 = .ok (.iload 4, 2) := by decide +kernel
theorem dL_law_329 : decode cL_law 329 = .ok (.iconst 2, 1) := by decide +kernel
theorem dL_law_330 : decode cL_law 330 = .ok (.iadd, 1) := by decide +kernel
theorem dL_law_331 : decode cL_law 331 = .ok (.iaload, 1) := by decide +kernel
theorem dL_law_332 : decode cL_law 332 = .ok (.aload_n 0, 1) := by decide +kernel
theorem dL_law_333 : decode cL_law 333 = .ok (.iload 4, 2) := by decide +kernel
theorem dL_law_335 : decode cL_law 335 = .ok (.iconst 3, 1) := by decide +kernel
theorem dL_law_336 : decode cL_law 336 = .ok (.iadd, 1) := by decide +kernel
theorem dL_law_337 : decode cL_law 337 = .ok (.iaload, 1) := by decide +kernel
theorem dL_law_338 : decode cL_law 338 = .ok (.invokevirtual 34, 3) := by decide +kernel
theorem dL_law_341 : decode cL_law 341 = .ok (.aload_n 2, 1) := by decide +kernel
theorem dL_law_342 : decode cL_law 342 = .ok (.aload_n 0, 1) := by decide +kernel
theorem dL_law_343 : decode cL_law 343 = .ok (.iload 4, 2) := by decide +kernel
theorem dL_law_345 : decode cL_law 345 = .ok (.iconst 1, 1) := by decide +kernel
theorem dL_law_346 : decode cL_law 346 = .ok (.iadd, 1) := by decide +kernel
theorem dL_law_347 : decode cL_law 347 = .ok (.iaload, 1) := by decide +kernel
theorem dL_law_348 : decode cL_law 348 = .ok (.aload_n 0, 1) := by decide +kernel
theorem dL_law_349 : decode cL_law 349 = .ok (.iload 4, 2) := by decide +kernel
theorem dL_law_351 : decode cL_law 351 = .ok (.iconst 2, 1) := by decide +kernel
theorem dL_law_352 : decode cL_law 352 = .ok (.iadd, 1) := by decide +kernel
theorem dL_law_353 : decode cL_law 353 = .ok (.iaload, 1) := by decide +kernel
theorem dL_law_354 : decode cL_law 354 = .ok (.aload_n 0, 1) := by decide +kernel
theorem dL_law_355 : decode cL_law 355 = .ok (.iload 4, 2) := by decide +kernel
theorem dL_law_357 : decode cL_law 357 = .ok (.iconst 3, 1) := by decide +kernel
theorem dL_law_358 : decode cL_law 358 = .ok (.iadd, 1) := by decide +kernel
theorem dL_law_359 : decode cL_law 359 = .ok (.iaload, 1) := by decide +kernel
theorem dL_law_360 : decode cL_law 360 = .ok (.invokevirtual 38, 3) := by decide +kernel
theorem dL_law_363 : decode cL_law 363 = .ok (.if_icmp .eq 1524, 3) := by decide +kernel
theorem dL_law_368 : decode cL_law 368 = .ok (.aload_n 1, 1) := by decide +kernel
theorem dL_law_369 : decode cL_law 369 = .ok (.aload_n 0, 1) := by decide +kernel
theorem dL_law_370 : decode cL_law 370 = .ok (.iload 4, 2) := by decide +kernel
theorem dL_law_372 : decode cL_law 372 = .ok (.iconst 1, 1) := by decide +kernel
theorem dL_law_373 : decode cL_law 373 = .ok (.iadd, 1) := by decide +kernel
theorem dL_law_374 : decode cL_law 374 = .ok (.iaload, 1) := by decide +kernel
theorem dL_law_375 : decode cL_law 375 = .ok (.aload_n 0, 1) := by decide +kernel
theorem dL_law_376 : decode cL_law 376 = .ok (.iload 4, 2) := by decide +kernel
theorem dL_law_378 : decode cL_law 378 = .ok (.iconst 2, 1) := by decide +kernel
theorem dL_law_379 : decode cL_law 379 = .ok (.iadd, 1) := by decide +kernel
theorem dL_law_380 : decode cL_law 380 = .ok (.iaload, 1) := by decide +kernel
theorem dL_law_381 : decode cL_law 381 = .ok (.aload_n 0, 1) := by decide +kernel
theorem dL_law_382 : decode cL_law 382 = .ok (.iload 4, 2) := by decide +kernel
theorem dL_law_384 : decode cL_law 384 = .ok (.iconst 3, 1) := by decide +kernel
theorem dL_law_385 : decode cL_law 385 = .ok (.iadd, 1) := by decide +kernel
theorem dL_law_386 : decode cL_law 386 = .ok (.iaload, 1) := by decide +kernel
theorem dL_law_387 : decode cL_law 387 = .ok (.aload_n 0, 1) := by decide +kernel
theorem dL_law_388 : decode cL_law 388 = .ok (.iload 4, 2) := by decide +kernel
theorem dL_law_390 : decode cL_law 390 = .ok (.iconst 4, 1) := by decide +kernel
theorem dL_law_391 : decode cL_law 391 = .ok (.iadd, 1) := by decide +kernel
theorem dL_law_392 : decode cL_law 392 = .ok (.iaload, 1) := by decide +kernel
theorem dL_law_393 : decode cL_law 393 = .ok (.aload_n 0, 1) := by decide +kernel
theorem dL_law_394 : decode cL_law 394 = .ok (.iload 4, 2) := by decide +kernel
theorem dL_law_396 : decode cL_law 396 = .ok (.iconst 5, 1) := by decide +kernel
theorem dL_law_397 : decode cL_law 397 = .ok (.iadd, 1) := by decide +kernel
theorem dL_law_398 : decode cL_law 398 = .ok (.iaload, 1) := by decide +kernel
theorem dL_law_399 : decode cL_law 399 = .ok (.invokevirtual 39, 3) := by decide +kernel
theorem dL_law_402 : decode cL_law 402 = .ok (.aload_n 2, 1) := by decide +kernel
theorem dL_law_403 : decode cL_law 403 = .ok (.aload_n 0, 1) := by decide +kernel
theorem dL_law_404 : decode cL_law 404 = .ok (.iload 4, 2) := by decide +kernel
theorem dL_law_406 : decode cL_law 406 = .ok (.iconst 1, 1) := by decide +kernel
theorem dL_law_407 : decode cL_law 407 = .ok (.iadd, 1) := by decide +kernel
theorem dL_law_408 : decode cL_law 408 = .ok (.iaload, 1) := by decide +kernel
theorem dL_law_409 : decode cL_law 409 = .ok (.aload_n 0, 1) := by decide +kernel
theorem dL_law_410 : decode cL_law 410 = .ok (.iload 4, 2) := by decide +kernel
theorem dL_law_412 : decode cL_law 412 = .ok (.iconst 2, 1) := by decide +kernel
theorem dL_law_413 : decode cL_law 413 = .ok (.iadd, 1) := by decide +kernel
theorem dL_law_414 : decode cL_law 414 = .ok (.iaload, 1) := by decide +kernel
theorem dL_law_415 : decode cL_law 415 = .ok (.aload_n 0, 1) := by decide +kernel
theorem dL_law_416 : decode cL_law 416 = .ok (.iload 4, 2) := by decide +kernel
theorem dL_law_418 : decode cL_law 418 = .ok (.iconst 3, 1) := by decide +kernel
theorem dL_law_419 : decode cL_law 419 = .ok (.iadd, 1) := by decide +kernel
theorem dL_law_420 : decode cL_law 420 = .ok (.iaload, 1) := by decide +kernel
theorem dL_law_421 : decode cL_law 421 = .ok (.aload_n 0, 1) := by decide +kernel
theorem dL_law_422 : decode cL_law 422 = .ok (.iload 4, 2) := by decide +kernel
theorem dL_law_424 : decode cL_law 424 = .ok (.iconst 4, 1) := by decide +kernel
theorem dL_law_425 : decode cL_law 425 = .ok (.iadd, 1) := by decide +kernel
theorem dL_law_426 : decode cL_law 426 = .ok (.iaload, 1) := by decide +kernel
theorem dL_law_427 : decode cL_law 427 = .ok (.aload_n 0, 1) := by decide +kernel
theorem dL_law_428 : decode cL_law 428 = .ok (.iload 4, 2) := by decide +kernel
theorem dL_law_430 : decode cL_law 430 = .ok (.iconst 5, 1) := by decide +kernel
theorem dL_law_431 : decode cL_law 431 = .ok (.iadd, 1) := by decide +kernel
theorem dL_law_432 : decode cL_law 432 = .ok (.iaload, 1) := by decide +kernel
theorem dL_law_433 : decode cL_law 433 = .ok (.invokevirtual 42, 3) := by decide +kernel
theorem dL_law_436 : decode cL_law 436 = .ok (.if_icmp .eq 1451, 3) := by decide +kernel
theorem dL_law_441 : decode cL_law 441 = .ok (.aload_n 1, 1) := by decide +kernel
theorem dL_law_442 : decode cL_law 442 = .ok (.aload_n 0, 1) := by decide +kernel
theorem dL_law_443 : decode cL_law 443 = .ok (.iload 4, 2) := by decide +kernel
theorem dL_law_445 : decode cL_law 445 = .ok (.iconst 1, 1) := by decide +kernel
theorem dL_law_446 : decode cL_law 446 = .ok (.iadd, 1) := by decide +kernel
theorem dL_law_447 : decode cL_law 447 = .ok (.iaload, 1) := by decide +kernel
theorem dL_law_448 : decode cL_law 448 = .ok (.invokevirtual 43, 3) := by decide +kernel
theorem dL_law_451 : decode cL_law 451 = .ok (.aload_n 2, 1) := by decide +kernel
theorem dL_law_452 : decode cL_law 452 = .ok (.aload_n 0, 1) := by decide +kernel
theorem dL_law_453 : decode cL_law 453 = .ok (.iload 4, 2) := by decide +kernel
theorem dL_law_455 : decode cL_law 455 = .ok (.iconst 1, 1) := by decide +kernel
theorem dL_law_456 : decode cL_law 456 = .ok (.iadd, 1) := by decide +kernel
theorem dL_law_457 : decode cL_law 457 = .ok (.iaload, 1) := by decide +kernel
theorem dL_law_458 : decode cL_law 458 = .ok (.invokevirtual 47, 3) := by decide +kernel
theorem dL_law_461 : decode cL_law 461 = .ok (.if_icmp .eq 1426, 3) := by decide +kernel
theorem dL_law_466 : decode cL_law 466 = .ok (.aload_n 1, 1) := by decide +kernel
theorem dL_law_467 : decode cL_law 467 = .ok (.invokevirtual 48, 3) := by decide +kernel
theorem dL_law_470 : decode cL_law 470 = .ok (.aload_n 2, 1) := by decide +kernel
theorem dL_law_471 : decode cL_law 471 = .ok (.invokevirtual 51, 3) := by decide +kernel
theorem dL_law_474 : decode cL_law 474 = .ok (.if_icmp .eq 1413, 3) := by decide +kernel
set_option maxHeartbeats 4000000 in
set_option maxRecDepth 100000 in
theorem law_case_3 {p : Program} {e : Env} {s : State} {m : MethodId} {below : List Frame} {meth : Method} {c : Code} (l : Launch) (hfl : l.stackTraces = false) {b L : Nat} {xs : Nat → Int32} (hL8 : L = 8) (C0 : lw_At p s m meth c b L xs) {A : Nat → Prop} (hAe : A = fun q => s.heap.size ≤ q) (dC : Nat → ClassId) (dI : Nat → Nat → Nat) (x : Nat) (ed : Nat) (bk : Nat) (lc : Nat) (lr : Nat) (la : Nat) (le : Nat) (lw : Nat) (lp : Nat) (ltr : Nat) (stk : Nat) (tp : Nat) (tby : Nat) (tst : Nat) (tla : Nat) (tbe : Nat) (tsu : Nat) (sh : Nat) (sc : Nat) (spl : Nat) (spo : Nat) (sou : Nat) (ssc : Nat) (sto : Nat) (smi : Nat) (sth : Nat) (he : Nat) (of : Nat) (o2 : Nat) (o3 : Nat) (o4 : Nat) (o5 : Nat) (o6 : Nat) (o7 : Nat) (o8 : Nat) (o9 : Nat) (o10 : Nat) (o11 : Nat) (o12 : Nat) (o13 : Nat) (o14 : Nat) (o17 : Nat) (h : Nat) (f : Nat → Value) (tb : Nat) (mlt : Nat) (z0 : Nat) (z1 : Nat) (z2 : Nat) (z3 : Nat) (z4 : Nat) (z5 : Nat) (z6 : Nat) (z7 : Nat) (z8 : Nat) (z9 : Nat) (ou : Nat) (cI : ClassId) (cZ : ClassId) (cB : ClassId) (hN : ub_NX s) (hT : ub_ST s) (hZ : ub_ZE ed A s s.heap) (hKO : ub_KO s) (hEX : ub_EX A s s.heap) (hM0 : f 0 = .int 0) (hM1 : f 1 = .int 0) (hM2 : f 8 = .int 0) (hM3 : f 9 = .int 0) (hM4 : f 16 = .int 0) (hM5 : f 17 = .int 0) (hM6 : f 46 = .int 0) (hM7 : f 47 = .int 0) (hM8 : f 48 = .int 0) (hM9 : f 74 = .int 0) (hM10 : f 75 = .int 0) (hM11 : f 55 = .int 0) (hR0 : f 10 = .ref tb) (hR1 : f 15 = .ref mlt) (hR2 : f 27 = .ref z0) (hR3 : f 28 = .ref z1) (hR4 : f 29 = .ref z2) (hR5 : f 30 = .ref z3) (hR6 : f 31 = .ref z4) (hR7 : f 32 = .ref z5) (hR8 : f 33 = .ref z6) (hR9 : f 34 = .ref z7) (hR10 : f 35 = .ref z8) (hR11 : f 36 = .ref z9) (H : Heap) (locs : List Loc) (ls : Array Slot) (hK : va_K (dC, dI) vwCl [(cI, .int), (cZ, .boolean), (cB, .byte)] s) (hP : va_P (dC, dI) vwCl [(x, .inr (13, [.ref bk, .ref tp, .ref sh, .ref sc, .ref he, .ref of])), (bk, .inr (1, [.int 0, .int 0, .int 0, .ref lc, .ref lr, .ref la, .ref le, .ref lw, .ref lp, .ref ltr, .ref stk])), (h, .inr (14, mL f))] H) (hD : va_D A [(x, .inr (13, [.ref bk, .ref tp, .ref sh, .ref sc, .ref he, .ref of])), (bk, .inr (1, [.int 0, .int 0, .int 0, .ref lc, .ref lr, .ref la, .ref le, .ref lw, .ref lp, .ref ltr, .ref stk])), (h, .inr (14, mL f))]) (hS : va_S A s.heap H locs) (hl : lv_has ls 7 [(0, .ref b), (1, .ref x), (2, .ref h), (3, .ref ou), (4, .int 0)]) : W p l e room_1 s m #[Value.ref b] below meth c H locs 1000 100000 (lw_Z below #[Value.ref b] s) (F0 m 319 ls []) := by
  obtain ⟨hx, hb, hr, hml, hown, hts0, hX, hbl, hlocks, hgv⟩ := id C0
  have hts := fun w h => hts0 w (v_law_in w h)
  have hbA : ¬ A b := by rw [hAe]; exact Nat.not_le.mpr hbl
  have hA : ∀ q : Nat, s.heap.size ≤ q → A q := fun q h9 => by rw [hAe]; exact h9
  refine lv_aload_n hx hb dL_law_319 rfl (lv_at hl 1 rfl) ?_
  refine lv_aload_n hx hb dL_law_320 rfl (lv_at hl 0 rfl) ?_
  refine lv_iload hx hb dL_law_321 (lv_at hl 4 rfl) ?_
  refine lv_iconst (v := 1) hx hb dL_law_323 (by decide) ?_
  refine lv_iadd hx hb dL_law_324 ?_
  refine lv_topi (fun y1 ey1 => ?_)
  obtain rfl : (1 : Int32) = y1 := (ey1.trans (by decide)).symm
  refine va_sld hx hb hX hbl hbA hS (by rw [hL8]; exact vp_in_nI (n := 1) (N := 8) (by decide) (by decide)) dL_law_325 ?_
  refine lv_aload_n hx hb dL_law_326 rfl (lv_at hl 0 rfl) ?_
  refine lv_iload hx hb dL_law_327 (lv_at hl 4 rfl) ?_
  refine lv_iconst (v := 2) hx hb dL_law_329 (by decide) ?_
  refine lv_iadd hx hb dL_law_330 ?_
  refine lv_topi (fun y2 ey2 => ?_)
  obtain rfl : (2 : Int32) = y2 := (ey2.trans (by decide)).symm
  refine va_sld hx hb hX hbl hbA hS (by rw [hL8]; exact vp_in_nI (n := 2) (N := 8) (by decide) (by decide)) dL_law_331 ?_
  refine lv_aload_n hx hb dL_law_332 rfl (lv_at hl 0 rfl) ?_
  refine lv_iload hx hb dL_law_333 (lv_at hl 4 rfl) ?_
  refine lv_iconst (v := 3) hx hb dL_law_335 (by decide) ?_
  refine lv_iadd hx hb dL_law_336 ?_
  refine lv_topi (fun y3 ey3 => ?_)
  obtain rfl : (3 : Int32) = y3 := (ey3.trans (by decide)).symm
  refine va_sld hx hb hX hbl hbA hS (by rw [hL8]; exact vp_in_nI (n := 3) (N := 8) (by decide) (by decide)) dL_law_337 ?_
  have hPc := hP.sub (ws' := [(x, .inr (13, [.ref bk, .ref tp, .ref sh, .ref sc, .ref he, .ref of])), (bk, .inr (1, [.int 0, .int 0, .int 0, .ref lc, .ref lr, .ref la, .ref le, .ref lw, .ref lp, .ref ltr, .ref stk]))]) [0, 1] rfl
  have hKc := hK.sub (tys' := []) [] rfl
  refine va_calli (va_runV (As := [.int (xs (1 : Int32).toNatClampNeg), .int (xs (2 : Int32).toNatClampNeg), .int (xs (3 : Int32).toNatClampNeg)]) (rest := []) ⟨hx, hb, hml, hown, hts⟩ (c_measured l dC dI x bk tp sh sc he of lc lr la le lw lp ltr stk (xs (1 : Int32).toNatClampNeg) (xs (2 : Int32).toNatClampNeg) (xs (3 : Int32).toNatClampNeg)) (cwV 3 hts g_law_c_measured_34 rfl rfl rfl (by decide +kernel) ⟨Nat.le_of_ble_eq_true rfl, Nat.le_of_ble_eq_true rfl⟩) ⟨fun a U g mk q => by obtain ⟨e0, qP, qK, qN⟩ := q; exact ⟨e0, qP, va_K.moved (u := U) (U := U.calling g mk a) (Vm.Alike.refl U.vm) qK, ub_NX_c qN⟩, va_recv hK hP (ci := 13) (q0 := 0) rfl rfl, fun U hU hW => ⟨rfl, by rw [hU]; exact hPc, va_K.moved hW.alike hKc, ub_NX_w hW hN⟩⟩ rfl rfl hl.1 rfl (lv_room (Nat.le_of_ble_eq_true rfl)) dL_law_338 ⟨Nat.le_of_ble_eq_true rfl, Nat.le_of_ble_eq_true rfl⟩) hS (fun _ _ h => h.elim) (fun _ h => h.elim) (fun r4 u5 t H1 locs ht hvm hw hB hz1 hk1 hS => ?_)
  have hP := ub_keep hP hk1
  generalize H1 = H at hP hS ⊢
  have hr_r4 := hw
  refine lv_aload_n hx hb dL_law_341 rfl (lv_at hl 2 rfl) ?_
  refine lv_aload_n hx hb dL_law_342 rfl (lv_at hl 0 rfl) ?_
  refine lv_iload hx hb dL_law_343 (lv_at hl 4 rfl) ?_
  refine lv_iconst (v := 1) hx hb dL_law_345 (by decide) ?_
  refine lv_iadd hx hb dL_law_346 ?_
  refine lv_topi (fun y6 ey6 => ?_)
  obtain rfl : (1 : Int32) = y6 := (ey6.trans (by decide)).symm
  refine va_sld hx hb hX hbl hbA hS (by rw [hL8]; exact vp_in_nI (n := 1) (N := 8) (by decide) (by decide)) dL_law_347 ?_
  refine lv_aload_n hx hb dL_law_348 rfl (lv_at hl 0 rfl) ?_
  refine lv_iload hx hb dL_law_349 (lv_at hl 4 rfl) ?_
  refine lv_iconst (v := 2) hx hb dL_law_351 (by decide) ?_
  refine lv_iadd hx hb dL_law_352 ?_
  refine lv_topi (fun y7 ey7 => ?_)
  obtain rfl : (2 : Int32) = y7 := (ey7.trans (by decide)).symm
  refine va_sld hx hb hX hbl hbA hS (by rw [hL8]; exact vp_in_nI (n := 2) (N := 8) (by decide) (by decide)) dL_law_353 ?_
  refine lv_aload_n hx hb dL_law_354 rfl (lv_at hl 0 rfl) ?_
  refine lv_iload hx hb dL_law_355 (lv_at hl 4 rfl) ?_
  refine lv_iconst (v := 3) hx hb dL_law_357 (by decide) ?_
  refine lv_iadd hx hb dL_law_358 ?_
  refine lv_topi (fun y8 ey8 => ?_)
  obtain rfl : (3 : Int32) = y8 := (ey8.trans (by decide)).symm
  refine va_sld hx hb hX hbl hbA hS (by rw [hL8]; exact vp_in_nI (n := 3) (N := 8) (by decide) (by decide)) dL_law_359 ?_
  have hPc := hP.sub (ws' := [(h, .inr (14, mL f))]) [2] rfl
  have hKc := hK.sub (tys' := []) [] rfl
  have hDc := hD.sub (ws' := [(h, .inr (14, mL f))]) [2] (by decide) rfl
  have hFc := va_free (wc := [(h, .inr (14, mL f))]) hD hS hA [2] rfl
  refine va_calli (va_runV (As := [.int (xs (1 : Int32).toNatClampNeg), .int (xs (2 : Int32).toNatClampNeg), .int (xs (3 : Int32).toNatClampNeg)]) (rest := [.int r4]) ⟨hx, hb, hml, hown, hts⟩ (m_measured l dC dI h f (xs (1 : Int32).toNatClampNeg) (xs (2 : Int32).toNatClampNeg) (xs (3 : Int32).toNatClampNeg) H.size hM0 hM2) (cwV 3 hts g_law_m_measured_38 rfl rfl rfl (by decide +kernel) ⟨Nat.le_of_ble_eq_true rfl, Nat.le_of_ble_eq_true rfl⟩) ⟨fun a U g mk q => by obtain ⟨e0, e1, qP, qK, qD⟩ := q; exact ⟨e0, e1, qP, va_K.moved (u := U) (U := U.calling g mk a) (Vm.Alike.refl U.vm) qK, qD⟩, va_recv hK hP (ci := 14) (q0 := 2) rfl rfl, fun U hU hW => ⟨rfl, by rw [hU], by rw [hU]; exact hPc, va_K.moved hW.alike hKc, hDc.weaken (fun _ _ _ _ => trivial)⟩⟩ rfl rfl hl.1 rfl (lv_room (Nat.le_of_ble_eq_true rfl)) dL_law_360 ⟨Nat.le_of_ble_eq_true rfl, Nat.le_of_ble_eq_true rfl⟩) hS (fun q _ h => hFc q h) hFc (fun r9 u10 t H1 locs ht hvm hw hB hz1 hk1 hS => ?_)
  have hP1 : va_P (dC, dI) vwCl [] H1 := ub_P0
  have hD1 : va_D (va_A [(h, .inr (14, mL f))] H.size) [] := ub_D0
  obtain ⟨hP, hD⟩ := va_join (wr := [(x, .inr (13, [.ref bk, .ref tp, .ref sh, .ref sc, .ref he, .ref of])), (bk, .inr (1, [.int 0, .int 0, .int 0, .ref lc, .ref lr, .ref la, .ref le, .ref lw, .ref lp, .ref ltr, .ref stk]))]) (w1 := []) hP hD [2] [0, 1] rfl rfl (by decide) (by decide) hk1 hFc hP1 hD1
  generalize H1 = H at hP hS ⊢
  have hP : va_P (dC, dI) vwCl [(x, .inr (13, [.ref bk, .ref tp, .ref sh, .ref sc, .ref he, .ref of])), (bk, .inr (1, [.int 0, .int 0, .int 0, .ref lc, .ref lr, .ref la, .ref le, .ref lw, .ref lp, .ref ltr, .ref stk]))] H := hP
  have hD : va_D A [(x, .inr (13, [.ref bk, .ref tp, .ref sh, .ref sc, .ref he, .ref of])), (bk, .inr (1, [.int 0, .int 0, .int 0, .ref lc, .ref lr, .ref la, .ref le, .ref lw, .ref lp, .ref ltr, .ref stk]))] := hD
  refine W.widen (k := 1000) (n := 100000) (by omega) (by omega) ?_
  have hr_r9 := hw
  refine lv_icmp_eq (tgt := 1887) hx hb dL_law_363 (by decide) (fun c11 => ?_) (fun c11 => by first | exact absurd c11 (hr_r4.trans hr_r9.symm) | exact absurd (hr_r4.trans hr_r9.symm) c11)
  refine W.widen (k := 600002) (n := 7302232) (by omega) (by omega) ?_
  exact law_tail l hL8 C0 hAe _ _ ls hS (lv_sub hl [0, 4] rfl)
set_option maxHeartbeats 4000000 in
set_option maxRecDepth 100000 in
theorem law_case_4 {p : Program} {e : Env} {s : State} {m : MethodId} {below : List Frame} {meth : Method} {c : Code} (l : Launch) (hfl : l.stackTraces = false) {b L : Nat} {xs : Nat → Int32} (hL8 : L = 8) (C0 : lw_At p s m meth c b L xs) {A : Nat → Prop} (hAe : A = fun q => s.heap.size ≤ q) (dC : Nat → ClassId) (dI : Nat → Nat → Nat) (x : Nat) (ed : Nat) (bk : Nat) (lc : Nat) (lr : Nat) (la : Nat) (le : Nat) (lw : Nat) (lp : Nat) (ltr : Nat) (stk : Nat) (tp : Nat) (tby : Nat) (tst : Nat) (tla : Nat) (tbe : Nat) (tsu : Nat) (sh : Nat) (sc : Nat) (spl : Nat) (spo : Nat) (sou : Nat) (ssc : Nat) (sto : Nat) (smi : Nat) (sth : Nat) (he : Nat) (of : Nat) (o2 : Nat) (o3 : Nat) (o4 : Nat) (o5 : Nat) (o6 : Nat) (o7 : Nat) (o8 : Nat) (o9 : Nat) (o10 : Nat) (o11 : Nat) (o12 : Nat) (o13 : Nat) (o14 : Nat) (o17 : Nat) (h : Nat) (f : Nat → Value) (tb : Nat) (mlt : Nat) (z0 : Nat) (z1 : Nat) (z2 : Nat) (z3 : Nat) (z4 : Nat) (z5 : Nat) (z6 : Nat) (z7 : Nat) (z8 : Nat) (z9 : Nat) (ou : Nat) (cI : ClassId) (cZ : ClassId) (cB : ClassId) (hN : ub_NX s) (hT : ub_ST s) (hZ : ub_ZE ed A s s.heap) (hKO : ub_KO s) (hEX : ub_EX A s s.heap) (hM0 : f 0 = .int 0) (hM1 : f 1 = .int 0) (hM2 : f 8 = .int 0) (hM3 : f 9 = .int 0) (hM4 : f 16 = .int 0) (hM5 : f 17 = .int 0) (hM6 : f 46 = .int 0) (hM7 : f 47 = .int 0) (hM8 : f 48 = .int 0) (hM9 : f 74 = .int 0) (hM10 : f 75 = .int 0) (hM11 : f 55 = .int 0) (hR0 : f 10 = .ref tb) (hR1 : f 15 = .ref mlt) (hR2 : f 27 = .ref z0) (hR3 : f 28 = .ref z1) (hR4 : f 29 = .ref z2) (hR5 : f 30 = .ref z3) (hR6 : f 31 = .ref z4) (hR7 : f 32 = .ref z5) (hR8 : f 33 = .ref z6) (hR9 : f 34 = .ref z7) (hR10 : f 35 = .ref z8) (hR11 : f 36 = .ref z9) (H : Heap) (locs : List Loc) (ls : Array Slot) (hK : va_K (dC, dI) vwCl [(cI, .int), (cZ, .boolean), (cB, .byte)] s) (hP : va_P (dC, dI) vwCl [(x, .inr (13, [.ref bk, .ref tp, .ref sh, .ref sc, .ref he, .ref of])), (tp, .inr (11, [.ref tby, .int 0, .int 0, .int 0, .ref tst, .int 0, .ref tla, .ref tbe, .ref tsu, .int 0])), (tby, .inl (cI, 200, .inl (fun _ => (0 : Int32)))), (h, .inr (14, mL f)), (tb, .inl (cB, 200, .inl (fun _ => (0 : Int32))))] H) (hD : va_D A [(x, .inr (13, [.ref bk, .ref tp, .ref sh, .ref sc, .ref he, .ref of])), (tp, .inr (11, [.ref tby, .int 0, .int 0, .int 0, .ref tst, .int 0, .ref tla, .ref tbe, .ref tsu, .int 0])), (tby, .inl (cI, 200, .inl (fun _ => (0 : Int32)))), (h, .inr (14, mL f)), (tb, .inl (cB, 200, .inl (fun _ => (0 : Int32))))]) (hS : va_S A s.heap H locs) (hl : lv_has ls 7 [(0, .ref b), (1, .ref x), (2, .ref h), (3, .ref ou), (4, .int 0)]) : W p l e room_1 s m #[Value.ref b] below meth c H locs 1000 100000 (lw_Z below #[Value.ref b] s) (F0 m 368 ls []) := by
  obtain ⟨hx, hb, hr, hml, hown, hts0, hX, hbl, hlocks, hgv⟩ := id C0
  have hts := fun w h => hts0 w (v_law_in w h)
  have hbA : ¬ A b := by rw [hAe]; exact Nat.not_le.mpr hbl
  have hA : ∀ q : Nat, s.heap.size ≤ q → A q := fun q h9 => by rw [hAe]; exact h9
  refine lv_aload_n hx hb dL_law_368 rfl (lv_at hl 1 rfl) ?_
  refine lv_aload_n hx hb dL_law_369 rfl (lv_at hl 0 rfl) ?_
  refine lv_iload hx hb dL_law_370 (lv_at hl 4 rfl) ?_
  refine lv_iconst (v := 1) hx hb dL_law_372 (by decide) ?_
  refine lv_iadd hx hb dL_law_373 ?_
  refine lv_topi (fun y1 ey1 => ?_)
  obtain rfl : (1 : Int32) = y1 := (ey1.trans (by decide)).symm
  refine va_sld hx hb hX hbl hbA hS (by rw [hL8]; exact vp_in_nI (n := 1) (N := 8) (by decide) (by decide)) dL_law_374 ?_
  refine lv_aload_n hx hb dL_law_375 rfl (lv_at hl 0 rfl) ?_
  refine lv_iload hx hb dL_law_376 (lv_at hl 4 rfl) ?_
  refine lv_iconst (v := 2) hx hb dL_law_378 (by decide) ?_
  refine lv_iadd hx hb dL_law_379 ?_
  refine lv_topi (fun y2 ey2 => ?_)
  obtain rfl : (2 : Int32) = y2 := (ey2.trans (by decide)).symm
  refine va_sld hx hb hX hbl hbA hS (by rw [hL8]; exact vp_in_nI (n := 2) (N := 8) (by decide) (by decide)) dL_law_380 ?_
  refine lv_aload_n hx hb dL_law_381 rfl (lv_at hl 0 rfl) ?_
  refine lv_iload hx hb dL_law_382 (lv_at hl 4 rfl) ?_
  refine lv_iconst (v := 3) hx hb dL_law_384 (by decide) ?_
  refine lv_iadd hx hb dL_law_385 ?_
  refine lv_topi (fun y3 ey3 => ?_)
  obtain rfl : (3 : Int32) = y3 := (ey3.trans (by decide)).symm
  refine va_sld hx hb hX hbl hbA hS (by rw [hL8]; exact vp_in_nI (n := 3) (N := 8) (by decide) (by decide)) dL_law_386 ?_
  refine lv_aload_n hx hb dL_law_387 rfl (lv_at hl 0 rfl) ?_
  refine lv_iload hx hb dL_law_388 (lv_at hl 4 rfl) ?_
  refine lv_iconst (v := 4) hx hb dL_law_390 (by decide) ?_
  refine lv_iadd hx hb dL_law_391 ?_
  refine lv_topi (fun y4 ey4 => ?_)
  obtain rfl : (4 : Int32) = y4 := (ey4.trans (by decide)).symm
  refine va_sld hx hb hX hbl hbA hS (by rw [hL8]; exact vp_in_nI (n := 4) (N := 8) (by decide) (by decide)) dL_law_392 ?_
  refine lv_aload_n hx hb dL_law_393 rfl (lv_at hl 0 rfl) ?_
  refine lv_iload hx hb dL_law_394 (lv_at hl 4 rfl) ?_
  refine lv_iconst (v := 5) hx hb dL_law_396 (by decide) ?_
  refine lv_iadd hx hb dL_law_397 ?_
  refine lv_topi (fun y5 ey5 => ?_)
  obtain rfl : (5 : Int32) = y5 := (ey5.trans (by decide)).symm
  refine va_sld hx hb hX hbl hbA hS (by rw [hL8]; exact vp_in_nI (n := 5) (N := 8) (by decide) (by decide)) dL_law_398 ?_
  have hPc := hP.sub (ws' := [(x, .inr (13, [.ref bk, .ref tp, .ref sh, .ref sc, .ref he, .ref of])), (tp, .inr (11, [.ref tby, .int 0, .int 0, .int 0, .ref tst, .int 0, .ref tla, .ref tbe, .ref tsu, .int 0])), (tby, .inl (cI, 200, .inl (fun _ => (0 : Int32))))]) [0, 1, 2] rfl
  have hKc := hK.sub (tys' := [(cI, .int)]) [0] rfl
  have hDc := hD.sub (ws' := [(x, .inr (13, [.ref bk, .ref tp, .ref sh, .ref sc, .ref he, .ref of])), (tp, .inr (11, [.ref tby, .int 0, .int 0, .int 0, .ref tst, .int 0, .ref tla, .ref tbe, .ref tsu, .int 0])), (tby, .inl (cI, 200, .inl (fun _ => (0 : Int32))))]) [0, 1, 2] (by decide) rfl
  have hFc := va_free (wc := [(x, .inr (13, [.ref bk, .ref tp, .ref sh, .ref sc, .ref he, .ref of])), (tp, .inr (11, [.ref tby, .int 0, .int 0, .int 0, .ref tst, .int 0, .ref tla, .ref tbe, .ref tsu, .int 0])), (tby, .inl (cI, 200, .inl (fun _ => (0 : Int32))))]) hD hS hA [0, 1, 2] rfl
  refine va_calli (va_runV (As := [.int (xs (1 : Int32).toNatClampNeg), .int (xs (2 : Int32).toNatClampNeg), .int (xs (3 : Int32).toNatClampNeg), .int (xs (4 : Int32).toNatClampNeg), .int (xs (5 : Int32).toNatClampNeg)]) (rest := []) ⟨hx, hb, hml, hown, hts⟩ (c_feed l dC dI x bk tp sh sc he of tby tst tla tbe tsu cI (fun _ => (0 : Int32)) (xs (1 : Int32).toNatClampNeg) (xs (2 : Int32).toNatClampNeg) (xs (3 : Int32).toNatClampNeg) (xs (4 : Int32).toNatClampNeg) (xs (5 : Int32).toNatClampNeg) H.size) (cwV 5 hts g_law_c_feed_39 rfl rfl rfl (by decide +kernel) ⟨Nat.le_of_ble_eq_true rfl, Nat.le_of_ble_eq_true rfl⟩) ⟨fun a U g mk q => by obtain ⟨e0, e1, qP, qK, qD⟩ := q; exact ⟨e0, e1, qP, va_K.moved (u := U) (U := U.calling g mk a) (Vm.Alike.refl U.vm) qK, qD⟩, va_recv hK hP (ci := 13) (q0 := 0) rfl rfl, fun U hU hW => ⟨rfl, by rw [hU], by rw [hU]; exact hPc, va_K.moved hW.alike hKc, hDc.weaken (fun _ _ _ _ => trivial)⟩⟩ rfl rfl hl.1 rfl (lv_room (Nat.le_of_ble_eq_true rfl)) dL_law_399 ⟨Nat.le_of_ble_eq_true rfl, Nat.le_of_ble_eq_true rfl⟩) hS (fun q _ h => hFc q h) hFc (fun r6 u7 t H1 locs ht hvm hw hB hz1 hk1 hS => ?_)
  have hP1 : va_P (dC, dI) vwCl [] H1 := ub_P0
  have hD1 : va_D (va_A [(x, .inr (13, [.ref bk, .ref tp, .ref sh, .ref sc, .ref he, .ref of])), (tp, .inr (11, [.ref tby, .int 0, .int 0, .int 0, .ref tst, .int 0, .ref tla, .ref tbe, .ref tsu, .int 0])), (tby, .inl (cI, 200, .inl (fun _ => (0 : Int32))))] H.size) [] := ub_D0
  obtain ⟨hP, hD⟩ := va_join (wr := [(h, .inr (14, mL f)), (tb, .inl (cB, 200, .inl (fun _ => (0 : Int32))))]) (w1 := []) hP hD [0, 1, 2] [3, 4] rfl rfl (by decide) (by decide) hk1 hFc hP1 hD1
  generalize H1 = H at hP hS ⊢
  have hP : va_P (dC, dI) vwCl [(h, .inr (14, mL f)), (tb, .inl (cB, 200, .inl (fun _ => (0 : Int32))))] H := hP
  have hD : va_D A [(h, .inr (14, mL f)), (tb, .inl (cB, 200, .inl (fun _ => (0 : Int32))))] := hD
  refine W.widen (k := 1000) (n := 100000) (by omega) (by omega) ?_
  have hr_r6 := hw
  refine lv_aload_n hx hb dL_law_402 rfl (lv_at hl 2 rfl) ?_
  refine lv_aload_n hx hb dL_law_403 rfl (lv_at hl 0 rfl) ?_
  refine lv_iload hx hb dL_law_404 (lv_at hl 4 rfl) ?_
  refine lv_iconst (v := 1) hx hb dL_law_406 (by decide) ?_
  refine lv_iadd hx hb dL_law_407 ?_
  refine lv_topi (fun y8 ey8 => ?_)
  obtain rfl : (1 : Int32) = y8 := (ey8.trans (by decide)).symm
  refine va_sld hx hb hX hbl hbA hS (by rw [hL8]; exact vp_in_nI (n := 1) (N := 8) (by decide) (by decide)) dL_law_408 ?_
  refine lv_aload_n hx hb dL_law_409 rfl (lv_at hl 0 rfl) ?_
  refine lv_iload hx hb dL_law_410 (lv_at hl 4 rfl) ?_
  refine lv_iconst (v := 2) hx hb dL_law_412 (by decide) ?_
  refine lv_iadd hx hb dL_law_413 ?_
  refine lv_topi (fun y9 ey9 => ?_)
  obtain rfl : (2 : Int32) = y9 := (ey9.trans (by decide)).symm
  refine va_sld hx hb hX hbl hbA hS (by rw [hL8]; exact vp_in_nI (n := 2) (N := 8) (by decide) (by decide)) dL_law_414 ?_
  refine lv_aload_n hx hb dL_law_415 rfl (lv_at hl 0 rfl) ?_
  refine lv_iload hx hb dL_law_416 (lv_at hl 4 rfl) ?_
  refine lv_iconst (v := 3) hx hb dL_law_418 (by decide) ?_
  refine lv_iadd hx hb dL_law_419 ?_
  refine lv_topi (fun y10 ey10 => ?_)
  obtain rfl : (3 : Int32) = y10 := (ey10.trans (by decide)).symm
  refine va_sld hx hb hX hbl hbA hS (by rw [hL8]; exact vp_in_nI (n := 3) (N := 8) (by decide) (by decide)) dL_law_420 ?_
  refine lv_aload_n hx hb dL_law_421 rfl (lv_at hl 0 rfl) ?_
  refine lv_iload hx hb dL_law_422 (lv_at hl 4 rfl) ?_
  refine lv_iconst (v := 4) hx hb dL_law_424 (by decide) ?_
  refine lv_iadd hx hb dL_law_425 ?_
  refine lv_topi (fun y11 ey11 => ?_)
  obtain rfl : (4 : Int32) = y11 := (ey11.trans (by decide)).symm
  refine va_sld hx hb hX hbl hbA hS (by rw [hL8]; exact vp_in_nI (n := 4) (N := 8) (by decide) (by decide)) dL_law_426 ?_
  refine lv_aload_n hx hb dL_law_427 rfl (lv_at hl 0 rfl) ?_
  refine lv_iload hx hb dL_law_428 (lv_at hl 4 rfl) ?_
  refine lv_iconst (v := 5) hx hb dL_law_430 (by decide) ?_
  refine lv_iadd hx hb dL_law_431 ?_
  refine lv_topi (fun y12 ey12 => ?_)
  obtain rfl : (5 : Int32) = y12 := (ey12.trans (by decide)).symm
  refine va_sld hx hb hX hbl hbA hS (by rw [hL8]; exact vp_in_nI (n := 5) (N := 8) (by decide) (by decide)) dL_law_432 ?_
  have hPc := hP.sub (ws' := [(h, .inr (14, mL f)), (tb, .inl (cB, 200, .inl (fun _ => (0 : Int32))))]) [0, 1] rfl
  have hKc := hK.sub (tys' := [(cB, .byte)]) [2] rfl
  have hDc := hD.sub (ws' := [(h, .inr (14, mL f)), (tb, .inl (cB, 200, .inl (fun _ => (0 : Int32))))]) [0, 1] (by decide) rfl
  have hFc := va_free (wc := [(h, .inr (14, mL f)), (tb, .inl (cB, 200, .inl (fun _ => (0 : Int32))))]) hD hS hA [0, 1] rfl
  refine va_calli (va_runV (As := [.int (xs (1 : Int32).toNatClampNeg), .int (xs (2 : Int32).toNatClampNeg), .int (xs (3 : Int32).toNatClampNeg), .int (xs (4 : Int32).toNatClampNeg), .int (xs (5 : Int32).toNatClampNeg)]) (rest := [.int r6]) ⟨hx, hb, hml, hown, hts⟩ (m_feed l dC dI h f tb cB (fun _ => (0 : Int32)) (xs (1 : Int32).toNatClampNeg) (xs (2 : Int32).toNatClampNeg) (xs (3 : Int32).toNatClampNeg) (xs (4 : Int32).toNatClampNeg) (xs (5 : Int32).toNatClampNeg) H.size hM0 hR0 hM4) (cwV 5 hts g_law_m_feed_42 rfl rfl rfl (by decide +kernel) ⟨Nat.le_of_ble_eq_true rfl, Nat.le_of_ble_eq_true rfl⟩) ⟨fun a U g mk q => by obtain ⟨e0, e1, qP, qK, qD⟩ := q; exact ⟨e0, e1, qP, va_K.moved (u := U) (U := U.calling g mk a) (Vm.Alike.refl U.vm) qK, qD⟩, va_recv hK hP (ci := 14) (q0 := 0) rfl rfl, fun U hU hW => ⟨rfl, by rw [hU], by rw [hU]; exact hPc, va_K.moved hW.alike hKc, hDc.weaken (fun _ _ _ _ => trivial)⟩⟩ rfl rfl hl.1 rfl (lv_room (Nat.le_of_ble_eq_true rfl)) dL_law_433 ⟨Nat.le_of_ble_eq_true rfl, Nat.le_of_ble_eq_true rfl⟩) hS (fun q _ h => hFc q h) hFc (fun r13 u14 t H1 locs ht hvm hw hB hz1 hk1 hS => ?_)
  have hP1 : va_P (dC, dI) vwCl [] H1 := ub_P0
  have hD1 : va_D (va_A [(h, .inr (14, mL f)), (tb, .inl (cB, 200, .inl (fun _ => (0 : Int32))))] H.size) [] := ub_D0
  obtain ⟨hP, hD⟩ := va_join (wr := []) (w1 := []) hP hD [0, 1] [] rfl rfl (by decide) (by decide) hk1 hFc hP1 hD1
  generalize H1 = H at hP hS ⊢
  have hP : va_P (dC, dI) vwCl [] H := hP
  have hD : va_D A [] := hD
  refine W.widen (k := 1000) (n := 100000) (by omega) (by omega) ?_
  have hr_r13 := hw
  refine lv_icmp_eq (tgt := 1887) hx hb dL_law_436 (by decide) (fun c15 => ?_) (fun c15 => by first | exact absurd c15 (hr_r6.trans hr_r13.symm) | exact absurd (hr_r6.trans hr_r13.symm) c15)
  refine W.widen (k := 600002) (n := 7302232) (by omega) (by omega) ?_
  exact law_tail l hL8 C0 hAe _ _ ls hS (lv_sub hl [0, 4] rfl)
set_option maxHeartbeats 4000000 in
set_option maxRecDepth 100000 in
theorem law_case_5 {p : Program} {e : Env} {s : State} {m : MethodId} {below : List Frame} {meth : Method} {c : Code} (l : Launch) (hfl : l.stackTraces = false) {b L : Nat} {xs : Nat → Int32} (hL8 : L = 8) (C0 : lw_At p s m meth c b L xs) {A : Nat → Prop} (hAe : A = fun q => s.heap.size ≤ q) (dC : Nat → ClassId) (dI : Nat → Nat → Nat) (x : Nat) (ed : Nat) (bk : Nat) (lc : Nat) (lr : Nat) (la : Nat) (le : Nat) (lw : Nat) (lp : Nat) (ltr : Nat) (stk : Nat) (tp : Nat) (tby : Nat) (tst : Nat) (tla : Nat) (tbe : Nat) (tsu : Nat) (sh : Nat) (sc : Nat) (spl : Nat) (spo : Nat) (sou : Nat) (ssc : Nat) (sto : Nat) (smi : Nat) (sth : Nat) (he : Nat) (of : Nat) (o2 : Nat) (o3 : Nat) (o4 : Nat) (o5 : Nat) (o6 : Nat) (o7 : Nat) (o8 : Nat) (o9 : Nat) (o10 : Nat) (o11 : Nat) (o12 : Nat) (o13 : Nat) (o14 : Nat) (o17 : Nat) (h : Nat) (f : Nat → Value) (tb : Nat) (mlt : Nat) (z0 : Nat) (z1 : Nat) (z2 : Nat) (z3 : Nat) (z4 : Nat) (z5 : Nat) (z6 : Nat) (z7 : Nat) (z8 : Nat) (z9 : Nat) (ou : Nat) (cI : ClassId) (cZ : ClassId) (cB : ClassId) (hN : ub_NX s) (hT : ub_ST s) (hZ : ub_ZE ed A s s.heap) (hKO : ub_KO s) (hEX : ub_EX A s s.heap) (hM0 : f 0 = .int 0) (hM1 : f 1 = .int 0) (hM2 : f 8 = .int 0) (hM3 : f 9 = .int 0) (hM4 : f 16 = .int 0) (hM5 : f 17 = .int 0) (hM6 : f 46 = .int 0) (hM7 : f 47 = .int 0) (hM8 : f 48 = .int 0) (hM9 : f 74 = .int 0) (hM10 : f 75 = .int 0) (hM11 : f 55 = .int 0) (hR0 : f 10 = .ref tb) (hR1 : f 15 = .ref mlt) (hR2 : f 27 = .ref z0) (hR3 : f 28 = .ref z1) (hR4 : f 29 = .ref z2) (hR5 : f 30 = .ref z3) (hR6 : f 31 = .ref z4) (hR7 : f 32 = .ref z5) (hR8 : f 33 = .ref z6) (hR9 : f 34 = .ref z7) (hR10 : f 35 = .ref z8) (hR11 : f 36 = .ref z9) (H : Heap) (locs : List Loc) (ls : Array Slot) (hK : va_K (dC, dI) vwCl [(cI, .int), (cZ, .boolean), (cB, .byte)] s) (hP : va_P (dC, dI) vwCl [(x, .inr (13, [.ref bk, .ref tp, .ref sh, .ref sc, .ref he, .ref of])), (tp, .inr (11, [.ref tby, .int 0, .int 0, .int 0, .ref tst, .int 0, .ref tla, .ref tbe, .ref tsu, .int 0])), (h, .inr (14, mL f))] H) (hD : va_D A [(x, .inr (13, [.ref bk, .ref tp, .ref sh, .ref sc, .ref he, .ref of])), (tp, .inr (11, [.ref tby, .int 0, .int 0, .int 0, .ref tst, .int 0, .ref tla, .ref tbe, .ref tsu, .int 0])), (h, .inr (14, mL f))]) (hS : va_S A s.heap H locs) (hl : lv_has ls 7 [(0, .ref b), (1, .ref x), (2, .ref h), (3, .ref ou), (4, .int 0)]) : W p l e room_1 s m #[Value.ref b] below meth c H locs 1000 100000 (lw_Z below #[Value.ref b] s) (F0 m 441 ls []) := by
  obtain ⟨hx, hb, hr, hml, hown, hts0, hX, hbl, hlocks, hgv⟩ := id C0
  have hts := fun w h => hts0 w (v_law_in w h)
  have hbA : ¬ A b := by rw [hAe]; exact Nat.not_le.mpr hbl
  have hA : ∀ q : Nat, s.heap.size ≤ q → A q := fun q h9 => by rw [hAe]; exact h9
  refine lv_aload_n hx hb dL_law_441 rfl (lv_at hl 1 rfl) ?_
  refine lv_aload_n hx hb dL_law_442 rfl (lv_at hl 0 rfl) ?_
  refine lv_iload hx hb dL_law_443 (lv_at hl 4 rfl) ?_
  refine lv_iconst (v := 1) hx hb dL_law_445 (by decide) ?_
  refine lv_iadd hx hb dL_law_446 ?_
  refine lv_topi (fun y1 ey1 => ?_)
  obtain rfl : (1 : Int32) = y1 := (ey1.trans (by decide)).symm
  refine va_sld hx hb hX hbl hbA hS (by rw [hL8]; exact vp_in_nI (n := 1) (N := 8) (by decide) (by decide)) dL_law_447 ?_
  have hPc := hP.sub (ws' := [(x, .inr (13, [.ref bk, .ref tp, .ref sh, .ref sc, .ref he, .ref of])), (tp, .inr (11, [.ref tby, .int 0, .int 0, .int 0, .ref tst, .int 0, .ref tla, .ref tbe, .ref tsu, .int 0]))]) [0, 1] rfl
  have hKc := hK.sub (tys' := []) [] rfl
  have hDc := hD.sub (ws' := [(x, .inr (13, [.ref bk, .ref tp, .ref sh, .ref sc, .ref he, .ref of])), (tp, .inr (11, [.ref tby, .int 0, .int 0, .int 0, .ref tst, .int 0, .ref tla, .ref tbe, .ref tsu, .int 0]))]) [0, 1] (by decide) rfl
  have hFc := va_free (wc := [(x, .inr (13, [.ref bk, .ref tp, .ref sh, .ref sc, .ref he, .ref of])), (tp, .inr (11, [.ref tby, .int 0, .int 0, .int 0, .ref tst, .int 0, .ref tla, .ref tbe, .ref tsu, .int 0]))]) hD hS hA [0, 1] rfl
  refine va_calli (va_runV (As := [.int (xs (1 : Int32).toNatClampNeg)]) (rest := []) ⟨hx, hb, hml, hown, hts⟩ (c_end l dC dI x bk tp sh sc he of tby tst tla tbe tsu (xs (1 : Int32).toNatClampNeg) H.size) (cwV 1 hts g_law_c_end_43 rfl rfl rfl (by decide +kernel) ⟨Nat.le_of_ble_eq_true rfl, Nat.le_of_ble_eq_true rfl⟩) ⟨fun a U g mk q => by obtain ⟨e0, e1, qP, qK, qD, qN⟩ := q; exact ⟨e0, e1, qP, va_K.moved (u := U) (U := U.calling g mk a) (Vm.Alike.refl U.vm) qK, qD, ub_NX_c qN⟩, va_recv hK hP (ci := 13) (q0 := 0) rfl rfl, fun U hU hW => ⟨rfl, by rw [hU], by rw [hU]; exact hPc, va_K.moved hW.alike hKc, hDc.weaken (fun _ _ _ _ => trivial), ub_NX_w hW hN⟩⟩ rfl rfl hl.1 rfl (lv_room (Nat.le_of_ble_eq_true rfl)) dL_law_448 ⟨Nat.le_of_ble_eq_true rfl, Nat.le_of_ble_eq_true rfl⟩) hS (fun q _ h => hFc q h) hFc (fun r2 u3 t H1 locs ht hvm hw hB hz1 hk1 hS => ?_)
  have hP1 : va_P (dC, dI) vwCl [] H1 := ub_P0
  have hD1 : va_D (va_A [(x, .inr (13, [.ref bk, .ref tp, .ref sh, .ref sc, .ref he, .ref of])), (tp, .inr (11, [.ref tby, .int 0, .int 0, .int 0, .ref tst, .int 0, .ref tla, .ref tbe, .ref tsu, .int 0]))] H.size) [] := ub_D0
  obtain ⟨hP, hD⟩ := va_join (wr := [(h, .inr (14, mL f))]) (w1 := []) hP hD [0, 1] [2] rfl rfl (by decide) (by decide) hk1 hFc hP1 hD1
  generalize H1 = H at hP hS ⊢
  have hP : va_P (dC, dI) vwCl [(h, .inr (14, mL f))] H := hP
  have hD : va_D A [(h, .inr (14, mL f))] := hD
  refine W.widen (k := 1000) (n := 100000) (by omega) (by omega) ?_
  have hr_r2 := hw
  refine lv_aload_n hx hb dL_law_451 rfl (lv_at hl 2 rfl) ?_
  refine lv_aload_n hx hb dL_law_452 rfl (lv_at hl 0 rfl) ?_
  refine lv_iload hx hb dL_law_453 (lv_at hl 4 rfl) ?_
  refine lv_iconst (v := 1) hx hb dL_law_455 (by decide) ?_
  refine lv_iadd hx hb dL_law_456 ?_
  refine lv_topi (fun y4 ey4 => ?_)
  obtain rfl : (1 : Int32) = y4 := (ey4.trans (by decide)).symm
  refine va_sld hx hb hX hbl hbA hS (by rw [hL8]; exact vp_in_nI (n := 1) (N := 8) (by decide) (by decide)) dL_law_457 ?_
  have hPc := hP.sub (ws' := [(h, .inr (14, mL f))]) [0] rfl
  have hKc := hK.sub (tys' := []) [] rfl
  have hDc := hD.sub (ws' := [(h, .inr (14, mL f))]) [0] (by decide) rfl
  have hFc := va_free (wc := [(h, .inr (14, mL f))]) hD hS hA [0] rfl
  refine va_calli (va_runV (As := [.int (xs (1 : Int32).toNatClampNeg)]) (rest := [.int r2]) ⟨hx, hb, hml, hown, hts⟩ (m_end l dC dI h f (xs (1 : Int32).toNatClampNeg) H.size hM0 hM4) (cwV 1 hts g_law_m_end_47 rfl rfl rfl (by decide +kernel) ⟨Nat.le_of_ble_eq_true rfl, Nat.le_of_ble_eq_true rfl⟩) ⟨fun a U g mk q => by obtain ⟨e0, e1, qP, qK, qD⟩ := q; exact ⟨e0, e1, qP, va_K.moved (u := U) (U := U.calling g mk a) (Vm.Alike.refl U.vm) qK, qD⟩, va_recv hK hP (ci := 14) (q0 := 0) rfl rfl, fun U hU hW => ⟨rfl, by rw [hU], by rw [hU]; exact hPc, va_K.moved hW.alike hKc, hDc.weaken (fun _ _ _ _ => trivial)⟩⟩ rfl rfl hl.1 rfl (lv_room (Nat.le_of_ble_eq_true rfl)) dL_law_458 ⟨Nat.le_of_ble_eq_true rfl, Nat.le_of_ble_eq_true rfl⟩) hS (fun q _ h => hFc q h) hFc (fun r5 u6 t H1 locs ht hvm hw hB hz1 hk1 hS => ?_)
  have hP1 : va_P (dC, dI) vwCl [] H1 := ub_P0
  have hD1 : va_D (va_A [(h, .inr (14, mL f))] H.size) [] := ub_D0
  obtain ⟨hP, hD⟩ := va_join (wr := []) (w1 := []) hP hD [0] [] rfl rfl (by decide) (by decide) hk1 hFc hP1 hD1
  generalize H1 = H at hP hS ⊢
  have hP : va_P (dC, dI) vwCl [] H := hP
  have hD : va_D A [] := hD
  refine W.widen (k := 1000) (n := 100000) (by omega) (by omega) ?_
  have hr_r5 := hw
  refine lv_icmp_eq (tgt := 1887) hx hb dL_law_461 (by decide) (fun c7 => ?_) (fun c7 => by first | exact absurd c7 (hr_r2.trans hr_r5.symm) | exact absurd (hr_r2.trans hr_r5.symm) c7)
  refine W.widen (k := 600002) (n := 7302232) (by omega) (by omega) ?_
  exact law_tail l hL8 C0 hAe _ _ ls hS (lv_sub hl [0, 4] rfl)
set_option maxHeartbeats 4000000 in
set_option maxRecDepth 100000 in
theorem law_case_6 {p : Program} {e : Env} {s : State} {m : MethodId} {below : List Frame} {meth : Method} {c : Code} (l : Launch) (hfl : l.stackTraces = false) {b L : Nat} {xs : Nat → Int32} (hL8 : L = 8) (C0 : lw_At p s m meth c b L xs) {A : Nat → Prop} (hAe : A = fun q => s.heap.size ≤ q) (dC : Nat → ClassId) (dI : Nat → Nat → Nat) (x : Nat) (ed : Nat) (bk : Nat) (lc : Nat) (lr : Nat) (la : Nat) (le : Nat) (lw : Nat) (lp : Nat) (ltr : Nat) (stk : Nat) (tp : Nat) (tby : Nat) (tst : Nat) (tla : Nat) (tbe : Nat) (tsu : Nat) (sh : Nat) (sc : Nat) (spl : Nat) (spo : Nat) (sou : Nat) (ssc : Nat) (sto : Nat) (smi : Nat) (sth : Nat) (he : Nat) (of : Nat) (o2 : Nat) (o3 : Nat) (o4 : Nat) (o5 : Nat) (o6 : Nat) (o7 : Nat) (o8 : Nat) (o9 : Nat) (o10 : Nat) (o11 : Nat) (o12 : Nat) (o13 : Nat) (o14 : Nat) (o17 : Nat) (h : Nat) (f : Nat → Value) (tb : Nat) (mlt : Nat) (z0 : Nat) (z1 : Nat) (z2 : Nat) (z3 : Nat) (z4 : Nat) (z5 : Nat) (z6 : Nat) (z7 : Nat) (z8 : Nat) (z9 : Nat) (ou : Nat) (cI : ClassId) (cZ : ClassId) (cB : ClassId) (hN : ub_NX s) (hT : ub_ST s) (hZ : ub_ZE ed A s s.heap) (hKO : ub_KO s) (hEX : ub_EX A s s.heap) (hM0 : f 0 = .int 0) (hM1 : f 1 = .int 0) (hM2 : f 8 = .int 0) (hM3 : f 9 = .int 0) (hM4 : f 16 = .int 0) (hM5 : f 17 = .int 0) (hM6 : f 46 = .int 0) (hM7 : f 47 = .int 0) (hM8 : f 48 = .int 0) (hM9 : f 74 = .int 0) (hM10 : f 75 = .int 0) (hM11 : f 55 = .int 0) (hR0 : f 10 = .ref tb) (hR1 : f 15 = .ref mlt) (hR2 : f 27 = .ref z0) (hR3 : f 28 = .ref z1) (hR4 : f 29 = .ref z2) (hR5 : f 30 = .ref z3) (hR6 : f 31 = .ref z4) (hR7 : f 32 = .ref z5) (hR8 : f 33 = .ref z6) (hR9 : f 34 = .ref z7) (hR10 : f 35 = .ref z8) (hR11 : f 36 = .ref z9) (H : Heap) (locs : List Loc) (ls : Array Slot) (hK : va_K (dC, dI) vwCl [(cI, .int), (cZ, .boolean), (cB, .byte)] s) (hP : va_P (dC, dI) vwCl [(x, .inr (13, [.ref bk, .ref tp, .ref sh, .ref sc, .ref he, .ref of])), (tp, .inr (11, [.ref tby, .int 0, .int 0, .int 0, .ref tst, .int 0, .ref tla, .ref tbe, .ref tsu, .int 0])), (tbe, .inl (cI, 52, .inl (fun _ => (0 : Int32)))), (h, .inr (14, mL f))] H) (hD : va_D A [(x, .inr (13, [.ref bk, .ref tp, .ref sh, .ref sc, .ref he, .ref of])), (tp, .inr (11, [.ref tby, .int 0, .int 0, .int 0, .ref tst, .int 0, .ref tla, .ref tbe, .ref tsu, .int 0])), (tbe, .inl (cI, 52, .inl (fun _ => (0 : Int32)))), (h, .inr (14, mL f))]) (hS : va_S A s.heap H locs) (hl : lv_has ls 7 [(0, .ref b), (1, .ref x), (2, .ref h), (3, .ref ou), (4, .int 0)]) : W p l e room_1 s m #[Value.ref b] below meth c H locs 1000 100000 (lw_Z below #[Value.ref b] s) (F0 m 466 ls []) := by
  obtain ⟨hx, hb, hr, hml, hown, hts0, hX, hbl, hlocks, hgv⟩ := id C0
  have hts := fun w h => hts0 w (v_law_in w h)
  have hbA : ¬ A b := by rw [hAe]; exact Nat.not_le.mpr hbl
  have hA : ∀ q : Nat, s.heap.size ≤ q → A q := fun q h9 => by rw [hAe]; exact h9
  refine lv_aload_n hx hb dL_law_466 rfl (lv_at hl 1 rfl) ?_
  have hPc := hP.sub (ws' := [(x, .inr (13, [.ref bk, .ref tp, .ref sh, .ref sc, .ref he, .ref of])), (tp, .inr (11, [.ref tby, .int 0, .int 0, .int 0, .ref tst, .int 0, .ref tla, .ref tbe, .ref tsu, .int 0])), (tbe, .inl (cI, 52, .inl (fun _ => (0 : Int32))))]) [0, 1, 2] rfl
  have hKc := hK.sub (tys' := [(cI, .int)]) [0] rfl
  have hDc := hD.sub (ws' := [(x, .inr (13, [.ref bk, .ref tp, .ref sh, .ref sc, .ref he, .ref of])), (tp, .inr (11, [.ref tby, .int 0, .int 0, .int 0, .ref tst, .int 0, .ref tla, .ref tbe, .ref tsu, .int 0])), (tbe, .inl (cI, 52, .inl (fun _ => (0 : Int32))))]) [0, 1, 2] (by decide) rfl
  have hFc := va_free (wc := [(x, .inr (13, [.ref bk, .ref tp, .ref sh, .ref sc, .ref he, .ref of])), (tp, .inr (11, [.ref tby, .int 0, .int 0, .int 0, .ref tst, .int 0, .ref tla, .ref tbe, .ref tsu, .int 0])), (tbe, .inl (cI, 52, .inl (fun _ => (0 : Int32))))]) hD hS hA [0, 1, 2] rfl
  refine va_calli (va_runV (As := []) (rest := []) ⟨hx, hb, hml, hown, hts⟩ (c_fault l dC dI x bk tp sh sc he of tby tst tla tbe tsu cI (fun _ => (0 : Int32)) H.size) (cwV 0 hts g_law_c_fault_48 rfl rfl rfl (by decide +kernel) ⟨Nat.le_of_ble_eq_true rfl, Nat.le_of_ble_eq_true rfl⟩) ⟨fun a U g mk q => by obtain ⟨e0, e1, qP, qK, qD, qN, qT⟩ := q; exact ⟨e0, e1, qP, va_K.moved (u := U) (U := U.calling g mk a) (Vm.Alike.refl U.vm) qK, qD, ub_NX_c qN, ub_T_c qT⟩, va_recv hK hP (ci := 13) (q0 := 0) rfl rfl, fun U hU hW => ⟨rfl, by rw [hU], by rw [hU]; exact hPc, va_K.moved hW.alike hKc, hDc.weaken (fun _ _ _ _ => trivial), ub_NX_w hW hN, ub_T_w hU hW hS hT⟩⟩ rfl rfl hl.1 rfl (lv_room (Nat.le_of_ble_eq_true rfl)) dL_law_467 ⟨Nat.le_of_ble_eq_true rfl, Nat.le_of_ble_eq_true rfl⟩) hS (fun q _ h => hFc q h) hFc (fun r1 u2 t H1 locs ht hvm hw hB hz1 hk1 hS => ?_)
  have hP1 : va_P (dC, dI) vwCl [] H1 := ub_P0
  have hD1 : va_D (va_A [(x, .inr (13, [.ref bk, .ref tp, .ref sh, .ref sc, .ref he, .ref of])), (tp, .inr (11, [.ref tby, .int 0, .int 0, .int 0, .ref tst, .int 0, .ref tla, .ref tbe, .ref tsu, .int 0])), (tbe, .inl (cI, 52, .inl (fun _ => (0 : Int32))))] H.size) [] := ub_D0
  obtain ⟨hP, hD⟩ := va_join (wr := [(h, .inr (14, mL f))]) (w1 := []) hP hD [0, 1, 2] [3] rfl rfl (by decide) (by decide) hk1 hFc hP1 hD1
  generalize H1 = H at hP hS ⊢
  have hP : va_P (dC, dI) vwCl [(h, .inr (14, mL f))] H := hP
  have hD : va_D A [(h, .inr (14, mL f))] := hD
  refine W.widen (k := 1000) (n := 100000) (by omega) (by omega) ?_
  have hr_r1 := hw
  refine lv_aload_n hx hb dL_law_470 rfl (lv_at hl 2 rfl) ?_
  have hPc := hP.sub (ws' := [(h, .inr (14, mL f))]) [0] rfl
  have hKc := hK.sub (tys' := []) [] rfl
  have hDc := hD.sub (ws' := [(h, .inr (14, mL f))]) [0] (by decide) rfl
  have hFc := va_free (wc := [(h, .inr (14, mL f))]) hD hS hA [0] rfl
  refine va_calli (va_runV (As := []) (rest := [.int r1]) ⟨hx, hb, hml, hown, hts⟩ (m_fault l dC dI h f tb H.size hM0 hR0 hM4) (cwV 0 hts g_law_m_fault_51 rfl rfl rfl (by decide +kernel) ⟨Nat.le_of_ble_eq_true rfl, Nat.le_of_ble_eq_true rfl⟩) ⟨fun a U g mk q => by obtain ⟨e0, e1, qP, qK, qD⟩ := q; exact ⟨e0, e1, qP, va_K.moved (u := U) (U := U.calling g mk a) (Vm.Alike.refl U.vm) qK, qD⟩, va_recv hK hP (ci := 14) (q0 := 0) rfl rfl, fun U hU hW => ⟨rfl, by rw [hU], by rw [hU]; exact hPc, va_K.moved hW.alike hKc, hDc.weaken (fun _ _ _ _ => trivial)⟩⟩ rfl rfl hl.1 rfl (lv_room (Nat.le_of_ble_eq_true rfl)) dL_law_471 ⟨Nat.le_of_ble_eq_true rfl, Nat.le_of_ble_eq_true rfl⟩) hS (fun q _ h => hFc q h) hFc (fun r3 u4 t H1 locs ht hvm hw hB hz1 hk1 hS => ?_)
  have hP1 : va_P (dC, dI) vwCl [] H1 := ub_P0
  have hD1 : va_D (va_A [(h, .inr (14, mL f))] H.size) [] := ub_D0
  obtain ⟨hP, hD⟩ := va_join (wr := []) (w1 := []) hP hD [0] [] rfl rfl (by decide) (by decide) hk1 hFc hP1 hD1
  generalize H1 = H at hP hS ⊢
  have hP : va_P (dC, dI) vwCl [] H := hP
  have hD : va_D A [] := hD
  refine W.widen (k := 1000) (n := 100000) (by omega) (by omega) ?_
  have hr_r3 := hw
  refine lv_icmp_eq (tgt := 1887) hx hb dL_law_474 (by decide) (fun c5 => ?_) (fun c5 => by first | exact absurd c5 (hr_r1.trans hr_r3.symm) | exact absurd (hr_r1.trans hr_r3.symm) c5)
  refine W.widen (k := 600002) (n := 7302232) (by omega) (by omega) ?_
  exact law_tail l hL8 C0 hAe _ _ ls hS (lv_sub hl [0, 4] rfl)
