set_option maxRecDepth 100000 in
theorem zh_dL_law_0_0 : zc cL_law 0 [187, 0, 8, 89, 183, 0, 15, 76, 187, 0, 16, 89, 183, 0, 18, 77, 4, 188, 11, 78, 3, 54, 4, 21, 4, 42, 190, 16, 8, 100, 163, 7, 43, 42, 21, 4, 46, 16, 63, 126] = true := by decide +kernel
set_option maxRecDepth 100000 in
theorem zh_dL_law_1859_1840 : zc cL_law 1840 [46, 182, 0, 182, 87, 44, 42, 21, 4, 4, 96, 46, 182, 0, 185, 87, 167, 0, 3, 132, 4, 8, 167, 248, 209, 4, 172] = true := by decide +kernel
theorem dL_law_0 : decode cL_law 0 = .ok (.new 8, 3) := zo_187 (zi_at zh_dL_law_0_0 0 rfl) (zi_at zh_dL_law_0_0 1 rfl) (zi_at zh_dL_law_0_0 2 rfl) rfl
theorem dL_law_3 : decode cL_law 3 = .ok (.dup, 1) := zo_89 (zi_at zh_dL_law_0_0 3 rfl)
theorem dL_law_4 : decode cL_law 4 = .ok (.invokespecial 15, 3) := zo_183 (zi_at zh_dL_law_0_0 4 rfl) (zi_at zh_dL_law_0_0 5 rfl) (zi_at zh_dL_law_0_0 6 rfl) rfl
theorem dL_law_7 : decode cL_law 7 = .ok (.astore_n 1, 1) := zo_76 (zi_at zh_dL_law_0_0 7 rfl)
theorem dL_law_8 : decode cL_law 8 = .ok (.new 16, 3) := zo_187 (zi_at zh_dL_law_0_0 8 rfl) (zi_at zh_dL_law_0_0 9 rfl) (zi_at zh_dL_law_0_0 10 rfl) rfl
theorem dL_law_11 : decode cL_law 11 = .ok (.dup, 1) := zo_89 (zi_at zh_dL_law_0_0 11 rfl)
theorem dL_law_12 : decode cL_law 12 = .ok (.invokespecial 18, 3) := zo_183 (zi_at zh_dL_law_0_0 12 rfl) (zi_at zh_dL_law_0_0 13 rfl) (zi_at zh_dL_law_0_0 14 rfl) rfl
theorem dL_law_15 : decode cL_law 15 = .ok (.astore_n 2, 1) := zo_77 (zi_at zh_dL_law_0_0 15 rfl)
theorem dL_law_16 : decode cL_law 16 = .ok (.iconst 1, 1) := zo_4 (zi_at zh_dL_law_0_0 16 rfl)
theorem dL_law_17 : decode cL_law 17 = .ok (.newarray .long, 2) := zo_188_11 (zi_at zh_dL_law_0_0 17 rfl) (zi_at zh_dL_law_0_0 18 rfl)
theorem dL_law_19 : decode cL_law 19 = .ok (.astore_n 3, 1) := zo_78 (zi_at zh_dL_law_0_0 19 rfl)
theorem dL_law_20 : decode cL_law 20 = .ok (.iconst 0, 1) := zo_3 (zi_at zh_dL_law_0_0 20 rfl)
theorem dL_law_21 : decode cL_law 21 = .ok (.istore 4, 2) := zo_54 (zi_at zh_dL_law_0_0 21 rfl) (zi_at zh_dL_law_0_0 22 rfl)
theorem dL_law_23 : decode cL_law 23 = .ok (.iload 4, 2) := zo_21 (zi_at zh_dL_law_0_0 23 rfl) (zi_at zh_dL_law_0_0 24 rfl)
theorem dL_law_25 : decode cL_law 25 = .ok (.aload_n 0, 1) := zo_42 (zi_at zh_dL_law_0_0 25 rfl)
theorem dL_law_26 : decode cL_law 26 = .ok (.arraylength, 1) := zo_190 (zi_at zh_dL_law_0_0 26 rfl)
theorem dL_law_27 : decode cL_law 27 = .ok (.bipush 8, 2) := zo_16 (zi_at zh_dL_law_0_0 27 rfl) (zi_at zh_dL_law_0_0 28 rfl) rfl
theorem dL_law_29 : decode cL_law 29 = .ok (.isub, 1) := zo_100 (zi_at zh_dL_law_0_0 29 rfl)
theorem dL_law_30 : decode cL_law 30 = .ok (.if_icmp .gt 1835, 3) := zo_163 (zi_at zh_dL_law_0_0 30 rfl) (zi_at zh_dL_law_0_0 31 rfl) (zi_at zh_dL_law_0_0 32 rfl) rfl
theorem dL_law_33 : decode cL_law 33 = .ok (.aload_n 0, 1) := zo_42 (zi_at zh_dL_law_0_0 33 rfl)
theorem dL_law_34 : decode cL_law 34 = .ok (.iload 4, 2) := zo_21 (zi_at zh_dL_law_0_0 34 rfl) (zi_at zh_dL_law_0_0 35 rfl)
theorem dL_law_36 : decode cL_law 36 = .ok (.iaload, 1) := zo_46 (zi_at zh_dL_law_0_0 36 rfl)
theorem dL_law_37 : decode cL_law 37 = .ok (.bipush 63, 2) := zo_16 (zi_at zh_dL_law_0_0 37 rfl) (zi_at zh_dL_law_0_0 38 rfl) rfl
theorem dL_law_39 : decode cL_law 39 = .ok (.iand, 1) := zo_126 (zi_at zh_dL_law_0_0 39 rfl)
theorem dL_law_40 : decode cL_law 40 = .ok (.tableswitch 1819 0 37 #[168, 193, 206, 279, 328, 401, 426, 439, 464, 501, 550, 637, 674, 711, 772, 821, 870, 919, 956, 1005, 1054, 1091, 1128, 1229, 1290, 1339, 1388, 1413, 1438, 1463, 1500, 1537, 1562, 1599, 1660, 1685, 1754, 1794], 168) := by decide +kernel
theorem dL_law_1859 : decode cL_law 1859 = .ok (.iinc 4 8, 3) := zo_132 (zi_at zh_dL_law_1859_1840 19 rfl) (zi_at zh_dL_law_1859_1840 20 rfl) (zi_at zh_dL_law_1859_1840 21 rfl) rfl
theorem dL_law_1862 : decode cL_law 1862 = .ok (.goto (-1839), 3) := zo_167 (zi_at zh_dL_law_1859_1840 22 rfl) (zi_at zh_dL_law_1859_1840 23 rfl) (zi_at zh_dL_law_1859_1840 24 rfl) rfl
theorem dL_law_1865 : decode cL_law 1865 = .ok (.iconst 1, 1) := zo_4 (zi_at zh_dL_law_1859_1840 25 rfl)
theorem dL_law_1866 : decode cL_law 1866 = .ok (.ireturn, 1) := zo_172 (zi_at zh_dL_law_1859_1840 26 rfl)
theorem hz_yX12_init_0 : yX12_init.cls ≠ "java/lang/invoke/MethodHandle" ∧ yX12_init.cls ≠ "java/lang/invoke/VarHandle" ∧ (parseMethodDescriptor yX12_init.desc).map (fun d => d.parameters.length) = some 0 := by decide +kernel
theorem hz_yX13_init_0 : yX13_init.cls ≠ "java/lang/invoke/MethodHandle" ∧ yX13_init.cls ≠ "java/lang/invoke/VarHandle" ∧ (parseMethodDescriptor yX13_init.desc).map (fun d => d.parameters.length) = some 0 := by decide +kernel

set_option maxHeartbeats 4000000 in
set_option maxRecDepth 100000 in
theorem law_step {p : Program} {e : Env} {s : State} {m : MethodId} {below : List Frame} {meth : Method} {c : Code} (l : Launch) {b L : Nat} {xs : Nat → Int32} (hL : L ≤ 4096) (C0 : lw_At p s m meth c b L xs) {A : Nat → Prop} {ed : Nat} {dC : Nat → ClassId} {dI : Nat → Nat → Nat} {cT : Nat → ClassId} {cL : ClassId} (F : FX l s A ed dC dI cT cL) {x ou : Nat} {am cf ad : Nat → Nat} {E EM : Nat → va_E} {f : Nat → Int64} {H : Heap} {locs : List Loc} (V : INV s A ed dC dI cT cL x ou am cf ad E EM f H locs) (hR : REL15 cf E EM) {i : Int32} {k : Nat} (hik : i.toInt = 8 * (k : Int)) (hk : k ≤ 512) (ls : Array Slot) (hl : lv_has ls 7 [(0, .ref b), (1, .ref x), (2, .ref (am 0)), (3, .ref ou), (4, .int i)]) (nxt : (i.toInt + 8 ≤ (L : Int) → ∀ (cf ad : Nat → Nat) (E EM : Nat → va_E) (f : Nat → Int64) (H : Heap) (locs : List Loc) (ls : Array Slot) (j : Int32), j.toInt = 8 * ((k + 1 : Nat) : Int) → INV s A ed dC dI cT cL x ou am cf ad E EM f H locs → REL15 cf E EM → lv_has ls 7 [(0, .ref b), (1, .ref x), (2, .ref (am 0)), (3, .ref ou), (4, .int j)] → W p l e room_1 s m #[Value.ref b] below meth c H locs (1000 + 7 * (k + 1)) (100000 + 3300 * (k + 1)) (lw_Z below #[Value.ref b] s) (F0 m 23 ls []))) : W p l e room_1 s m #[Value.ref b] below meth c H locs (1000 + 7 * k) (100000 + 3300 * k) (lw_Z below #[Value.ref b] s) (F0 m 23 ls []) := by
  obtain ⟨hx, hb, hr, hml, hown, hts0, hX, hbl, hlocks, hgv⟩ := id C0
  have hts := fun w (h : w ∈ v_law) => hts0 w (v_law_in w h)
  have hbA : ¬ A b := F.hnA b hbl
  have tl : i.toInt + 8 ≤ (L : Int) → (∀ (cf ad : Nat → Nat) (E EM : Nat → va_E) (f : Nat → Int64) (H : Heap) (locs : List Loc) (ls : Array Slot), INV s A ed dC dI cT cL x ou am cf ad E EM f H locs → REL15 cf E EM → lv_has ls 7 [(0, .ref b), (1, .ref x), (2, .ref (am 0)), (3, .ref ou), (4, .int i)] → W p l e room_1 s m #[Value.ref b] below meth c H locs (1000 + 7 * (k + 1)) (100000 + 3300 * (k + 1)) (lw_Z below #[Value.ref b] s) (F0 m 1859 ls [])) := fun h8 cf ad E EM f H locs ls V hR hl => by
    obtain ⟨j, ej⟩ : ∃ j : Int32, j = i + 8 := ⟨_, rfl⟩
    obtain ⟨tj, -⟩ := ti_add (a := 0) (b := 4096) (c := 8) (d := 8) (e := 8) (f := 4104) ⟨by omega, by omega⟩ (by decide) ej (by decide)
    have l8 : (8 : Int32).toInt = 8 := rfl
    refine lv_iinc (v := j) (lv' := [(4, .int j), (0, .ref b), (1, .ref x), (2, .ref (am 0)), (3, .ref ou)]) hx hb dL_law_1859 hl (k := 4) rfl (by rw [ej]; rfl) (by decide) rfl (fun ls hl => ?_)
    refine lv_goto (tgt := 23) hx hb dL_law_1862 (by decide) ?_
    exact nxt h8 cf ad E EM f H locs ls j (by omega) V hR (lv_sub hl [1, 2, 3, 4, 0] rfl)
  refine lv_iload hx hb dL_law_23 (lv_at hl 4 rfl) ?_
  refine lv_aload_n hx hb dL_law_25 rfl (lv_at hl 0 rfl) ?_
  refine va_slen hx hb hX hbl hbA V.hS dL_law_26 ?_
  refine lv_bipush (v := 8) hx hb dL_law_27 (by decide) ?_
  refine lv_isub hx hb dL_law_29 ?_
  refine lv_topi (fun y ey => ?_)
  have tL : (Int32.ofNat L).toInt = (L : Int) := nI_toInt (n := L) (by omega)
  obtain ⟨ty, iy⟩ := ti_sub (a := 0) (b := 4096) (c := 8) (d := 8) (e := -8) (f := 4096) ⟨by omega, by omega⟩ (by decide) ey (by decide)
  have l8 : (8 : Int32).toInt = 8 := rfl
  refine lv_icmp_gt (tgt := 1865) hx hb dL_law_30 (by decide) (fun c1 => ?_) (fun c1 => ?_)
  · refine lv_iconst (v := 1) hx hb dL_law_1865 (by decide) ?_
    refine va_forget (fun q hq => F.hAl _ (V.hS.2.2 q hq)) ?_
    refine W.widen (k := 601024) (n := 7293034) (by first | exact Nat.le_of_ble_eq_true rfl | omega) (by first | exact Nat.le_of_ble_eq_true rfl | omega) ?_
    exact lw_ret hx hb hr hlocks dL_law_1866
  · have h9 := ti_nlt c1
    have h8 : i.toInt + 8 ≤ (L : Int) := by omega
    have hi0 : 0 ≤ i.toInt := by omega
    have tl1 : (∀ (cf ad : Nat → Nat) (E EM : Nat → va_E) (f : Nat → Int64) (H : Heap) (locs : List Loc) (ls : Array Slot), INV s A ed dC dI cT cL x ou am cf ad E EM f H locs → REL15 cf E EM → lv_has ls 7 [(0, .ref b), (1, .ref x), (2, .ref (am 0)), (3, .ref ou), (4, .int i)] → W p l e room_1 s m #[Value.ref b] below meth c H locs ((1000 + 7 * k) + 7) ((100000 + 3300 * k) + 3300) (lw_Z below #[Value.ref b] s) (F0 m 1859 ls [])) := by
      have q1 : (1000 + 7 * k) + 7 = (1000 + 7 * (k + 1)) := by omega
      have q2 : (100000 + 3300 * k) + 3300 = (100000 + 3300 * (k + 1)) := by omega
      rw [q1, q2]
      exact tl h8
    refine lv_aload_n hx hb dL_law_33 rfl (lv_at hl 0 rfl) ?_
    refine lv_iload hx hb dL_law_34 (lv_at hl 4 rfl) ?_
    refine va_sld hx hb hX hbl hbA V.hS (law_in0 hi0 h8) dL_law_36 ?_
    refine lv_bipush (v := 63) hx hb dL_law_37 (by decide) ?_
    refine lv_iand hx hb dL_law_39 ?_
    refine lv_topi (fun v ev => ?_)
    rcases (show (v.toInt < 0 ∨ 37 < v.toInt) ∨ v.toInt = 0 ∨ v.toInt = 1 ∨ v.toInt = 2 ∨ v.toInt = 3 ∨ v.toInt = 4 ∨ v.toInt = 5 ∨ v.toInt = 6 ∨ v.toInt = 7 ∨ v.toInt = 8 ∨ v.toInt = 9 ∨ v.toInt = 10 ∨ v.toInt = 11 ∨ v.toInt = 12 ∨ v.toInt = 13 ∨ v.toInt = 14 ∨ v.toInt = 15 ∨ v.toInt = 16 ∨ v.toInt = 17 ∨ v.toInt = 18 ∨ v.toInt = 19 ∨ v.toInt = 20 ∨ v.toInt = 21 ∨ v.toInt = 22 ∨ v.toInt = 23 ∨ v.toInt = 24 ∨ v.toInt = 25 ∨ v.toInt = 26 ∨ v.toInt = 27 ∨ v.toInt = 28 ∨ v.toInt = 29 ∨ v.toInt = 30 ∨ v.toInt = 31 ∨ v.toInt = 32 ∨ v.toInt = 33 ∨ v.toInt = 34 ∨ v.toInt = 35 ∨ v.toInt = 36 ∨ v.toInt = 37 by omega) with cs | cs | cs | cs | cs | cs | cs | cs | cs | cs | cs | cs | cs | cs | cs | cs | cs | cs | cs | cs | cs | cs | cs | cs | cs | cs | cs | cs | cs | cs | cs | cs | cs | cs | cs | cs | cs | cs | cs
    · refine lv_tableOut (tgt := 1859) hx hb dL_law_40 cs (by decide) ?_
      refine W.widen (k := (1000 + 7 * (k + 1))) (n := (100000 + 3300 * (k + 1))) (by omega) (by omega) ?_
      exact tl h8 _ _ _ _ _ _ _ _ V hR hl
    · refine lv_tableIn (off := 168) (tgt := 208) hx hb dL_law_40 (by omega) (by omega) (by rw [cs]; rfl) (by decide) ?_
      exact law_case_0 l hL C0 F V hR hi0 h8 (by omega) (by omega) ls hl tl1
    · refine lv_tableIn (off := 193) (tgt := 233) hx hb dL_law_40 (by omega) (by omega) (by rw [cs]; rfl) (by decide) ?_
      exact law_case_1 l hL C0 F V hR hi0 h8 (by omega) (by omega) ls hl tl1
    · refine lv_tableIn (off := 206) (tgt := 246) hx hb dL_law_40 (by omega) (by omega) (by rw [cs]; rfl) (by decide) ?_
      exact law_case_2 l hL C0 F V hR hi0 h8 (by omega) (by omega) ls hl tl1
    · refine lv_tableIn (off := 279) (tgt := 319) hx hb dL_law_40 (by omega) (by omega) (by rw [cs]; rfl) (by decide) ?_
      exact law_case_3 l hL C0 F V hR hi0 h8 (by omega) (by omega) ls hl tl1
    · refine lv_tableIn (off := 328) (tgt := 368) hx hb dL_law_40 (by omega) (by omega) (by rw [cs]; rfl) (by decide) ?_
      exact law_case_4 l hL C0 F V hR hi0 h8 (by omega) (by omega) ls hl tl1
    · refine lv_tableIn (off := 401) (tgt := 441) hx hb dL_law_40 (by omega) (by omega) (by rw [cs]; rfl) (by decide) ?_
      exact law_case_5 l hL C0 F V hR hi0 h8 (by omega) (by omega) ls hl tl1
    · refine lv_tableIn (off := 426) (tgt := 466) hx hb dL_law_40 (by omega) (by omega) (by rw [cs]; rfl) (by decide) ?_
      exact law_case_6 l hL C0 F V hR hi0 h8 (by omega) (by omega) ls hl tl1
    · refine lv_tableIn (off := 439) (tgt := 479) hx hb dL_law_40 (by omega) (by omega) (by rw [cs]; rfl) (by decide) ?_
      exact law_case_7 l hL C0 F V hR hi0 h8 (by omega) (by omega) ls hl tl1
    · refine lv_tableIn (off := 464) (tgt := 504) hx hb dL_law_40 (by omega) (by omega) (by rw [cs]; rfl) (by decide) ?_
      exact law_case_8 l hL C0 F V hR hi0 h8 (by omega) (by omega) ls hl tl1
    · refine lv_tableIn (off := 501) (tgt := 541) hx hb dL_law_40 (by omega) (by omega) (by rw [cs]; rfl) (by decide) ?_
      exact law_case_9 l hL C0 F V hR hi0 h8 (by omega) (by omega) ls hl tl1
    · refine lv_tableIn (off := 550) (tgt := 590) hx hb dL_law_40 (by omega) (by omega) (by rw [cs]; rfl) (by decide) ?_
      exact law_case_10 l hL C0 F V hR hi0 h8 (by omega) (by omega) ls hl tl1
    · refine lv_tableIn (off := 637) (tgt := 677) hx hb dL_law_40 (by omega) (by omega) (by rw [cs]; rfl) (by decide) ?_
      exact law_case_11 l hL C0 F V hR hi0 h8 (by omega) (by omega) ls hl tl1
    · refine lv_tableIn (off := 674) (tgt := 714) hx hb dL_law_40 (by omega) (by omega) (by rw [cs]; rfl) (by decide) ?_
      exact law_case_12 l hL C0 F V hR hi0 h8 (by omega) (by omega) ls hl tl1
    · refine lv_tableIn (off := 711) (tgt := 751) hx hb dL_law_40 (by omega) (by omega) (by rw [cs]; rfl) (by decide) ?_
      exact law_case_13 l hL C0 F V hR hi0 h8 (by omega) (by omega) ls hl tl1
    · refine lv_tableIn (off := 772) (tgt := 812) hx hb dL_law_40 (by omega) (by omega) (by rw [cs]; rfl) (by decide) ?_
      exact law_case_14 l hL C0 F V hR hi0 h8 (by omega) (by omega) ls hl tl1
    · refine lv_tableIn (off := 821) (tgt := 861) hx hb dL_law_40 (by omega) (by omega) (by rw [cs]; rfl) (by decide) ?_
      exact law_case_15 l hL C0 F V hR hi0 h8 (by omega) (by omega) ls hl tl1
    · refine lv_tableIn (off := 870) (tgt := 910) hx hb dL_law_40 (by omega) (by omega) (by rw [cs]; rfl) (by decide) ?_
      exact law_case_16 l hL C0 F V hR hi0 h8 (by omega) (by omega) ls hl tl1
    · refine lv_tableIn (off := 919) (tgt := 959) hx hb dL_law_40 (by omega) (by omega) (by rw [cs]; rfl) (by decide) ?_
      exact law_case_17 l hL C0 F V hR hi0 h8 (by omega) (by omega) ls hl tl1
    · refine lv_tableIn (off := 956) (tgt := 996) hx hb dL_law_40 (by omega) (by omega) (by rw [cs]; rfl) (by decide) ?_
      exact law_case_18 l hL C0 F V hR hi0 h8 (by omega) (by omega) ls hl tl1
    · refine lv_tableIn (off := 1005) (tgt := 1045) hx hb dL_law_40 (by omega) (by omega) (by rw [cs]; rfl) (by decide) ?_
      exact law_case_19 l hL C0 F V hR hi0 h8 (by omega) (by omega) ls hl tl1
    · refine lv_tableIn (off := 1054) (tgt := 1094) hx hb dL_law_40 (by omega) (by omega) (by rw [cs]; rfl) (by decide) ?_
      exact law_case_20 l hL C0 F V hR hi0 h8 (by omega) (by omega) ls hl tl1
    · refine lv_tableIn (off := 1091) (tgt := 1131) hx hb dL_law_40 (by omega) (by omega) (by rw [cs]; rfl) (by decide) ?_
      exact law_case_21 l hL C0 F V hR hi0 h8 (by omega) (by omega) ls hl tl1
    · refine lv_tableIn (off := 1128) (tgt := 1168) hx hb dL_law_40 (by omega) (by omega) (by rw [cs]; rfl) (by decide) ?_
      exact law_case_22 l hL C0 F V hR hi0 h8 (by omega) (by omega) ls hl tl1
    · refine lv_tableIn (off := 1229) (tgt := 1269) hx hb dL_law_40 (by omega) (by omega) (by rw [cs]; rfl) (by decide) ?_
      exact law_case_23 l hL C0 F V hR hi0 h8 (by omega) (by omega) ls hl tl1
    · refine lv_tableIn (off := 1290) (tgt := 1330) hx hb dL_law_40 (by omega) (by omega) (by rw [cs]; rfl) (by decide) ?_
      exact law_case_24 l hL C0 F V hR hi0 h8 (by omega) (by omega) ls hl tl1
    · refine lv_tableIn (off := 1339) (tgt := 1379) hx hb dL_law_40 (by omega) (by omega) (by rw [cs]; rfl) (by decide) ?_
      exact law_case_25 l hL C0 F V hR hi0 h8 (by omega) (by omega) ls hl tl1
    · refine lv_tableIn (off := 1388) (tgt := 1428) hx hb dL_law_40 (by omega) (by omega) (by rw [cs]; rfl) (by decide) ?_
      exact law_case_26 l hL C0 F V hR hi0 h8 (by omega) (by omega) ls hl tl1
    · refine lv_tableIn (off := 1413) (tgt := 1453) hx hb dL_law_40 (by omega) (by omega) (by rw [cs]; rfl) (by decide) ?_
      exact law_case_27 l hL C0 F V hR hi0 h8 (by omega) (by omega) ls hl tl1
    · refine lv_tableIn (off := 1438) (tgt := 1478) hx hb dL_law_40 (by omega) (by omega) (by rw [cs]; rfl) (by decide) ?_
      exact law_case_28 l hL C0 F V hR hi0 h8 (by omega) (by omega) ls hl tl1
    · refine lv_tableIn (off := 1463) (tgt := 1503) hx hb dL_law_40 (by omega) (by omega) (by rw [cs]; rfl) (by decide) ?_
      exact law_case_29 l hL C0 F V hR hi0 h8 (by omega) (by omega) ls hl tl1
    · refine lv_tableIn (off := 1500) (tgt := 1540) hx hb dL_law_40 (by omega) (by omega) (by rw [cs]; rfl) (by decide) ?_
      exact law_case_30 l hL C0 F V hR hi0 h8 (by omega) (by omega) ls hl tl1
    · refine lv_tableIn (off := 1537) (tgt := 1577) hx hb dL_law_40 (by omega) (by omega) (by rw [cs]; rfl) (by decide) ?_
      exact law_case_31 l hL C0 F V hR hi0 h8 (by omega) (by omega) ls hl tl1
    · refine lv_tableIn (off := 1562) (tgt := 1602) hx hb dL_law_40 (by omega) (by omega) (by rw [cs]; rfl) (by decide) ?_
      exact law_case_32 l hL C0 F V hR hi0 h8 (by omega) (by omega) ls hl tl1
    · refine lv_tableIn (off := 1599) (tgt := 1639) hx hb dL_law_40 (by omega) (by omega) (by rw [cs]; rfl) (by decide) ?_
      exact law_case_33 l hL C0 F V hR hi0 h8 (by omega) (by omega) ls hl tl1
    · refine lv_tableIn (off := 1660) (tgt := 1700) hx hb dL_law_40 (by omega) (by omega) (by rw [cs]; rfl) (by decide) ?_
      exact law_case_34 l hL C0 F V hR hi0 h8 (by omega) (by omega) ls hl tl1
    · refine lv_tableIn (off := 1685) (tgt := 1725) hx hb dL_law_40 (by omega) (by omega) (by rw [cs]; rfl) (by decide) ?_
      exact law_case_35 l hL C0 F V hR hi0 h8 (by omega) (by omega) ls hl tl1
    · refine lv_tableIn (off := 1754) (tgt := 1794) hx hb dL_law_40 (by omega) (by omega) (by rw [cs]; rfl) (by decide) ?_
      exact law_case_36 l hL C0 F V hR hi0 h8 (by omega) (by omega) ls hl tl1
    · refine lv_tableIn (off := 1794) (tgt := 1834) hx hb dL_law_40 (by omega) (by omega) (by rw [cs]; rfl) (by decide) ?_
      exact law_case_37 l hL C0 F V hR hi0 h8 (by omega) (by omega) ls hl tl1
theorem law_loop {p : Program} {e : Env} {s : State} {m : MethodId} {below : List Frame} {meth : Method} {c : Code} (l : Launch) {b L : Nat} {xs : Nat → Int32} (hL : L ≤ 4096) (C0 : lw_At p s m meth c b L xs) {A : Nat → Prop} {ed : Nat} {dC : Nat → ClassId} {dI : Nat → Nat → Nat} {cT : Nat → ClassId} {cL : ClassId} (F : FX l s A ed dC dI cT cL) {x ou : Nat} {am : Nat → Nat} (n : Nat) : ∀ (k : Nat) (i : Int32) (cf ad : Nat → Nat) (E EM : Nat → va_E) (f : Nat → Int64) (H : Heap) (locs : List Loc) (ls : Array Slot), k + n = 512 → i.toInt = 8 * (k : Int) → INV s A ed dC dI cT cL x ou am cf ad E EM f H locs → REL15 cf E EM → lv_has ls 7 [(0, .ref b), (1, .ref x), (2, .ref (am 0)), (3, .ref ou), (4, .int i)] → W p l e room_1 s m #[Value.ref b] below meth c H locs (1000 + 7 * k) (100000 + 3300 * k) (lw_Z below #[Value.ref b] s) (F0 m 23 ls []) := by
  induction n with
  | zero => exact fun k i cf ad E EM f H locs ls h1 h2 V hR hl => law_step l hL C0 F V hR h2 (by omega) ls hl (fun h8 => by exfalso; omega)
  | succ n ih => exact fun k i cf ad E EM f H locs ls h1 h2 V hR hl => law_step l hL C0 F V hR h2 (by omega) ls hl (fun h8 cf ad E EM f H locs ls j hj V hR hl => ih (k + 1) j cf ad E EM f H locs ls (by omega) hj V hR hl)
set_option maxHeartbeats 4000000 in
set_option maxRecDepth 100000 in
theorem whole_start {p : Program} {e : Env} {s : State} {m : MethodId} {below : List Frame} {meth : Method} {c : Code} (l : Launch) (hflags : l.flags = flags0) {b L : Nat} {xs : Nat → Int32} (hL : L ≤ 4096) (C0 : lw_At p s m meth c b L xs) : W p l e room_1 s m #[Value.ref b] below meth c s.heap [] 0 0 (lw_Z below #[Value.ref b] s) (entryFrame m ([Value.ref b] : List Value).toArray 7) := by
  obtain ⟨hx, hb, hr, hml, hown, hts0, hX, hbl, hlocks, hgv⟩ := id C0
  have hts := fun w (h : w ∈ v_law) => hts0 w (v_law_in w h)
  obtain ⟨A, hAe⟩ : ∃ A : Nat → Prop, A = fun q => s.heap.size ≤ q := ⟨_, rfl⟩
  have hA : ∀ q : Nat, s.heap.size ≤ q → A q := fun q h9 => by rw [hAe]; exact h9
  have hAl : ∀ q : Nat, A q → s.heap.size ≤ q := fun q h9 => by rw [hAe] at h9; exact h9
  have hnA : ∀ q : Nat, q < s.heap.size → ¬ A q := fun q h9 h => absurd (hAl q h) (Nat.not_le.mpr h9)
  obtain ⟨hfl, ed, hN, hZ, hSL, hEC, hEV, hEX, hCl, dC, dI, cO, hK⟩ := law_env l hflags C0 hnA
  have hS : va_S A s.heap s.heap [] := va_S.rf
  have hP : va_P (dC, dI) vwCl [] s.heap := ub_P0
  have hD : va_D A [] := ub_D0
  have hl := lv_entry ([.ref b]) (n := 7) (Nat.le_of_ble_eq_true rfl)
  rw [lg_entry_eq]
  generalize (lg_sl ([.ref b]) ++ List.replicate (7 - (lg_sl ([.ref b])).length) Slot.unset).toArray = ls at hl ⊢
  have hl : lv_has ls 7 [(0, .ref b)] := hl
  refine va_new (ci := 13) (fs := [.null, .null, .null, .null, .null, .null]) (C := RX12) (T := TX12) (N := 6) hx hb hts (fun w h => vl_A w (in_X12 w h)) tyX12 tyX12_ok hown (hts _ (al_5 _ (zs16 (zs4 (zs4 (zs1 (zs1 (zs0)))))))) (hts _ (al_5 _ (zs16 (zs4 (zs4 (zs1 (zs1 (zs1 (zs0))))))))) (hts _ (vl_A _ (in_4 _ (zs16 (zs4 (zs1 (zs1 (zs1 (zs0))))))))) hK hP hD hS hA rfl (fun j hj => by rcases (show j = 0 ∨ j = 1 ∨ j = 2 ∨ j = 3 ∨ j = 4 ∨ j = 5 by omega) with rfl | rfl | rfl | rfl | rfl | rfl <;> rfl) (Nat.le_of_ble_eq_true rfl) (Nat.le_of_ble_eq_true rfl) dL_law_0 (fun q1 H hP hD hS => ?_)
  have hP : va_P (dC, dI) vwCl (([(q1, .inr (13, [.null, .null, .null, .null, .null, .null]))] : va_W) ++ ([] : va_W)) H := hP
  have hD : va_D A (([(q1, .inr (13, [.null, .null, .null, .null, .null, .null]))] : va_W) ++ ([] : va_W)) := hD
  refine W.widen (k := 1) (n := 6) (by first | exact Nat.le_of_ble_eq_true rfl | omega) (by first | exact Nat.le_of_ble_eq_true rfl | omega) ?_
  refine lv_dup hx hb dL_law_3 rfl ?_
  have hKc := hK.sub (tys' := []) [] rfl
  refine va_callv (va_runI (As := []) (rest := [.ref q1]) ⟨hx, hb, hml, hown, hts⟩ (x_UB l dC dI q1 ed H.size) (cwI 0 hts (gl_0 (vl_A _ (in_18 _ (zs16 (zs4 (zs1 (zs1 (zs0)))))))) rfl rfl rfl (hts _ (vl_A _ (in_4 _ (zs16 (zs4 (zs1 (zs1 (zs1 (zs0))))))))) (hts _ (al_5 _ (zs16 (zs4 (zs4 (zs4 (zs0))))))) (hts _ (al_5 _ (zs16 (zs4 (zs4 (zs4 (zs1 (zs0)))))))) rfl hz_yX12_init_0 ⟨Nat.le_of_ble_eq_true rfl, Nat.le_of_ble_eq_true rfl⟩) ⟨fun a U g mk q => ⟨q.1, q.2.1, q.2.2.1, va_K.moved (u := U) (U := U.calling g mk a) (Vm.Alike.refl U.vm) q.2.2.2.1, q.2.2.2.2.1, ub_NX_c q.2.2.2.2.2.1, ub_Z_c q.2.2.2.2.2.2.1, ub_L_c q.2.2.2.2.2.2.2⟩, fun U hU hW => ⟨rfl, by rw [hU], by rw [hU]; exact va_P_sub hP (fun x hx => List.mem_append_left _ hx), va_K.moved hW.alike hKc, (va_D_left hD).weaken (fun _ _ _ _ => trivial), ub_NX_w hW hN, ub_Z_w hU hW hS (free_of hD hS hA) hZ, ub_L_w hU hW hS (free_of hD hS hA) hSL⟩⟩ rfl rfl hl.1 rfl (lv_room (Nat.le_of_ble_eq_true rfl)) dL_law_4 ⟨Nat.le_of_ble_eq_true rfl, Nat.le_of_ble_eq_true rfl⟩) hS (fun z _ h => free_of hD hS hA z h) (free_of hD hS hA) (fun u3 t H1 locs ht hvm hw hB hz1 hk1 hS1 => ?_)
  obtain ⟨p1, p7, p8, p9, p10, p11, p12, p19, p20, p2, p21, p22, p23, p24, p25, p3, p26, p27, p28, p29, p30, p4, p31, p32, p33, p34, p35, p36, p37, p5, p38, p39, p40, p41, p42, p6, p43, p44, p45, p46, p47, p48, p49, p50, p51, p52, p53, p54, p55, p56, cI, cZ⟩ := u3
  obtain ⟨hP1, hK1, hD1⟩ := hB
  rw [ht] at hP1
  obtain ⟨ad, E, hw0, had, hn0, hb0, hr0, hl0, ht0, hIX⟩ := fresh_CW cI cZ ed q1 p1 p7 p8 p9 p10 p11 p12 p19 p20 p2 p21 p22 p23 p24 p25 p3 p26 p27 p28 p29 p30 p4 p31 p32 p33 p34 p35 p36 p37 p5 p38 p39 p40 p41 p42 p6 p43 p44 p45 p46 p47 p48 p49 p50 p51 p52 p53 p54 p55 p56
  rw [hw0] at hP1 hD1
  obtain ⟨hP, hD⟩ := gen_join hP hD hk1 (free_of hD hS hA) hP1 hD1
  have hS := hS1
  have hK1 := va_K.moved hvm.symm hK1
  have hK := hK.app hK1
  have hK : va_K (dC, dI) vwCl [(cO, .object "java/lang/Object"), (cI, .int), (cZ, .boolean)] s := hK
  generalize H1 = H at hP hS ⊢
  rw [List.append_nil] at hP hD
  refine W.widen (k := 51) (n := 3946) (by first | exact Nat.le_of_ble_eq_true rfl | omega) (by first | exact Nat.le_of_ble_eq_true rfl | omega) ?_
  refine lv_astore_n (lv' := [(1, .ref q1), (0, .ref b)]) hx hb dL_law_7 rfl hl (by decide) rfl (fun ls hl => ?_)
  refine va_new (ci := 14) (fs := mL (fun j => defaultValue (tyX13 j))) (C := RX13) (T := TX13) (N := 97) hx hb hts (fun w h => vl_A w (in_X13 w h)) tyX13 tyX13_ok hown (hts _ (al_5 _ (zs16 (zs4 (zs4 (zs4 (zs1 (zs1 (zs0))))))))) (hts _ (al_5 _ (zs16 (zs4 (zs4 (zs4 (zs1 (zs1 (zs1 (zs0)))))))))) (hts _ (vl_A _ (in_24 _ (zs4 (zs4 (zs4 (zs1 (zs1 (zs1 (zs0)))))))))) hK hP hD hS hA rfl (fun j hj => mL_default _ _ hj) (Nat.le_of_ble_eq_true rfl) (Nat.le_of_ble_eq_true rfl) dL_law_8 (fun q2 H hP hD hS => ?_)
  have hP : va_P (dC, dI) vwCl ([(q2, .inr (14, mL (fun j => defaultValue (tyX13 j))))] ++ WL ixs0 ad E) H := va_P_perm hP List.perm_append_comm
  have hD : va_D A ([(q2, .inr (14, mL (fun j => defaultValue (tyX13 j))))] ++ WL ixs0 ad E) := va_D_perm hD List.perm_append_comm
  refine W.widen (k := 52) (n := 4043) (by first | exact Nat.le_of_ble_eq_true rfl | omega) (by first | exact Nat.le_of_ble_eq_true rfl | omega) ?_
  refine lv_dup hx hb dL_law_11 rfl ?_
  have hKc := hK.sub (tys' := []) [] rfl
  refine va_callv (va_runI (As := []) (rest := [.ref q2]) ⟨hx, hb, hml, hown, hts⟩ (x_MI l dC dI q2 H.size) (cwI 0 hts (gl_0 (vl_A _ (in_32 _ (zs4 (zs0))))) rfl rfl rfl (hts _ (vl_A _ (in_24 _ (zs4 (zs4 (zs4 (zs1 (zs1 (zs1 (zs0)))))))))) (hts _ (al_5 _ (zs16 (zs16 (zs0))))) (hts _ (al_5 _ (zs16 (zs16 (zs1 (zs0)))))) rfl hz_yX13_init_0 ⟨Nat.le_of_ble_eq_true rfl, Nat.le_of_ble_eq_true rfl⟩) ⟨fun a U g mk q => ⟨q.1, q.2.1, q.2.2.1, va_K.moved (u := U) (U := U.calling g mk a) (Vm.Alike.refl U.vm) q.2.2.2.1, q.2.2.2.2⟩, fun U hU hW => ⟨rfl, by rw [hU], by rw [hU]; exact va_P_sub hP (fun x hx => List.mem_append_left _ hx), va_K.moved hW.alike hKc, (va_D_left hD).weaken (fun _ _ _ _ => trivial)⟩⟩ rfl rfl hl.1 rfl (lv_room (Nat.le_of_ble_eq_true rfl)) dL_law_12 ⟨Nat.le_of_ble_eq_true rfl, Nat.le_of_ble_eq_true rfl⟩) hS (fun z _ h => free_of hD hS hA z h) (free_of hD hS hA) (fun u4 t H1 locs ht hvm hw hB hz1 hk1 hS1 => ?_)
  obtain ⟨fm, pm, cI2, cB, cZ2⟩ := u4
  obtain ⟨hP1, hK1, hD1⟩ := hB
  rw [ht] at hP1
  have hK1 := va_K.moved hvm.symm hK1
  have hK := hK.app hK1
  obtain rfl : cI = cI2 := ub_sa_int hK 1 3 rfl rfl
  obtain rfl : cZ = cZ2 := ub_sa_boolean hK 2 5 rfl rfl
  obtain ⟨am, EM, hw1, ham, hn1, hb1, hz9, hz46, hz47, hz74, hz75, hz48, hz16, hz17, h54, h55, h7, hDI, hIM⟩ := fresh_MW cI cB cZ fm q2 (pm 1) (pm 2) (pm 3) (pm 4) (pm 5) (pm 6) (pm 7) (pm 8) (pm 9) (pm 10) (pm 11) (pm 12) (pm 13) (pm 14) (pm 15) (pm 16) (pm 17) (pm 18) (pm 19) (pm 20) (pm 21) (pm 22) (pm 23) (pm 24) (pm 25) (pm 26) (pm 27) (pm 28) (pm 29) (pm 30) (pm 31) (pm 32) (pm 33) (pm 34) (pm 35) (pm 36) (pm 37) (pm 38) (pm 39) (pm 40) (pm 41) (pm 42) (pm 43) (pm 44) (pm 45) (pm 46) (pm 47) (pm 48) (pm 49) (pm 50) (pm 51) (pm 52) (pm 53) (pm 54) (pm 55) (pm 56) (pm 57) (pm 58) (pm 59) (pm 60) (pm 61) (pm 62) (pm 63) (pm 64) (pm 65) (pm 66) (pm 67) (pm 68) (pm 69) (pm 70) (pm 71) hw
  replace hP1 : va_P (dC, dI) vwCl (WX 72 am EM) H1 := by rw [← hw1]; exact hP1
  replace hD1 : va_D (va_A [(q2, .inr (14, mL (fun j => defaultValue (tyX13 j))))] H.size) (WX 72 am EM) := by rw [← hw1]; exact hD1
  obtain ⟨hP, hD⟩ := gen_join hP hD hk1 (free_of hD hS hA) hP1 hD1
  have hS := hS1
  generalize H1 = H at hP hS ⊢
  have hK := hK.sub (tys' := [(cI, .int), (cB, .byte), (cZ, .boolean), (cO, .object "java/lang/Object")]) [1, 4, 2, 0] rfl
  refine W.widen (k := 123) (n := 14555) (by first | exact Nat.le_of_ble_eq_true rfl | omega) (by first | exact Nat.le_of_ble_eq_true rfl | omega) ?_
  refine lv_astore_n (lv' := [(2, .ref q2), (1, .ref q1), (0, .ref b)]) hx hb dL_law_15 rfl hl (by decide) rfl (fun ls hl => ?_)
  refine lv_iconst (v := 1) hx hb dL_law_16 (by decide) ?_
  refine va_newa (atype := .long) (ty := .long) (N' := 1) (a0 := (1, .inr (.inl (fun _ => (0 : Int64))))) hx hb (hts _ (al_5 _ (zs16 (zs16 (zs1 (zs1 (zs0))))))) rfl hK hP hD hS hA (fun _ => rfl) (by decide) (by decide) (Nat.le_of_ble_eq_true rfl) (Nat.le_of_ble_eq_true rfl) (Nat.le_of_ble_eq_true rfl) dL_law_17 (fun ou cL H hK hP hD hS => ?_)
  have hK := hK.sub (tys' := [(cL, .long), (cI, .int), (cB, .byte), (cZ, .boolean), (cO, .object "java/lang/Object")]) [4, 0, 1, 2, 3] rfl
  refine W.widen (k := 124) (n := 14556) (by first | exact Nat.le_of_ble_eq_true rfl | omega) (by first | exact Nat.le_of_ble_eq_true rfl | omega) ?_
  refine lv_astore_n (lv' := [(3, .ref ou), (2, .ref q2), (1, .ref q1), (0, .ref b)]) hx hb dL_law_19 rfl hl (by decide) rfl (fun ls hl => ?_)
  refine lv_iconst (v := 0) hx hb dL_law_20 (by decide) ?_
  refine lv_istore (lv' := [(4, .int 0), (3, .ref ou), (2, .ref q2), (1, .ref q1), (0, .ref b)]) hx hb dL_law_21 hl (by decide) rfl (fun ls hl => ?_)
  refine W.widen (k := 1000 + 7 * 0) (n := 100000 + 3300 * 0) (by omega) (by omega) ?_
  obtain ⟨cT, h0, h1, h2, h3⟩ : ∃ cT : Nat → ClassId, cT 0 = cI ∧ cT 1 = cB ∧ cT 2 = cZ ∧ cT 3 = cO := ⟨fun k => [cI, cB, cZ, cO].getD k cO, rfl, rfl, rfl, rfl⟩
  have hI := hIX cT h0 h2
  have hM := hIM cT h0 h1 h2
  have hKT : va_K (dC, dI) vwCl ((cL, .long) :: TYC cT) s := by unfold TYC; rw [h0, h1, h2, h3]; exact hK
  have F : FX l s A ed dC dI cT cL := ⟨hfl, hA, hnA, hAl, hKT, hEC, hEV, hEX, hCl⟩
  have hpp : ((WX 72 am EM ++ WL ixs0 ad E) ++ [(ou, (.inl (cL, 1, .inr (.inl (fun _ => (0 : Int64)))) : va_E))]).Perm (WWd ou cL (cf0 ed) ad am E EM (fun _ => (0 : Int64))) := by
    unfold WWd
    refine (List.Perm.append_right _ List.perm_append_comm).trans ?_
    rw [List.append_assoc]
    exact List.Perm.append_right _ (WL_perm (LC0 ed))
  have V : INV s A ed dC dI cT cL (ad 0) ou am (cf0 ed) ad E EM (fun _ => (0 : Int64)) H locs := ⟨rfl, CF0 ed, hI, hM, hDI, va_P_perm hP hpp.symm, va_D_perm hD hpp.symm, hS, rfl⟩
  have hl : lv_has ls 7 [(0, .ref b), (1, .ref (ad 0)), (2, .ref (am 0)), (3, .ref ou), (4, .int 0)] := by rw [had, ham]; exact lv_sub hl [4, 3, 2, 1, 0] rfl
  exact law_loop l hL C0 F 512 0 0 (cf0 ed) ad E EM (fun _ => (0 : Int64)) H locs ls (by omega) (by decide) V ⟨⟨⟨⟨⟨⟨hn0.trans hn1.symm, hb0.trans hb1.symm, hr0.trans hz48.symm, ⟨by rw [hz9, cf0_z (by decide)]; rfl, by rw [hz46, cf0_z (by decide)]; rfl, by rw [hz47, cf0_z (by decide)]; rfl, by rw [hz74, cf0_z (by decide)]; rfl, by rw [hz75, cf0_z (by decide)]; rfl⟩, fun _ _ hi _ => absurd hi (by rw [cf0_z (by decide)]; exact Nat.not_lt_zero _), fun _ _ _ hi => absurd hi (by rw [cf0_z (by decide)]; exact Nat.not_lt_zero _), fun _ _ _ hi => absurd hi (by rw [cf0_z (by decide)]; exact Nat.not_lt_zero _), fun _ _ _ hi => absurd hi (by rw [cf0_z (by decide)]; exact Nat.not_lt_zero _), fun _ _ _ hi => absurd hi (by rw [cf0_z (by decide)]; exact Nat.not_lt_zero _), fun _ _ _ hi => absurd hi (by rw [cf0_z (by decide)]; exact Nat.not_lt_zero _), fun _ _ hi _ => absurd hi (by rw [cf0_z (by decide)]; exact Nat.not_lt_zero _), fun _ _ hi _ => absurd hi (by rw [cf0_z (by decide)]; exact Nat.not_lt_zero _), fun _ _ hi _ => absurd hi (by rw [cf0_z (by decide)]; exact Nat.not_lt_zero _), fun _ hi => absurd hi (by rw [cf0_z (by decide)]; exact Nat.not_lt_zero _), fun _ hi => absurd hi (by rw [cf0_z (by decide)]; exact Nat.not_lt_zero _), fun _ _ _ hi => absurd hi (by rw [cf0_z (by decide)]; exact Nat.not_lt_zero _), fun _ _ _ hi => absurd hi (by rw [cf0_z (by decide)]; exact Nat.not_lt_zero _), fun _ _ _ hi => absurd hi (by rw [cf0_z (by decide)]; exact Nat.not_lt_zero _), fun _ _ _ hi => absurd hi (by rw [cf0_z (by decide)]; exact Nat.not_lt_zero _), fun _ _ _ hi => absurd hi (by rw [cf0_z (by decide)]; exact Nat.not_lt_zero _), fun _ _ _ hi => absurd hi (by rw [cf0_z (by decide)]; exact Nat.not_lt_zero _), fun _ _ _ hi => absurd hi (by rw [cf0_z (by decide)]; exact Nat.not_lt_zero _), fun _ _ _ hi => absurd hi (by rw [cf0_z (by decide)]; exact Nat.not_lt_zero _), fun _ _ _ hi => absurd hi (by rw [cf0_z (by decide)]; exact Nat.not_lt_zero _), fun _ hi => absurd hi (by rw [cf0_z (by decide)]; exact Nat.not_lt_zero _), fun p _ _ => ⟨by rw [h54]; rfl, by rw [h55]; rfl⟩, fun k hk => by exfalso; rw [hz48] at hk; have l0 : (0 : Int32).toInt = 0 := rfl; omega⟩, ⟨by show (xi (E 2) 1).toNatClampNeg = (xi (EM 0) 16).toNatClampNeg; rw [hl0, hz16], funext (fun j => by show (xi (E 21) j).toInt = (xi (EM 7) j).toInt % 256; rw [ht0, h7]; rfl), by rw [hz17, cf0_z (by decide)]; rfl, fun i hi => absurd hi (by rw [cf0_z (by decide)]; exact Nat.not_lt_zero _)⟩⟩, ⟨fun i hi => absurd hi (by rw [cf0_z (by decide)]; exact Nat.not_lt_zero _), fun i hi => absurd hi (by rw [cf0_z (by decide)]; exact Nat.not_lt_zero _)⟩⟩, fun i hi => absurd hi (by rw [cf0_z (by decide)]; exact Nat.not_lt_zero _)⟩, fun i hi => absurd hi (by rw [cf0_z (by decide)]; exact Nat.not_lt_zero _)⟩, fun i hi => absurd hi (by rw [cf0_z (by decide)]; exact Nat.not_lt_zero _)⟩ hl
set_option maxHeartbeats 4000000 in
theorem lw_walk (l : Launch) (hflags : l.flags = flags0) (b : Addr) (xs : List Int32) : MetFree l x (headSpec (Jvm.Cond.code x code maxLocals ret :: tables_1) room_1) (lw_P b xs) (fun _ _ _ _ _ => True) lw_Q := by
  refine MetFree.of_bodyS (code := code) (maxLocals := maxLocals) (ret := ret) (by decide) ?_ ?_
  · intro args s m h hn
    obtain ⟨meth, c, h1, h2, h3, h4, h5, h6, -, -⟩ := Cond.code_spec hn (atoms_spec (ws := Jvm.Cond.code x code maxLocals ret :: tables_1) h _ List.mem_cons_self)
    exact ⟨meth, c, h1, h2, h3, h4, h5, h6⟩
  · intro p e s m args below meth c s₁ B hml0 hP _
    obtain ⟨rfl, hx, hbd, hgv⟩ := hP
    obtain ⟨scr, harrAt, hlist, hof, hsmall⟩ := hx
    obtain ⟨hcb, hkn, -, -⟩ := State.arrayAt?_spec harrAt
    have hown : s.vm.findClass R_law = some m.cls := findClass_of_methodNamed B.named
    have hts0 : ∀ c ∈ (Jvm.Cond.code x code maxLocals ret :: tables_1), c.before #[Value.ref b] s = true := atoms_spec (ws := Jvm.Cond.code x code maxLocals ret :: tables_1) B.pre
    have hts : ∀ w ∈ lw_tbl, w.before #[Value.ref b] s = true := k2_hts_sels lw_privs (fun w hw => hts0 w (List.mem_cons_of_mem _ hw)) lw_privs_ok
    have hml : c.maxLocals = 7 := B.maxLocals_eq (hts0 _ List.mem_cons_self)
    have X₀ : Stand p l e room_1 s m #[Value.ref b] below meth c s₁ [] 0 0 := Stand.of_body B
    have hh0 : s₁.heap = s.heap := by rw [B.state]; rfl
    have hsz : scr.slots.size = xs.length := by rw [← Array.length_toList, hlist, List.length_map]
    have hval : ∀ j : Nat, j < xs.length → scr.slots[j]? = some (.int (xs.getD j 0)) := fun j hj => by
      rw [← Array.getElem?_toList, hlist]
      simp [hj]
    have hbl : b < s.heap.size := (Array.getElem?_eq_some_iff.mp hcb).1
    have hX : va_X b xs.length (fun j => xs.getD j 0) s s.heap := ⟨scr, hcb, hof, hkn, hsz, hval⟩
    have K : W p l e room_1 s m #[Value.ref b] below meth c s₁.heap [] 0 0 (lw_Z below #[Value.ref b] s) (entryFrame m ([Value.ref b] : List Value).toArray 7) := by
      rw [hh0]
      exact whole_start l hflags hbd ⟨B.exec, B.bytes, B.returns, hml, hown, hts, hX, hbl, B.notSynchronized, hgv⟩
    obtain ⟨t, a1, o, b1, b2, b3⟩ := K s₁ rfl X₀
    exact ⟨t, o, a1, b1, b2, b3⟩
theorem lw_pre_spec {args : Array Value} {s : State} (h : (Jvm.Cond.and given_1 narrow_1).before args s = true) (hr : rest_1_c.before args s = true) : ∃ (b : Addr) (xs : List Int32), lw_P b xs args s := by
  have hs := flat_of_before _ h
  have hq := flat_of_before _ hr
  have hc : (Cond.count 1).before args s = true := hs _ (by decide +kernel)
  have harr : (Cond.arrayOf (.arg 0) .int).before args s = true := hs _ (by decide +kernel)
  have hle : (Cond.le (.length (.arg 0)) (.int 4096)).before args s = true := hs _ (by decide +kernel)
  have hlen : (Cond.isInt (.length (.arg 0))).before args s = true := hq _ (by decide +kernel)
  have hall : (Cond.all (.arg 0) (.isInt (.elem (.arg 0) (.index 0)))).before args s = true := hq _ (by decide +kernel)
  obtain ⟨b, xs, hb, hx⟩ := State.ints_of_pre rfl harr hlen hall
  have hsm : xs.length < 2 ^ 31 := hx.choose_spec.2.2.2
  have hev : (Term.length (.arg 0)).eval args s none [] s = some (.int xs.length.toInt32) := hx.length_eval hb
  have hv := Cond.le_ints hev (show (Term.int 4096).eval args s none [] s = some (.int 4096) from rfl)
  have hd : xs.length.toInt32 ≤ 4096 := by
    simpa [Cond.before, Cond.holds, hv] using hle
  have hN : xs.length ≤ 4096 := (Int32.ofNat_le_ofNat hsm (by decide)).mp (show Int32.ofNat xs.length ≤ Int32.ofNat 4096 from hd)
  exact ⟨b, xs, Cond.one_arg hc (show args[0]? = some (.ref b) from hb), hx, hN, h⟩
theorem lw_comes (l : Launch) (hflags : l.flags = flags0) : Comes l x (Jvm.Cond.code x code maxLocals ret :: tables_1) room_1 (fun tb e args s => Calls_1 tb e args s ∧ rest_1 tb e args s ∧ Pre_1 tb e args s)
    (fun _ _ args s o t => lw_Q args s o t) := by
  intro p e ha hc hk s m args below hf hfit hheap happ hpre
  obtain ⟨b, xs, hP⟩ := lw_pre_spec hpre.2.2 hpre.2.1
  obtain ⟨k, o, h1, h2, h3, hQ⟩ := lw_walk l hflags b xs p e ha hc hk s m args below hf ((Spec.applies_iff_loose hf).mp happ).1 hP trivial
  exact ⟨k, o, h1, h2, h3, hQ⟩
theorem lw_frame {s t : State} {o : Outcome} {args : Array Value} (h : Framed s o t [] 601024 7293034) :
    Framed s o t (fieldLocs frame_1_writes args s ++ arrayLocs frame_1_arrays args s ++ staticLocs frame_1_statics s) 601024 7293034 := h
theorem lw_limb (L : Cond) (hL : ∀ (args : Array Value) (s t : State), L.after args s (.returned (some (.int 1))) t = true) :
    ArmFor flags0 classFile x code maxLocals ret World_1 tables_1 room_1 Calls_1 rest_1 Pre_1
      (fun tb e a s o t => postC L tb e a s o t ∧ Framed s o t (fieldLocs frame_1_writes a s ++ arrayLocs frame_1_arrays a s ++ staticLocs frame_1_statics s) 601024 7293034) := by
  intro l hflags _ _ p e ha hc hk s m args below hf hfit hheap happ hpre
  obtain ⟨k, o, h1, h2, h3, rfl, hF⟩ := lw_comes l hflags p e ha hc hk s m args below hf hfit hheap happ hpre
  exact ⟨k, _, h1, h2, h3, hL args s _, lw_frame hF⟩
theorem i_vc : Claimed_1_1 ∧ Claimed_1_2 := ⟨lw_limb limb_1_1 (fun args s t => by simp [limb_1_1, Cond.after, Cond.holds, Cond.value]), lw_limb limb_1_2 (fun args s t => Cond.after_iff.mpr (by
  first | (rw [show limb_1_2 = Cond.eq .result (.int 1) from rfl, Cond.eq_ints (x := 1) (y := 1) rfl rfl]; simp; done) | (simp [limb_1_2, Cond.value, Term.eval]; done)))⟩

