set_option maxRecDepth 100000 in
theorem zh_dX12_told_0_0 : zc cX12_told 0 [42, 180, 0, 10, 27, 182, 0, 135, 154, 0, 14, 187, 1, 36, 89, 19] = true := by decide +kernel
set_option maxRecDepth 100000 in
theorem zh_dX12_told_15_16 : zc cX12_told 16 [1, 38, 183, 1, 40, 191, 42, 180, 0, 10, 180, 0, 127, 27, 182, 0] = true := by decide +kernel
set_option maxRecDepth 100000 in
theorem zh_dX12_told_30_32 : zc cX12_told 32 [138, 192, 0, 130, 78, 28, 170, 0, 0, 0, 0, 109, 0, 0, 0, 0] = true := by decide +kernel
set_option maxRecDepth 100000 in
theorem zh_dX12_told_88_80 : zc cX12_told 80 [0, 0, 0, 92, 0, 0, 0, 104, 45, 180, 1, 43, 172, 45, 180, 1] = true := by decide +kernel
set_option maxRecDepth 100000 in
theorem zh_dX12_told_94_96 : zc cX12_told 96 [46, 172, 45, 180, 1, 49, 172, 45, 180, 1, 52, 172, 45, 180, 1, 55] = true := by decide +kernel
set_option maxRecDepth 100000 in
theorem zh_dX12_told_112_112 : zc cX12_told 112 [172, 45, 180, 1, 58, 172, 45, 42, 180, 0, 10, 180, 0, 55, 182, 1] = true := by decide +kernel
set_option maxRecDepth 100000 in
theorem zh_dX12_told_126_128 : zc cX12_told 128 [61, 172, 45, 42, 180, 0, 10, 180, 0, 55, 182, 1, 64, 172, 45, 180] = true := by decide +kernel
set_option maxRecDepth 100000 in
theorem zh_dX12_told_143_144 : zc cX12_told 144 [1, 67, 172, 187, 1, 36, 89, 19, 1, 70, 183, 1, 40, 191] = true := by decide +kernel
set_option maxRecDepth 100000 in
theorem zh_dL_told_0_0 : zc cL_told 0 [45, 3, 42, 27, 28, 182, 0, 7, 133, 80, 167, 0, 7, 58, 4, 4] = true := by decide +kernel
set_option maxRecDepth 100000 in
theorem zh_dL_told_16_16 : zc cL_told 16 [172, 3, 172] = true := by decide +kernel
theorem dX12_told_0 : decode cX12_told 0 = .ok (.aload_n 0, 1) := zo_42 (zi_at zh_dX12_told_0_0 0 rfl)
theorem dX12_told_1 : decode cX12_told 1 = .ok (.getfield 10, 3) := zo_180 (zi_at zh_dX12_told_0_0 1 rfl) (zi_at zh_dX12_told_0_0 2 rfl) (zi_at zh_dX12_told_0_0 3 rfl) rfl
theorem dX12_told_4 : decode cX12_told 4 = .ok (.iload_n 1, 1) := zo_27 (zi_at zh_dX12_told_0_0 4 rfl)
theorem dX12_told_5 : decode cX12_told 5 = .ok (.invokevirtual 135, 3) := zo_182 (zi_at zh_dX12_told_0_0 5 rfl) (zi_at zh_dX12_told_0_0 6 rfl) (zi_at zh_dX12_told_0_0 7 rfl) rfl
theorem dX12_told_8 : decode cX12_told 8 = .ok (.ifCond .ne 14, 3) := zo_154 (zi_at zh_dX12_told_0_0 8 rfl) (zi_at zh_dX12_told_0_0 9 rfl) (zi_at zh_dX12_told_0_0 10 rfl) rfl
theorem dX12_told_11 : decode cX12_told 11 = .ok (.new 292, 3) := zo_187 (zi_at zh_dX12_told_0_0 11 rfl) (zi_at zh_dX12_told_0_0 12 rfl) (zi_at zh_dX12_told_0_0 13 rfl) rfl
theorem dX12_told_14 : decode cX12_told 14 = .ok (.dup, 1) := zo_89 (zi_at zh_dX12_told_0_0 14 rfl)
theorem dX12_told_15 : decode cX12_told 15 = .ok (.ldc_w 294, 3) := zo_19 (zi_at zh_dX12_told_0_0 15 rfl) (zi_at zh_dX12_told_15_16 0 rfl) (zi_at zh_dX12_told_15_16 1 rfl) rfl
theorem dX12_told_18 : decode cX12_told 18 = .ok (.invokespecial 296, 3) := zo_183 (zi_at zh_dX12_told_15_16 2 rfl) (zi_at zh_dX12_told_15_16 3 rfl) (zi_at zh_dX12_told_15_16 4 rfl) rfl
theorem dX12_told_21 : decode cX12_told 21 = .ok (.athrow, 1) := zo_191 (zi_at zh_dX12_told_15_16 5 rfl)
theorem dX12_told_22 : decode cX12_told 22 = .ok (.aload_n 0, 1) := zo_42 (zi_at zh_dX12_told_15_16 6 rfl)
theorem dX12_told_23 : decode cX12_told 23 = .ok (.getfield 10, 3) := zo_180 (zi_at zh_dX12_told_15_16 7 rfl) (zi_at zh_dX12_told_15_16 8 rfl) (zi_at zh_dX12_told_15_16 9 rfl) rfl
theorem dX12_told_26 : decode cX12_told 26 = .ok (.getfield 127, 3) := zo_180 (zi_at zh_dX12_told_15_16 10 rfl) (zi_at zh_dX12_told_15_16 11 rfl) (zi_at zh_dX12_told_15_16 12 rfl) rfl
theorem dX12_told_29 : decode cX12_told 29 = .ok (.iload_n 1, 1) := zo_27 (zi_at zh_dX12_told_15_16 13 rfl)
theorem dX12_told_30 : decode cX12_told 30 = .ok (.invokevirtual 138, 3) := zo_182 (zi_at zh_dX12_told_15_16 14 rfl) (zi_at zh_dX12_told_15_16 15 rfl) (zi_at zh_dX12_told_30_32 0 rfl) rfl
theorem dX12_told_33 : decode cX12_told 33 = .ok (.checkcast 130, 3) := zo_192 (zi_at zh_dX12_told_30_32 1 rfl) (zi_at zh_dX12_told_30_32 2 rfl) (zi_at zh_dX12_told_30_32 3 rfl) rfl
theorem dX12_told_36 : decode cX12_told 36 = .ok (.astore_n 3, 1) := zo_78 (zi_at zh_dX12_told_30_32 4 rfl)
theorem dX12_told_37 : decode cX12_told 37 = .ok (.iload_n 2, 1) := zo_28 (zi_at zh_dX12_told_30_32 5 rfl)
theorem dX12_told_38 : decode cX12_told 38 = .ok (.tableswitch 109 0 8 #[50, 55, 60, 65, 70, 75, 80, 92, 104], 50) := by decide +kernel
theorem dX12_told_88 : decode cX12_told 88 = .ok (.aload_n 3, 1) := zo_45 (zi_at zh_dX12_told_88_80 8 rfl)
theorem dX12_told_89 : decode cX12_told 89 = .ok (.getfield 299, 3) := zo_180 (zi_at zh_dX12_told_88_80 9 rfl) (zi_at zh_dX12_told_88_80 10 rfl) (zi_at zh_dX12_told_88_80 11 rfl) rfl
theorem dX12_told_92 : decode cX12_told 92 = .ok (.ireturn, 1) := zo_172 (zi_at zh_dX12_told_88_80 12 rfl)
theorem dX12_told_93 : decode cX12_told 93 = .ok (.aload_n 3, 1) := zo_45 (zi_at zh_dX12_told_88_80 13 rfl)
theorem dX12_told_94 : decode cX12_told 94 = .ok (.getfield 302, 3) := zo_180 (zi_at zh_dX12_told_88_80 14 rfl) (zi_at zh_dX12_told_88_80 15 rfl) (zi_at zh_dX12_told_94_96 0 rfl) rfl
theorem dX12_told_97 : decode cX12_told 97 = .ok (.ireturn, 1) := zo_172 (zi_at zh_dX12_told_94_96 1 rfl)
theorem dX12_told_98 : decode cX12_told 98 = .ok (.aload_n 3, 1) := zo_45 (zi_at zh_dX12_told_94_96 2 rfl)
theorem dX12_told_99 : decode cX12_told 99 = .ok (.getfield 305, 3) := zo_180 (zi_at zh_dX12_told_94_96 3 rfl) (zi_at zh_dX12_told_94_96 4 rfl) (zi_at zh_dX12_told_94_96 5 rfl) rfl
theorem dX12_told_102 : decode cX12_told 102 = .ok (.ireturn, 1) := zo_172 (zi_at zh_dX12_told_94_96 6 rfl)
theorem dX12_told_103 : decode cX12_told 103 = .ok (.aload_n 3, 1) := zo_45 (zi_at zh_dX12_told_94_96 7 rfl)
theorem dX12_told_104 : decode cX12_told 104 = .ok (.getfield 308, 3) := zo_180 (zi_at zh_dX12_told_94_96 8 rfl) (zi_at zh_dX12_told_94_96 9 rfl) (zi_at zh_dX12_told_94_96 10 rfl) rfl
theorem dX12_told_107 : decode cX12_told 107 = .ok (.ireturn, 1) := zo_172 (zi_at zh_dX12_told_94_96 11 rfl)
theorem dX12_told_108 : decode cX12_told 108 = .ok (.aload_n 3, 1) := zo_45 (zi_at zh_dX12_told_94_96 12 rfl)
theorem dX12_told_109 : decode cX12_told 109 = .ok (.getfield 311, 3) := zo_180 (zi_at zh_dX12_told_94_96 13 rfl) (zi_at zh_dX12_told_94_96 14 rfl) (zi_at zh_dX12_told_94_96 15 rfl) rfl
theorem dX12_told_112 : decode cX12_told 112 = .ok (.ireturn, 1) := zo_172 (zi_at zh_dX12_told_112_112 0 rfl)
theorem dX12_told_113 : decode cX12_told 113 = .ok (.aload_n 3, 1) := zo_45 (zi_at zh_dX12_told_112_112 1 rfl)
theorem dX12_told_114 : decode cX12_told 114 = .ok (.getfield 314, 3) := zo_180 (zi_at zh_dX12_told_112_112 2 rfl) (zi_at zh_dX12_told_112_112 3 rfl) (zi_at zh_dX12_told_112_112 4 rfl) rfl
theorem dX12_told_117 : decode cX12_told 117 = .ok (.ireturn, 1) := zo_172 (zi_at zh_dX12_told_112_112 5 rfl)
theorem dX12_told_118 : decode cX12_told 118 = .ok (.aload_n 3, 1) := zo_45 (zi_at zh_dX12_told_112_112 6 rfl)
theorem dX12_told_119 : decode cX12_told 119 = .ok (.aload_n 0, 1) := zo_42 (zi_at zh_dX12_told_112_112 7 rfl)
theorem dX12_told_120 : decode cX12_told 120 = .ok (.getfield 10, 3) := zo_180 (zi_at zh_dX12_told_112_112 8 rfl) (zi_at zh_dX12_told_112_112 9 rfl) (zi_at zh_dX12_told_112_112 10 rfl) rfl
theorem dX12_told_123 : decode cX12_told 123 = .ok (.getfield 55, 3) := zo_180 (zi_at zh_dX12_told_112_112 11 rfl) (zi_at zh_dX12_told_112_112 12 rfl) (zi_at zh_dX12_told_112_112 13 rfl) rfl
theorem dX12_told_126 : decode cX12_told 126 = .ok (.invokevirtual 317, 3) := zo_182 (zi_at zh_dX12_told_112_112 14 rfl) (zi_at zh_dX12_told_112_112 15 rfl) (zi_at zh_dX12_told_126_128 0 rfl) rfl
theorem dX12_told_129 : decode cX12_told 129 = .ok (.ireturn, 1) := zo_172 (zi_at zh_dX12_told_126_128 1 rfl)
theorem dX12_told_130 : decode cX12_told 130 = .ok (.aload_n 3, 1) := zo_45 (zi_at zh_dX12_told_126_128 2 rfl)
theorem dX12_told_131 : decode cX12_told 131 = .ok (.aload_n 0, 1) := zo_42 (zi_at zh_dX12_told_126_128 3 rfl)
theorem dX12_told_132 : decode cX12_told 132 = .ok (.getfield 10, 3) := zo_180 (zi_at zh_dX12_told_126_128 4 rfl) (zi_at zh_dX12_told_126_128 5 rfl) (zi_at zh_dX12_told_126_128 6 rfl) rfl
theorem dX12_told_135 : decode cX12_told 135 = .ok (.getfield 55, 3) := zo_180 (zi_at zh_dX12_told_126_128 7 rfl) (zi_at zh_dX12_told_126_128 8 rfl) (zi_at zh_dX12_told_126_128 9 rfl) rfl
theorem dX12_told_138 : decode cX12_told 138 = .ok (.invokevirtual 320, 3) := zo_182 (zi_at zh_dX12_told_126_128 10 rfl) (zi_at zh_dX12_told_126_128 11 rfl) (zi_at zh_dX12_told_126_128 12 rfl) rfl
theorem dX12_told_141 : decode cX12_told 141 = .ok (.ireturn, 1) := zo_172 (zi_at zh_dX12_told_126_128 13 rfl)
theorem dX12_told_142 : decode cX12_told 142 = .ok (.aload_n 3, 1) := zo_45 (zi_at zh_dX12_told_126_128 14 rfl)
theorem dX12_told_143 : decode cX12_told 143 = .ok (.getfield 323, 3) := zo_180 (zi_at zh_dX12_told_126_128 15 rfl) (zi_at zh_dX12_told_143_144 0 rfl) (zi_at zh_dX12_told_143_144 1 rfl) rfl
theorem dX12_told_146 : decode cX12_told 146 = .ok (.ireturn, 1) := zo_172 (zi_at zh_dX12_told_143_144 2 rfl)
theorem dX12_told_147 : decode cX12_told 147 = .ok (.new 292, 3) := zo_187 (zi_at zh_dX12_told_143_144 3 rfl) (zi_at zh_dX12_told_143_144 4 rfl) (zi_at zh_dX12_told_143_144 5 rfl) rfl
theorem dX12_told_150 : decode cX12_told 150 = .ok (.dup, 1) := zo_89 (zi_at zh_dX12_told_143_144 6 rfl)
theorem dX12_told_151 : decode cX12_told 151 = .ok (.ldc_w 326, 3) := zo_19 (zi_at zh_dX12_told_143_144 7 rfl) (zi_at zh_dX12_told_143_144 8 rfl) (zi_at zh_dX12_told_143_144 9 rfl) rfl
theorem dX12_told_154 : decode cX12_told 154 = .ok (.invokespecial 296, 3) := zo_183 (zi_at zh_dX12_told_143_144 10 rfl) (zi_at zh_dX12_told_143_144 11 rfl) (zi_at zh_dX12_told_143_144 12 rfl) rfl
theorem dX12_told_157 : decode cX12_told 157 = .ok (.athrow, 1) := zo_191 (zi_at zh_dX12_told_143_144 13 rfl)
theorem dL_told_0 : decode cL_told 0 = .ok (.aload_n 3, 1) := zo_45 (zi_at zh_dL_told_0_0 0 rfl)
theorem dL_told_1 : decode cL_told 1 = .ok (.iconst 0, 1) := zo_3 (zi_at zh_dL_told_0_0 1 rfl)
theorem dL_told_2 : decode cL_told 2 = .ok (.aload_n 0, 1) := zo_42 (zi_at zh_dL_told_0_0 2 rfl)
theorem dL_told_3 : decode cL_told 3 = .ok (.iload_n 1, 1) := zo_27 (zi_at zh_dL_told_0_0 3 rfl)
theorem dL_told_4 : decode cL_told 4 = .ok (.iload_n 2, 1) := zo_28 (zi_at zh_dL_told_0_0 4 rfl)
theorem dL_told_5 : decode cL_told 5 = .ok (.invokevirtual 7, 3) := zo_182 (zi_at zh_dL_told_0_0 5 rfl) (zi_at zh_dL_told_0_0 6 rfl) (zi_at zh_dL_told_0_0 7 rfl) rfl
theorem dL_told_8 : decode cL_told 8 = .ok (.i2l, 1) := zo_133 (zi_at zh_dL_told_0_0 8 rfl)
theorem dL_told_9 : decode cL_told 9 = .ok (.lastore, 1) := zo_80 (zi_at zh_dL_told_0_0 9 rfl)
theorem dL_told_10 : decode cL_told 10 = .ok (.goto 7, 3) := zo_167 (zi_at zh_dL_told_0_0 10 rfl) (zi_at zh_dL_told_0_0 11 rfl) (zi_at zh_dL_told_0_0 12 rfl) rfl
theorem dL_told_13 : decode cL_told 13 = .ok (.astore 4, 2) := zo_58 (zi_at zh_dL_told_0_0 13 rfl) (zi_at zh_dL_told_0_0 14 rfl)
theorem dL_told_15 : decode cL_told 15 = .ok (.iconst 1, 1) := zo_4 (zi_at zh_dL_told_0_0 15 rfl)
theorem dL_told_16 : decode cL_told 16 = .ok (.ireturn, 1) := zo_172 (zi_at zh_dL_told_16_16 0 rfl)
theorem dL_told_17 : decode cL_told 17 = .ok (.iconst 0, 1) := zo_3 (zi_at zh_dL_told_16_16 1 rfl)
theorem dL_told_18 : decode cL_told 18 = .ok (.ireturn, 1) := zo_172 (zi_at zh_dL_told_16_16 2 rfl)

abbrev XCn (P : Prop) : String → State → State → Prop := vx_X (S := Unit) (fun _ => P) (fun E _ _ => E = "java/util/NoSuchElementException") (fun _ => False)
set_option maxHeartbeats 4000000 in
set_option maxRecDepth 100000 in
theorem q_u_toldX (l : Launch) (hfl : l.stackTraces = false) (dC : Nat → ClassId) (dI : Nat → Nat → Nat) (cT : Nat → ClassId) (cf : Nat → Nat) (hC : CF cf) (ad : Nat → Nat) (E : Nat → va_E) (sz : Nat) (a0 : Int32) (a1 : Int32) (hI0 : IXL cT (shC cf) (spC cf) (LC cf) ad E)  : vx_Met l yX12_told v_u_told ({ frames := 8, cells := 1, slots := 6, locals := 320 }) (va_Pc [.ref (ad 0), .int a0, .int a1] (fun U => (HWL dC dI (TYC cT) cf ad E sz) U ∧ ub_EX (fun _ => False) U U.heap)) (va_Qi (S := Unit) (fun r _ => ((0 ≤ a0.toInt ∧ a0.toInt < ((cf 2 : Nat) : Int)) ∧ (0 ≤ a1.toInt ∧ a1.toInt ≤ 8)) ∧ ((a1.toInt = 0 → r.toInt = (xi (E (64 * (a0.toNatClampNeg + 1) + 6)) 1).toInt) ∧ (a1.toInt = 1 → r.toInt = (xi (E (64 * (a0.toNatClampNeg + 1) + 6)) 2).toInt) ∧ (a1.toInt = 2 → r.toInt = (xi (E (64 * (a0.toNatClampNeg + 1) + 6)) 3).toInt) ∧ (a1.toInt = 3 → r.toInt = (xi (E (64 * (a0.toNatClampNeg + 1) + 6)) 4).toInt) ∧ (a1.toInt = 4 → r.toInt = (xi (E (64 * (a0.toNatClampNeg + 1) + 6)) 5).toInt) ∧ (a1.toInt = 5 → r.toInt = (xi (E (64 * (a0.toNatClampNeg + 1) + 6)) 6).toInt) ∧ (a1.toInt = 6 → r.toInt = (entC (xi (E (64 * (a0.toNatClampNeg + 1) + 7))) (xi (E 1) 0).toInt 16 : Int)) ∧ (a1.toInt = 7 → (∃ d9 : Nat, (xi (E (64 * (a0.toNatClampNeg + 1) + 6)) 0).toInt ≤ (d9 : Int) ∧ (d9 : Int) ≤ (xi (E 1) 0).toInt ∧ ¬ (xi (E (64 * (a0.toNatClampNeg + 1) + 11)) d9).toInt = 0 ∧ r = xi (E (64 * (a0.toNatClampNeg + 1) + 11)) d9 ∧ ∀ d8 : Nat, (d9 : Int) < (d8 : Int) → (d8 : Int) ≤ (xi (E 1) 0).toInt → (xi (E (64 * (a0.toNatClampNeg + 1) + 11)) d8).toInt = 0) ∨ (r = 2 ∧ ∀ d8 : Nat, (xi (E (64 * (a0.toNatClampNeg + 1) + 6)) 0).toInt ≤ (d8 : Int) → (d8 : Int) ≤ (xi (E 1) 0).toInt → (xi (E (64 * (a0.toNatClampNeg + 1) + 11)) d8).toInt = 0)) ∧ (a1.toInt = 8 → r.toInt = (xi (E (64 * (a0.toNatClampNeg + 1) + 6)) 0).toInt))) (fun _ _ => True) (fun _ => False)) (XCn (¬ ((0 ≤ a0.toInt ∧ a0.toInt < ((cf 2 : Nat) : Int)) ∧ (0 ≤ a1.toInt ∧ a1.toInt ≤ 8)))) 1 6 (fun _ => False) := by
  obtain ⟨⟨hc0, hc1, hc2, hc3, hc4, hc5⟩, hcr⟩ := id hC
  refine vx_ofW (cc := cX12_told) (maxL := 4) (ret := (some .int)) (by decide) rfl ?_
  intro p e s m args below meth c s₁ B hml hexn hv
  obtain ⟨hargs, ⟨hsz, hP, hK, hD0, hEV⟩, hEX⟩ := hv
  subst hsz
  have hx := B.exec
  have hb := B.bytes
  have hr := B.returns
  have htx := atoms_spec (ws := v_u_told) B.pre
  have hts := fun w (h : w ∈ (.code yX12_told cX12_told 4 (some .int) :: vA)) => htx w (told_in1 w h)
  have hown : s.vm.findClass RX12 = some m.cls := findClass_of_methodNamed B.named
  have hlocks := B.notSynchronized
  have hinX0 : ∀ w ∈ u_ws RX0 TX0 11, w ∈ (.code yX12_told cX12_told 4 (some .int) :: vA) := fun w h => vA_in _ w (in_X0 w h)
  have hinX12 : ∀ w ∈ u_ws RX12 TX12 6, w ∈ (.code yX12_told cX12_told 4 (some .int) :: vA) := fun w h => vA_in _ w (in_X12 w h)
  have hinX5 : ∀ w ∈ u_ws RX5 TX5 12, w ∈ (.code yX12_told cX12_told 4 (some .int) :: vA) := fun w h => vA_in _ w (in_X5 w h)
  have hS : va_S (fun _ : Nat => False) s.heap s.heap [] := va_S.rf
  have hD := hD0
  have hI := hI0
  have hKp : Kp (wl [] []) E E := Kp.rf
  have hl := lv_entry ([.ref (ad 0), .int a0, .int a1]) (n := 4) (Nat.le_of_ble_eq_true rfl)
  obtain ⟨Q, hQ⟩ : ∃ Q, Q = vx_MQ below (va_Qi (S := Unit) (fun r _ => ((0 ≤ a0.toInt ∧ a0.toInt < ((cf 2 : Nat) : Int)) ∧ (0 ≤ a1.toInt ∧ a1.toInt ≤ 8)) ∧ ((a1.toInt = 0 → r.toInt = (xi (E (64 * (a0.toNatClampNeg + 1) + 6)) 1).toInt) ∧ (a1.toInt = 1 → r.toInt = (xi (E (64 * (a0.toNatClampNeg + 1) + 6)) 2).toInt) ∧ (a1.toInt = 2 → r.toInt = (xi (E (64 * (a0.toNatClampNeg + 1) + 6)) 3).toInt) ∧ (a1.toInt = 3 → r.toInt = (xi (E (64 * (a0.toNatClampNeg + 1) + 6)) 4).toInt) ∧ (a1.toInt = 4 → r.toInt = (xi (E (64 * (a0.toNatClampNeg + 1) + 6)) 5).toInt) ∧ (a1.toInt = 5 → r.toInt = (xi (E (64 * (a0.toNatClampNeg + 1) + 6)) 6).toInt) ∧ (a1.toInt = 6 → r.toInt = (entC (xi (E (64 * (a0.toNatClampNeg + 1) + 7))) (xi (E 1) 0).toInt 16 : Int)) ∧ (a1.toInt = 7 → (∃ d9 : Nat, (xi (E (64 * (a0.toNatClampNeg + 1) + 6)) 0).toInt ≤ (d9 : Int) ∧ (d9 : Int) ≤ (xi (E 1) 0).toInt ∧ ¬ (xi (E (64 * (a0.toNatClampNeg + 1) + 11)) d9).toInt = 0 ∧ r = xi (E (64 * (a0.toNatClampNeg + 1) + 11)) d9 ∧ ∀ d8 : Nat, (d9 : Int) < (d8 : Int) → (d8 : Int) ≤ (xi (E 1) 0).toInt → (xi (E (64 * (a0.toNatClampNeg + 1) + 11)) d8).toInt = 0) ∨ (r = 2 ∧ ∀ d8 : Nat, (xi (E (64 * (a0.toNatClampNeg + 1) + 6)) 0).toInt ≤ (d8 : Int) → (d8 : Int) ≤ (xi (E 1) 0).toInt → (xi (E (64 * (a0.toNatClampNeg + 1) + 11)) d8).toInt = 0)) ∧ (a1.toInt = 8 → r.toInt = (xi (E (64 * (a0.toNatClampNeg + 1) + 6)) 0).toInt))) (fun _ _ => True) (fun _ => False)) (XCn (¬ ((0 ≤ a0.toInt ∧ a0.toInt < ((cf 2 : Nat) : Int)) ∧ (0 ≤ a1.toInt ∧ a1.toInt ≤ 8)))) args s 1 6 (fun _ => False) := ⟨_, rfl⟩
  rw [← hQ, show entryFrame m args 4 = _ from (congrArg (fun z => entryFrame m z 4) hargs).trans (lg_entry_eq _ _ _)]
  generalize (lg_sl ([.ref (ad 0), .int a0, .int a1]) ++ List.replicate (4 - (lg_sl ([.ref (ad 0), .int a0, .int a1])).length) Slot.unset).toArray = ls at hl ⊢
  have hl : lv_has ls 4 [(0, .ref (ad 0)), (1, .int a0), (2, .int a1)] := hl
  refine lv_aload_n hx hb dX12_told_0 rfl (lv_at hl 0 rfl) ?_
  refine th_getL (ci := 13) (C := RX12) (T := TX12) (N := 6) (v := .ref (ad 1)) hx hb hts hinX12 hown hK hP hI 0 (mF 0 rfl) rfl rfl 0 (Nat.le_of_ble_eq_true rfl) (hts _ (vA_in _ _ (in_10 _ (zs16 (zs1 (zs0)))))) (fun _ h9 => h9) (hI.fr 0 (mF 0 rfl) rfl (Nat.le_of_ble_eq_true rfl) 1 rfl) dX12_told_1 ?_
  refine lv_iload_n hx hb dX12_told_4 rfl (lv_at hl 1 rfl) ?_
  refine th_riL (va_runV (As := [.int a0]) (rest := []) ⟨hx, hb, hml, hown, hts⟩ (q_isRaceC l dC dI cT cf hC ad E s.heap.size a0 hI) (cwV 1 hts (gi_V (in_18 _ zs0) (in_6 _ (zs4 (zs1 (zs1 (zs1 (zs0)))))) (in_6 _ (zs4 (zs4 (zs0)))) (in_5 _ (zs4 (zs1 (zs1 (zs0))))) (in_6 _ (zs4 (zs4 (zs1 (zs0)))))) rfl rfl rfl (by decide +kernel) ⟨Nat.le_of_ble_eq_true rfl, Nat.le_of_ble_eq_true rfl⟩) ⟨HWL_bl, va_recv hK hP (ci := 1) (q0 := posL 1 (LC cf)) rfl (hI.ob 1 (mF 1 rfl) rfl), (HWL_wiR hP hK (WL_D hD) hS hEV)⟩ rfl rfl hl.1 rfl (lv_room (Nat.le_of_ble_eq_true rfl)) dX12_told_5 ⟨Nat.le_of_ble_eq_true rfl, Nat.le_of_ble_eq_true rfl⟩) hS hP (fun r1 H locs hw hP hS => ?_)
  rcases hw with hw | hw
  · -- isRaceC, case 0
    obtain ⟨rfl, f2, f3⟩ := hw
    refine lv_if_ne (tgt := 22) hx hb dX12_told_8 (by decide) (fun c4 => ?_) (fun c4 => ?_)
    · --8 taken
      refine lv_aload_n hx hb dX12_told_22 rfl (lv_at hl 0 rfl) ?_
      refine th_getL (ci := 13) (C := RX12) (T := TX12) (N := 6) (v := .ref (ad 1)) hx hb hts hinX12 hown hK hP hI 0 (mF 0 rfl) rfl rfl 0 (Nat.le_of_ble_eq_true rfl) (hts _ (vA_in _ _ (in_10 _ (zs16 (zs1 (zs0)))))) (fun _ h9 => h9) (hI.fr 0 (mF 0 rfl) rfl (Nat.le_of_ble_eq_true rfl) 1 rfl) dX12_told_23 ?_
      refine th_getL (ci := 1) (C := RX0) (T := TX0) (N := 11) (v := .ref (ad 9)) hx hb hts hinX0 hown hK hP hI 1 (mF 1 rfl) rfl rfl 5 (Nat.le_of_ble_eq_true rfl) (hts _ (vA_in _ _ (in_14 _ (zs4 (zs1 (zs1 (zs1 (zs0)))))))) (fun _ h9 => h9) (hI.fr 1 (mF 1 rfl) rfl (Nat.le_of_ble_eq_true rfl) 9 rfl) dX12_told_26 ?_
      refine lv_iload_n hx hb dX12_told_29 rfl (lv_at hl 1 rfl) ?_
      refine th_rrL (va_runV (As := [.int a0]) (rest := []) ⟨hx, hb, hml, hown, hts⟩ (q_get2 l dC dI cT cf hC ad E H.size a0 hI (by omega)) (cwV 1 hts (gi_V (in_14 _ (zs16 (zs4 (zs4 (zs0))))) (in_4 _ (zs16 (zs16 (zs4 (zs1 (zs1 (zs0))))))) (in_4 _ (zs16 (zs16 (zs4 (zs1 (zs1 (zs1 (zs0)))))))) (in_3 _ (zs16 (zs1 (zs1 (zs0))))) (in_3 _ (zs16 (zs16 (zs4 (zs1 (zs1 (zs1 (zs0))))))))) rfl rfl rfl (by decide +kernel) ⟨Nat.le_of_ble_eq_true rfl, Nat.le_of_ble_eq_true rfl⟩) ⟨HWL_bl, va_recv hK hP (ci := 0) (q0 := posL 9 (LC cf)) rfl (hI.ob 9 (mF 9 rfl) rfl), (HWL_wiR hP hK (WL_D hD) hS hEV)⟩ rfl rfl hl.1 rfl (lv_room (Nat.le_of_ble_eq_true rfl)) dX12_told_30 ⟨Nat.le_of_ble_eq_true rfl, Nat.le_of_ble_eq_true rfl⟩) hS hP (fun r5 H locs hw hP hS => ?_)
      obtain rfl := hw
      have lv6 : a0.toNatClampNeg < cf 2 := by rw [tn_]; omega
      refine va_castS (cC := dC 6) hx hb hown (hts _ (vA_in _ _ (in_17 _ (zs16 (zs16 (zs4 (zs1 (zs1 (zs0))))))))) (hK.1 6 _ rfl).2 (va_recv hK hP (ci := 6) (q0 := posL (64 * (a0.toNatClampNeg + 1) + 6) (LC cf)) rfl (hI.ob (64 * (a0.toNatClampNeg + 1) + 6) (mP 6 a0.toNatClampNeg (by decide) lv6 (kl_le hC 2 (by decide))) (shC_p 6 a0.toNatClampNeg (by decide)))) dX12_told_33 ?_
      refine lv_astore_n (lv' := [(3, .ref (ad (64 * (a0.toNatClampNeg + 1) + 6))), (0, .ref (ad 0)), (1, .int a0), (2, .int a1)]) hx hb dX12_told_36 rfl hl (by decide) rfl (fun ls hl => ?_)
      refine lv_iload_n hx hb dX12_told_37 rfl (lv_at hl 3 rfl) ?_
      rcases (show (a1.toInt < 0 ∨ 8 < a1.toInt) ∨ a1.toInt = 0 ∨ a1.toInt = 1 ∨ a1.toInt = 2 ∨ a1.toInt = 3 ∨ a1.toInt = 4 ∨ a1.toInt = 5 ∨ a1.toInt = 6 ∨ a1.toInt = 7 ∨ a1.toInt = 8 by omega) with c7 | c7 | c7 | c7 | c7 | c7 | c7 | c7 | c7 | c7
      · --None
        refine lv_tableOut (tgt := 147) hx hb dX12_told_38 c7 (by decide) ?_
        rw [hQ]
        obtain ⟨hU9, hNn9, ⟨⟨sa1, hst1⟩, sa2, hst2⟩, hca, hd1, hd2, hd3⟩ := hEX
        exact ub_throw (text := "no such thing of a race") (ik := 292) (is := 326) (sa := sa2) (A := fun _ : Nat => False) hx hb hfl hown (hts _ (vA_in _ _ (in_23 _ (zs16 (zs4 (zs4 (zs1 (zs1 (zs1 (zs0)))))))))) (hts _ (vA_in _ _ (in_23 _ (zs16 (zs4 (zs4 (zs4 (zs0)))))))) hst2 (vx_hat (B := [.castable "java/util/NoSuchElementException" "java/util/NoSuchElementException", .declares ⟨"java/lang/RuntimeException", "<init>", "(Ljava/lang/String;)V"⟩, .declares ⟨"java/lang/Exception", "<init>", "(Ljava/lang/String;)V"⟩, .declares ⟨"java/lang/Throwable", "<init>", "(Ljava/lang/String;)V"⟩]) (fun w h => htx w (told_in2 w h)) (by decide +kernel) (vx_c (va_Nw.use rfl hca) (vx_c (va_Nw.use rfl hd1) (vx_c (va_Nw.use rfl hd2) (vx_c (va_Nw.use rfl hd3) vx_n))))) (by decide +kernel) hU9 hNn9 hS (by rw [hml]; exact hl.1) dX12_told_147 dX12_told_150 dX12_told_151 dX12_told_154 dX12_told_157 (fun x hx9 => (hexn x hx9).elim) (Nat.le_of_ble_eq_true rfl) (Nat.le_of_ble_eq_true rfl) (Nat.le_of_ble_eq_true rfl) (Nat.le_of_ble_eq_true rfl) hlocks (fun t h1 h2 h3 => ⟨(), (show ¬ ((0 ≤ a0.toInt ∧ a0.toInt < ((cf 2 : Nat) : Int)) ∧ (0 ≤ a1.toInt ∧ a1.toInt ≤ 8)) by omega), rfl, Nat.le_trans hS.1 h2, fun q q1 _ => by rw [h3 q (Nat.lt_of_lt_of_le q1 hS.1)]; exact hS.2.1 q q1 (fun hh => hh)⟩) hS.2.2 (Nat.le_refl _) (Nat.le_refl _)
      · --0
        refine lv_tableIn (off := 50) (tgt := 88) hx hb dX12_told_38 (by omega) (by omega) (by rw [c7]; rfl) (by decide) ?_
        refine lv_aload_n hx hb dX12_told_88 rfl (lv_at hl 0 rfl) ?_
        have i8 : 0 ≤ (xi (E (64 * (a0.toNatClampNeg + 1) + 6)) 1).toInt ∧ (xi (E (64 * (a0.toNatClampNeg + 1) + 6)) 1).toInt ≤ 400 := hI0.iv (64 * (a0.toNatClampNeg + 1) + 6) (mP 6 a0.toNatClampNeg (by decide) lv6 (kl_le hC 2 (by decide))) (shC_p 6 a0.toNatClampNeg (by decide)) (Nat.le_of_ble_eq_true rfl) (spC_p 6 a0.toNatClampNeg (by decide) 1)
        refine th_getL (ci := 6) (C := RX5) (T := TX5) (N := 12) (v := .int (xi (E (64 * (a0.toNatClampNeg + 1) + 6)) 1)) hx hb hts hinX5 hown hK hP hI (64 * (a0.toNatClampNeg + 1) + 6) (mP 6 a0.toNatClampNeg (by decide) lv6 (kl_le hC 2 (by decide))) (shC_p 6 a0.toNatClampNeg (by decide)) rfl 1 (Nat.le_of_ble_eq_true rfl) (hts _ (vA_in _ _ (in_23 _ (zs16 (zs4 (zs4 (zs4 (zs1 (zs0))))))))) (fun _ h9 => h9) (th_v0L hKp hI0 (64 * (a0.toNatClampNeg + 1) + 6) (mP 6 a0.toNatClampNeg (by decide) lv6 (kl_le hC 2 (by decide))) (shC_p 6 a0.toNatClampNeg (by decide)) (Nat.le_of_ble_eq_true rfl) (spC_p 6 a0.toNatClampNeg (by decide) 1) (wl_p rfl rfl (by omega))) dX12_told_89 ?_
        rw [hQ]
        refine W.widen (k := 1) (n := 6) (by omega) (by omega) ?_
        refine vx_ret ?_
        exact W.iret (v := (xi (E (64 * (a0.toNatClampNeg + 1) + 6)) 1)) hx hb hr (fun t ht hW => ⟨⟨(xi (E (64 * (a0.toNatClampNeg + 1) + 6)) 1), (), rfl, ⟨by omega, ⟨(fun _ => rfl), (fun q9 => by exfalso; omega), (fun q9 => by exfalso; omega), (fun q9 => by exfalso; omega), (fun q9 => by exfalso; omega), (fun q9 => by exfalso; omega), (fun q9 => by exfalso; omega), (fun q9 => by exfalso; omega), (fun q9 => by exfalso; omega)⟩⟩, trivial⟩, hS.F ht⟩) hS.2.2 dX12_told_92
      · --1
        refine lv_tableIn (off := 55) (tgt := 93) hx hb dX12_told_38 (by omega) (by omega) (by rw [c7]; rfl) (by decide) ?_
        refine lv_aload_n hx hb dX12_told_93 rfl (lv_at hl 0 rfl) ?_
        have i9 : 0 ≤ (xi (E (64 * (a0.toNatClampNeg + 1) + 6)) 2).toInt ∧ (xi (E (64 * (a0.toNatClampNeg + 1) + 6)) 2).toInt ≤ 1000 := hI0.iv (64 * (a0.toNatClampNeg + 1) + 6) (mP 6 a0.toNatClampNeg (by decide) lv6 (kl_le hC 2 (by decide))) (shC_p 6 a0.toNatClampNeg (by decide)) (Nat.le_of_ble_eq_true rfl) (spC_p 6 a0.toNatClampNeg (by decide) 2)
        refine th_getL (ci := 6) (C := RX5) (T := TX5) (N := 12) (v := .int (xi (E (64 * (a0.toNatClampNeg + 1) + 6)) 2)) hx hb hts hinX5 hown hK hP hI (64 * (a0.toNatClampNeg + 1) + 6) (mP 6 a0.toNatClampNeg (by decide) lv6 (kl_le hC 2 (by decide))) (shC_p 6 a0.toNatClampNeg (by decide)) rfl 2 (Nat.le_of_ble_eq_true rfl) (hts _ (vA_in _ _ (in_23 _ (zs16 (zs4 (zs4 (zs4 (zs1 (zs1 (zs0)))))))))) (fun _ h9 => h9) (th_v0L hKp hI0 (64 * (a0.toNatClampNeg + 1) + 6) (mP 6 a0.toNatClampNeg (by decide) lv6 (kl_le hC 2 (by decide))) (shC_p 6 a0.toNatClampNeg (by decide)) (Nat.le_of_ble_eq_true rfl) (spC_p 6 a0.toNatClampNeg (by decide) 2) (wl_p rfl rfl (by omega))) dX12_told_94 ?_
        rw [hQ]
        refine W.widen (k := 1) (n := 6) (by omega) (by omega) ?_
        refine vx_ret ?_
        exact W.iret (v := (xi (E (64 * (a0.toNatClampNeg + 1) + 6)) 2)) hx hb hr (fun t ht hW => ⟨⟨(xi (E (64 * (a0.toNatClampNeg + 1) + 6)) 2), (), rfl, ⟨by omega, ⟨(fun q9 => by exfalso; omega), (fun _ => rfl), (fun q9 => by exfalso; omega), (fun q9 => by exfalso; omega), (fun q9 => by exfalso; omega), (fun q9 => by exfalso; omega), (fun q9 => by exfalso; omega), (fun q9 => by exfalso; omega), (fun q9 => by exfalso; omega)⟩⟩, trivial⟩, hS.F ht⟩) hS.2.2 dX12_told_97
      · --2
        refine lv_tableIn (off := 60) (tgt := 98) hx hb dX12_told_38 (by omega) (by omega) (by rw [c7]; rfl) (by decide) ?_
        refine lv_aload_n hx hb dX12_told_98 rfl (lv_at hl 0 rfl) ?_
        have i10 : 0 ≤ (xi (E (64 * (a0.toNatClampNeg + 1) + 6)) 3).toInt ∧ (xi (E (64 * (a0.toNatClampNeg + 1) + 6)) 3).toInt ≤ 1 := hI0.iv (64 * (a0.toNatClampNeg + 1) + 6) (mP 6 a0.toNatClampNeg (by decide) lv6 (kl_le hC 2 (by decide))) (shC_p 6 a0.toNatClampNeg (by decide)) (Nat.le_of_ble_eq_true rfl) (spC_p 6 a0.toNatClampNeg (by decide) 3)
        refine th_getL (ci := 6) (C := RX5) (T := TX5) (N := 12) (v := .int (xi (E (64 * (a0.toNatClampNeg + 1) + 6)) 3)) hx hb hts hinX5 hown hK hP hI (64 * (a0.toNatClampNeg + 1) + 6) (mP 6 a0.toNatClampNeg (by decide) lv6 (kl_le hC 2 (by decide))) (shC_p 6 a0.toNatClampNeg (by decide)) rfl 3 (Nat.le_of_ble_eq_true rfl) (hts _ (vA_in _ _ (in_23 _ (zs16 (zs4 (zs4 (zs4 (zs1 (zs1 (zs1 (zs0))))))))))) (fun _ h9 => h9) (th_v0L hKp hI0 (64 * (a0.toNatClampNeg + 1) + 6) (mP 6 a0.toNatClampNeg (by decide) lv6 (kl_le hC 2 (by decide))) (shC_p 6 a0.toNatClampNeg (by decide)) (Nat.le_of_ble_eq_true rfl) (spC_p 6 a0.toNatClampNeg (by decide) 3) (wl_p rfl rfl (by omega))) dX12_told_99 ?_
        rw [hQ]
        refine W.widen (k := 1) (n := 6) (by omega) (by omega) ?_
        refine vx_ret ?_
        exact W.iret (v := (xi (E (64 * (a0.toNatClampNeg + 1) + 6)) 3)) hx hb hr (fun t ht hW => ⟨⟨(xi (E (64 * (a0.toNatClampNeg + 1) + 6)) 3), (), rfl, ⟨by omega, ⟨(fun q9 => by exfalso; omega), (fun q9 => by exfalso; omega), (fun _ => rfl), (fun q9 => by exfalso; omega), (fun q9 => by exfalso; omega), (fun q9 => by exfalso; omega), (fun q9 => by exfalso; omega), (fun q9 => by exfalso; omega), (fun q9 => by exfalso; omega)⟩⟩, trivial⟩, hS.F ht⟩) hS.2.2 dX12_told_102
      · --3
        refine lv_tableIn (off := 65) (tgt := 103) hx hb dX12_told_38 (by omega) (by omega) (by rw [c7]; rfl) (by decide) ?_
        refine lv_aload_n hx hb dX12_told_103 rfl (lv_at hl 0 rfl) ?_
        have i11 : 0 ≤ (xi (E (64 * (a0.toNatClampNeg + 1) + 6)) 4).toInt ∧ (xi (E (64 * (a0.toNatClampNeg + 1) + 6)) 4).toInt ≤ 7 := hI0.iv (64 * (a0.toNatClampNeg + 1) + 6) (mP 6 a0.toNatClampNeg (by decide) lv6 (kl_le hC 2 (by decide))) (shC_p 6 a0.toNatClampNeg (by decide)) (Nat.le_of_ble_eq_true rfl) (spC_p 6 a0.toNatClampNeg (by decide) 4)
        refine th_getL (ci := 6) (C := RX5) (T := TX5) (N := 12) (v := .int (xi (E (64 * (a0.toNatClampNeg + 1) + 6)) 4)) hx hb hts hinX5 hown hK hP hI (64 * (a0.toNatClampNeg + 1) + 6) (mP 6 a0.toNatClampNeg (by decide) lv6 (kl_le hC 2 (by decide))) (shC_p 6 a0.toNatClampNeg (by decide)) rfl 4 (Nat.le_of_ble_eq_true rfl) (hts _ (vA_in _ _ (in_23 _ (zs16 (zs16 (zs0)))))) (fun _ h9 => h9) (th_v0L hKp hI0 (64 * (a0.toNatClampNeg + 1) + 6) (mP 6 a0.toNatClampNeg (by decide) lv6 (kl_le hC 2 (by decide))) (shC_p 6 a0.toNatClampNeg (by decide)) (Nat.le_of_ble_eq_true rfl) (spC_p 6 a0.toNatClampNeg (by decide) 4) (wl_p rfl rfl (by omega))) dX12_told_104 ?_
        rw [hQ]
        refine W.widen (k := 1) (n := 6) (by omega) (by omega) ?_
        refine vx_ret ?_
        exact W.iret (v := (xi (E (64 * (a0.toNatClampNeg + 1) + 6)) 4)) hx hb hr (fun t ht hW => ⟨⟨(xi (E (64 * (a0.toNatClampNeg + 1) + 6)) 4), (), rfl, ⟨by omega, ⟨(fun q9 => by exfalso; omega), (fun q9 => by exfalso; omega), (fun q9 => by exfalso; omega), (fun _ => rfl), (fun q9 => by exfalso; omega), (fun q9 => by exfalso; omega), (fun q9 => by exfalso; omega), (fun q9 => by exfalso; omega), (fun q9 => by exfalso; omega)⟩⟩, trivial⟩, hS.F ht⟩) hS.2.2 dX12_told_107
      · --4
        refine lv_tableIn (off := 70) (tgt := 108) hx hb dX12_told_38 (by omega) (by omega) (by rw [c7]; rfl) (by decide) ?_
        refine lv_aload_n hx hb dX12_told_108 rfl (lv_at hl 0 rfl) ?_
        have i12 : 0 ≤ (xi (E (64 * (a0.toNatClampNeg + 1) + 6)) 5).toInt ∧ (xi (E (64 * (a0.toNatClampNeg + 1) + 6)) 5).toInt ≤ 99 := hI0.iv (64 * (a0.toNatClampNeg + 1) + 6) (mP 6 a0.toNatClampNeg (by decide) lv6 (kl_le hC 2 (by decide))) (shC_p 6 a0.toNatClampNeg (by decide)) (Nat.le_of_ble_eq_true rfl) (spC_p 6 a0.toNatClampNeg (by decide) 5)
        refine th_getL (ci := 6) (C := RX5) (T := TX5) (N := 12) (v := .int (xi (E (64 * (a0.toNatClampNeg + 1) + 6)) 5)) hx hb hts hinX5 hown hK hP hI (64 * (a0.toNatClampNeg + 1) + 6) (mP 6 a0.toNatClampNeg (by decide) lv6 (kl_le hC 2 (by decide))) (shC_p 6 a0.toNatClampNeg (by decide)) rfl 5 (Nat.le_of_ble_eq_true rfl) (hts _ (vA_in _ _ (in_23 _ (zs16 (zs16 (zs1 (zs0))))))) (fun _ h9 => h9) (th_v0L hKp hI0 (64 * (a0.toNatClampNeg + 1) + 6) (mP 6 a0.toNatClampNeg (by decide) lv6 (kl_le hC 2 (by decide))) (shC_p 6 a0.toNatClampNeg (by decide)) (Nat.le_of_ble_eq_true rfl) (spC_p 6 a0.toNatClampNeg (by decide) 5) (wl_p rfl rfl (by omega))) dX12_told_109 ?_
        rw [hQ]
        refine W.widen (k := 1) (n := 6) (by omega) (by omega) ?_
        refine vx_ret ?_
        exact W.iret (v := (xi (E (64 * (a0.toNatClampNeg + 1) + 6)) 5)) hx hb hr (fun t ht hW => ⟨⟨(xi (E (64 * (a0.toNatClampNeg + 1) + 6)) 5), (), rfl, ⟨by omega, ⟨(fun q9 => by exfalso; omega), (fun q9 => by exfalso; omega), (fun q9 => by exfalso; omega), (fun q9 => by exfalso; omega), (fun _ => rfl), (fun q9 => by exfalso; omega), (fun q9 => by exfalso; omega), (fun q9 => by exfalso; omega), (fun q9 => by exfalso; omega)⟩⟩, trivial⟩, hS.F ht⟩) hS.2.2 dX12_told_112
      · --5
        refine lv_tableIn (off := 75) (tgt := 113) hx hb dX12_told_38 (by omega) (by omega) (by rw [c7]; rfl) (by decide) ?_
        refine lv_aload_n hx hb dX12_told_113 rfl (lv_at hl 0 rfl) ?_
        have i13 : 0 ≤ (xi (E (64 * (a0.toNatClampNeg + 1) + 6)) 6).toInt ∧ (xi (E (64 * (a0.toNatClampNeg + 1) + 6)) 6).toInt ≤ 99 := hI0.iv (64 * (a0.toNatClampNeg + 1) + 6) (mP 6 a0.toNatClampNeg (by decide) lv6 (kl_le hC 2 (by decide))) (shC_p 6 a0.toNatClampNeg (by decide)) (Nat.le_of_ble_eq_true rfl) (spC_p 6 a0.toNatClampNeg (by decide) 6)
        refine th_getL (ci := 6) (C := RX5) (T := TX5) (N := 12) (v := .int (xi (E (64 * (a0.toNatClampNeg + 1) + 6)) 6)) hx hb hts hinX5 hown hK hP hI (64 * (a0.toNatClampNeg + 1) + 6) (mP 6 a0.toNatClampNeg (by decide) lv6 (kl_le hC 2 (by decide))) (shC_p 6 a0.toNatClampNeg (by decide)) rfl 6 (Nat.le_of_ble_eq_true rfl) (hts _ (vA_in _ _ (in_23 _ (zs16 (zs16 (zs1 (zs1 (zs0)))))))) (fun _ h9 => h9) (th_v0L hKp hI0 (64 * (a0.toNatClampNeg + 1) + 6) (mP 6 a0.toNatClampNeg (by decide) lv6 (kl_le hC 2 (by decide))) (shC_p 6 a0.toNatClampNeg (by decide)) (Nat.le_of_ble_eq_true rfl) (spC_p 6 a0.toNatClampNeg (by decide) 6) (wl_p rfl rfl (by omega))) dX12_told_114 ?_
        rw [hQ]
        refine W.widen (k := 1) (n := 6) (by omega) (by omega) ?_
        refine vx_ret ?_
        exact W.iret (v := (xi (E (64 * (a0.toNatClampNeg + 1) + 6)) 6)) hx hb hr (fun t ht hW => ⟨⟨(xi (E (64 * (a0.toNatClampNeg + 1) + 6)) 6), (), rfl, ⟨by omega, ⟨(fun q9 => by exfalso; omega), (fun q9 => by exfalso; omega), (fun q9 => by exfalso; omega), (fun q9 => by exfalso; omega), (fun q9 => by exfalso; omega), (fun _ => rfl), (fun q9 => by exfalso; omega), (fun q9 => by exfalso; omega), (fun q9 => by exfalso; omega)⟩⟩, trivial⟩, hS.F ht⟩) hS.2.2 dX12_told_117
      · --6
        refine lv_tableIn (off := 80) (tgt := 118) hx hb dX12_told_38 (by omega) (by omega) (by rw [c7]; rfl) (by decide) ?_
        refine lv_aload_n hx hb dX12_told_118 rfl (lv_at hl 0 rfl) ?_
        refine lv_aload_n hx hb dX12_told_119 rfl (lv_at hl 1 rfl) ?_
        refine th_getL (ci := 13) (C := RX12) (T := TX12) (N := 6) (v := .ref (ad 1)) hx hb hts hinX12 hown hK hP hI 0 (mF 0 rfl) rfl rfl 0 (Nat.le_of_ble_eq_true rfl) (hts _ (vA_in _ _ (in_10 _ (zs16 (zs1 (zs0)))))) (fun _ h9 => h9) (hI.fr 0 (mF 0 rfl) rfl (Nat.le_of_ble_eq_true rfl) 1 rfl) dX12_told_120 ?_
        have i14 : 0 ≤ (xi (E 1) 0).toInt ∧ (xi (E 1) 0).toInt ≤ 400 := hI0.iv 1 (mF 1 rfl) rfl (Nat.le_of_ble_eq_true rfl) rfl
        refine th_getL (ci := 1) (C := RX0) (T := TX0) (N := 11) (v := .int (xi (E 1) 0)) hx hb hts hinX0 hown hK hP hI 1 (mF 1 rfl) rfl rfl 0 (Nat.le_of_ble_eq_true rfl) (hts _ (vA_in _ _ (in_10 _ (zs16 (zs4 (zs4 (zs1 (zs1 (zs0))))))))) (fun _ h9 => h9) (th_v0L hKp hI0 1 (mF 1 rfl) rfl (Nat.le_of_ble_eq_true rfl) rfl rfl) dX12_told_123 ?_
        refine th_riL (va_runV (As := [.int (xi (E 1) 0)]) (rest := []) ⟨hx, hb, hml, hown, hts⟩ (q_enteredInX l dC dI cT cf hC ad E H.size (xi (E 1) 0) a0.toNatClampNeg hI (by omega)) (cwV 1 hts (gi_V (in_23 _ (zs16 (zs16 (zs4 (zs0))))) (in_12 _ (zs16 (zs4 (zs4 (zs4 (zs1 (zs1 (zs0)))))))) (in_12 _ (zs16 (zs4 (zs4 (zs4 (zs1 (zs1 (zs1 (zs0))))))))) (in_6 _ (zs16 (zs1 (zs0)))) (in_12 _ (zs16 (zs16 (zs0))))) rfl rfl rfl (by decide +kernel) ⟨Nat.le_of_ble_eq_true rfl, Nat.le_of_ble_eq_true rfl⟩) ⟨HWL_bl, va_recv hK hP (ci := 6) (q0 := posL (64 * (a0.toNatClampNeg + 1) + 6) (LC cf)) rfl (hI.ob (64 * (a0.toNatClampNeg + 1) + 6) (mP 6 a0.toNatClampNeg (by decide) lv6 (kl_le hC 2 (by decide))) (shC_p 6 a0.toNatClampNeg (by decide))), (HWL_wiR hP hK (WL_D hD) hS hEV)⟩ rfl rfl hl.1 rfl (lv_room (Nat.le_of_ble_eq_true rfl)) dX12_told_126 ⟨Nat.le_of_ble_eq_true rfl, Nat.le_of_ble_eq_true rfl⟩) hS hP (fun r15 H locs hw hP hS => ?_)
        obtain ⟨f16, f17⟩ := hw
        rw [hQ]
        refine W.widen (k := 1) (n := 6) (by omega) (by omega) ?_
        refine vx_ret ?_
        exact W.iret (v := r15) hx hb hr (fun t ht hW => ⟨⟨r15, (), rfl, ⟨by omega, ⟨(fun q9 => by exfalso; omega), (fun q9 => by exfalso; omega), (fun q9 => by exfalso; omega), (fun q9 => by exfalso; omega), (fun q9 => by exfalso; omega), (fun q9 => by exfalso; omega), (fun _ => f17), (fun q9 => by exfalso; omega), (fun q9 => by exfalso; omega)⟩⟩, trivial⟩, hS.F ht⟩) hS.2.2 dX12_told_129
      · --7
        refine lv_tableIn (off := 92) (tgt := 130) hx hb dX12_told_38 (by omega) (by omega) (by rw [c7]; rfl) (by decide) ?_
        refine lv_aload_n hx hb dX12_told_130 rfl (lv_at hl 0 rfl) ?_
        refine lv_aload_n hx hb dX12_told_131 rfl (lv_at hl 1 rfl) ?_
        refine th_getL (ci := 13) (C := RX12) (T := TX12) (N := 6) (v := .ref (ad 1)) hx hb hts hinX12 hown hK hP hI 0 (mF 0 rfl) rfl rfl 0 (Nat.le_of_ble_eq_true rfl) (hts _ (vA_in _ _ (in_10 _ (zs16 (zs1 (zs0)))))) (fun _ h9 => h9) (hI.fr 0 (mF 0 rfl) rfl (Nat.le_of_ble_eq_true rfl) 1 rfl) dX12_told_132 ?_
        have i18 : 0 ≤ (xi (E 1) 0).toInt ∧ (xi (E 1) 0).toInt ≤ 400 := hI0.iv 1 (mF 1 rfl) rfl (Nat.le_of_ble_eq_true rfl) rfl
        refine th_getL (ci := 1) (C := RX0) (T := TX0) (N := 11) (v := .int (xi (E 1) 0)) hx hb hts hinX0 hown hK hP hI 1 (mF 1 rfl) rfl rfl 0 (Nat.le_of_ble_eq_true rfl) (hts _ (vA_in _ _ (in_10 _ (zs16 (zs4 (zs4 (zs1 (zs1 (zs0))))))))) (fun _ h9 => h9) (th_v0L hKp hI0 1 (mF 1 rfl) rfl (Nat.le_of_ble_eq_true rfl) rfl rfl) dX12_told_135 ?_
        refine th_riL (va_runV (As := [.int (xi (E 1) 0)]) (rest := []) ⟨hx, hb, hml, hown, hts⟩ (q_swiftInX l dC dI cT cf hC ad E H.size (xi (E 1) 0) a0.toNatClampNeg hI (by omega) i18) (cwV 1 hts (gi_V (in_23 _ (zs16 (zs16 (zs4 (zs1 (zs0)))))) (in_15 _ (zs16 (zs4 (zs1 (zs1 (zs1 (zs0))))))) (in_15 _ (zs16 (zs4 (zs4 (zs0))))) (in_6 _ (zs16 (zs1 (zs0)))) (in_15 _ (zs16 (zs4 (zs4 (zs1 (zs0))))))) rfl rfl rfl (by decide +kernel) ⟨Nat.le_of_ble_eq_true rfl, Nat.le_of_ble_eq_true rfl⟩) ⟨HWL_bl, va_recv hK hP (ci := 6) (q0 := posL (64 * (a0.toNatClampNeg + 1) + 6) (LC cf)) rfl (hI.ob (64 * (a0.toNatClampNeg + 1) + 6) (mP 6 a0.toNatClampNeg (by decide) lv6 (kl_le hC 2 (by decide))) (shC_p 6 a0.toNatClampNeg (by decide))), (HWL_wiR hP hK (WL_D hD) hS hEV)⟩ rfl rfl hl.1 rfl (lv_room (Nat.le_of_ble_eq_true rfl)) dX12_told_138 ⟨Nat.le_of_ble_eq_true rfl, Nat.le_of_ble_eq_true rfl⟩) hS hP (fun r19 H locs hw hP hS => ?_)
        obtain ⟨f20, f21⟩ := hw
        rw [hQ]
        refine W.widen (k := 1) (n := 6) (by omega) (by omega) ?_
        refine vx_ret ?_
        exact W.iret (v := r19) hx hb hr (fun t ht hW => ⟨⟨r19, (), rfl, ⟨by omega, ⟨(fun q9 => by exfalso; omega), (fun q9 => by exfalso; omega), (fun q9 => by exfalso; omega), (fun q9 => by exfalso; omega), (fun q9 => by exfalso; omega), (fun q9 => by exfalso; omega), (fun q9 => by exfalso; omega), (fun _ => f21), (fun q9 => by exfalso; omega)⟩⟩, trivial⟩, hS.F ht⟩) hS.2.2 dX12_told_141
      · --8
        refine lv_tableIn (off := 104) (tgt := 142) hx hb dX12_told_38 (by omega) (by omega) (by rw [c7]; rfl) (by decide) ?_
        refine lv_aload_n hx hb dX12_told_142 rfl (lv_at hl 0 rfl) ?_
        have i22 : 0 ≤ (xi (E (64 * (a0.toNatClampNeg + 1) + 6)) 0).toInt ∧ (xi (E (64 * (a0.toNatClampNeg + 1) + 6)) 0).toInt ≤ 400 := hI0.iv (64 * (a0.toNatClampNeg + 1) + 6) (mP 6 a0.toNatClampNeg (by decide) lv6 (kl_le hC 2 (by decide))) (shC_p 6 a0.toNatClampNeg (by decide)) (Nat.le_of_ble_eq_true rfl) (spC_p 6 a0.toNatClampNeg (by decide) 0)
        refine th_getL (ci := 6) (C := RX5) (T := TX5) (N := 12) (v := .int (xi (E (64 * (a0.toNatClampNeg + 1) + 6)) 0)) hx hb hts hinX5 hown hK hP hI (64 * (a0.toNatClampNeg + 1) + 6) (mP 6 a0.toNatClampNeg (by decide) lv6 (kl_le hC 2 (by decide))) (shC_p 6 a0.toNatClampNeg (by decide)) rfl 0 (Nat.le_of_ble_eq_true rfl) (hts _ (vA_in _ _ (in_23 _ (zs16 (zs16 (zs1 (zs1 (zs1 (zs0))))))))) (fun _ h9 => h9) (th_v0L hKp hI0 (64 * (a0.toNatClampNeg + 1) + 6) (mP 6 a0.toNatClampNeg (by decide) lv6 (kl_le hC 2 (by decide))) (shC_p 6 a0.toNatClampNeg (by decide)) (Nat.le_of_ble_eq_true rfl) (spC_p 6 a0.toNatClampNeg (by decide) 0) (wl_p rfl rfl (by omega))) dX12_told_143 ?_
        rw [hQ]
        refine W.widen (k := 1) (n := 6) (by omega) (by omega) ?_
        refine vx_ret ?_
        exact W.iret (v := (xi (E (64 * (a0.toNatClampNeg + 1) + 6)) 0)) hx hb hr (fun t ht hW => ⟨⟨(xi (E (64 * (a0.toNatClampNeg + 1) + 6)) 0), (), rfl, ⟨by omega, ⟨(fun q9 => by exfalso; omega), (fun q9 => by exfalso; omega), (fun q9 => by exfalso; omega), (fun q9 => by exfalso; omega), (fun q9 => by exfalso; omega), (fun q9 => by exfalso; omega), (fun q9 => by exfalso; omega), (fun q9 => by exfalso; omega), (fun _ => rfl)⟩⟩, trivial⟩, hS.F ht⟩) hS.2.2 dX12_told_146
    · --8 not
      exact absurd c4 (by decide)
  · -- isRaceC, case 1
    obtain ⟨rfl, f23⟩ := hw
    refine lv_if_ne (tgt := 22) hx hb dX12_told_8 (by decide) (fun c24 => ?_) (fun c24 => ?_)
    · --8 taken
      exact absurd c24 (by decide)
    · --8 not
      rw [hQ]
      obtain ⟨hU9, hNn9, ⟨⟨sa1, hst1⟩, sa2, hst2⟩, hca, hd1, hd2, hd3⟩ := hEX
      exact ub_throw (text := "no such race") (ik := 292) (is := 294) (sa := sa1) (A := fun _ : Nat => False) hx hb hfl hown (hts _ (vA_in _ _ (in_23 _ (zs16 (zs4 (zs4 (zs1 (zs1 (zs1 (zs0)))))))))) (hts _ (vA_in _ _ (in_23 _ (zs16 (zs4 (zs4 (zs4 (zs0)))))))) hst1 (vx_hat (B := [.castable "java/util/NoSuchElementException" "java/util/NoSuchElementException", .declares ⟨"java/lang/RuntimeException", "<init>", "(Ljava/lang/String;)V"⟩, .declares ⟨"java/lang/Exception", "<init>", "(Ljava/lang/String;)V"⟩, .declares ⟨"java/lang/Throwable", "<init>", "(Ljava/lang/String;)V"⟩]) (fun w h => htx w (told_in2 w h)) (by decide +kernel) (vx_c (va_Nw.use rfl hca) (vx_c (va_Nw.use rfl hd1) (vx_c (va_Nw.use rfl hd2) (vx_c (va_Nw.use rfl hd3) vx_n))))) (by decide +kernel) hU9 hNn9 hS (by rw [hml]; exact hl.1) dX12_told_11 dX12_told_14 dX12_told_15 dX12_told_18 dX12_told_21 (fun x hx9 => (hexn x hx9).elim) (Nat.le_of_ble_eq_true rfl) (Nat.le_of_ble_eq_true rfl) (Nat.le_of_ble_eq_true rfl) (Nat.le_of_ble_eq_true rfl) hlocks (fun t h1 h2 h3 => ⟨(), (show ¬ ((0 ≤ a0.toInt ∧ a0.toInt < ((cf 2 : Nat) : Int)) ∧ (0 ≤ a1.toInt ∧ a1.toInt ≤ 8)) by omega), rfl, Nat.le_trans hS.1 h2, fun q q1 _ => by rw [h3 q (Nat.lt_of_lt_of_le q1 hS.1)]; exact hS.2.1 q q1 (fun hh => hh)⟩) hS.2.2 (Nat.le_refl _) (Nat.le_refl _)
set_option maxHeartbeats 4000000 in
set_option maxRecDepth 100000 in
theorem l_toldX (l : Launch) (hfl : l.stackTraces = false) (dC : Nat → ClassId) (dI : Nat → Nat → Nat) (cT : Nat → ClassId) (cf : Nat → Nat) (hC : CF cf) (ad : Nat → Nat) (E : Nat → va_E) (sz : Nat) (a0 a1 : Int32) (ou : Nat) (cL : ClassId) (f : Nat → Int64) (hI0 : IXL cT (shC cf) (spC cf) (LC cf) ad E) : Met l yL_told v_l_told ({ frames := 9, cells := 1, slots := 6, locals := 360 }) (va_Pc [.ref (ad 0), .int a0, .int a1, .ref ou] (fun U => U.heap.size = sz ∧ va_P (dC, dI) vwCl ((ou, .inl (cL, 1, .inr (.inl f))) :: WL (LC cf) ad E) U.heap ∧ va_K (dC, dI) vwCl ((cL, .long) :: TYC cT) U ∧ va_D (fun _ => True) ((ou, .inl (cL, 1, .inr (.inl f))) :: WL (LC cf) ad E) ∧ EVC (cf 6) (va_A ((ou, .inl (cL, 1, .inr (.inl f))) :: WL (LC cf) ad E) sz) U U.heap ∧ ub_EX (va_A ((ou, .inl (cL, 1, .inr (.inl f))) :: WL (LC cf) ad E) sz) U U.heap)) (va_Qi (S := Nat → Int64) (fun r f' => (r = 1 ∧ ¬ ((0 ≤ a0.toInt ∧ a0.toInt < ((cf 2 : Nat) : Int)) ∧ (0 ≤ a1.toInt ∧ a1.toInt ≤ 8))) ∨ (r = 0 ∧ ((0 ≤ a0.toInt ∧ a0.toInt < ((cf 2 : Nat) : Int)) ∧ (0 ≤ a1.toInt ∧ a1.toInt ≤ 8)) ∧ ∃ r' : Int32, f' 0 = r'.toInt64 ∧ ((a1.toInt = 0 → r'.toInt = (xi (E (64 * (a0.toNatClampNeg + 1) + 6)) 1).toInt) ∧ (a1.toInt = 1 → r'.toInt = (xi (E (64 * (a0.toNatClampNeg + 1) + 6)) 2).toInt) ∧ (a1.toInt = 2 → r'.toInt = (xi (E (64 * (a0.toNatClampNeg + 1) + 6)) 3).toInt) ∧ (a1.toInt = 3 → r'.toInt = (xi (E (64 * (a0.toNatClampNeg + 1) + 6)) 4).toInt) ∧ (a1.toInt = 4 → r'.toInt = (xi (E (64 * (a0.toNatClampNeg + 1) + 6)) 5).toInt) ∧ (a1.toInt = 5 → r'.toInt = (xi (E (64 * (a0.toNatClampNeg + 1) + 6)) 6).toInt) ∧ (a1.toInt = 6 → r'.toInt = (entC (xi (E (64 * (a0.toNatClampNeg + 1) + 7))) (xi (E 1) 0).toInt 16 : Int)) ∧ (a1.toInt = 7 → (∃ d9 : Nat, (xi (E (64 * (a0.toNatClampNeg + 1) + 6)) 0).toInt ≤ (d9 : Int) ∧ (d9 : Int) ≤ (xi (E 1) 0).toInt ∧ ¬ (xi (E (64 * (a0.toNatClampNeg + 1) + 11)) d9).toInt = 0 ∧ r' = xi (E (64 * (a0.toNatClampNeg + 1) + 11)) d9 ∧ ∀ d8 : Nat, (d9 : Int) < (d8 : Int) → (d8 : Int) ≤ (xi (E 1) 0).toInt → (xi (E (64 * (a0.toNatClampNeg + 1) + 11)) d8).toInt = 0) ∨ (r' = 2 ∧ ∀ d8 : Nat, (xi (E (64 * (a0.toNatClampNeg + 1) + 6)) 0).toInt ≤ (d8 : Int) → (d8 : Int) ≤ (xi (E 1) 0).toInt → (xi (E (64 * (a0.toNatClampNeg + 1) + 11)) d8).toInt = 0)) ∧ (a1.toInt = 8 → r'.toInt = (xi (E (64 * (a0.toNatClampNeg + 1) + 6)) 0).toInt)))) (fun f' t => va_P (dC, dI) vwCl ((ou, .inl (cL, 1, .inr (.inl f'))) :: WL (LC cf) ad E) t.heap ∧ va_D (va_A ((ou, .inl (cL, 1, .inr (.inl f))) :: WL (LC cf) ad E) sz) ((ou, .inl (cL, 1, .inr (.inl f'))) :: WL (LC cf) ad E)) (va_A ((ou, .inl (cL, 1, .inr (.inl f))) :: WL (LC cf) ad E) sz)) 1 6 (va_A ((ou, .inl (cL, 1, .inr (.inl f))) :: WL (LC cf) ad E) sz) := by
  refine va_MetW (cc := cL_told) (maxL := 5) (ret := some .int) (hh := [(0, 10, 13, 13)]) (by decide) rfl ?_
  intro p e s m args below meth c s₁ B hml hv
  obtain ⟨rfl, hsz, hP, hK, hD0, hEV, hEX⟩ := hv
  subst hsz
  have hx := B.exec
  have hb := B.bytes
  have hr := B.returns
  have hts := atoms_spec (ws := v_l_told) B.pre
  have hown : s.vm.findClass RL = some m.cls := findClass_of_methodNamed B.named
  have hlocks := B.notSynchronized
  generalize hAe : va_A ((ou, .inl (cL, 1, .inr (.inl f))) :: WL (LC cf) ad E) s.heap.size = A at hEV hEX ⊢
  have hA : ∀ q : Nat, s.heap.size ≤ q → A q := fun q h => by rw [← hAe]; exact Or.inr h
  have hD : va_D A ((ou, .inl (cL, 1, .inr (.inl f))) :: WL (LC cf) ad E) := by rw [← hAe]; exact hD0.self
  have hS : va_S A s.heap s.heap [] := va_S.rf
  have hl := lv_entry ([.ref (ad 0), .int a0, .int a1, .ref ou]) (n := 5) (Nat.le_of_ble_eq_true rfl)
  rw [lg_entry_eq]
  generalize (lg_sl ([.ref (ad 0), .int a0, .int a1, .ref ou]) ++ List.replicate (5 - (lg_sl ([.ref (ad 0), .int a0, .int a1, .ref ou])).length) Slot.unset).toArray = ls at hl ⊢
  have hct : c.exceptionTable.toList = [⟨0, 10, 13, 13⟩] := vx_table (x := yL_told) B (hts _ List.mem_cons_self)
  have hl : lv_has ls 5 [(0, .ref (ad 0)), (1, .int a0), (2, .int a1), (3, .ref ou)] := hl
  refine lv_aload_n hx hb dL_told_0 rfl (lv_at hl 3 rfl) ?_
  refine lv_iconst (v := 0) hx hb dL_told_1 (by decide) ?_
  refine lv_aload_n hx hb dL_told_2 rfl (lv_at hl 0 rfl) ?_
  refine lv_iload_n hx hb dL_told_3 rfl (lv_at hl 1 rfl) ?_
  refine lv_iload_n hx hb dL_told_4 rfl (lv_at hl 2 rfl) ?_
  have hPc : va_P (dC, dI) vwCl (WL (LC cf) ad E) s.heap := va_P_sub hP (fun x hx => List.mem_cons_of_mem _ hx)
  have hDc : va_D A (WL (LC cf) ad E) := va_D_right (w1 := [(ou, .inl (cL, 1, .inr (.inl f)))]) hD
  have hKc : va_K (dC, dI) vwCl (TYC cT) s := hK.sub (tys' := TYC cT) [1, 2, 3, 4] rfl
  have hFA : ∀ z, va_A (WL (LC cf) ad E) s.heap.size z → A z := fun z h => h.elim (fun ⟨k, e, hk⟩ => hDc.2 k _ hk) (fun h => hA z h)
  have hca := hEX.2.2.2.1
  refine vx_calli (vx_runV (As := [.int a0, .int a1]) (rest := [.int 0, .ref ou]) ⟨hx, hb, hml, hown, hts⟩ (q_u_toldX l hfl dC dI cT cf hC ad E s.heap.size a0 a1 hI0) (cwV 2 hts g_l_told rfl rfl rfl (by decide +kernel) ⟨Nat.le_of_ble_eq_true rfl, Nat.le_of_ble_eq_true rfl⟩) ⟨fun a U g mk q => ⟨(HWL_bl a U g mk ⟨q.1, q.2.1⟩).1, (HWL_bl a U g mk ⟨q.1, q.2.1⟩).2, ub_EX_c q.2.2⟩, va_recv hKc hPc (ci := 13) (q0 := posL 0 (LC cf)) rfl (hI0.ob 0 (mF 0 rfl) rfl), fun U hU hW => ⟨rfl, ((HWL_wi (av := []) hPc hKc hDc hS hA hEV) U hU hW).2, ub_EX_w hU hW hS (fun _ hh => hh.elim) hEX⟩⟩ rfl rfl hl.1 rfl (lv_room (Nat.le_of_ble_eq_true rfl)) dL_told_5 ⟨Nat.le_of_ble_eq_true rfl, Nat.le_of_ble_eq_true rfl⟩) hS (fun _ _ h => h.elim) (fun _ h => h.elim) (fun _ _ h => h.elim) (fun E1 ce q9 u t H1 locs hth hvm hpx hBX hz1 hk1 hS hce hcv hcl => ?_) (fun r u t H1 locs hth hvm hw hB hz1 hk1 hS => ?_)
  · obtain rfl : "java/util/NoSuchElementException" = E1 := hBX.symm
    refine vx_catch (name := "java/util/NoSuchElementException") hown [] ⟨0, 10, 13, 13⟩ [] hct (fun _ hh => nomatch hh) (by decide) (by decide) (hts (.classLink RL 13 "java/util/NoSuchElementException") (ltold_in _ (List.mem_of_getElem? (i := 0) rfl))) (va_Nw.use rfl hca) hce hcv hcl ?_
    have hP := ub_keep hP hk1
    generalize H1 = H at hP hS ⊢
    refine W.widen (k := 1) (n := 6) (by omega) (by omega) ?_
    refine lv_astore (lv' := [(4, .ref q9), (0, .ref (ad 0)), (1, .int a0), (2, .int a1), (3, .ref ou)]) hx hb dL_told_13 hl (by decide) rfl (fun ls hl => ?_)
    refine lv_iconst (v := 1) hx hb dL_told_15 (by decide) ?_
    exact W.iret (v := (1)) hx hb hr (fun t ht hW => ⟨⟨(1), f, rfl, Or.inl ⟨rfl, hpx⟩, by rw [ht]; exact hP, hD⟩, hS.F ht⟩) hS.2.2 dL_told_16
  · have hP := ub_keep hP hk1
    generalize H1 = H at hP hS ⊢
    refine W.widen (k := 1) (n := 6) (by omega) (by omega) ?_
    refine lv_i2l hx hb dL_told_8 rfl ?_
    refine va_last hx hb hK hP hD hS 0 0 rfl rfl (vp_in_nI (n := 0) (N := 1) (by decide) (by decide)) dL_told_9 (fun H locs hP hD hS => ?_)
    refine lv_goto (tgt := 17) hx hb dL_told_10 rfl ?_
    refine lv_iconst (v := 0) hx hb dL_told_17 (by decide) ?_
    exact W.iret (v := (0)) hx hb hr (fun t ht hW => ⟨⟨(0), _, rfl, Or.inr ⟨rfl, hw.1, r, if_pos (by decide), hw.2⟩, by rw [ht]; exact hP, hD⟩, hS.F ht⟩) hS.2.2 dL_told_18

