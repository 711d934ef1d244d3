set_option maxRecDepth 100000 in
theorem zh_dX12_told_0_0 : zc cX12_told 0 [42, 180, 0, 10, 27, 182, 0, 135, 154, 0, 14, 187, 1, 36, 89, 19] = true := by decide +kernel
set_option maxRecDepth 100000 in
theorem zh_dX12_told_15_16 : zc cX12_told 16 [1, 38, 183, 1, 40, 191, 42, 180, 0, 10, 180, 0, 127, 27, 182, 0] = true := by decide +kernel
set_option maxRecDepth 100000 in
theorem zh_dX12_told_30_32 : zc cX12_told 32 [138, 192, 0, 130, 78, 28, 170, 0, 0, 0, 0, 109, 0, 0, 0, 0] = true := by decide +kernel
set_option maxRecDepth 100000 in
theorem zh_dX12_told_88_80 : zc cX12_told 80 [0, 0, 0, 92, 0, 0, 0, 104, 45, 180, 1, 43, 172, 45, 180, 1] = true := by decide +kernel
set_option maxRecDepth 100000 in
theorem zh_dX12_told_94_96 : zc cX12_told 96 [46, 172, 45, 180, 1, 49, 172, 45, 180, 1, 52, 172, 45, 180, 1, 55] = true := by decide +kernel
set_option maxRecDepth 100000 in
theorem zh_dX12_told_112_112 : zc cX12_told 112 [172, 45, 180, 1, 58, 172, 45, 42, 180, 0, 10, 180, 0, 55, 182, 1] = true := by decide +kernel
set_option maxRecDepth 100000 in
theorem zh_dX12_told_126_128 : zc cX12_told 128 [61, 172, 45, 42, 180, 0, 10, 180, 0, 55, 182, 1, 64, 172, 45, 180] = true := by decide +kernel
set_option maxRecDepth 100000 in
theorem zh_dX12_told_143_144 : zc cX12_told 144 [1, 67, 172, 187, 1, 36, 89, 19, 1, 70, 183, 1, 40, 191] = true := by decide +kernel
set_option maxRecDepth 100000 in
theorem zh_dL_told_0_0 : zc cL_told 0 [45, 3, 42, 27, 28, 182, 0, 7, 133, 80, 167, 0, 7, 58, 4, 4] = true := by decide +kernel
set_option maxRecDepth 100000 in
theorem zh_dL_told_16_16 : zc cL_told 16 [172, 3, 172] = true := by decide +kernel
theorem dX12_told_0 : decode cX12_told 0 = .ok (.aload_n 0, 1) := zo_42 (zi_at zh_dX12_told_0_0 0 rfl)
theorem dX12_told_1 : decode cX12_told 1 = .ok (.getfield 10, 3) := zo_180 (zi_at zh_dX12_told_0_0 1 rfl) (zi_at zh_dX12_told_0_0 2 rfl) (zi_at zh_dX12_told_0_0 3 rfl) rfl
theorem dX12_told_4 : decode cX12_told 4 = .ok (.iload_n 1, 1) := zo_27 (zi_at zh_dX12_told_0_0 4 rfl)
theorem dX12_told_5 : decode cX12_told 5 = .ok (.invokevirtual 135, 3) := zo_182 (zi_at zh_dX12_told_0_0 5 rfl) (zi_at zh_dX12_told_0_0 6 rfl) (zi_at zh_dX12_told_0_0 7 rfl) rfl
theorem dX12_told_8 : decode cX12_told 8 = .ok (.ifCond .ne 14, 3) := zo_154 (zi_at zh_dX12_told_0_0 8 rfl) (zi_at zh_dX12_told_0_0 9 rfl) (zi_at zh_dX12_told_0_0 10 rfl) rfl
theorem dX12_told_11 : decode cX12_told 11 = .ok (.new 292, 3) := zo_187 (zi_at zh_dX12_told_0_0 11 rfl) (zi_at zh_dX12_told_0_0 12 rfl) (zi_at zh_dX12_told_0_0 13 rfl) rfl
theorem dX12_told_14 : decode cX12_told 14 = .ok (.dup, 1) := zo_89 (zi_at zh_dX12_told_0_0 14 rfl)
theorem dX12_told_15 : decode cX12_told 15 = .ok (.ldc_w 294, 3) := zo_19 (zi_at zh_dX12_told_0_0 15 rfl) (zi_at zh_dX12_told_15_16 0 rfl) (zi_at zh_dX12_told_15_16 1 rfl) rfl
theorem dX12_told_18 : decode cX12_told 18 = .ok (.invokespecial 296, 3) := zo_183 (zi_at zh_dX12_told_15_16 2 rfl) (zi_at zh_dX12_told_15_16 3 rfl) (zi_at zh_dX12_told_15_16 4 rfl) rfl
theorem dX12_told_21 : decode cX12_told 21 = .ok (.athrow, 1) := zo_191 (zi_at zh_dX12_told_15_16 5 rfl)
theorem dX12_told_22 : decode cX12_told 22 = .ok (.aload_n 0, 1) := zo_42 (zi_at zh_dX12_told_15_16 6 rfl)
theorem dX12_told_23 : decode cX12_told 23 = .ok (.getfield 10, 3) := zo_180 (zi_at zh_dX12_told_15_16 7 rfl) (zi_at zh_dX12_told_15_16 8 rfl) (zi_at zh_dX12_told_15_16 9 rfl) rfl
theorem dX12_told_26 : decode cX12_told 26 = .ok (.getfield 127, 3) := zo_180 (zi_at zh_dX12_told_15_16 10 rfl) (zi_at zh_dX12_told_15_16 11 rfl) (zi_at zh_dX12_told_15_16 12 rfl) rfl
theorem dX12_told_29 : decode cX12_told 29 = .ok (.iload_n 1, 1) := zo_27 (zi_at zh_dX12_told_15_16 13 rfl)
theorem dX12_told_30 : decode cX12_told 30 = .ok (.invokevirtual 138, 3) := zo_182 (zi_at zh_dX12_told_15_16 14 rfl) (zi_at zh_dX12_told_15_16 15 rfl) (zi_at zh_dX12_told_30_32 0 rfl) rfl
theorem dX12_told_33 : decode cX12_told 33 = .ok (.checkcast 130, 3) := zo_192 (zi_at zh_dX12_told_30_32 1 rfl) (zi_at zh_dX12_told_30_32 2 rfl) (zi_at zh_dX12_told_30_32 3 rfl) rfl
theorem dX12_told_36 : decode cX12_told 36 = .ok (.astore_n 3, 1) := zo_78 (zi_at zh_dX12_told_30_32 4 rfl)
theorem dX12_told_37 : decode cX12_told 37 = .ok (.iload_n 2, 1) := zo_28 (zi_at zh_dX12_told_30_32 5 rfl)
theorem dX12_told_38 : decode cX12_told 38 = .ok (.tableswitch 109 0 8 #[50, 55, 60, 65, 70, 75, 80, 92, 104], 50) := by decide +kernel
theorem dX12_told_88 : decode cX12_told 88 = .ok (.aload_n 3, 1) := zo_45 (zi_at zh_dX12_told_88_80 8 rfl)
theorem dX12_told_89 : decode cX12_told 89 = .ok (.getfield 299, 3) := zo_180 (zi_at zh_dX12_told_88_80 9 rfl) (zi_at zh_dX12_told_88_80 10 rfl) (zi_at zh_dX12_told_88_80 11 rfl) rfl
theorem dX12_told_92 : decode cX12_told 92 = .ok (.ireturn, 1) := zo_172 (zi_at zh_dX12_told_88_80 12 rfl)
theorem dX12_told_93 : decode cX12_told 93 = .ok (.aload_n 3, 1) := zo_45 (zi_at zh_dX12_told_88_80 13 rfl)
theorem dX12_told_94 : decode cX12_told 94 = .ok (.getfield 302, 3) := zo_180 (zi_at zh_dX12_told_88_80 14 rfl) (zi_at zh_dX12_told_88_80 15 rfl) (zi_at zh_dX12_told_94_96 0 rfl) rfl
theorem dX12_told_97 : decode cX12_told 97 = .ok (.ireturn, 1) := zo_172 (zi_at zh_dX12_told_94_96 1 rfl)
theorem dX12_told_98 : decode cX12_told 98 = .ok (.aload_n 3, 1) := zo_45 (zi_at zh_dX12_told_94_96 2 rfl)
theorem dX12_told_99 : decode cX12_told 99 = .ok (.getfield 305, 3) := zo_180 (zi_at zh_dX12_told_94_96 3 rfl) (zi_at zh_dX12_told_94_96 4 rfl) (zi_at zh_dX12_told_94_96 5 rfl) rfl
theorem dX12_told_102 : decode cX12_told 102 = .ok (.ireturn, 1) := zo_172 (zi_at zh_dX12_told_94_96 6 rfl)
theorem dX12_told_103 : decode cX12_told 103 = .ok (.aload_n 3, 1) := zo_45 (zi_at zh_dX12_told_94_96 7 rfl)
theorem dX12_told_104 : decode cX12_told 104 = .ok (.getfield 308, 3) := zo_180 (zi_at zh_dX12_told_94_96 8 rfl) (zi_at zh_dX12_told_94_96 9 rfl) (zi_at zh_dX12_told_94_96 10 rfl) rfl
theorem dX12_told_107 : decode cX12_told 107 = .ok (.ireturn, 1) := zo_172 (zi_at zh_dX12_told_94_96 11 rfl)
theorem dX12_told_108 : decode cX12_told 108 = .ok (.aload_n 3, 1) := zo_45 (zi_at zh_dX12_told_94_96 12 rfl)
theorem dX12_told_109 : decode cX12_told 109 = .ok (.getfield 311, 3) := zo_180 (zi_at zh_dX12_told_94_96 13 rfl) (zi_at zh_dX12_told_94_96 14 rfl) (zi_at zh_dX12_told_94_96 15 rfl) rfl
theorem dX12_told_112 : decode cX12_told 112 = .ok (.ireturn, 1) := zo_172 (zi_at zh_dX12_told_112_112 0 rfl)
theorem dX12_told_113 : decode cX12_told 113 = .ok (.aload_n 3, 1) := zo_45 (zi_at zh_dX12_told_112_112 1 rfl)
theorem dX12_told_114 : decode cX12_told 114 = .ok (.getfield 314, 3) := zo_180 (zi_at zh_dX12_told_112_112 2 rfl) (zi_at zh_dX12_told_112_112 3 rfl) (zi_at zh_dX12_told_112_112 4 rfl) rfl
theorem dX12_told_117 : decode cX12_told 117 = .ok (.ireturn, 1) := zo_172 (zi_at zh_dX12_told_112_112 5 rfl)
theorem dX12_told_118 : decode cX12_told 118 = .ok (.aload_n 3, 1) := zo_45 (zi_at zh_dX12_told_112_112 6 rfl)
theorem dX12_told_119 : decode cX12_told 119 = .ok (.aload_n 0, 1) := zo_42 (zi_at zh_dX12_told_112_112 7 rfl)
theorem dX12_told_120 : decode cX12_told 120 = .ok (.getfield 10, 3) := zo_180 (zi_at zh_dX12_told_112_112 8 rfl) (zi_at zh_dX12_told_112_112 9 rfl) (zi_at zh_dX12_told_112_112 10 rfl) rfl
theorem dX12_told_123 : decode cX12_told 123 = .ok (.getfield 55, 3) := zo_180 (zi_at zh_dX12_told_112_112 11 rfl) (zi_at zh_dX12_told_112_112 12 rfl) (zi_at zh_dX12_told_112_112 13 rfl) rfl
theorem dX12_told_126 : decode cX12_told 126 = .ok (.invokevirtual 317, 3) := zo_182 (zi_at zh_dX12_told_112_112 14 rfl) (zi_at zh_dX12_told_112_112 15 rfl) (zi_at zh_dX12_told_126_128 0 rfl) rfl
theorem dX12_told_129 : decode cX12_told 129 = .ok (.ireturn, 1) := zo_172 (zi_at zh_dX12_told_126_128 1 rfl)
theorem dX12_told_130 : decode cX12_told 130 = .ok (.aload_n 3, 1) := zo_45 (zi_at zh_dX12_told_126_128 2 rfl)
theorem dX12_told_131 : decode cX12_told 131 = .ok (.aload_n 0, 1) := zo_42 (zi_at zh_dX12_told_126_128 3 rfl)
theorem dX12_told_132 : decode cX12_told 132 = .ok (.getfield 10, 3) := zo_180 (zi_at zh_dX12_told_126_128 4 rfl) (zi_at zh_dX12_told_126_128 5 rfl) (zi_at zh_dX12_told_126_128 6 rfl) rfl
theorem dX12_told_135 : decode cX12_told 135 = .ok (.getfield 55, 3) := zo_180 (zi_at zh_dX12_told_126_128 7 rfl) (zi_at zh_dX12_told_126_128 8 rfl) (zi_at zh_dX12_told_126_128 9 rfl) rfl
theorem dX12_told_138 : decode cX12_told 138 = .ok (.invokevirtual 320, 3) := zo_182 (zi_at zh_dX12_told_126_128 10 rfl) (zi_at zh_dX12_told_126_128 11 rfl) (zi_at zh_dX12_told_126_128 12 rfl) rfl
theorem dX12_told_141 : decode cX12_told 141 = .ok (.ireturn, 1) := zo_172 (zi_at zh_dX12_told_126_128 13 rfl)
theorem dX12_told_142 : decode cX12_told 142 = .ok (.aload_n 3, 1) := zo_45 (zi_at zh_dX12_told_126_128 14 rfl)
theorem dX12_told_143 : decode cX12_told 143 = .ok (.getfield 323, 3) := zo_180 (zi_at zh_dX12_told_126_128 15 rfl) (zi_at zh_dX12_told_143_144 0 rfl) (zi_at zh_dX12_told_143_144 1 rfl) rfl
theorem dX12_told_146 : decode cX12_told 146 = .ok (.ireturn, 1) := zo_172 (zi_at zh_dX12_told_143_144 2 rfl)
theorem dX12_told_147 : decode cX12_told 147 = .ok (.new 292, 3) := zo_187 (zi_at zh_dX12_told_143_144 3 rfl) (zi_at zh_dX12_told_143_144 4 rfl) (zi_at zh_dX12_told_143_144 5 rfl) rfl
theorem dX12_told_150 : decode cX12_told 150 = .ok (.dup, 1) := zo_89 (zi_at zh_dX12_told_143_144 6 rfl)
theorem dX12_told_151 : decode cX12_told 151 = .ok (.ldc_w 326, 3) := zo_19 (zi_at zh_dX12_told_143_144 7 rfl) (zi_at zh_dX12_told_143_144 8 rfl) (zi_at zh_dX12_told_143_144 9 rfl) rfl
theorem dX12_told_154 : decode cX12_told 154 = .ok (.invokespecial 296, 3) := zo_183 (zi_at zh_dX12_told_143_144 10 rfl) (zi_at zh_dX12_told_143_144 11 rfl) (zi_at zh_dX12_told_143_144 12 rfl) rfl
theorem dX12_told_157 : decode cX12_told 157 = .ok (.athrow, 1) := zo_191 (zi_at zh_dX12_told_143_144 13 rfl)
theorem dL_told_0 : decode cL_told 0 = .ok (.aload_n 3, 1) := zo_45 (zi_at zh_dL_told_0_0 0 rfl)
theorem dL_told_1 : decode cL_told 1 = .ok (.iconst 0, 1) := zo_3 (zi_at zh_dL_told_0_0 1 rfl)
theorem dL_told_2 : decode cL_told 2 = .ok (.aload_n 0, 1) := zo_42 (zi_at zh_dL_told_0_0 2 rfl)
theorem dL_told_3 : decode cL_told 3 = .ok (.iload_n 1, 1) := zo_27 (zi_at zh_dL_told_0_0 3 rfl)
theorem dL_told_4 : decode cL_told 4 = .ok (.iload_n 2, 1) := zo_28 (zi_at zh_dL_told_0_0 4 rfl)
theorem dL_told_5 : decode cL_told 5 = .ok (.invokevirtual 7, 3) := zo_182 (zi_at zh_dL_told_0_0 5 rfl) (zi_at zh_dL_told_0_0 6 rfl) (zi_at zh_dL_told_0_0 7 rfl) rfl
theorem dL_told_8 : decode cL_told 8 = .ok (.i2l, 1) := zo_133 (zi_at zh_dL_told_0_0 8 rfl)
theorem dL_told_9 : decode cL_told 9 = .ok (.lastore, 1) := zo_80 (zi_at zh_dL_told_0_0 9 rfl)
theorem dL_told_10 : decode cL_told 10 = .ok (.goto 7, 3) := zo_167 (zi_at zh_dL_told_0_0 10 rfl) (zi_at zh_dL_told_0_0 11 rfl) (zi_at zh_dL_told_0_0 12 rfl) rfl
theorem dL_told_13 : decode cL_told 13 = .ok (.astore 4, 2) := zo_58 (zi_at zh_dL_told_0_0 13 rfl) (zi_at zh_dL_told_0_0 14 rfl)
theorem dL_told_15 : decode cL_told 15 = .ok (.iconst 1, 1) := zo_4 (zi_at zh_dL_told_0_0 15 rfl)
theorem dL_told_16 : decode cL_told 16 = .ok (.ireturn, 1) := zo_172 (zi_at zh_dL_told_16_16 0 rfl)
theorem dL_told_17 : decode cL_told 17 = .ok (.iconst 0, 1) := zo_3 (zi_at zh_dL_told_16_16 1 rfl)
theorem dL_told_18 : decode cL_told 18 = .ok (.ireturn, 1) := zo_172 (zi_at zh_dL_told_16_16 2 rfl)
theorem hz_yX5_enteredIn_1 : yX5_enteredIn.cls ≠ "java/lang/invoke/MethodHandle" ∧ yX5_enteredIn.cls ≠ "java/lang/invoke/VarHandle" ∧ (parseMethodDescriptor yX5_enteredIn.desc).map (fun d => d.parameters.length) = some 1 := by decide +kernel
theorem hz_yX12_told_2 : yX12_told.cls ≠ "java/lang/invoke/MethodHandle" ∧ yX12_told.cls ≠ "java/lang/invoke/VarHandle" ∧ (parseMethodDescriptor yX12_told.desc).map (fun d => d.parameters.length) = some 2 := by decide +kernel

abbrev XCn (P : Prop) : String → State → State → Prop := vx_X (S := Unit) (fun _ => P) (fun E _ _ => E = "java/util/NoSuchElementException") (fun _ => False)
set_option maxHeartbeats 4000000 in
set_option maxRecDepth 100000 in
theorem q_u_toldX (l : Launch) (hfl : l.stackTraces = false) (dC : Nat → ClassId) (dI : Nat → Nat → Nat) (cT : Nat → ClassId) (cf : Nat → Nat) (hC : CF cf) (ad : Nat → Nat) (E : Nat → va_E) (sz : Nat) (a0 : Int32) (a1 : Int32) (hI0 : IXL cT (shC cf) (spC cf) (LC cf) ad E)  : vx_Met l yX12_told v_u_told ({ frames := 8, cells := 1, slots := 6, locals := 320 }) (va_Pc [.ref (ad 0), .int a0, .int a1] (fun U => (HWL dC dI (TYC cT) cf ad E sz) U ∧ ub_EX (fun _ => False) U U.heap)) (va_Qi (S := Unit) (fun r _ => ((0 ≤ a0.toInt ∧ a0.toInt < ((cf 2 : Nat) : Int)) ∧ (0 ≤ a1.toInt ∧ a1.toInt ≤ 8)) ∧ ((a1.toInt = 0 → r.toInt = (xi (E (64 * (a0.toNatClampNeg + 1) + 6)) 1).toInt) ∧ (a1.toInt = 1 → r.toInt = (xi (E (64 * (a0.toNatClampNeg + 1) + 6)) 2).toInt) ∧ (a1.toInt = 2 → r.toInt = (xi (E (64 * (a0.toNatClampNeg + 1) + 6)) 3).toInt) ∧ (a1.toInt = 3 → r.toInt = (xi (E (64 * (a0.toNatClampNeg + 1) + 6)) 4).toInt) ∧ (a1.toInt = 4 → r.toInt = (xi (E (64 * (a0.toNatClampNeg + 1) + 6)) 5).toInt) ∧ (a1.toInt = 5 → r.toInt = (xi (E (64 * (a0.toNatClampNeg + 1) + 6)) 6).toInt) ∧ (a1.toInt = 6 → r.toInt = (entC (xi (E (64 * (a0.toNatClampNeg + 1) + 7))) (xi (E 1) 0).toInt 16 : Int)) ∧ (a1.toInt = 7 → (∃ d9 : Nat, (xi (E (64 * (a0.toNatClampNeg + 1) + 6)) 0).toInt ≤ (d9 : Int) ∧ (d9 : Int) ≤ (xi (E 1) 0).toInt ∧ ¬ (xi (E (64 * (a0.toNatClampNeg + 1) + 11)) d9).toInt = 0 ∧ r = xi (E (64 * (a0.toNatClampNeg + 1) + 11)) d9 ∧ ∀ d8 : Nat, (d9 : Int) < (d8 : Int) → (d8 : Int) ≤ (xi (E 1) 0).toInt → (xi (E (64 * (a0.toNatClampNeg + 1) + 11)) d8).toInt = 0) ∨ (r = 2 ∧ ∀ d8 : Nat, (xi (E (64 * (a0.toNatClampNeg + 1) + 6)) 0).toInt ≤ (d8 : Int) → (d8 : Int) ≤ (xi (E 1) 0).toInt → (xi (E (64 * (a0.toNatClampNeg + 1) + 11)) d8).toInt = 0)) ∧ (a1.toInt = 8 → r.toInt = (xi (E (64 * (a0.toNatClampNeg + 1) + 6)) 0).toInt))) (fun _ _ => True) (fun _ => False)) (XCn (¬ ((0 ≤ a0.toInt ∧ a0.toInt < ((cf 2 : Nat) : Int)) ∧ (0 ≤ a1.toInt ∧ a1.toInt ≤ 8)))) 1 6 (fun _ => False) := by
  obtain ⟨⟨hc0, hc1, hc2, hc3, hc4, hc5⟩, hcr⟩ := id hC
  refine vx_ofW (cc := cX12_told) (maxL := 4) (ret := (some .int)) (by decide) rfl ?_
  intro p e s m args below meth c s₁ B hml hexn hv
  obtain ⟨hargs, ⟨hsz, hP, hK, hD0, hEV⟩, hEX⟩ := hv
  subst hsz
  have hx := B.exec
  have hb := B.bytes
  have hr := B.returns
  have htx := atoms_spec (ws := v_u_told) B.pre
  have hts := fun w (h : w ∈ (.code yX12_told cX12_told 4 (some .int) :: vA)) => htx w (told_in1 w h)
  have hown : s.vm.findClass RX12 = some m.cls := findClass_of_methodNamed B.named
  have hlocks := B.notSynchronized
  have hinX0 : ∀ w ∈ u_ws RX0 TX0 11, w ∈ (.code yX12_told cX12_told 4 (some .int) :: vA) := fun w h => vA_in _ w (in_X0 w h)
  have hinX12 : ∀ w ∈ u_ws RX12 TX12 6, w ∈ (.code yX12_told cX12_told 4 (some .int) :: vA) := fun w h => vA_in _ w (in_X12 w h)
  have hinX5 : ∀ w ∈ u_ws RX5 TX5 12, w ∈ (.code yX12_told cX12_told 4 (some .int) :: vA) := fun w h => vA_in _ w (in_X5 w h)
  have hS : va_S (fun _ : Nat => False) s.heap s.heap [] := va_S.rf
  have hD := hD0
  have hI := hI0
  have hKp : Kp (wl [] []) E E := Kp.rf
  have hl := lv_entry ([.ref (ad 0), .int a0, .int a1]) (n := 4) (Nat.le_of_ble_eq_true rfl)
  obtain ⟨Q, hQ⟩ : ∃ Q, Q = vx_MQ below (va_Qi (S := Unit) (fun r _ => ((0 ≤ a0.toInt ∧ a0.toInt < ((cf 2 : Nat) : Int)) ∧ (0 ≤ a1.toInt ∧ a1.toInt ≤ 8)) ∧ ((a1.toInt = 0 → r.toInt = (xi (E (64 * (a0.toNatClampNeg + 1) + 6)) 1).toInt) ∧ (a1.toInt = 1 → r.toInt = (xi (E (64 * (a0.toNatClampNeg + 1) + 6)) 2).toInt) ∧ (a1.toInt = 2 → r.toInt = (xi (E (64 * (a0.toNatClampNeg + 1) + 6)) 3).toInt) ∧ (a1.toInt = 3 → r.toInt = (xi (E (64 * (a0.toNatClampNeg + 1) + 6)) 4).toInt) ∧ (a1.toInt = 4 → r.toInt = (xi (E (64 * (a0.toNatClampNeg + 1) + 6)) 5).toInt) ∧ (a1.toInt = 5 → r.toInt = (xi (E (64 * (a0.toNatClampNeg + 1) + 6)) 6).toInt) ∧ (a1.toInt = 6 → r.toInt = (entC (xi (E (64 * (a0.toNatClampNeg + 1) + 7))) (xi (E 1) 0).toInt 16 : Int)) ∧ (a1.toInt = 7 → (∃ d9 : Nat, (xi (E (64 * (a0.toNatClampNeg + 1) + 6)) 0).toInt ≤ (d9 : Int) ∧ (d9 : Int) ≤ (xi (E 1) 0).toInt ∧ ¬ (xi (E (64 * (a0.toNatClampNeg + 1) + 11)) d9).toInt = 0 ∧ r = xi (E (64 * (a0.toNatClampNeg + 1) + 11)) d9 ∧ ∀ d8 : Nat, (d9 : Int) < (d8 : Int) → (d8 : Int) ≤ (xi (E 1) 0).toInt → (xi (E (64 * (a0.toNatClampNeg + 1) + 11)) d8).toInt = 0) ∨ (r = 2 ∧ ∀ d8 : Nat, (xi (E (64 * (a0.toNatClampNeg + 1) + 6)) 0).toInt ≤ (d8 : Int) → (d8 : Int) ≤ (xi (E 1) 0).toInt → (xi (E (64 * (a0.toNatClampNeg + 1) + 11)) d8).toInt = 0)) ∧ (a1.toInt = 8 → r.toInt = (xi (E (64 * (a0.toNatClampNeg + 1) + 6)) 0).toInt))) (fun _ _ => True) (fun _ => False)) (XCn (¬ ((0 ≤ a0.toInt ∧ a0.toInt < ((cf 2 : Nat) : Int)) ∧ (0 ≤ a1.toInt ∧ a1.toInt ≤ 8)))) args s 1 6 (fun _ => False) := ⟨_, rfl⟩
  rw [← hQ, show entryFrame m args 4 = _ from (congrArg (fun z => entryFrame m z 4) hargs).trans (lg_entry_eq _ _ _)]
  generalize (lg_sl ([.ref (ad 0), .int a0, .int a1]) ++ List.replicate (4 - (lg_sl ([.ref (ad 0), .int a0, .int a1])).length) Slot.unset).toArray = ls at hl ⊢
  have hl : lv_has ls 4 [(0, .ref (ad 0)), (1, .int a0), (2, .int a1)] := hl
  refine lv_aload_n hx hb dX12_told_0 rfl (lv_at hl 0 rfl) ?_
  refine th_getL (ci := 13) (C := RX12) (T := TX12) (N := 6) (v := .ref (ad 1)) hx hb hts hinX12 hown hK hP hI 0 (mF 0 rfl) rfl rfl 0 (Nat.le_of_ble_eq_true rfl) (hts _ (vA_in _ _ (in_10 _ (zs16 (zs1 (zs0)))))) (fun _ h9 => h9) (hI.fr 0 (mF 0 rfl) rfl (Nat.le_of_ble_eq_true rfl) 1 rfl) dX12_told_1 ?_
  refine lv_iload_n hx hb dX12_told_4 rfl (lv_at hl 1 rfl) ?_
  refine th_riL (va_runV (As := [.int a0]) (rest := []) ⟨hx, hb, hml, hown, hts⟩ (q_isRaceC l dC dI cT cf hC ad E s.heap.size a0 hI) (cwV 1 hts (gi_V (in_18 _ zs0) (in_6 _ (zs4 (zs1 (zs1 (zs1 (zs0)))))) (in_6 _ (zs4 (zs4 (zs0)))) (in_5 _ (zs4 (zs1 (zs1 (zs0))))) (in_6 _ (zs4 (zs4 (zs1 (zs0)))))) rfl rfl rfl ⟨rfl, hz_yX0_isRace_1⟩ ⟨Nat.le_of_ble_eq_true rfl, Nat.le_of_ble_eq_true rfl⟩) ⟨HWL_bl, va_recv hK hP (ci := 1) (q0 := posL 1 (LC cf)) rfl (hI.ob 1 (mF 1 rfl) rfl), (HWL_wiR hP hK (WL_D hD) hS hEV)⟩ rfl rfl hl.1 rfl (lv_room (Nat.le_of_ble_eq_true rfl)) dX12_told_5 ⟨Nat.le_of_ble_eq_true rfl, Nat.le_of_ble_eq_true rfl⟩) hS hP (fun r1 H locs hw hP hS => ?_)
  rcases hw with hw | hw
  · -- isRaceC, case 0
    obtain ⟨rfl, f2, f3⟩ := hw
    refine lv_if_ne (tgt := 22) hx hb dX12_told_8 (by decide) (fun c4 => ?_) (fun c4 => ?_)
    · --8 taken
      refine lv_aload_n hx hb dX12_told_22 rfl (lv_at hl 0 rfl) ?_
      refine th_getL (ci := 13) (C := RX12) (T := TX12) (N := 6) (v := .ref (ad 1)) hx hb hts hinX12 hown hK hP hI 0 (mF 0 rfl) rfl rfl 0 (Nat.le_of_ble_eq_true rfl) (hts _ (vA_in _ _ (in_10 _ (zs16 (zs1 (zs0)))))) (fun _ h9 => h9) (hI.fr 0 (mF 0 rfl) rfl (Nat.le_of_ble_eq_true rfl) 1 rfl) dX12_told_23 ?_
      refine th_getL (ci := 1) (C := RX0) (T := TX0) (N := 11) (v := .ref (ad 9)) hx hb hts hinX0 hown hK hP hI 1 (mF 1 rfl) rfl rfl 5 (Nat.le_of_ble_eq_true rfl) (hts _ (vA_in _ _ (in_14 _ (zs4 (zs1 (zs1 (zs1 (zs0)))))))) (fun _ h9 => h9) (hI.fr 1 (mF 1 rfl) rfl (Nat.le_of_ble_eq_true rfl) 9 rfl) dX12_told_26 ?_
      refine lv_iload_n hx hb dX12_told_29 rfl (lv_at hl 1 rfl) ?_
      refine th_rrL (va_runV (As := [.int a0]) (rest := []) ⟨hx, hb, hml, hown, hts⟩ (q_get2 l dC dI cT cf hC ad E H.size a0 hI (by omega)) (cwV 1 hts (gi_V (in_14 _ (zs16 (zs4 (zs4 (zs0))))) (in_4 _ (zs16 (zs16 (zs4 (zs1 (zs1 (zs0))))))) (in_4 _ (zs16 (zs16 (zs4 (zs1 (zs1 (zs1 (zs0)))))))) (in_3 _ (zs16 (zs1 (zs1 (zs0))))) (in_3 _ (zs16 (zs16 (zs4 (zs1 (zs1 (zs1 (zs0))))))))) rfl rfl rfl ⟨rfl, hz_yJx4a65c_get_915e3_1⟩ ⟨Nat.le_of_ble_eq_true rfl, Nat.le_of_ble_eq_true rfl⟩) ⟨HWL_bl, va_recv hK hP (ci := 0) (q0 := posL 9 (LC cf)) rfl (hI.ob 9 (mF 9 rfl) rfl), (HWL_wiR hP hK (WL_D hD) hS hEV)⟩ rfl rfl hl.1 rfl (lv_room (Nat.le_of_ble_eq_true rfl)) dX12_told_30 ⟨Nat.le_of_ble_eq_true rfl, Nat.le_of_ble_eq_true rfl⟩) hS hP (fun r5 H locs hw hP hS => ?_)
      obtain rfl := hw
      have lv6 : a0.toNatClampNeg < cf 2 := by rw [tn_]; omega
      refine va_castS (cC := dC 6) hx hb hown (hts _ (vA_in _ _ (in_17 _ (zs16 (zs16 (zs4 (zs1 (zs1 (zs0))))))))) (hK.1 6 _ rfl).2 (va_recv hK hP (ci := 6) (q0 := posL (64 * (a0.toNatClampNeg + 1) + 6) (LC cf)) rfl (hI.ob (64 * (a0.toNatClampNeg + 1) + 6) (mP 6 a0.toNatClampNeg (by decide) lv6 (kl_le hC 2 (by decide))) (shC_p 6 a0.toNatClampNeg (by decide)))) dX12_told_33 ?_
      refine lv_astore_n (lv' := [(3, .ref (ad (64 * (a0.toNatClampNeg + 1) + 6))), (0, .ref (ad 0)), (1, .int a0), (2, .int a1)]) hx hb dX12_told_36 rfl hl (by decide) rfl (fun ls hl => ?_)
      refine lv_iload_n hx hb dX12_told_37 rfl (lv_at hl 3 rfl) ?_
      rcases (show (a1.toInt < 0 ∨ 8 < a1.toInt) ∨ a1.toInt = 0 ∨ a1.toInt = 1 ∨ a1.toInt = 2 ∨ a1.toInt = 3 ∨ a1.toInt = 4 ∨ a1.toInt = 5 ∨ a1.toInt = 6 ∨ a1.toInt = 7 ∨ a1.toInt = 8 by omega) with c7 | c7 | c7 | c7 | c7 | c7 | c7 | c7 | c7 | c7
      · --None
        refine lv_tableOut (tgt := 147) hx hb dX12_told_38 c7 (by decide) ?_
        rw [hQ]
        obtain ⟨hU9, hNn9, ⟨⟨sa1, hst1⟩, sa2, hst2⟩, hca, hd1, hd2, hd3⟩ := hEX
        exact ub_throw (text := "no such thing of a race") (ik := 292) (is := 326) (sa := sa2) (A := fun _ : Nat => False) hx hb hfl hown (hts _ (vA_in _ _ (in_23 _ (zs16 (zs4 (zs4 (zs1 (zs1 (zs1 (zs0)))))))))) (hts _ (vA_in _ _ (in_23 _ (zs16 (zs4 (zs4 (zs4 (zs0)))))))) hst2 (vx_hat (B := [.castable "java/util/NoSuchElementException" "java/util/NoSuchElementException", .declares ⟨"java/lang/RuntimeException", "<init>", "(Ljava/lang/String;)V"⟩, .declares ⟨"java/lang/Exception", "<init>", "(Ljava/lang/String;)V"⟩, .declares ⟨"java/lang/Throwable", "<init>", "(Ljava/lang/String;)V"⟩]) (fun w h => htx w (told_in2 w h)) (by decide +kernel) (vx_c (va_Nw.use rfl hca) (vx_c (va_Nw.use rfl hd1) (vx_c (va_Nw.use rfl hd2) (vx_c (va_Nw.use rfl hd3) vx_n))))) (by decide +kernel) hU9 hNn9 hS (by rw [hml]; exact hl.1) dX12_told_147 dX12_told_150 dX12_told_151 dX12_told_154 dX12_told_157 (fun x hx9 => (hexn x hx9).elim) (Nat.le_of_ble_eq_true rfl) (Nat.le_of_ble_eq_true rfl) (Nat.le_of_ble_eq_true rfl) (Nat.le_of_ble_eq_true rfl) hlocks (fun t h1 h2 h3 => ⟨(), (show ¬ ((0 ≤ a0.toInt ∧ a0.toInt < ((cf 2 : Nat) : Int)) ∧ (0 ≤ a1.toInt ∧ a1.toInt ≤ 8)) by omega), rfl, Nat.le_trans hS.1 h2, fun q q1 _ => by rw [h3 q (Nat.lt_of_lt_of_le q1 hS.1)]; exact hS.2.1 q q1 (fun hh => hh)⟩) hS.2.2 (Nat.le_refl _) (Nat.le_refl _)
      · --0
        refine lv_tableIn (off := 50) (tgt := 88) hx hb dX12_told_38 (by omega) (by omega) (by rw [c7]; rfl) (by decide) ?_
        refine lv_aload_n hx hb dX12_told_88 rfl (lv_at hl 0 rfl) ?_
        have i8 : 0 ≤ (xi (E (64 * (a0.toNatClampNeg + 1) + 6)) 1).toInt ∧ (xi (E (64 * (a0.toNatClampNeg + 1) + 6)) 1).toInt ≤ 400 := hI0.iv (64 * (a0.toNatClampNeg + 1) + 6) (mP 6 a0.toNatClampNeg (by decide) lv6 (kl_le hC 2 (by decide))) (shC_p 6 a0.toNatClampNeg (by decide)) (Nat.le_of_ble_eq_true rfl) (spC_p 6 a0.toNatClampNeg (by decide) 1)
        refine th_getL (ci := 6) (C := RX5) (T := TX5) (N := 12) (v := .int (xi (E (64 * (a0.toNatClampNeg + 1) + 6)) 1)) hx hb hts hinX5 hown hK hP hI (64 * (a0.toNatClampNeg + 1) + 6) (mP 6 a0.toNatClampNeg (by decide) lv6 (kl_le hC 2 (by decide))) (shC_p 6 a0.toNatClampNeg (by decide)) rfl 1 (Nat.le_of_ble_eq_true rfl) (hts _ (vA_in _ _ (in_23 _ (zs16 (zs4 (zs4 (zs4 (zs1 (zs0))))))))) (fun _ h9 => h9) (th_v0L hKp hI0 (64 * (a0.toNatClampNeg + 1) + 6) (mP 6 a0.toNatClampNeg (by decide) lv6 (kl_le hC 2 (by decide))) (shC_p 6 a0.toNatClampNeg (by decide)) (Nat.le_of_ble_eq_true rfl) (spC_p 6 a0.toNatClampNeg (by decide) 1) (wl_p rfl rfl (by omega))) dX12_told_89 ?_
        rw [hQ]
        refine W.widen (k := 1) (n := 6) (by first | exact Nat.le_of_ble_eq_true rfl | omega) (by first | exact Nat.le_of_ble_eq_true rfl | omega) ?_
        refine vx_ret ?_
        exact W.iret (v := (xi (E (64 * (a0.toNatClampNeg + 1) + 6)) 1)) hx hb hr (fun t ht hW => ⟨⟨(xi (E (64 * (a0.toNatClampNeg + 1) + 6)) 1), (), rfl, ⟨by omega, ⟨(fun _ => rfl), (fun q9 => by exfalso; omega), (fun q9 => by exfalso; omega), (fun q9 => by exfalso; omega), (fun q9 => by exfalso; omega), (fun q9 => by exfalso; omega), (fun q9 => by exfalso; omega), (fun q9 => by exfalso; omega), (fun q9 => by exfalso; omega)⟩⟩, trivial⟩, hS.F ht⟩) hS.2.2 dX12_told_92
      · --1
        refine lv_tableIn (off := 55) (tgt := 93) hx hb dX12_told_38 (by omega) (by omega) (by rw [c7]; rfl) (by decide) ?_
        refine lv_aload_n hx hb dX12_told_93 rfl (lv_at hl 0 rfl) ?_
        have i9 : 0 ≤ (xi (E (64 * (a0.toNatClampNeg + 1) + 6)) 2).toInt ∧ (xi (E (64 * (a0.toNatClampNeg + 1) + 6)) 2).toInt ≤ 1000 := hI0.iv (64 * (a0.toNatClampNeg + 1) + 6) (mP 6 a0.toNatClampNeg (by decide) lv6 (kl_le hC 2 (by decide))) (shC_p 6 a0.toNatClampNeg (by decide)) (Nat.le_of_ble_eq_true rfl) (spC_p 6 a0.toNatClampNeg (by decide) 2)
        refine th_getL (ci := 6) (C := RX5) (T := TX5) (N := 12) (v := .int (xi (E (64 * (a0.toNatClampNeg + 1) + 6)) 2)) hx hb hts hinX5 hown hK hP hI (64 * (a0.toNatClampNeg + 1) + 6) (mP 6 a0.toNatClampNeg (by decide) lv6 (kl_le hC 2 (by decide))) (shC_p 6 a0.toNatClampNeg (by decide)) rfl 2 (Nat.le_of_ble_eq_true rfl) (hts _ (vA_in _ _ (in_23 _ (zs16 (zs4 (zs4 (zs4 (zs1 (zs1 (zs0)))))))))) (fun _ h9 => h9) (th_v0L hKp hI0 (64 * (a0.toNatClampNeg + 1) + 6) (mP 6 a0.toNatClampNeg (by decide) lv6 (kl_le hC 2 (by decide))) (shC_p 6 a0.toNatClampNeg (by decide)) (Nat.le_of_ble_eq_true rfl) (spC_p 6 a0.toNatClampNeg (by decide) 2) (wl_p rfl rfl (by omega))) dX12_told_94 ?_
        rw [hQ]
        refine W.widen (k := 1) (n := 6) (by first | exact Nat.le_of_ble_eq_true rfl | omega) (by first | exact Nat.le_of_ble_eq_true rfl | omega) ?_
        refine vx_ret ?_
        exact W.iret (v := (xi (E (64 * (a0.toNatClampNeg + 1) + 6)) 2)) hx hb hr (fun t ht hW => ⟨⟨(xi (E (64 * (a0.toNatClampNeg + 1) + 6)) 2), (), rfl, ⟨by omega, ⟨(fun q9 => by exfalso; omega), (fun _ => rfl), (fun q9 => by exfalso; omega), (fun q9 => by exfalso; omega), (fun q9 => by exfalso; omega), (fun q9 => by exfalso; omega), (fun q9 => by exfalso; omega), (fun q9 => by exfalso; omega), (fun q9 => by exfalso; omega)⟩⟩, trivial⟩, hS.F ht⟩) hS.2.2 dX12_told_97
      · --2
        refine lv_tableIn (off := 60) (tgt := 98) hx hb dX12_told_38 (by omega) (by omega) (by rw [c7]; rfl) (by decide) ?_
        refine lv_aload_n hx hb dX12_told_98 rfl (lv_at hl 0 rfl) ?_
        have i10 : 0 ≤ (xi (E (64 * (a0.toNatClampNeg + 1) + 6)) 3).toInt ∧ (xi (E (64 * (a0.toNatClampNeg + 1) + 6)) 3).toInt ≤ 1 := hI0.iv (64 * (a0.toNatClampNeg + 1) + 6) (mP 6 a0.toNatClampNeg (by decide) lv6 (kl_le hC 2 (by decide))) (shC_p 6 a0.toNatClampNeg (by decide)) (Nat.le_of_ble_eq_true rfl) (spC_p 6 a0.toNatClampNeg (by decide) 3)
        refine th_getL (ci := 6) (C := RX5) (T := TX5) (N := 12) (v := .int (xi (E (64 * (a0.toNatClampNeg + 1) + 6)) 3)) hx hb hts hinX5 hown hK hP hI (64 * (a0.toNatClampNeg + 1) + 6) (mP 6 a0.toNatClampNeg (by decide) lv6 (kl_le hC 2 (by decide))) (shC_p 6 a0.toNatClampNeg (by decide)) rfl 3 (Nat.le_of_ble_eq_true rfl) (hts _ (vA_in _ _ (in_23 _ (zs16 (zs4 (zs4 (zs4 (zs1 (zs1 (zs1 (zs0))))))))))) (fun _ h9 => h9) (th_v0L hKp hI0 (64 * (a0.toNatClampNeg + 1) + 6) (mP 6 a0.toNatClampNeg (by decide) lv6 (kl_le hC 2 (by decide))) (shC_p 6 a0.toNatClampNeg (by decide)) (Nat.le_of_ble_eq_true rfl) (spC_p 6 a0.toNatClampNeg (by decide) 3) (wl_p rfl rfl (by omega))) dX12_told_99 ?_
        rw [hQ]
        refine W.widen (k := 1) (n := 6) (by first | exact Nat.le_of_ble_eq_true rfl | omega) (by first | exact Nat.le_of_ble_eq_true rfl | omega) ?_
        refine vx_ret ?_
        exact W.iret (v := (xi (E (64 * (a0.toNatClampNeg + 1) + 6)) 3)) hx hb hr (fun t ht hW => ⟨⟨(xi (E (64 * (a0.toNatClampNeg + 1) + 6)) 3), (), rfl, ⟨by omega, ⟨(fun q9 => by exfalso; omega), (fun q9 => by exfalso; omega), (fun _ => rfl), (fun q9 => by exfalso; omega), (fun q9 => by exfalso; omega), (fun q9 => by exfalso; omega), (fun q9 => by exfalso; omega), (fun q9 => by exfalso; omega), (fun q9 => by exfalso; omega)⟩⟩, trivial⟩, hS.F ht⟩) hS.2.2 dX12_told_102
      · --3
        refine lv_tableIn (off := 65) (tgt := 103) hx hb dX12_told_38 (by omega) (by omega) (by rw [c7]; rfl) (by decide) ?_
        refine lv_aload_n hx hb dX12_told_103 rfl (lv_at hl 0 rfl) ?_
        have i11 : 0 ≤ (xi (E (64 * (a0.toNatClampNeg + 1) + 6)) 4).toInt ∧ (xi (E (64 * (a0.toNatClampNeg + 1) + 6)) 4).toInt ≤ 7 := hI0.iv (64 * (a0.toNatClampNeg + 1) + 6) (mP 6 a0.toNatClampNeg (by decide) lv6 (kl_le hC 2 (by decide))) (shC_p 6 a0.toNatClampNeg (by decide)) (Nat.le_of_ble_eq_true rfl) (spC_p 6 a0.toNatClampNeg (by decide) 4)
        refine th_getL (ci := 6) (C := RX5) (T := TX5) (N := 12) (v := .int (xi (E (64 * (a0.toNatClampNeg + 1) + 6)) 4)) hx hb hts hinX5 hown hK hP hI (64 * (a0.toNatClampNeg + 1) + 6) (mP 6 a0.toNatClampNeg (by decide) lv6 (kl_le hC 2 (by decide))) (shC_p 6 a0.toNatClampNeg (by decide)) rfl 4 (Nat.le_of_ble_eq_true rfl) (hts _ (vA_in _ _ (in_23 _ (zs16 (zs16 (zs0)))))) (fun _ h9 => h9) (th_v0L hKp hI0 (64 * (a0.toNatClampNeg + 1) + 6) (mP 6 a0.toNatClampNeg (by decide) lv6 (kl_le hC 2 (by decide))) (shC_p 6 a0.toNatClampNeg (by decide)) (Nat.le_of_ble_eq_true rfl) (spC_p 6 a0.toNatClampNeg (by decide) 4) (wl_p rfl rfl (by omega))) dX12_told_104 ?_
        rw [hQ]
        refine W.widen (k := 1) (n := 6) (by first | exact Nat.le_of_ble_eq_true rfl | omega) (by first | exact Nat.le_of_ble_eq_true rfl | omega) ?_
        refine vx_ret ?_
        exact W.iret (v := (xi (E (64 * (a0.toNatClampNeg + 1) + 6)) 4)) hx hb hr (fun t ht hW => ⟨⟨(xi (E (64 * (a0.toNatClampNeg + 1) + 6)) 4), (), rfl, ⟨by omega, ⟨(fun q9 => by exfalso; omega), (fun q9 => by exfalso; omega), (fun q9 => by exfalso; omega), (fun _ => rfl), (fun q9 => by exfalso; omega), (fun q9 => by exfalso; omega), (fun q9 => by exfalso; omega), (fun q9 => by exfalso; omega), (fun q9 => by exfalso; omega)⟩⟩, trivial⟩, hS.F ht⟩) hS.2.2 dX12_told_107
      · --4
        refine lv_tableIn (off := 70) (tgt := 108) hx hb dX12_told_38 (by omega) (by omega) (by rw [c7]; rfl) (by decide) ?_
        refine lv_aload_n hx hb dX12_told_108 rfl (lv_at hl 0 rfl) ?_
        have i12 : 0 ≤ (xi (E (64 * (a0.toNatClampNeg + 1) + 6)) 5).toInt ∧ (xi (E (64 * (a0.toNatClampNeg + 1) + 6)) 5).toInt ≤ 99 := hI0.iv (64 * (a0.toNatClampNeg + 1) + 6) (mP 6 a0.toNatClampNeg (by decide) lv6 (kl_le hC 2 (by decide))) (shC_p 6 a0.toNatClampNeg (by decide)) (Nat.le_of_ble_eq_true rfl) (spC_p 6 a0.toNatClampNeg (by decide) 5)
        refine th_getL (ci := 6) (C := RX5) (T := TX5) (N := 12) (v := .int (xi (E (64 * (a0.toNatClampNeg + 1) + 6)) 5)) hx hb hts hinX5 hown hK hP hI (64 * (a0.toNatClampNeg + 1) + 6) (mP 6 a0.toNatClampNeg (by decide) lv6 (kl_le hC 2 (by decide))) (shC_p 6 a0.toNatClampNeg (by decide)) rfl 5 (Nat.le_of_ble_eq_true rfl) (hts _ (vA_in _ _ (in_23 _ (zs16 (zs16 (zs1 (zs0))))))) (fun _ h9 => h9) (th_v0L hKp hI0 (64 * (a0.toNatClampNeg + 1) + 6) (mP 6 a0.toNatClampNeg (by decide) lv6 (kl_le hC 2 (by decide))) (shC_p 6 a0.toNatClampNeg (by decide)) (Nat.le_of_ble_eq_true rfl) (spC_p 6 a0.toNatClampNeg (by decide) 5) (wl_p rfl rfl (by omega))) dX12_told_109 ?_
        rw [hQ]
        refine W.widen (k := 1) (n := 6) (by first | exact Nat.le_of_ble_eq_true rfl | omega) (by first | exact Nat.le_of_ble_eq_true rfl | omega) ?_
        refine vx_ret ?_
        exact W.iret (v := (xi (E (64 * (a0.toNatClampNeg + 1) + 6)) 5)) hx hb hr (fun t ht hW => ⟨⟨(xi (E (64 * (a0.toNatClampNeg + 1) + 6)) 5), (), rfl, ⟨by omega, ⟨(fun q9 => by exfalso; omega), (fun q9 => by exfalso; omega), (fun q9 => by exfalso; omega), (fun q9 => by exfalso; omega), (fun _ => rfl), (fun q9 => by exfalso; omega), (fun q9 => by exfalso; omega), (fun q9 => by exfalso; omega), (fun q9 => by exfalso; omega)⟩⟩, trivial⟩, hS.F ht⟩) hS.2.2 dX12_told_112
      · --5
        refine lv_tableIn (off := 75) (tgt := 113) hx hb dX12_told_38 (by omega) (by omega) (by rw [c7]; rfl) (by decide) ?_
        refine lv_aload_n hx hb dX12_told_113 rfl (lv_at hl 0 rfl) ?_
        have i13 : 0 ≤ (xi (E (64 * (a0.toNatClampNeg + 1) + 6)) 6).toInt ∧ (xi (E (64 * (a0.toNatClampNeg + 1) + 6)) 6).toInt ≤ 99 := hI0.iv (64 * (a0.toNatClampNeg + 1) + 6) (mP 6 a0.toNatClampNeg (by decide) lv6 (kl_le hC 2 (by decide))) (shC_p 6 a0.toNatClampNeg (by decide)) (Nat.le_of_ble_eq_true rfl) (spC_p 6 a0.toNatClampNeg (by decide) 6)
        refine th_getL (ci := 6) (C := RX5) (T := TX5) (N := 12) (v := .int (xi (E (64 * (a0.toNatClampNeg + 1) + 6)) 6)) hx hb hts hinX5 hown hK hP hI (64 * (a0.toNatClampNeg + 1) + 6) (mP 6 a0.toNatClampNeg (by decide) lv6 (kl_le hC 2 (by decide))) (shC_p 6 a0.toNatClampNeg (by decide)) rfl 6 (Nat.le_of_ble_eq_true rfl) (hts _ (vA_in _ _ (in_23 _ (zs16 (zs16 (zs1 (zs1 (zs0)))))))) (fun _ h9 => h9) (th_v0L hKp hI0 (64 * (a0.toNatClampNeg + 1) + 6) (mP 6 a0.toNatClampNeg (by decide) lv6 (kl_le hC 2 (by decide))) (shC_p 6 a0.toNatClampNeg (by decide)) (Nat.le_of_ble_eq_true rfl) (spC_p 6 a0.toNatClampNeg (by decide) 6) (wl_p rfl rfl (by omega))) dX12_told_114 ?_
        rw [hQ]
        refine W.widen (k := 1) (n := 6) (by first | exact Nat.le_of_ble_eq_true rfl | omega) (by first | exact Nat.le_of_ble_eq_true rfl | omega) ?_
        refine vx_ret ?_
        exact W.iret (v := (xi (E (64 * (a0.toNatClampNeg + 1) + 6)) 6)) hx hb hr (fun t ht hW => ⟨⟨(xi (E (64 * (a0.toNatClampNeg + 1) + 6)) 6), (), rfl, ⟨by omega, ⟨(fun q9 => by exfalso; omega), (fun q9 => by exfalso; omega), (fun q9 => by exfalso; omega), (fun q9 => by exfalso; omega), (fun q9 => by exfalso; omega), (fun _ => rfl), (fun q9 => by exfalso; omega), (fun q9 => by exfalso; omega), (fun q9 => by exfalso; omega)⟩⟩, trivial⟩, hS.F ht⟩) hS.2.2 dX12_told_117
      · --6
        refine lv_tableIn (off := 80) (tgt := 118) hx hb dX12_told_38 (by omega) (by omega) (by rw [c7]; rfl) (by decide) ?_
        refine lv_aload_n hx hb dX12_told_118 rfl (lv_at hl 0 rfl) ?_
        refine lv_aload_n hx hb dX12_told_119 rfl (lv_at hl 1 rfl) ?_
        refine th_getL (ci := 13) (C := RX12) (T := TX12) (N := 6) (v := .ref (ad 1)) hx hb hts hinX12 hown hK hP hI 0 (mF 0 rfl) rfl rfl 0 (Nat.le_of_ble_eq_true rfl) (hts _ (vA_in _ _ (in_10 _ (zs16 (zs1 (zs0)))))) (fun _ h9 => h9) (hI.fr 0 (mF 0 rfl) rfl (Nat.le_of_ble_eq_true rfl) 1 rfl) dX12_told_120 ?_
        have i14 : 0 ≤ (xi (E 1) 0).toInt ∧ (xi (E 1) 0).toInt ≤ 400 := hI0.iv 1 (mF 1 rfl) rfl (Nat.le_of_ble_eq_true rfl) rfl
        refine th_getL (ci := 1) (C := RX0) (T := TX0) (N := 11) (v := .int (xi (E 1) 0)) hx hb hts hinX0 hown hK hP hI 1 (mF 1 rfl) rfl rfl 0 (Nat.le_of_ble_eq_true rfl) (hts _ (vA_in _ _ (in_10 _ (zs16 (zs4 (zs4 (zs1 (zs1 (zs0))))))))) (fun _ h9 => h9) (th_v0L hKp hI0 1 (mF 1 rfl) rfl (Nat.le_of_ble_eq_true rfl) rfl rfl) dX12_told_123 ?_
        refine th_riL (va_runV (As := [.int (xi (E 1) 0)]) (rest := []) ⟨hx, hb, hml, hown, hts⟩ (q_enteredInX l dC dI cT cf hC ad E H.size (xi (E 1) 0) a0.toNatClampNeg hI (by omega)) (cwV 1 hts (gi_V (in_23 _ (zs16 (zs16 (zs4 (zs0))))) (in_12 _ (zs16 (zs4 (zs4 (zs4 (zs1 (zs1 (zs0)))))))) (in_12 _ (zs16 (zs4 (zs4 (zs4 (zs1 (zs1 (zs1 (zs0))))))))) (in_6 _ (zs16 (zs1 (zs0)))) (in_12 _ (zs16 (zs16 (zs0))))) rfl rfl rfl ⟨rfl, hz_yX5_enteredIn_1⟩ ⟨Nat.le_of_ble_eq_true rfl, Nat.le_of_ble_eq_true rfl⟩) ⟨HWL_bl, va_recv hK hP (ci := 6) (q0 := posL (64 * (a0.toNatClampNeg + 1) + 6) (LC cf)) rfl (hI.ob (64 * (a0.toNatClampNeg + 1) + 6) (mP 6 a0.toNatClampNeg (by decide) lv6 (kl_le hC 2 (by decide))) (shC_p 6 a0.toNatClampNeg (by decide))), (HWL_wiR hP hK (WL_D hD) hS hEV)⟩ rfl rfl hl.1 rfl (lv_room (Nat.le_of_ble_eq_true rfl)) dX12_told_126 ⟨Nat.le_of_ble_eq_true rfl, Nat.le_of_ble_eq_true rfl⟩) hS hP (fun r15 H locs hw hP hS => ?_)
        obtain ⟨f16, f17⟩ := hw
        rw [hQ]
        refine W.widen (k := 1) (n := 6) (by first | exact Nat.le_of_ble_eq_true rfl | omega) (by first | exact Nat.le_of_ble_eq_true rfl | omega) ?_
        refine vx_ret ?_
        exact W.iret (v := r15) hx hb hr (fun t ht hW => ⟨⟨r15, (), rfl, ⟨by omega, ⟨(fun q9 => by exfalso; omega), (fun q9 => by exfalso; omega), (fun q9 => by exfalso; omega), (fun q9 => by exfalso; omega), (fun q9 => by exfalso; omega), (fun q9 => by exfalso; omega), (fun _ => f17), (fun q9 => by exfalso; omega), (fun q9 => by exfalso; omega)⟩⟩, trivial⟩, hS.F ht⟩) hS.2.2 dX12_told_129
      · --7
        refine lv_tableIn (off := 92) (tgt := 130) hx hb dX12_told_38 (by omega) (by omega) (by rw [c7]; rfl) (by decide) ?_
        refine lv_aload_n hx hb dX12_told_130 rfl (lv_at hl 0 rfl) ?_
        refine lv_aload_n hx hb dX12_told_131 rfl (lv_at hl 1 rfl) ?_
        refine th_getL (ci := 13) (C := RX12) (T := TX12) (N := 6) (v := .ref (ad 1)) hx hb hts hinX12 hown hK hP hI 0 (mF 0 rfl) rfl rfl 0 (Nat.le_of_ble_eq_true rfl) (hts _ (vA_in _ _ (in_10 _ (zs16 (zs1 (zs0)))))) (fun _ h9 => h9) (hI.fr 0 (mF 0 rfl) rfl (Nat.le_of_ble_eq_true rfl) 1 rfl) dX12_told_132 ?_
        have i18 : 0 ≤ (xi (E 1) 0).toInt ∧ (xi (E 1) 0).toInt ≤ 400 := hI0.iv 1 (mF 1 rfl) rfl (Nat.le_of_ble_eq_true rfl) rfl
        refine th_getL (ci := 1) (C := RX0) (T := TX0) (N := 11) (v := .int (xi (E 1) 0)) hx hb hts hinX0 hown hK hP hI 1 (mF 1 rfl) rfl rfl 0 (Nat.le_of_ble_eq_true rfl) (hts _ (vA_in _ _ (in_10 _ (zs16 (zs4 (zs4 (zs1 (zs1 (zs0))))))))) (fun _ h9 => h9) (th_v0L hKp hI0 1 (mF 1 rfl) rfl (Nat.le_of_ble_eq_true rfl) rfl rfl) dX12_told_135 ?_
        refine th_riL (va_runV (As := [.int (xi (E 1) 0)]) (rest := []) ⟨hx, hb, hml, hown, hts⟩ (q_swiftInX l dC dI cT cf hC ad E H.size (xi (E 1) 0) a0.toNatClampNeg hI (by omega) i18) (cwV 1 hts (gi_V (in_23 _ (zs16 (zs16 (zs4 (zs1 (zs0)))))) (in_15 _ (zs16 (zs4 (zs1 (zs1 (zs1 (zs0))))))) (in_15 _ (zs16 (zs4 (zs4 (zs0))))) (in_6 _ (zs16 (zs1 (zs0)))) (in_15 _ (zs16 (zs4 (zs4 (zs1 (zs0))))))) rfl rfl rfl ⟨rfl, hz_yX5_swiftIn_1⟩ ⟨Nat.le_of_ble_eq_true rfl, Nat.le_of_ble_eq_true rfl⟩) ⟨HWL_bl, va_recv hK hP (ci := 6) (q0 := posL (64 * (a0.toNatClampNeg + 1) + 6) (LC cf)) rfl (hI.ob (64 * (a0.toNatClampNeg + 1) + 6) (mP 6 a0.toNatClampNeg (by decide) lv6 (kl_le hC 2 (by decide))) (shC_p 6 a0.toNatClampNeg (by decide))), (HWL_wiR hP hK (WL_D hD) hS hEV)⟩ rfl rfl hl.1 rfl (lv_room (Nat.le_of_ble_eq_true rfl)) dX12_told_138 ⟨Nat.le_of_ble_eq_true rfl, Nat.le_of_ble_eq_true rfl⟩) hS hP (fun r19 H locs hw hP hS => ?_)
        obtain ⟨f20, f21⟩ := hw
        rw [hQ]
        refine W.widen (k := 1) (n := 6) (by first | exact Nat.le_of_ble_eq_true rfl | omega) (by first | exact Nat.le_of_ble_eq_true rfl | omega) ?_
        refine vx_ret ?_
        exact W.iret (v := r19) hx hb hr (fun t ht hW => ⟨⟨r19, (), rfl, ⟨by omega, ⟨(fun q9 => by exfalso; omega), (fun q9 => by exfalso; omega), (fun q9 => by exfalso; omega), (fun q9 => by exfalso; omega), (fun q9 => by exfalso; omega), (fun q9 => by exfalso; omega), (fun q9 => by exfalso; omega), (fun _ => f21), (fun q9 => by exfalso; omega)⟩⟩, trivial⟩, hS.F ht⟩) hS.2.2 dX12_told_141
      · --8
        refine lv_tableIn (off := 104) (tgt := 142) hx hb dX12_told_38 (by omega) (by omega) (by rw [c7]; rfl) (by decide) ?_
        refine lv_aload_n hx hb dX12_told_142 rfl (lv_at hl 0 rfl) ?_
        have i22 : 0 ≤ (xi (E (64 * (a0.toNatClampNeg + 1) + 6)) 0).toInt ∧ (xi (E (64 * (a0.toNatClampNeg + 1) + 6)) 0).toInt ≤ 400 := hI0.iv (64 * (a0.toNatClampNeg + 1) + 6) (mP 6 a0.toNatClampNeg (by decide) lv6 (kl_le hC 2 (by decide))) (shC_p 6 a0.toNatClampNeg (by decide)) (Nat.le_of_ble_eq_true rfl) (spC_p 6 a0.toNatClampNeg (by decide) 0)
        refine th_getL (ci := 6) (C := RX5) (T := TX5) (N := 12) (v := .int (xi (E (64 * (a0.toNatClampNeg + 1) + 6)) 0)) hx hb hts hinX5 hown hK hP hI (64 * (a0.toNatClampNeg + 1) + 6) (mP 6 a0.toNatClampNeg (by decide) lv6 (kl_le hC 2 (by decide))) (shC_p 6 a0.toNatClampNeg (by decide)) rfl 0 (Nat.le_of_ble_eq_true rfl) (hts _ (vA_in _ _ (in_23 _ (zs16 (zs16 (zs1 (zs1 (zs1 (zs0))))))))) (fun _ h9 => h9) (th_v0L hKp hI0 (64 * (a0.toNatClampNeg + 1) + 6) (mP 6 a0.toNatClampNeg (by decide) lv6 (kl_le hC 2 (by decide))) (shC_p 6 a0.toNatClampNeg (by decide)) (Nat.le_of_ble_eq_true rfl) (spC_p 6 a0.toNatClampNeg (by decide) 0) (wl_p rfl rfl (by omega))) dX12_told_143 ?_
        rw [hQ]
        refine W.widen (k := 1) (n := 6) (by first | exact Nat.le_of_ble_eq_true rfl | omega) (by first | exact Nat.le_of_ble_eq_true rfl | omega) ?_
        refine vx_ret ?_
        exact W.iret (v := (xi (E (64 * (a0.toNatClampNeg + 1) + 6)) 0)) hx hb hr (fun t ht hW => ⟨⟨(xi (E (64 * (a0.toNatClampNeg + 1) + 6)) 0), (), rfl, ⟨by omega, ⟨(fun q9 => by exfalso; omega), (fun q9 => by exfalso; omega), (fun q9 => by exfalso; omega), (fun q9 => by exfalso; omega), (fun q9 => by exfalso; omega), (fun q9 => by exfalso; omega), (fun q9 => by exfalso; omega), (fun q9 => by exfalso; omega), (fun _ => rfl)⟩⟩, trivial⟩, hS.F ht⟩) hS.2.2 dX12_told_146
    · --8 not
      exact absurd c4 (by decide)
  · -- isRaceC, case 1
    obtain ⟨rfl, f23⟩ := hw
    refine lv_if_ne (tgt := 22) hx hb dX12_told_8 (by decide) (fun c24 => ?_) (fun c24 => ?_)
    · --8 taken
      exact absurd c24 (by decide)
    · --8 not
      rw [hQ]
      obtain ⟨hU9, hNn9, ⟨⟨sa1, hst1⟩, sa2, hst2⟩, hca, hd1, hd2, hd3⟩ := hEX
      exact ub_throw (text := "no such race") (ik := 292) (is := 294) (sa := sa1) (A := fun _ : Nat => False) hx hb hfl hown (hts _ (vA_in _ _ (in_23 _ (zs16 (zs4 (zs4 (zs1 (zs1 (zs1 (zs0)))))))))) (hts _ (vA_in _ _ (in_23 _ (zs16 (zs4 (zs4 (zs4 (zs0)))))))) hst1 (vx_hat (B := [.castable "java/util/NoSuchElementException" "java/util/NoSuchElementException", .declares ⟨"java/lang/RuntimeException", "<init>", "(Ljava/lang/String;)V"⟩, .declares ⟨"java/lang/Exception", "<init>", "(Ljava/lang/String;)V"⟩, .declares ⟨"java/lang/Throwable", "<init>", "(Ljava/lang/String;)V"⟩]) (fun w h => htx w (told_in2 w h)) (by decide +kernel) (vx_c (va_Nw.use rfl hca) (vx_c (va_Nw.use rfl hd1) (vx_c (va_Nw.use rfl hd2) (vx_c (va_Nw.use rfl hd3) vx_n))))) (by decide +kernel) hU9 hNn9 hS (by rw [hml]; exact hl.1) dX12_told_11 dX12_told_14 dX12_told_15 dX12_told_18 dX12_told_21 (fun x hx9 => (hexn x hx9).elim) (Nat.le_of_ble_eq_true rfl) (Nat.le_of_ble_eq_true rfl) (Nat.le_of_ble_eq_true rfl) (Nat.le_of_ble_eq_true rfl) hlocks (fun t h1 h2 h3 => ⟨(), (show ¬ ((0 ≤ a0.toInt ∧ a0.toInt < ((cf 2 : Nat) : Int)) ∧ (0 ≤ a1.toInt ∧ a1.toInt ≤ 8)) by omega), rfl, Nat.le_trans hS.1 h2, fun q q1 _ => by rw [h3 q (Nat.lt_of_lt_of_le q1 hS.1)]; exact hS.2.1 q q1 (fun hh => hh)⟩) hS.2.2 (Nat.le_refl _) (Nat.le_refl _)
set_option maxHeartbeats 4000000 in
set_option maxRecDepth 100000 in
theorem l_toldX (l : Launch) (hfl : l.stackTraces = false) (dC : Nat → ClassId) (dI : Nat → Nat → Nat) (cT : Nat → ClassId) (cf : Nat → Nat) (hC : CF cf) (ad : Nat → Nat) (E : Nat → va_E) (sz : Nat) (a0 a1 : Int32) (ou : Nat) (cL : ClassId) (f : Nat → Int64) (hI0 : IXL cT (shC cf) (spC cf) (LC cf) ad E) : Met l yL_told v_l_told ({ frames := 9, cells := 1, slots := 6, locals := 360 }) (va_Pc [.ref (ad 0), .int a0, .int a1, .ref ou] (fun U => U.heap.size = sz ∧ va_P (dC, dI) vwCl ((ou, .inl (cL, 1, .inr (.inl f))) :: WL (LC cf) ad E) U.heap ∧ va_K (dC, dI) vwCl ((cL, .long) :: TYC cT) U ∧ va_D (fun _ => True) ((ou, .inl (cL, 1, .inr (.inl f))) :: WL (LC cf) ad E) ∧ EVC (cf 6) (va_A ((ou, .inl (cL, 1, .inr (.inl f))) :: WL (LC cf) ad E) sz) U U.heap ∧ ub_EX (va_A ((ou, .inl (cL, 1, .inr (.inl f))) :: WL (LC cf) ad E) sz) U U.heap)) (va_Qi (S := Nat → Int64) (fun r f' => (r = 1 ∧ ¬ ((0 ≤ a0.toInt ∧ a0.toInt < ((cf 2 : Nat) : Int)) ∧ (0 ≤ a1.toInt ∧ a1.toInt ≤ 8))) ∨ (r = 0 ∧ ((0 ≤ a0.toInt ∧ a0.toInt < ((cf 2 : Nat) : Int)) ∧ (0 ≤ a1.toInt ∧ a1.toInt ≤ 8)) ∧ ∃ r' : Int32, f' 0 = r'.toInt64 ∧ ((a1.toInt = 0 → r'.toInt = (xi (E (64 * (a0.toNatClampNeg + 1) + 6)) 1).toInt) ∧ (a1.toInt = 1 → r'.toInt = (xi (E (64 * (a0.toNatClampNeg + 1) + 6)) 2).toInt) ∧ (a1.toInt = 2 → r'.toInt = (xi (E (64 * (a0.toNatClampNeg + 1) + 6)) 3).toInt) ∧ (a1.toInt = 3 → r'.toInt = (xi (E (64 * (a0.toNatClampNeg + 1) + 6)) 4).toInt) ∧ (a1.toInt = 4 → r'.toInt = (xi (E (64 * (a0.toNatClampNeg + 1) + 6)) 5).toInt) ∧ (a1.toInt = 5 → r'.toInt = (xi (E (64 * (a0.toNatClampNeg + 1) + 6)) 6).toInt) ∧ (a1.toInt = 6 → r'.toInt = (entC (xi (E (64 * (a0.toNatClampNeg + 1) + 7))) (xi (E 1) 0).toInt 16 : Int)) ∧ (a1.toInt = 7 → (∃ d9 : Nat, (xi (E (64 * (a0.toNatClampNeg + 1) + 6)) 0).toInt ≤ (d9 : Int) ∧ (d9 : Int) ≤ (xi (E 1) 0).toInt ∧ ¬ (xi (E (64 * (a0.toNatClampNeg + 1) + 11)) d9).toInt = 0 ∧ r' = xi (E (64 * (a0.toNatClampNeg + 1) + 11)) d9 ∧ ∀ d8 : Nat, (d9 : Int) < (d8 : Int) → (d8 : Int) ≤ (xi (E 1) 0).toInt → (xi (E (64 * (a0.toNatClampNeg + 1) + 11)) d8).toInt = 0) ∨ (r' = 2 ∧ ∀ d8 : Nat, (xi (E (64 * (a0.toNatClampNeg + 1) + 6)) 0).toInt ≤ (d8 : Int) → (d8 : Int) ≤ (xi (E 1) 0).toInt → (xi (E (64 * (a0.toNatClampNeg + 1) + 11)) d8).toInt = 0)) ∧ (a1.toInt = 8 → r'.toInt = (xi (E (64 * (a0.toNatClampNeg + 1) + 6)) 0).toInt)))) (fun f' t => va_P (dC, dI) vwCl ((ou, .inl (cL, 1, .inr (.inl f'))) :: WL (LC cf) ad E) t.heap ∧ va_D (va_A ((ou, .inl (cL, 1, .inr (.inl f))) :: WL (LC cf) ad E) sz) ((ou, .inl (cL, 1, .inr (.inl f'))) :: WL (LC cf) ad E)) (va_A ((ou, .inl (cL, 1, .inr (.inl f))) :: WL (LC cf) ad E) sz)) 1 6 (va_A ((ou, .inl (cL, 1, .inr (.inl f))) :: WL (LC cf) ad E) sz) := by
  refine va_MetW (cc := cL_told) (maxL := 5) (ret := some .int) (hh := [(0, 10, 13, 13)]) (by decide) rfl ?_
  intro p e s m args below meth c s₁ B hml hv
  obtain ⟨rfl, hsz, hP, hK, hD0, hEV, hEX⟩ := hv
  subst hsz
  have hx := B.exec
  have hb := B.bytes
  have hr := B.returns
  have hts := atoms_spec (ws := v_l_told) B.pre
  have hown : s.vm.findClass RL = some m.cls := findClass_of_methodNamed B.named
  have hlocks := B.notSynchronized
  generalize hAe : va_A ((ou, .inl (cL, 1, .inr (.inl f))) :: WL (LC cf) ad E) s.heap.size = A at hEV hEX ⊢
  have hA : ∀ q : Nat, s.heap.size ≤ q → A q := fun q h => by rw [← hAe]; exact Or.inr h
  have hD : va_D A ((ou, .inl (cL, 1, .inr (.inl f))) :: WL (LC cf) ad E) := by rw [← hAe]; exact hD0.self
  have hS : va_S A s.heap s.heap [] := va_S.rf
  have hl := lv_entry ([.ref (ad 0), .int a0, .int a1, .ref ou]) (n := 5) (Nat.le_of_ble_eq_true rfl)
  rw [lg_entry_eq]
  generalize (lg_sl ([.ref (ad 0), .int a0, .int a1, .ref ou]) ++ List.replicate (5 - (lg_sl ([.ref (ad 0), .int a0, .int a1, .ref ou])).length) Slot.unset).toArray = ls at hl ⊢
  have hct : c.exceptionTable.toList = [⟨0, 10, 13, 13⟩] := vx_table (x := yL_told) B (hts _ List.mem_cons_self)
  have hl : lv_has ls 5 [(0, .ref (ad 0)), (1, .int a0), (2, .int a1), (3, .ref ou)] := hl
  refine lv_aload_n hx hb dL_told_0 rfl (lv_at hl 3 rfl) ?_
  refine lv_iconst (v := 0) hx hb dL_told_1 (by decide) ?_
  refine lv_aload_n hx hb dL_told_2 rfl (lv_at hl 0 rfl) ?_
  refine lv_iload_n hx hb dL_told_3 rfl (lv_at hl 1 rfl) ?_
  refine lv_iload_n hx hb dL_told_4 rfl (lv_at hl 2 rfl) ?_
  have hPc : va_P (dC, dI) vwCl (WL (LC cf) ad E) s.heap := va_P_sub hP (fun x hx => List.mem_cons_of_mem _ hx)
  have hDc : va_D A (WL (LC cf) ad E) := va_D_right (w1 := [(ou, .inl (cL, 1, .inr (.inl f)))]) hD
  have hKc : va_K (dC, dI) vwCl (TYC cT) s := hK.sub (tys' := TYC cT) [1, 2, 3, 4] rfl
  have hFA : ∀ z, va_A (WL (LC cf) ad E) s.heap.size z → A z := fun z h => h.elim (fun ⟨k, e, hk⟩ => hDc.2 k _ hk) (fun h => hA z h)
  have hca := hEX.2.2.2.1
  refine vx_calli (vx_runV (As := [.int a0, .int a1]) (rest := [.int 0, .ref ou]) ⟨hx, hb, hml, hown, hts⟩ (q_u_toldX l hfl dC dI cT cf hC ad E s.heap.size a0 a1 hI0) (cwV 2 hts g_l_told rfl rfl rfl ⟨rfl, hz_yX12_told_2⟩ ⟨Nat.le_of_ble_eq_true rfl, Nat.le_of_ble_eq_true rfl⟩) ⟨fun a U g mk q => ⟨(HWL_bl a U g mk ⟨q.1, q.2.1⟩).1, (HWL_bl a U g mk ⟨q.1, q.2.1⟩).2, ub_EX_c q.2.2⟩, va_recv hKc hPc (ci := 13) (q0 := posL 0 (LC cf)) rfl (hI0.ob 0 (mF 0 rfl) rfl), fun U hU hW => ⟨rfl, ((HWL_wi (av := []) hPc hKc hDc hS hA hEV) U hU hW).2, ub_EX_w hU hW hS (fun _ hh => hh.elim) hEX⟩⟩ rfl rfl hl.1 rfl (lv_room (Nat.le_of_ble_eq_true rfl)) dL_told_5 ⟨Nat.le_of_ble_eq_true rfl, Nat.le_of_ble_eq_true rfl⟩) hS (fun _ _ h => h.elim) (fun _ h => h.elim) (fun _ _ h => h.elim) (fun E1 ce q9 u t H1 locs hth hvm hpx hBX hz1 hk1 hS hce hcv hcl => ?_) (fun r u t H1 locs hth hvm hw hB hz1 hk1 hS => ?_)
  · obtain rfl : "java/util/NoSuchElementException" = E1 := hBX.symm
    refine vx_catch (name := "java/util/NoSuchElementException") hown [] ⟨0, 10, 13, 13⟩ [] hct (fun _ hh => nomatch hh) (by decide) (by decide) (hts (.classLink RL 13 "java/util/NoSuchElementException") (ltold_in _ (List.mem_of_getElem? (i := 0) rfl))) (va_Nw.use rfl hca) hce hcv hcl ?_
    have hP := ub_keep hP hk1
    generalize H1 = H at hP hS ⊢
    refine W.widen (k := 1) (n := 6) (by first | exact Nat.le_of_ble_eq_true rfl | omega) (by first | exact Nat.le_of_ble_eq_true rfl | omega) ?_
    refine lv_astore (lv' := [(4, .ref q9), (0, .ref (ad 0)), (1, .int a0), (2, .int a1), (3, .ref ou)]) hx hb dL_told_13 hl (by decide) rfl (fun ls hl => ?_)
    refine lv_iconst (v := 1) hx hb dL_told_15 (by decide) ?_
    exact W.iret (v := (1)) hx hb hr (fun t ht hW => ⟨⟨(1), f, rfl, Or.inl ⟨rfl, hpx⟩, by rw [ht]; exact hP, hD⟩, hS.F ht⟩) hS.2.2 dL_told_16
  · have hP := ub_keep hP hk1
    generalize H1 = H at hP hS ⊢
    refine W.widen (k := 1) (n := 6) (by first | exact Nat.le_of_ble_eq_true rfl | omega) (by first | exact Nat.le_of_ble_eq_true rfl | omega) ?_
    refine lv_i2l hx hb dL_told_8 rfl ?_
    refine va_last hx hb hK hP hD hS 0 0 rfl rfl (vp_in_nI (n := 0) (N := 1) (by decide) (by decide)) dL_told_9 (fun H locs hP hD hS => ?_)
    refine lv_goto (tgt := 17) hx hb dL_told_10 rfl ?_
    refine lv_iconst (v := 0) hx hb dL_told_17 (by decide) ?_
    exact W.iret (v := (0)) hx hb hr (fun t ht hW => ⟨⟨(0), _, rfl, Or.inr ⟨rfl, hw.1, r, if_pos (by decide), hw.2⟩, by rw [ht]; exact hP, hD⟩, hS.F ht⟩) hS.2.2 dL_told_18
section
/-! ===== what a TEXT says: readers over bytes ===== -/
def PR (α : Type) : Type := Sum Nat (Nat × α)
def PR.bad {α : Type} (i : Nat) : PR α := Sum.inl i
def PR.good {α : Type} (a : Nat) (c : α) : PR α := Sum.inr (a, c)
def PR.andThen {α β : Type} : PR α → (Nat → α → PR β) → PR β
  | Sum.inl i, _ => .bad i
  | Sum.inr (a, c), f => f a c
theorem good_inj {α : Type} {a a2 : Nat} {c c2 : α} (h : PR.good a c = PR.good a2 c2) : a = a2 := congrArg Prod.fst (Sum.inr.inj h)
theorem bad_no {α : Type} {i a : Nat} {c : α} (h : PR.bad i = PR.good a c) : False := Sum.inl_ne_inr h
/-- the next place that is no blank -/
def skF (t : Nat → Int) (n : Nat) : Nat → Nat → Nat
  | 0, a => a
  | f + 1, a => if a < n ∧ t a = 32 then skF t n f (a + 1) else a
def sk (t : Nat → Int) (n a : Nat) : Nat := skF t n (n - a) a
def pk (t : Nat → Int) (n a : Nat) : Int := if sk t n a < n then t (sk t n a) else -1
theorem sk_1 {t : Nat → Int} {n a : Nat} (h : a < n ∧ t a = 32) : sk t n a = sk t n (a + 1) := by
  unfold sk
  rw [show n - a = (n - (a + 1)) + 1 by omega]
  exact if_pos h
theorem sk_0 {t : Nat → Int} {n a : Nat} (h : ¬ (a < n ∧ t a = 32)) : sk t n a = a := by
  unfold sk
  cases n - a with
  | zero => rfl
  | succ f => exact if_neg h
theorem skF_ge {t : Nat → Int} {n : Nat} : ∀ f a, a ≤ skF t n f a := by
  intro f
  induction f with
  | zero => exact fun a => Nat.le_refl _
  | succ f ih =>
    intro a
    by_cases h : a < n ∧ t a = 32
    · rw [show skF t n (f + 1) a = skF t n f (a + 1) from if_pos h]
      exact Nat.le_trans (Nat.le_succ _) (ih (a + 1))
    · rw [show skF t n (f + 1) a = a from if_neg h]
      exact Nat.le_refl _
theorem sk_ge (t : Nat → Int) (n a : Nat) : a ≤ sk t n a := skF_ge _ _
theorem skF_st {t : Nat → Int} {n : Nat} : ∀ f a, n - a ≤ f → ¬ (skF t n f a < n ∧ t (skF t n f a) = 32) := by
  intro f
  induction f with
  | zero =>
    intro a h9 h
    have h8 : skF t n 0 a = a := rfl
    rw [h8] at h
    omega
  | succ f ih =>
    intro a h9
    by_cases h : a < n ∧ t a = 32
    · rw [show skF t n (f + 1) a = skF t n f (a + 1) from if_pos h]
      exact ih (a + 1) (by omega)
    · rw [show skF t n (f + 1) a = a from if_neg h]
      exact h
theorem sk_st (t : Nat → Int) (n a : Nat) : ¬ (sk t n a < n ∧ t (sk t n a) = 32) := skF_st _ _ (Nat.le_refl _)
theorem sk_sk (t : Nat → Int) (n a : Nat) : sk t n (sk t n a) = sk t n a := sk_0 (sk_st t n a)
theorem pk_sk (t : Nat → Int) (n a : Nat) : pk t n (sk t n a) = pk t n a := by
  unfold pk
  rw [sk_sk]
theorem pk_ge {t : Nat → Int} {n a : Nat} (h : n ≤ a) : pk t n a = -1 := if_neg (by have := sk_ge t n a; omega)
theorem pk_dg {t : Nat → Int} {n a : Nat} (h : a < n) (h1 : ¬ t a = 32) : pk t n a = t a := by
  unfold pk
  rw [sk_0 (fun q => h1 q.2), if_pos h]
/-- what stands behind signs of a kind, one behind another -/
def opF {α : Type} (t : Nat → Int) (n : Nat) (op : Int → Bool) (cb : α → Int → α → α) (rd : Nat → PR α) : Nat → Nat → α → PR α
  | 0, a, c => .good (sk t n a) c
  | f + 1, a, c => if op (pk t n a) = true then (rd (sk t n a + 1)).andThen (fun a2 c2 => opF t n op cb rd f a2 (cb c (pk t n a) c2)) else .good (sk t n a) c
def opL {α : Type} (t : Nat → Int) (n : Nat) (op : Int → Bool) (cb : α → Int → α → α) (rd : Nat → PR α) (a : Nat) (c : α) : PR α := opF t n op cb rd (n + 1 - a) a c
def Mono {α : Type} (rd : Nat → PR α) : Prop := ∀ x a c, rd x = .good a c → x ≤ a
theorem opF_ind {α : Type} {t : Nat → Int} {n : Nat} {op : Int → Bool} {cb : α → Int → α → α} {rd : Nat → PR α} (hm : Mono rd) (hop : op (-1) = false) : ∀ m f g a c, f ≤ m → g ≤ m → n + 1 - a ≤ f → n + 1 - a ≤ g → opF t n op cb rd f a c = opF t n op cb rd g a c := by
  intro m
  induction m with
  | zero =>
    intro f g a c hf hg _ _
    rw [show f = 0 by omega, show g = 0 by omega]
  | succ m ih =>
    intro f g a c hf hg h1 h2
    have z : n + 1 - a = 0 → ∀ k, opF t n op cb rd k a c = .good (sk t n a) c := by
      intro h k
      cases k with
      | zero => rfl
      | succ k => exact if_neg (by rw [pk_ge (by omega), hop]; decide)
    cases f with
    | zero => rw [z (by omega) 0, z (by omega) g]
    | succ f =>
      cases g with
      | zero => rw [z (by omega) 0, z (by omega) (f + 1)]
      | succ g =>
        by_cases c1 : op (pk t n a) = true
        · rw [show opF t n op cb rd (f + 1) a c = (rd (sk t n a + 1)).andThen (fun a2 c2 => opF t n op cb rd f a2 (cb c (pk t n a) c2)) from if_pos c1, show opF t n op cb rd (g + 1) a c = (rd (sk t n a + 1)).andThen (fun a2 c2 => opF t n op cb rd g a2 (cb c (pk t n a) c2)) from if_pos c1]
          rcases hr : rd (sk t n a + 1) with i | ⟨a2, c2⟩
          · rfl
          · 
            have h5 := hm _ _ _ hr
            have h6 := sk_ge t n a
            exact ih f g a2 _ (by omega) (by omega) (by omega) (by omega)
        · rw [show opF t n op cb rd (f + 1) a c = .good (sk t n a) c from if_neg c1, show opF t n op cb rd (g + 1) a c = .good (sk t n a) c from if_neg c1]
theorem opL_1 {α : Type} {t : Nat → Int} {n : Nat} {op : Int → Bool} {cb : α → Int → α → α} {rd : Nat → PR α} (hm : Mono rd) (hop : op (-1) = false) {a : Nat} {c : α} (h : op (pk t n a) = true) : opL t n op cb rd a c = (rd (sk t n a + 1)).andThen (fun a2 c2 => opL t n op cb rd a2 (cb c (pk t n a) c2)) := by
  have h1 : a < n + 1 := by
    by_cases q : a < n + 1
    · exact q
    · rw [pk_ge (by omega), hop] at h
      exact absurd h (by decide)
  unfold opL
  rw [show n + 1 - a = (n - a) + 1 by omega]
  refine (if_pos h).trans ?_
  rcases hr : rd (sk t n a + 1) with i | ⟨a2, c2⟩
  · rfl
  · 
    have h5 := hm _ _ _ hr
    have h6 := sk_ge t n a
    exact opF_ind hm hop (n - a) _ _ a2 _ (by omega) (by omega) (by omega) (by omega)
theorem opL_0 {α : Type} {t : Nat → Int} {n : Nat} {op : Int → Bool} {cb : α → Int → α → α} {rd : Nat → PR α} {a : Nat} {c : α} (h : ¬ op (pk t n a) = true) : opL t n op cb rd a c = .good (sk t n a) c := by
  unfold opL
  cases n + 1 - a with
  | zero => rfl
  | succ k => exact if_neg h
theorem opF_mono {α : Type} {t : Nat → Int} {n : Nat} {op : Int → Bool} {cb : α → Int → α → α} {rd : Nat → PR α} (hm : Mono rd) : ∀ f a c a2 c2, opF t n op cb rd f a c = .good a2 c2 → a ≤ a2 := by
  intro f
  induction f with
  | zero =>
    intro a c a2 c2 h
    have h1 : PR.good (sk t n a) c = PR.good a2 c2 := h
    have h2 := good_inj h1
    rw [← h2]
    exact sk_ge t n a
  | succ f ih =>
    intro a c a2 c2 h
    by_cases c1 : op (pk t n a) = true
    · rw [show opF t n op cb rd (f + 1) a c = (rd (sk t n a + 1)).andThen (fun a2 c2 => opF t n op cb rd f a2 (cb c (pk t n a) c2)) from if_pos c1] at h
      rcases hr : rd (sk t n a + 1) with i | ⟨a3, c3⟩
      · 
        rw [hr] at h
        exact (bad_no h).elim
      · 
        rw [hr] at h
        have h5 := hm _ _ _ hr
        have h6 := sk_ge t n a
        have h7 := ih _ _ _ _ h
        omega
    · rw [show opF t n op cb rd (f + 1) a c = .good (sk t n a) c from if_neg c1] at h
      have h2 := good_inj h
      rw [← h2]
      exact sk_ge t n a
theorem opL_mono {α : Type} {t : Nat → Int} {n : Nat} {op : Int → Bool} {cb : α → Int → α → α} {rd : Nat → PR α} (hm : Mono rd) {a : Nat} {c : α} {a2 : Nat} {c2 : α} (h : opL t n op cb rd a c = .good a2 c2) : a ≤ a2 := opF_mono hm _ _ _ _ _ h
theorem andThen_mono {α β : Type} {x : Nat} {r : PR α} {f : Nat → α → PR β} (h1 : ∀ a c, r = .good a c → x ≤ a) (h2 : ∀ a c a2 c2, r = .good a c → f a c = .good a2 c2 → a ≤ a2) : ∀ a c, r.andThen f = .good a c → x ≤ a := by
  intro a c h
  rcases hr : r with i | ⟨a1, c1⟩
  · 
    rw [hr] at h
    exact (bad_no h).elim
  · 
    rw [hr] at h
    exact Nat.le_trans (h1 a1 c1 hr) (h2 a1 c1 a c hr h)
/-- a sign that must stand there -/
def clo {α : Type} (t : Nat → Int) (n : Nat) (s : Int) (a : Nat) (c : α) : PR α := if pk t n a = s then .good (sk t n a + 1) c else .bad (sk t n a)
theorem clo_mono {α : Type} {t : Nat → Int} {n : Nat} {s : Int} {a : Nat} {c : α} {a2 : Nat} {c2 : α} (h : clo t n s a c = .good a2 c2) : a ≤ a2 := by
  unfold clo at h
  by_cases e : pk t n a = s
  · rw [if_pos e] at h
    have h2 := good_inj h
    have := sk_ge t n a
    omega
  · rw [if_neg e] at h
    exact (bad_no h).elim
/-- a number: at most five signs; b: a sixth is amiss at once -/
abbrev dgt (c : Int) : Prop := 48 ≤ c ∧ c ≤ 57
def numF (t : Nat → Int) (n : Nat) : Nat → Nat → Int → Nat × Int
  | 0, a, v => (a, v)
  | f + 1, a, v => if a < n ∧ dgt (t a) then numF t n f (a + 1) (10 * v + (t a - 48)) else (a, v)
theorem numF_ge {t : Nat → Int} {n : Nat} : ∀ f a v, a ≤ (numF t n f a v).1 := by
  intro f
  induction f with
  | zero => exact fun a v => Nat.le_refl _
  | succ f ih =>
    intro a v
    by_cases h : a < n ∧ dgt (t a)
    · rw [show numF t n (f + 1) a v = numF t n f (a + 1) (10 * v + (t a - 48)) from if_pos h]
      exact Nat.le_trans (Nat.le_succ _) (ih (a + 1) _)
    · rw [show numF t n (f + 1) a v = (a, v) from if_neg h]
      exact Nat.le_refl _
def numS (b : Bool) (t : Nat → Int) (n a : Nat) : PR (List Int) := if b = true ∧ (numF t n 5 a 0).1 < n ∧ dgt (t (numF t n 5 a 0).1) then .bad (numF t n 5 a 0).1 else .good (numF t n 5 a 0).1 [(numF t n 5 a 0).2]
theorem numS_mono {b : Bool} {t : Nat → Int} {n : Nat} : Mono (numS b t n) := by
  intro x a c h
  unfold numS at h
  by_cases e : b = true ∧ (numF t n 5 x 0).1 < n ∧ dgt (t (numF t n 5 x 0).1)
  · rw [if_pos e] at h
    exact (bad_no h).elim
  · rw [if_neg e] at h
    have h2 := good_inj h
    rw [← h2]
    exact numF_ge _ _ _
def lets : List Int := [108, 115, 119, 107, 114, 101, 102, 99, 100, 103, 104, 117, 109, 111]
def isLet (c : Int) : Bool := lets.contains c
def isMul (c : Int) : Bool := ([42, 47] : List Int).contains c
def isAdd (c : Int) : Bool := ([43, 45] : List Int).contains c
def isCmp (c : Int) : Bool := ([61, 60, 62] : List Int).contains c
def isAnd (c : Int) : Bool := ([38] : List Int).contains c
def isOr (c : Int) : Bool := ([124] : List Int).contains c
def isSem (c : Int) : Bool := ([59] : List Int).contains c
def isLab (c : Int) : Bool := ([110, 112, 116, 97, 98] : List Int).contains c
/-- what is joined comes ahead of its sign -/
def jb (c : List Int) (s : Int) (c2 : List Int) : List Int := c ++ c2 ++ [-100 - s]
def atomO (b : Bool) (t : Nat → Int) (n : Nat) (inn : Nat → PR (List Int)) (a : Nat) : PR (List Int) := if dgt (pk t n a) then numS b t n (sk t n a) else if isLet (pk t n a) = true then .good (sk t n a + 1) [-1 - (lets.idxOf (pk t n a) : Int)] else if pk t n a = 91 then inn (sk t n a) else .bad (sk t n a)
def termO (b : Bool) (t : Nat → Int) (n : Nat) (inn : Nat → PR (List Int)) (a : Nat) : PR (List Int) := (atomO b t n inn a).andThen (opL t n isMul jb (atomO b t n inn))
def sumO (b : Bool) (t : Nat → Int) (n : Nat) (inn : Nat → PR (List Int)) (a : Nat) : PR (List Int) := (termO b t n inn a).andThen (opL t n isAdd jb (termO b t n inn))
/-- by how many more may stand within one another -/
def sumS (b : Bool) (t : Nat → Int) (n : Nat) : Nat → Nat → PR (List Int)
  | 0 => sumO b t n (fun s => .bad s)
  | d + 1 => sumO b t n (fun s => (sumS b t n d (s + 1)).andThen (clo t n 93))
def inn (b : Bool) (t : Nat → Int) (n : Nat) : Nat → Nat → PR (List Int)
  | 0 => fun s => .bad s
  | d + 1 => fun s => (sumS b t n d (s + 1)).andThen (clo t n 93)
def atomS (b : Bool) (t : Nat → Int) (n d : Nat) : Nat → PR (List Int) := atomO b t n (inn b t n d)
def termS (b : Bool) (t : Nat → Int) (n d : Nat) : Nat → PR (List Int) := termO b t n (inn b t n d)
theorem sumS_o (b : Bool) (t : Nat → Int) (n d : Nat) : sumS b t n d = sumO b t n (inn b t n d) := by
  cases d with
  | zero => rfl
  | succ d => rfl
def cmpS (b : Bool) (t : Nat → Int) (n d a : Nat) : PR (List Int) := if isCmp (pk t n a) = true then (sumS b t n d (sk t n a + 1)).andThen (fun a2 c2 => .good a2 (c2 ++ [-100 - pk t n a])) else .bad (sk t n a)
def unitO (b : Bool) (t : Nat → Int) (n d : Nat) (ui ci : Nat → PR (List Int)) (a : Nat) : PR (List Int) := if pk t n a = 33 then ui (sk t n a) else if pk t n a = 40 then ci (sk t n a) else (sumS b t n d (sk t n a)).andThen (fun a1 c1 => (cmpS b t n d a1).andThen (fun a2 c2 => .good a2 (c1 ++ c2)))
def partO (t : Nat → Int) (n : Nat) (u : Nat → PR (List Int)) (a : Nat) : PR (List Int) := (u a).andThen (opL t n isAnd jb u)
def condO (t : Nat → Int) (n : Nat) (u : Nat → PR (List Int)) (a : Nat) : PR (List Int) := (partO t n u a).andThen (opL t n isOr jb (partO t n u))
def unitS (b : Bool) (t : Nat → Int) (n : Nat) : Nat → Nat → PR (List Int)
  | 0 => unitO b t n 0 (fun s => .bad s) (fun s => .bad s)
  | d + 1 => unitO b t n (d + 1) (fun s => (unitS b t n d (s + 1)).andThen (fun a c => .good a (c ++ [-133]))) (fun s => (condO t n (unitS b t n d) (s + 1)).andThen (clo t n 41))
def partS (b : Bool) (t : Nat → Int) (n d : Nat) : Nat → PR (List Int) := partO t n (unitS b t n d)
def condS (b : Bool) (t : Nat → Int) (n d : Nat) : Nat → PR (List Int) := condO t n (unitS b t n d)
/-- the first SUM was read already -/
def partB (b : Bool) (t : Nat → Int) (n d a : Nat) : PR (List Int) := (cmpS b t n d a).andThen (opL t n isAnd jb (unitS b t n d))
def condB (b : Bool) (t : Nat → Int) (n d a : Nat) : PR (List Int) := (partB b t n d a).andThen (opL t n isOr jb (partS b t n d))
/-- a CLAUSE: its label, its CONDITION, its SUM -/
def clauseV (b : Bool) (t : Nat → Int) (n a : Nat) (lab : Int) : PR (List (Int × List Int × List Int)) := if pk t n a = 33 ∨ pk t n a = 40 then (condS b t n 8 (sk t n a)).andThen (fun a3 cc => (clo t n 63 a3 ()).andThen (fun a4 _ => (sumS b t n 8 a4).andThen (fun a5 sc => .good a5 [(lab, cc, sc)]))) else (sumS b t n 8 (sk t n a)).andThen (fun a3 c1 => if isCmp (pk t n a3) = true then (condB b t n 8 (sk t n a3)).andThen (fun a4 c2 => (clo t n 63 a4 ()).andThen (fun a5 _ => (sumS b t n 8 a5).andThen (fun a6 sc => .good a6 [(lab, c1 ++ c2, sc)]))) else .good (sk t n a3) [(lab, [], c1)])
def clauseS (b : Bool) (t : Nat → Int) (n a : Nat) : PR (List (Int × List Int × List Int)) := if isLab (pk t n a) = true then (clo t n 58 (sk t n a + 1) ()).andThen (fun a2 _ => clauseV b t n a2 (pk t n a)) else .bad (sk t n a)
def cbC (c : List (Int × List Int × List Int)) (_ : Int) (c2 : List (Int × List Int × List Int)) : List (Int × List Int × List Int) := c ++ c2
def textL (b : Bool) (t : Nat → Int) (n a : Nat) : PR (List (Int × List Int × List Int)) := (clauseS b t n a).andThen (opL t n isSem cbC (clauseS b t n))
def textS (b : Bool) (t : Nat → Int) (n : Nat) : PR (List (Int × List Int × List Int)) := (textL b t n 0).andThen (fun a c => if pk t n a = -1 then .good a c else .bad (sk t n a))
def PR.flt {α : Type} : PR α → Int
  | Sum.inl i => (i : Int)
  | Sum.inr _ => -1
/-! ===== readers go on ===== -/
theorem atomO_mono {b : Bool} {t : Nat → Int} {n : Nat} {i : Nat → PR (List Int)} (hi : Mono i) : Mono (atomO b t n i) := by
  intro x a c h
  unfold atomO at h
  have h0 := sk_ge t n x
  by_cases c1 : dgt (pk t n x)
  · rw [if_pos c1] at h
    have := numS_mono _ _ _ h
    omega
  · rw [if_neg c1] at h
    by_cases c2 : isLet (pk t n x) = true
    · rw [if_pos c2] at h
      have := good_inj h
      omega
    · rw [if_neg c2] at h
      by_cases c3 : pk t n x = 91
      · rw [if_pos c3] at h
        have := hi _ _ _ h
        omega
      · rw [if_neg c3] at h
        exact (bad_no h).elim
theorem termO_mono {b : Bool} {t : Nat → Int} {n : Nat} {i : Nat → PR (List Int)} (hi : Mono i) : Mono (termO b t n i) := fun _ => andThen_mono (fun a c h => atomO_mono hi _ _ _ h) (fun _ _ _ _ _ h => opL_mono (atomO_mono hi) h)
theorem sumO_mono {b : Bool} {t : Nat → Int} {n : Nat} {i : Nat → PR (List Int)} (hi : Mono i) : Mono (sumO b t n i) := fun _ => andThen_mono (fun a c h => termO_mono hi _ _ _ h) (fun _ _ _ _ _ h => opL_mono (termO_mono hi) h)
theorem bad_mono {α : Type} : Mono (fun s => (PR.bad s : PR α)) := fun _ _ _ h => (bad_no h).elim
theorem in_mono {t : Nat → Int} {n : Nat} {s : Int} {r : Nat → PR (List Int)} (hr : Mono r) : Mono (fun x => (r (x + 1)).andThen (clo t n s)) := fun x => andThen_mono (fun a c h => Nat.le_trans (Nat.le_succ _) (hr _ _ _ h)) (fun _ _ _ _ _ h => clo_mono h)
theorem sumS_mono (b : Bool) (t : Nat → Int) (n : Nat) : ∀ d, Mono (sumS b t n d) := by
  intro d
  induction d with
  | zero => exact sumO_mono bad_mono
  | succ d ih => exact sumO_mono (in_mono ih)
theorem inn_mono (b : Bool) (t : Nat → Int) (n d : Nat) : Mono (inn b t n d) := by
  cases d with
  | zero => exact bad_mono
  | succ d => exact in_mono (sumS_mono b t n d)
theorem atomS_mono (b : Bool) (t : Nat → Int) (n d : Nat) : Mono (atomS b t n d) := atomO_mono (inn_mono b t n d)
theorem termS_mono (b : Bool) (t : Nat → Int) (n d : Nat) : Mono (termS b t n d) := termO_mono (inn_mono b t n d)
theorem cmpS_mono (b : Bool) (t : Nat → Int) (n d : Nat) : Mono (cmpS b t n d) := by
  intro x a c h
  unfold cmpS at h
  have h0 := sk_ge t n x
  by_cases c1 : isCmp (pk t n x) = true
  · rw [if_pos c1] at h
    exact andThen_mono (x := x) (fun a c h => by have := sumS_mono b t n d _ _ _ h; omega) (fun a c a2 c2 _ h => by have := good_inj h; omega) a c h
  · rw [if_neg c1] at h
    exact (bad_no h).elim
theorem unitO_mono {b : Bool} {t : Nat → Int} {n d : Nat} {u c : Nat → PR (List Int)} (hu : Mono u) (hc : Mono c) : Mono (unitO b t n d u c) := by
  intro x a v h
  unfold unitO at h
  have h0 := sk_ge t n x
  by_cases c1 : pk t n x = 33
  · rw [if_pos c1] at h
    have := hu _ _ _ h
    omega
  · rw [if_neg c1] at h
    by_cases c2 : pk t n x = 40
    · rw [if_pos c2] at h
      have := hc _ _ _ h
      omega
    · rw [if_neg c2] at h
      exact andThen_mono (x := x) (fun a c h => by have := sumS_mono b t n d _ _ _ h; omega) (fun a c a2 c2 _ h => andThen_mono (x := a) (fun a c h => cmpS_mono b t n d _ _ _ h) (fun a c a2 c2 _ h => by have := good_inj h; omega) a2 c2 h) a v h
theorem partO_mono {t : Nat → Int} {n : Nat} {u : Nat → PR (List Int)} (hu : Mono u) : Mono (partO t n u) := fun _ => andThen_mono (fun a c h => hu _ _ _ h) (fun _ _ _ _ _ h => opL_mono hu h)
theorem condO_mono {t : Nat → Int} {n : Nat} {u : Nat → PR (List Int)} (hu : Mono u) : Mono (condO t n u) := fun _ => andThen_mono (fun a c h => partO_mono hu _ _ _ h) (fun _ _ _ _ _ h => opL_mono (partO_mono hu) h)
theorem unitS_mono (b : Bool) (t : Nat → Int) (n : Nat) : ∀ d, Mono (unitS b t n d) := by
  intro d
  induction d with
  | zero => exact unitO_mono bad_mono bad_mono
  | succ d ih => exact unitO_mono (fun x => andThen_mono (fun a c h => Nat.le_trans (Nat.le_succ _) (ih _ _ _ h)) (fun a c a2 c2 _ h => by have := good_inj h; omega)) (in_mono (condO_mono ih))
theorem partS_mono (b : Bool) (t : Nat → Int) (n d : Nat) : Mono (partS b t n d) := partO_mono (unitS_mono b t n d)
theorem condS_mono (b : Bool) (t : Nat → Int) (n d : Nat) : Mono (condS b t n d) := condO_mono (unitS_mono b t n d)
theorem partB_mono (b : Bool) (t : Nat → Int) (n d : Nat) : Mono (partB b t n d) := fun _ => andThen_mono (fun a c h => cmpS_mono b t n d _ _ _ h) (fun _ _ _ _ _ h => opL_mono (unitS_mono b t n d) h)
theorem condB_mono (b : Bool) (t : Nat → Int) (n d : Nat) : Mono (condB b t n d) := fun _ => andThen_mono (fun a c h => partB_mono b t n d _ _ _ h) (fun _ _ _ _ _ h => opL_mono (partS_mono b t n d) h)
theorem andThen_m {α β : Type} {x k : Nat} {r : PR α} {f : Nat → α → PR β} (h1 : ∀ a c, r = .good a c → x ≤ a) (h2 : ∀ a c a2 c2, x ≤ a → f a c = .good a2 c2 → a + k ≤ a2) : ∀ a c, r.andThen f = .good a c → x + k ≤ a := by
  intro a c h
  rcases hr : r with i | ⟨a1, c1⟩
  · 
    rw [hr] at h
    exact (bad_no h).elim
  · 
    rw [hr] at h
    have h5 := h1 a1 c1 hr
    have h6 := h2 a1 c1 a c h5 h
    omega
theorem clo_m1 {α : Type} {t : Nat → Int} {n : Nat} {s : Int} {a : Nat} {c : α} {a2 : Nat} {c2 : α} (h : clo t n s a c = .good a2 c2) : a + 1 ≤ a2 := by
  unfold clo at h
  by_cases e : pk t n a = s
  · rw [if_pos e] at h
    have := good_inj h
    have := sk_ge t n a
    omega
  · rw [if_neg e] at h
    exact (bad_no h).elim
theorem clauseV_mono (b : Bool) (t : Nat → Int) (n : Nat) (lab : Int) (x : Nat) : ∀ a c, clauseV b t n x lab = .good a c → x ≤ a := by
  intro a c h
  unfold clauseV at h
  have h0 := sk_ge t n x
  by_cases c1 : pk t n x = 33 ∨ pk t n x = 40
  · rw [if_pos c1] at h
    exact andThen_mono (x := x) (fun a c h => by have := condS_mono b t n 8 _ _ _ h; omega) (fun a3 c3 a4 c4 _ h => andThen_mono (x := a3) (fun a c h => clo_mono h) (fun a5 c5 a6 c6 _ h => andThen_mono (x := a5) (fun a c h => sumS_mono b t n 8 _ _ _ h) (fun a7 c7 a8 c8 _ h => by have := good_inj h; omega) a6 c6 h) a4 c4 h) a c h
  · rw [if_neg c1] at h
    refine andThen_mono (x := x) (fun a c h => by have := sumS_mono b t n 8 _ _ _ h; omega) (fun a3 c3 a4 c4 _ h => ?_) a c h
    have h3 := sk_ge t n a3
    by_cases c2 : isCmp (pk t n a3) = true
    · rw [if_pos c2] at h
      exact andThen_mono (x := a3) (fun a c h => by have := condB_mono b t n 8 _ _ _ h; omega) (fun a5 c5 a6 c6 _ h => andThen_mono (x := a5) (fun a c h => clo_mono h) (fun a7 c7 a8 c8 _ h => andThen_mono (x := a7) (fun a c h => sumS_mono b t n 8 _ _ _ h) (fun a9 c9 a10 c10 _ h => by have := good_inj h; omega) a8 c8 h) a6 c6 h) a4 c4 h
    · rw [if_neg c2] at h
      have := good_inj h
      omega
theorem clauseS_mono (b : Bool) (t : Nat → Int) (n : Nat) : Mono (clauseS b t n) := by
  intro x a c h
  unfold clauseS at h
  have h0 := sk_ge t n x
  by_cases c1 : isLab (pk t n x) = true
  · rw [if_pos c1] at h
    exact andThen_mono (x := x) (fun a c h => by have := clo_mono h; omega) (fun a1 c1 a2 c2 _ h => clauseV_mono b t n _ _ _ _ h) a c h
  · rw [if_neg c1] at h
    exact (bad_no h).elim
/-! ===== a sixth sign of a number: amiss at once, or behind it ===== -/
def Ql {α : Type} (t : Nat → Int) (n : Nat) (x y : PR α) : Prop := x = y ∨ ∃ a c, x = .good a c ∧ a < n ∧ dgt (t a) ∧ y = .bad a
/-- nothing takes such a sign -/
def Pn {α β : Type} (t : Nat → Int) (n : Nat) (k : Nat → α → PR β) : Prop := ∀ a c, a < n → dgt (t a) → k a c = .bad a ∨ ∃ c', k a c = .good a c'
theorem ql_andThen {α β : Type} {t : Nat → Int} {n : Nat} {x y : PR α} {k k' : Nat → α → PR β} (h : Ql t n x y) (hp : Pn t n k) (hk : ∀ a c, Ql t n (k a c) (k' a c)) : Ql t n (x.andThen k) (y.andThen k') := by
  rcases h with rfl | ⟨a, c, rfl, h1, h2, rfl⟩
  · rcases x with i | ⟨a, c⟩
    · exact Or.inl rfl
    · exact hk a c
  · rcases hp a c h1 h2 with h3 | ⟨c', h3⟩
    · exact Or.inl h3
    · exact Or.inr ⟨a, c', h3, h1, h2, rfl⟩
theorem pk_d {t : Nat → Int} {n a : Nat} (h : a < n) (h1 : dgt (t a)) : pk t n a = t a ∧ sk t n a = a := by
  have h2 : ¬ t a = 32 := fun e => by
    unfold dgt at h1
    omega
  exact ⟨pk_dg h h2, sk_0 (fun q => h2 q.2)⟩
theorem pn_opL {α : Type} {t : Nat → Int} {n : Nat} {op : Int → Bool} {cb : α → Int → α → α} {rd : Nat → PR α} (hd : ∀ c, dgt c → op c = false) : Pn t n (opL t n op cb rd) := fun a c h1 h2 => by
  obtain ⟨h3, h4⟩ := pk_d h1 h2
  exact Or.inr ⟨c, by rw [opL_0 (by rw [h3, hd _ h2]; decide), h4]⟩
theorem pn_clo {α : Type} {t : Nat → Int} {n : Nat} {s : Int} (hs : ¬ dgt s) : Pn t n (clo (α := α) t n s) := fun a c h1 h2 => by
  obtain ⟨h3, h4⟩ := pk_d h1 h2
  refine Or.inl ?_
  unfold clo
  rw [if_neg (fun e => hs (by rw [← e, h3]; exact h2)), h4]
theorem pn_andThen {α β γ : Type} {t : Nat → Int} {n : Nat} {k : Nat → α → PR β} {m : Nat → α → Nat → β → PR γ} (hk : Pn t n k) (hm : ∀ a c, Pn t n (m a c)) : Pn t n (fun a c => (k a c).andThen (m a c)) := fun a c h1 h2 => by
  rcases hk a c h1 h2 with h3 | ⟨c', h3⟩
  · exact Or.inl (by show (k a c).andThen _ = _; rw [h3]; rfl)
  · show (k a c).andThen _ = _ ∨ ∃ c', (k a c).andThen _ = _
    rw [h3]
    exact hm a c a c' h1 h2
theorem ql_opF {α : Type} {t : Nat → Int} {n : Nat} {op : Int → Bool} {cb : α → Int → α → α} {rd rd' : Nat → PR α} (hd : ∀ c, dgt c → op c = false) (hr : ∀ a, Ql t n (rd a) (rd' a)) : ∀ f a c, Ql t n (opF t n op cb rd f a c) (opF t n op cb rd' f a c) := by
  intro f
  induction f with
  | zero => exact fun a c => Or.inl rfl
  | succ f ih =>
    intro a c
    by_cases c1 : op (pk t n a) = true
    · rw [show opF t n op cb rd (f + 1) a c = (rd (sk t n a + 1)).andThen (fun a2 c2 => opF t n op cb rd f a2 (cb c (pk t n a) c2)) from if_pos c1, show opF t n op cb rd' (f + 1) a c = (rd' (sk t n a + 1)).andThen (fun a2 c2 => opF t n op cb rd' f a2 (cb c (pk t n a) c2)) from if_pos c1]
      refine ql_andThen (hr _) (fun a3 c3 h1 h2 => ?_) (fun a3 c3 => ih a3 _)
      obtain ⟨h3, h4⟩ := pk_d h1 h2
      refine Or.inr ⟨cb c (pk t n a) c3, ?_⟩
      cases f with
      | zero =>
        show PR.good (sk t n a3) _ = _
        rw [h4]
      | succ f => exact (if_neg (by rw [h3, hd _ h2]; decide)).trans (by rw [h4])
    · rw [show opF t n op cb rd (f + 1) a c = .good (sk t n a) c from if_neg c1, show opF t n op cb rd' (f + 1) a c = .good (sk t n a) c from if_neg c1]
      exact Or.inl rfl
theorem ql_opL {α : Type} {t : Nat → Int} {n : Nat} {op : Int → Bool} {cb : α → Int → α → α} {rd rd' : Nat → PR α} (hd : ∀ c, dgt c → op c = false) (hr : ∀ a, Ql t n (rd a) (rd' a)) (a : Nat) (c : α) : Ql t n (opL t n op cb rd a c) (opL t n op cb rd' a c) := ql_opF hd hr _ a c
theorem dg_l {l : List Int} (hl : ∀ x ∈ l, ¬ dgt x) (c : Int) (h : dgt c) : l.contains c = false := by
  cases q : l.contains c with
  | false => rfl
  | true => exact absurd h (hl c (by simpa using q))
theorem dg_mul (c : Int) (h : dgt c) : isMul c = false := dg_l (by decide) c h
theorem dg_add (c : Int) (h : dgt c) : isAdd c = false := dg_l (by decide) c h
theorem dg_cmp (c : Int) (h : dgt c) : isCmp c = false := dg_l (by decide) c h
theorem dg_and (c : Int) (h : dgt c) : isAnd c = false := dg_l (by decide) c h
theorem dg_or (c : Int) (h : dgt c) : isOr c = false := dg_l (by decide) c h
theorem dg_sem (c : Int) (h : dgt c) : isSem c = false := dg_l (by decide) c h
section QL
variable {t : Nat → Int} {n : Nat}
theorem ql_num (a : Nat) : Ql t n (numS false t n a) (numS true t n a) := by
  have h0 : numS false t n a = .good (numF t n 5 a 0).1 [(numF t n 5 a 0).2] := if_neg (fun q => absurd q.1 (by decide))
  by_cases h : (numF t n 5 a 0).1 < n ∧ dgt (t (numF t n 5 a 0).1)
  · exact Or.inr ⟨_, _, h0, h.1, h.2, if_pos ⟨rfl, h.1, h.2⟩⟩
  · exact Or.inl (h0.trans (if_neg (fun q => h q.2)).symm)
theorem ql_atomO {i i' : Nat → PR (List Int)} (hi : ∀ a, Ql t n (i a) (i' a)) (a : Nat) : Ql t n (atomO false t n i a) (atomO true t n i' a) := by
  unfold atomO
  by_cases c1 : dgt (pk t n a)
  · rw [if_pos c1, if_pos c1]
    exact ql_num _
  · rw [if_neg c1, if_neg c1]
    by_cases c2 : isLet (pk t n a) = true
    · rw [if_pos c2, if_pos c2]
      exact Or.inl rfl
    · rw [if_neg c2, if_neg c2]
      by_cases c3 : pk t n a = 91
      · rw [if_pos c3, if_pos c3]
        exact hi _
      · rw [if_neg c3, if_neg c3]
        exact Or.inl rfl
theorem ql_termO {i i' : Nat → PR (List Int)} (hi : ∀ a, Ql t n (i a) (i' a)) (a : Nat) : Ql t n (termO false t n i a) (termO true t n i' a) := ql_andThen (ql_atomO hi a) (pn_opL dg_mul) (fun a c => ql_opL dg_mul (ql_atomO hi) a c)
theorem ql_sumO {i i' : Nat → PR (List Int)} (hi : ∀ a, Ql t n (i a) (i' a)) (a : Nat) : Ql t n (sumO false t n i a) (sumO true t n i' a) := ql_andThen (ql_termO hi a) (pn_opL dg_add) (fun a c => ql_opL dg_add (ql_termO hi) a c)
theorem ql_inn {r r' : Nat → PR (List Int)} (h : ∀ a, Ql t n (r a) (r' a)) {s : Int} (hs : ¬ dgt s) (a : Nat) : Ql t n ((r (a + 1)).andThen (clo t n s)) ((r' (a + 1)).andThen (clo t n s)) := ql_andThen (h _) (pn_clo hs) (fun _ _ => Or.inl rfl)
theorem ql_sumS : ∀ d a, Ql t n (sumS false t n d a) (sumS true t n d a) := by
  intro d
  induction d with
  | zero => exact ql_sumO (fun a => Or.inl rfl)
  | succ d ih => exact ql_sumO (ql_inn ih (by decide))
theorem ql_cmpS (d a : Nat) : Ql t n (cmpS false t n d a) (cmpS true t n d a) := by
  unfold cmpS
  by_cases c1 : isCmp (pk t n a) = true
  · rw [if_pos c1, if_pos c1]
    exact ql_andThen (ql_sumS d _) (fun a2 c2 _ _ => Or.inr ⟨_, rfl⟩) (fun _ _ => Or.inl rfl)
  · rw [if_neg c1, if_neg c1]
    exact Or.inl rfl
theorem pn_cmpS (b : Bool) (d : Nat) : Pn t n (fun a (_ : List Int) => cmpS b t n d a) := fun a c h1 h2 => by
  obtain ⟨h3, h4⟩ := pk_d h1 h2
  refine Or.inl ?_
  show cmpS b t n d a = _
  unfold cmpS
  rw [if_neg (by rw [h3, dg_cmp _ h2]; decide), h4]
theorem ql_unitO {d : Nat} {u u' c c' : Nat → PR (List Int)} (hu : ∀ a, Ql t n (u a) (u' a)) (hc : ∀ a, Ql t n (c a) (c' a)) (a : Nat) : Ql t n (unitO false t n d u c a) (unitO true t n d u' c' a) := by
  unfold unitO
  by_cases c1 : pk t n a = 33
  · rw [if_pos c1, if_pos c1]
    exact hu _
  · rw [if_neg c1, if_neg c1]
    by_cases c2 : pk t n a = 40
    · rw [if_pos c2, if_pos c2]
      exact hc _
    · rw [if_neg c2, if_neg c2]
      exact ql_andThen (ql_sumS d _) (pn_andThen (m := fun _ c1 a2 c2 => PR.good a2 (c1 ++ c2)) (pn_cmpS false d) (fun a c a2 c2 _ _ => Or.inr ⟨_, rfl⟩)) (fun a c => ql_andThen (ql_cmpS d a) (fun a2 c2 _ _ => Or.inr ⟨_, rfl⟩) (fun _ _ => Or.inl rfl))
theorem ql_partO {u u' : Nat → PR (List Int)} (hu : ∀ a, Ql t n (u a) (u' a)) (a : Nat) : Ql t n (partO t n u a) (partO t n u' a) := ql_andThen (hu a) (pn_opL dg_and) (fun a c => ql_opL dg_and hu a c)
theorem ql_condO {u u' : Nat → PR (List Int)} (hu : ∀ a, Ql t n (u a) (u' a)) (a : Nat) : Ql t n (condO t n u a) (condO t n u' a) := ql_andThen (ql_partO hu a) (pn_opL dg_or) (fun a c => ql_opL dg_or (ql_partO hu) a c)
theorem ql_unitS : ∀ d a, Ql t n (unitS false t n d a) (unitS true t n d a) := by
  intro d
  induction d with
  | zero => exact ql_unitO (fun a => Or.inl rfl) (fun a => Or.inl rfl)
  | succ d ih => exact ql_unitO (fun a => ql_andThen (ih _) (fun a2 c2 _ _ => Or.inr ⟨_, rfl⟩) (fun _ _ => Or.inl rfl)) (ql_inn (ql_condO ih) (by decide))
theorem ql_partS (d a : Nat) : Ql t n (partS false t n d a) (partS true t n d a) := ql_partO (ql_unitS d) a
theorem ql_condS (d a : Nat) : Ql t n (condS false t n d a) (condS true t n d a) := ql_condO (ql_unitS d) a
theorem ql_partB (d a : Nat) : Ql t n (partB false t n d a) (partB true t n d a) := ql_andThen (ql_cmpS d a) (pn_opL dg_and) (fun a c => ql_opL dg_and (ql_unitS d) a c)
theorem ql_condB (d a : Nat) : Ql t n (condB false t n d a) (condB true t n d a) := ql_andThen (ql_partB d a) (pn_opL dg_or) (fun a c => ql_opL dg_or (ql_partS d) a c)
/-- such a sign is amiss there -/
def Pb {α β : Type} (t : Nat → Int) (n : Nat) (k : Nat → α → PR β) : Prop := ∀ a c, a < n → dgt (t a) → k a c = .bad a
theorem pb_pn {α β : Type} {k : Nat → α → PR β} (h : Pb t n k) : Pn t n k := fun a c h1 h2 => Or.inl (h a c h1 h2)
theorem pb_andThen {α β γ : Type} {k : Nat → α → PR β} {m : Nat → α → Nat → β → PR γ} (h : Pb t n k) : Pb t n (fun a c => (k a c).andThen (m a c)) := fun a c h1 h2 => by
  show (k a c).andThen _ = _
  rw [h a c h1 h2]
  rfl
theorem pb_clo {α β : Type} {s : Int} (hs : ¬ dgt s) {f : α → β} : Pb t n (fun a (c : α) => clo t n s a (f c)) := fun a c h1 h2 => by
  obtain ⟨h3, h4⟩ := pk_d h1 h2
  show clo t n s a (f c) = _
  unfold clo
  rw [if_neg (fun e => hs (by rw [← e, h3]; exact h2)), h4]
theorem ql_same {α β : Type} {x : PR α} {k k' : Nat → α → PR β} (hk : ∀ a c, Ql t n (k a c) (k' a c)) : Ql t n (x.andThen k) (x.andThen k') := by
  rcases x with i | ⟨a, c⟩
  · exact Or.inl rfl
  · exact hk a c
theorem ql_clauseV (a : Nat) (lab : Int) : Ql t n (clauseV false t n a lab) (clauseV true t n a lab) := by
  unfold clauseV
  by_cases c1 : pk t n a = 33 ∨ pk t n a = 40
  · rw [if_pos c1, if_pos c1]
    exact ql_andThen (ql_condS 8 _) (pb_pn (pb_andThen (pb_clo (s := 63) (by decide) (f := fun _ => ())))) (fun a c => ql_same (fun a4 _ => ql_andThen (ql_sumS 8 a4) (fun a2 c2 _ _ => Or.inr ⟨_, rfl⟩) (fun _ _ => Or.inl rfl)))
  · rw [if_neg c1, if_neg c1]
    refine ql_andThen (ql_sumS 8 _) (fun a2 c2 h1 h2 => ?_) (fun a2 c2 => ?_)
    · obtain ⟨h3, h4⟩ := pk_d h1 h2
      rw [if_neg (by rw [h3, dg_cmp _ h2]; decide), h4]
      exact Or.inr ⟨_, rfl⟩
    · by_cases c2 : isCmp (pk t n a2) = true
      · rw [if_pos c2, if_pos c2]
        exact ql_andThen (ql_condB 8 _) (pb_pn (pb_andThen (pb_clo (s := 63) (by decide) (f := fun _ => ())))) (fun a c => ql_same (fun a4 _ => ql_andThen (ql_sumS 8 a4) (fun a2 c2 _ _ => Or.inr ⟨_, rfl⟩) (fun _ _ => Or.inl rfl)))
      · rw [if_neg c2, if_neg c2]
        exact Or.inl rfl
theorem ql_clauseS (a : Nat) : Ql t n (clauseS false t n a) (clauseS true t n a) := by
  unfold clauseS
  by_cases c1 : isLab (pk t n a) = true
  · rw [if_pos c1, if_pos c1]
    exact ql_same (fun a2 _ => ql_clauseV a2 _)
  · rw [if_neg c1, if_neg c1]
    exact Or.inl rfl
theorem ql_textL (a : Nat) : Ql t n (textL false t n a) (textL true t n a) := ql_andThen (ql_clauseS a) (pn_opL dg_sem) (fun a c => ql_opL dg_sem ql_clauseS a c)
/-- both ways the same FAULT, the same CLAUSES -/
theorem text_eq : textS false t n = textS true t n := by
  unfold textS
  rcases ql_textL (t := t) (n := n) 0 with h | ⟨a, c, h, h1, h2, h3⟩
  · rw [h]
  · rw [h, h3]
    obtain ⟨h4, h5⟩ := pk_d h1 h2
    show (if pk t n a = -1 then PR.good a c else PR.bad (sk t n a)) = _
    rw [if_neg (by rw [h4]; unfold dgt at h2; omega), h5]
    rfl
end QL
end
section
/-! ===== the class's TAPE in a world ===== -/
def tT (E : Nat → va_E) : Nat → Int := fun j => (xi (E 21) j).toInt
def tN (E : Nat → va_E) : Nat := (xi (E 2) 1).toNatClampNeg
def tA (E : Nat → va_E) : Nat := (xi (E 2) 2).toNatClampNeg
def tF (E : Nat → va_E) : Int := (xi (E 2) 3).toInt
def TS (E E' : Nat → va_E) : Prop := tT E' = tT E ∧ tN E' = tN E
theorem TS.rf {E : Nat → va_E} : TS E E := ⟨rfl, rfl⟩
theorem TS.tr {E E1 E2 : Nat → va_E} (h : TS E E1) (h1 : TS E1 E2) : TS E E2 := ⟨h1.1.trans h.1, h1.2.trans h.2⟩
theorem TS.kp {w : Nat → Nat → Bool} {E E' : Nat → va_E} (hk : Kp w E E') (h1 : ∀ j, w 21 j = false) (h2 : w 2 1 = false) : TS E E' := ⟨funext (fun j => congrArg Int32.toInt (congrArg vi (hk 21 j (h1 j)))), congrArg Int32.toNatClampNeg (congrArg vi (hk 2 1 h2))⟩
/-- what a reader comes to -/
def Out {α : Type} (r : PR α) (E : Nat → va_E) : Prop := match r with
  | Sum.inl i => tF E = (i : Int)
  | Sum.inr (a, _) => tF E = -1 ∧ tA E = a
def RdC {α : Type} (P : (Nat → Int) → Nat → Nat → PR α) (E E' : Nat → va_E) : Prop := TS E E' ∧ (¬ tF E = -1 → tF E' = tF E) ∧ (tF E = -1 → Out (P (tT E) (tN E) (tA E)) E')
def RdN (E E' : Nat → va_E) (r : Int32) : Prop := TS E E' ∧ tF E' = tF E ∧ (¬ tF E = -1 → r.toInt = -2 ∧ tA E' = tA E) ∧ (tF E = -1 → r.toInt = pk (tT E) (tN E) (tA E) ∧ tA E' = sk (tT E) (tN E) (tA E))
def RdF (E E' : Nat → va_E) : Prop := TS E E' ∧ (¬ tF E = -1 → tF E' = tF E) ∧ (tF E = -1 → tF E' = (tA E : Int))
def AtP (E E' : Nat → va_E) : Prop := TS E E' ∧ tF E' = tF E ∧ tA E' = tA E + 1
def KS (E E' : Nat → va_E) : Prop := TS E E' ∧ tF E' = tF E ∧ tA E' = tA E
theorem KS.rf {E : Nat → va_E} : KS E E := ⟨TS.rf, rfl, rfl⟩
theorem KS.tr {E E1 E2 : Nat → va_E} (h : KS E E1) (h1 : KS E1 E2) : KS E E2 := ⟨h.1.tr h1.1, h1.2.1.trans h.2.1, h1.2.2.trans h.2.2⟩
theorem KS.kp {w : Nat → Nat → Bool} {E E' : Nat → va_E} (hk : Kp w E E') (h1 : ∀ j, w 21 j = false) (h2 : w 2 1 = false) (h3 : w 2 2 = false) (h4 : w 2 3 = false) : KS E E' := ⟨TS.kp hk h1 h2, congrArg Int32.toInt (congrArg vi (hk 2 3 h4)), congrArg Int32.toNatClampNeg (congrArg vi (hk 2 2 h3))⟩
theorem KS.pw {o j : Nat} {E E' : Nat → va_E} (hk : ∀ o9 j9, ¬ (o9 = o ∧ j9 = j) → xv (E' o9) j9 = xv (E o9) j9) (h1 : ¬ o = 21) (h2 : o = 2 → ¬ j = 1 ∧ ¬ j = 2 ∧ ¬ j = 3) : KS E E' := ⟨⟨funext (fun k => congrArg Int32.toInt (congrArg vi (hk 21 k (fun q => h1 q.1.symm)))), congrArg Int32.toNatClampNeg (congrArg vi (hk 2 1 (fun q => (h2 q.1.symm).1 q.2.symm)))⟩, congrArg Int32.toInt (congrArg vi (hk 2 3 (fun q => (h2 q.1.symm).2.2 q.2.symm))), congrArg Int32.toNatClampNeg (congrArg vi (hk 2 2 (fun q => (h2 q.1.symm).2.1 q.2.symm)))⟩
theorem AtP.pw {E E' : Nat → va_E} {x y : Int32} (hk : ∀ o9 j9, ¬ (o9 = 2 ∧ j9 = 2) → xv (E' o9) j9 = xv (E o9) j9) (h0 : xi (E 2) 2 = x) (h1 : xi (E' 2) 2 = y) (t : y.toInt = x.toInt + 1) (hx : 0 ≤ x.toInt) : AtP E E' := ⟨⟨funext (fun k => congrArg Int32.toInt (congrArg vi (hk 21 k (by omega)))), congrArg Int32.toNatClampNeg (congrArg vi (hk 2 1 (by omega)))⟩, congrArg Int32.toInt (congrArg vi (hk 2 3 (by omega))), by
  unfold tA
  rw [h0, h1, tn_, tn_]
  omega⟩
theorem Out.andThen {α β : Type} {r : PR α} {f : Nat → α → PR β} {E1 E2 : Nat → va_E} (h1 : Out r E1) (h2 : ¬ tF E1 = -1 → tF E2 = tF E1) (h3 : tF E1 = -1 → ∀ c, r = .good (tA E1) c → Out (f (tA E1) c) E2) : Out (r.andThen f) E2 := by
  rcases r with i | ⟨a, c⟩
  · 
    have h4 : tF E1 = (i : Int) := h1
    exact (h2 (by omega)).trans h4
  · 
    obtain ⟨h4, rfl⟩ : tF E1 = -1 ∧ tA E1 = a := h1
    exact h3 h4 c rfl
theorem Out.f {α : Type} {r : PR α} {E : Nat → va_E} (h : Out r E) (hf : tF E = -1) : ∃ c, r = .good (tA E) c := by
  rcases r with i | ⟨a, c⟩
  · 
    have h4 : tF E = (i : Int) := h
    exfalso
    omega
  · 
    obtain ⟨_, rfl⟩ : tF E = -1 ∧ tA E = a := h
    exact ⟨c, rfl⟩
theorem Out.kf {α : Type} {r : PR α} {E E' : Nat → va_E} (h : Out r E) (hf : tF E' = tF E) (ha : tF E = -1 → tA E' = tA E) : Out r E' := by
  rcases r with i | ⟨a, c⟩
  · exact hf.trans h
  · 
    obtain ⟨h4, h5⟩ : tF E = -1 ∧ tA E = a := h
    exact ⟨hf.trans h4, (ha h4).trans h5⟩
/-- one reader behind another -/
theorem RdC.andThen {α β γ : Type} {P : (Nat → Int) → Nat → Nat → PR α} {Q : (Nat → Int) → Nat → Nat → PR γ} {R : (Nat → Int) → Nat → Nat → PR β} {f : (Nat → Int) → Nat → Nat → α → PR β} {E E1 E2 : Nat → va_E} (h : RdC P E E1) (h1 : RdC Q E1 E2) (hR : ∀ t n a, R t n a = (P t n a).andThen (f t n)) (hQ : ∀ t n a c E9, Out (Q t n a) E9 → Out (f t n a c) E9) : RdC R E E2 := ⟨h.1.tr h1.1, fun q => (h1.2.1 (by rw [h.2.1 q]; exact q)).trans (h.2.1 q), fun q => by
  rw [hR]
  refine Out.andThen (h.2.2 q) h1.2.1 (fun q1 c _ => ?_)
  have h5 := h1.2.2 q1
  rw [h.1.1, h.1.2] at h5
  exact hQ _ _ _ c _ h5⟩
theorem RdC.ks {α : Type} {P : (Nat → Int) → Nat → Nat → PR α} {E E1 E2 : Nat → va_E} (h : RdC P E E1) (h1 : KS E1 E2) : RdC P E E2 := ⟨h.1.tr h1.1, fun q => h1.2.1.trans (h.2.1 q), fun q => (h.2.2 q).kf h1.2.1 (fun _ => h1.2.2)⟩
theorem RdC.sk0 {α : Type} {P : (Nat → Int) → Nat → Nat → PR α} {E E1 E2 : Nat → va_E} (h1 : KS E E1) (h : RdC P E1 E2) : RdC P E E2 := ⟨h1.1.tr h.1, fun q => (h.2.1 (by rw [h1.2.1]; exact q)).trans h1.2.1, fun q => by
  have h5 := h.2.2 (h1.2.1.trans q)
  rw [h1.1.1, h1.1.2, h1.2.2] at h5
  exact h5⟩
theorem RdC.cg {α β : Type} {P : (Nat → Int) → Nat → Nat → PR α} {R : (Nat → Int) → Nat → Nat → PR β} {E E' : Nat → va_E} (h : RdC P E E') (hR : ∀ E9, Out (P (tT E) (tN E) (tA E)) E9 → Out (R (tT E) (tN E) (tA E)) E9) : RdC R E E' := ⟨h.1, h.2.1, fun q => hR _ (h.2.2 q)⟩
/-- what stands behind a look, a place on -/
theorem RdN.rd {α β : Type} {P : (Nat → Int) → Nat → Nat → PR α} {R : (Nat → Int) → Nat → Nat → PR β} {E E1 E2 : Nat → va_E} {r : Int32} (hN : RdN E E1 r) (h : RdC P E1 E2) (hR : tF E = -1 → r.toInt = pk (tT E) (tN E) (tA E) → ∀ E9, Out (P (tT E) (tN E) (sk (tT E) (tN E) (tA E))) E9 → Out (R (tT E) (tN E) (tA E)) E9) : RdC R E E2 := ⟨hN.1.tr h.1, fun q => (h.2.1 (by rw [hN.2.1]; exact q)).trans hN.2.1, fun q => by
  have h5 := h.2.2 (hN.2.1.trans q)
  rw [hN.1.1, hN.1.2, (hN.2.2.2 q).2] at h5
  exact hR q (hN.2.2.2 q).1 _ h5⟩
theorem RdN.at {α β : Type} {P : (Nat → Int) → Nat → Nat → PR α} {R : (Nat → Int) → Nat → Nat → PR β} {E E1 E2 E3 : Nat → va_E} {r : Int32} (hN : RdN E E1 r) (ha : AtP E1 E2) (h : RdC P E2 E3) (hR : tF E = -1 → r.toInt = pk (tT E) (tN E) (tA E) → ∀ E9, Out (P (tT E) (tN E) (sk (tT E) (tN E) (tA E) + 1)) E9 → Out (R (tT E) (tN E) (tA E)) E9) : RdC R E E3 := ⟨(hN.1.tr ha.1).tr h.1, fun q => (h.2.1 (by rw [ha.2.1, hN.2.1]; exact q)).trans (ha.2.1.trans hN.2.1), fun q => by
  have h5 := h.2.2 (ha.2.1.trans (hN.2.1.trans q))
  rw [ha.1.1, ha.1.2, hN.1.1, hN.1.2, ha.2.2, (hN.2.2.2 q).2] at h5
  exact hR q (hN.2.2.2 q).1 _ h5⟩
/-- a place on alone -/
theorem RdN.at0 {β : Type} {R : (Nat → Int) → Nat → Nat → PR β} {E E1 E2 : Nat → va_E} {r : Int32} (hN : RdN E E1 r) (ha : AtP E1 E2) (hR : tF E = -1 → r.toInt = pk (tT E) (tN E) (tA E) → ∃ c, R (tT E) (tN E) (tA E) = .good (sk (tT E) (tN E) (tA E) + 1) c) : RdC R E E2 := ⟨hN.1.tr ha.1, fun q => ha.2.1.trans hN.2.1, fun q => by
  obtain ⟨c, hc⟩ := hR q (hN.2.2.2 q).1
  rw [hc]
  exact ⟨ha.2.1.trans (hN.2.1.trans q), by rw [ha.2.2, (hN.2.2.2 q).2]⟩⟩
theorem RdN.f {β : Type} {R : (Nat → Int) → Nat → Nat → PR β} {E E1 E2 : Nat → va_E} {r : Int32} (hN : RdN E E1 r) (hf : RdF E1 E2) (hR : tF E = -1 → r.toInt = pk (tT E) (tN E) (tA E) → R (tT E) (tN E) (tA E) = .bad (sk (tT E) (tN E) (tA E))) : RdC R E E2 := ⟨hN.1.tr hf.1, fun q => (hf.2.1 (by rw [hN.2.1]; exact q)).trans hN.2.1, fun q => by
  rw [hR q (hN.2.2.2 q).1]
  show tF E2 = _
  rw [hf.2.2 (hN.2.1.trans q), (hN.2.2.2 q).2]⟩
theorem RdN.nf {E E1 : Nat → va_E} {r : Int32} (hN : RdN E E1 r) (h : 0 ≤ r.toInt) : tF E = -1 := by
  by_cases q : tF E = -1
  · exact q
  · have := (hN.2.2.1 q).1
    omega
/-! ===== loops ===== -/
def Lp {α : Type} (P : (Nat → Int) → Nat → Nat → PR α) (K : (Nat → Int) → Nat → Nat → α → PR α) (i : Int) (E E1 : Nat → va_E) : Prop := TS E E1 ∧ (¬ tF E = -1 → tF E1 = tF E) ∧ (tF E = -1 → (¬ tF E1 = -1 → Out (P (tT E) (tN E) (tA E)) E1) ∧ (tF E1 = -1 → i ≤ (tA E1 : Int) ∧ ∃ c, P (tT E) (tN E) (tA E) = K (tT E) (tN E) (tA E1) c))
theorem Lp.start {α : Type} {P P0 : (Nat → Int) → Nat → Nat → PR α} {K : (Nat → Int) → Nat → Nat → α → PR α} {i : Int} {E E1 : Nat → va_E} (h : RdC P0 E E1) (hP : ∀ t n a, P t n a = (P0 t n a).andThen (K t n)) (hi : i ≤ 0) : Lp P K i E E1 := ⟨h.1, h.2.1, fun q => ⟨fun q1 => by
  have h5 := h.2.2 q
  rw [hP]
  exact Out.andThen h5 (fun _ => rfl) (fun q2 => absurd q2 q1), fun q1 => by
  obtain ⟨c, hc⟩ := (h.2.2 q).f q1
  exact ⟨by omega, c, by rw [hP, hc]; rfl⟩⟩⟩
theorem Lp.step {α : Type} {P P0 : (Nat → Int) → Nat → Nat → PR α} {K : (Nat → Int) → Nat → Nat → α → PR α} {op : Int → Bool} {cb : α → Int → α → α} {i j : Int} {r : Int32} {E E1 E2 E3 E4 E5 : Nat → va_E} (hl : Lp P K i E E1) (hN : RdN E1 E2 r) (ho : op r.toInt = true) (h0 : 0 ≤ r.toInt) (ha : AtP E2 E3) (hr : RdC P0 E3 E4) (hk : KS E4 E5) (hij : j = i + 1) (hm : ∀ t n, Mono (P0 t n)) (hK : ∀ t n a c, op (pk t n a) = true → K t n a c = (P0 t n (sk t n a + 1)).andThen (fun a2 c2 => K t n a2 (cb c (pk t n a) c2))) : Lp P K j E E5 := by
  have f1 := hN.nf h0
  have f3 : tF E3 = -1 := ha.2.1.trans (hN.2.1.trans f1)
  obtain ⟨r1, r2⟩ := hN.2.2.2 f1
  refine ⟨hl.1.tr ((hN.1.tr ha.1).tr (hr.1.tr hk.1)), fun q => absurd ((hl.2.1 q).symm.trans f1) q, fun q => ?_⟩
  obtain ⟨hi, c, hc⟩ := (hl.2.2 q).2 f1
  have h5 := hr.2.2 f3
  rw [ha.1.1, ha.1.2, hN.1.1, hN.1.2, ha.2.2, r2, hl.1.1, hl.1.2] at h5
  rw [r1, hl.1.1, hl.1.2] at ho
  rw [hc, hK _ _ _ _ ho]
  refine ⟨fun q5 => ?_, fun q5 => ?_⟩
  · refine Out.andThen h5 (fun _ => hk.2.1) (fun q6 => absurd (hk.2.1.trans q6) q5)
  · have f4 : tF E4 = -1 := hk.2.1.symm.trans q5
    obtain ⟨c2, hc2⟩ := h5.f f4
    have h7 := hm _ _ _ _ _ hc2
    have h8 := sk_ge (tT E) (tN E) (tA E1)
    refine ⟨by rw [hk.2.2]; omega, cb c (pk (tT E) (tN E) (tA E1)) c2, ?_⟩
    rw [hc2, hk.2.2]
    rfl
theorem Lp.exit {α : Type} {P : (Nat → Int) → Nat → Nat → PR α} {K : (Nat → Int) → Nat → Nat → α → PR α} {op : Int → Bool} {i : Int} {r : Int32} {E E1 E2 : Nat → va_E} (hl : Lp P K i E E1) (hN : RdN E1 E2 r) (ho : ¬ op r.toInt = true) (hK : ∀ t n a c, ¬ op (pk t n a) = true → K t n a c = .good (sk t n a) c) : RdC P E E2 := ⟨hl.1.tr hN.1, fun q => hN.2.1.trans (hl.2.1 q), fun q => by
  by_cases f1 : tF E1 = -1
  · obtain ⟨_, c, hc⟩ := (hl.2.2 q).2 f1
    obtain ⟨r1, r2⟩ := hN.2.2.2 f1
    rw [r1, hl.1.1, hl.1.2] at ho
    rw [hc, hK _ _ _ _ ho]
    exact ⟨hN.2.1.trans f1, by rw [r2, hl.1.1, hl.1.2]⟩
  · exact ((hl.2.2 q).1 f1).kf hN.2.1 (fun q1 => absurd q1 f1)⟩
theorem Lp.fin {α : Type} {P : (Nat → Int) → Nat → Nat → PR α} {K : (Nat → Int) → Nat → Nat → α → PR α} {op : Int → Bool} {i : Int} {E E1 : Nat → va_E} (hl : Lp P K i E E1) (hn : (tN E : Int) ≤ i) (hop : op (-1) = false) (hK : ∀ t n a c, ¬ op (pk t n a) = true → K t n a c = .good (sk t n a) c) : RdC P E E1 := ⟨hl.1, hl.2.1, fun q => by
  by_cases f1 : tF E1 = -1
  · obtain ⟨h8, c, hc⟩ := (hl.2.2 q).2 f1
    have h9 : tN E ≤ tA E1 := by omega
    rw [hc, hK _ _ _ _ (by rw [pk_ge h9, hop]; decide)]
    exact ⟨f1, (sk_0 (by omega)).symm⟩
  · exact (hl.2.2 q).1 f1⟩
end

