set_option maxRecDepth 100000 in
theorem zh_dX12_decide_0_0 : zc cX12_decide 0 [42, 180, 0, 10, 27, 42, 180, 0, 10, 180, 0, 55, 182, 0, 226, 154] = true := by decide +kernel
set_option maxRecDepth 100000 in
theorem zh_dX12_decide_15_16 : zc cX12_decide 16 [0, 5, 2, 172, 42, 180, 0, 10, 180, 0, 220, 27, 182, 0, 138, 192] = true := by decide +kernel
set_option maxRecDepth 100000 in
theorem zh_dX12_decide_31_32 : zc cX12_decide 32 [0, 223, 77, 44, 182, 0, 236, 153, 0, 5, 2, 172, 42, 180, 0, 44] = true := by decide +kernel
set_option maxRecDepth 100000 in
theorem zh_dX12_decide_48_48 : zc cX12_decide 48 [44, 3, 42, 180, 0, 10, 180, 0, 55, 182, 0, 233, 4, 160, 0, 7] = true := by decide +kernel
set_option maxRecDepth 100000 in
theorem zh_dX12_decide_64_64 : zc cX12_decide 64 [4, 167, 0, 4, 3, 62, 42, 180, 0, 44, 44, 4, 42, 180, 0, 10] = true := by decide +kernel
set_option maxRecDepth 100000 in
theorem zh_dX12_decide_80_80 : zc cX12_decide 80 [180, 0, 55, 182, 0, 233, 4, 160, 0, 7, 29, 5, 128, 62, 44, 29] = true := by decide +kernel
set_option maxRecDepth 100000 in
theorem zh_dX12_decide_96_96 : zc cX12_decide 96 [42, 180, 0, 10, 180, 0, 55, 182, 0, 240, 29, 172] = true := by decide +kernel
theorem dX12_decide_0 : decode cX12_decide 0 = .ok (.aload_n 0, 1) := zo_42 (zi_at zh_dX12_decide_0_0 0 rfl)
theorem dX12_decide_1 : decode cX12_decide 1 = .ok (.getfield 10, 3) := zo_180 (zi_at zh_dX12_decide_0_0 1 rfl) (zi_at zh_dX12_decide_0_0 2 rfl) (zi_at zh_dX12_decide_0_0 3 rfl) rfl
theorem dX12_decide_4 : decode cX12_decide 4 = .ok (.iload_n 1, 1) := zo_27 (zi_at zh_dX12_decide_0_0 4 rfl)
theorem dX12_decide_5 : decode cX12_decide 5 = .ok (.aload_n 0, 1) := zo_42 (zi_at zh_dX12_decide_0_0 5 rfl)
theorem dX12_decide_6 : decode cX12_decide 6 = .ok (.getfield 10, 3) := zo_180 (zi_at zh_dX12_decide_0_0 6 rfl) (zi_at zh_dX12_decide_0_0 7 rfl) (zi_at zh_dX12_decide_0_0 8 rfl) rfl
theorem dX12_decide_9 : decode cX12_decide 9 = .ok (.getfield 55, 3) := zo_180 (zi_at zh_dX12_decide_0_0 9 rfl) (zi_at zh_dX12_decide_0_0 10 rfl) (zi_at zh_dX12_decide_0_0 11 rfl) rfl
theorem dX12_decide_12 : decode cX12_decide 12 = .ok (.invokevirtual 226, 3) := zo_182 (zi_at zh_dX12_decide_0_0 12 rfl) (zi_at zh_dX12_decide_0_0 13 rfl) (zi_at zh_dX12_decide_0_0 14 rfl) rfl
theorem dX12_decide_15 : decode cX12_decide 15 = .ok (.ifCond .ne 5, 3) := zo_154 (zi_at zh_dX12_decide_0_0 15 rfl) (zi_at zh_dX12_decide_15_16 0 rfl) (zi_at zh_dX12_decide_15_16 1 rfl) rfl
theorem dX12_decide_18 : decode cX12_decide 18 = .ok (.iconst (-1), 1) := zo_2 (zi_at zh_dX12_decide_15_16 2 rfl)
theorem dX12_decide_19 : decode cX12_decide 19 = .ok (.ireturn, 1) := zo_172 (zi_at zh_dX12_decide_15_16 3 rfl)
theorem dX12_decide_20 : decode cX12_decide 20 = .ok (.aload_n 0, 1) := zo_42 (zi_at zh_dX12_decide_15_16 4 rfl)
theorem dX12_decide_21 : decode cX12_decide 21 = .ok (.getfield 10, 3) := zo_180 (zi_at zh_dX12_decide_15_16 5 rfl) (zi_at zh_dX12_decide_15_16 6 rfl) (zi_at zh_dX12_decide_15_16 7 rfl) rfl
theorem dX12_decide_24 : decode cX12_decide 24 = .ok (.getfield 220, 3) := zo_180 (zi_at zh_dX12_decide_15_16 8 rfl) (zi_at zh_dX12_decide_15_16 9 rfl) (zi_at zh_dX12_decide_15_16 10 rfl) rfl
theorem dX12_decide_27 : decode cX12_decide 27 = .ok (.iload_n 1, 1) := zo_27 (zi_at zh_dX12_decide_15_16 11 rfl)
theorem dX12_decide_28 : decode cX12_decide 28 = .ok (.invokevirtual 138, 3) := zo_182 (zi_at zh_dX12_decide_15_16 12 rfl) (zi_at zh_dX12_decide_15_16 13 rfl) (zi_at zh_dX12_decide_15_16 14 rfl) rfl
theorem dX12_decide_31 : decode cX12_decide 31 = .ok (.checkcast 223, 3) := zo_192 (zi_at zh_dX12_decide_15_16 15 rfl) (zi_at zh_dX12_decide_31_32 0 rfl) (zi_at zh_dX12_decide_31_32 1 rfl) rfl
theorem dX12_decide_34 : decode cX12_decide 34 = .ok (.astore_n 2, 1) := zo_77 (zi_at zh_dX12_decide_31_32 2 rfl)
theorem dX12_decide_35 : decode cX12_decide 35 = .ok (.aload_n 2, 1) := zo_44 (zi_at zh_dX12_decide_31_32 3 rfl)
theorem dX12_decide_36 : decode cX12_decide 36 = .ok (.invokevirtual 236, 3) := zo_182 (zi_at zh_dX12_decide_31_32 4 rfl) (zi_at zh_dX12_decide_31_32 5 rfl) (zi_at zh_dX12_decide_31_32 6 rfl) rfl
theorem dX12_decide_39 : decode cX12_decide 39 = .ok (.ifCond .eq 5, 3) := zo_153 (zi_at zh_dX12_decide_31_32 7 rfl) (zi_at zh_dX12_decide_31_32 8 rfl) (zi_at zh_dX12_decide_31_32 9 rfl) rfl
theorem dX12_decide_42 : decode cX12_decide 42 = .ok (.iconst (-1), 1) := zo_2 (zi_at zh_dX12_decide_31_32 10 rfl)
theorem dX12_decide_43 : decode cX12_decide 43 = .ok (.ireturn, 1) := zo_172 (zi_at zh_dX12_decide_31_32 11 rfl)
theorem dX12_decide_44 : decode cX12_decide 44 = .ok (.aload_n 0, 1) := zo_42 (zi_at zh_dX12_decide_31_32 12 rfl)
theorem dX12_decide_45 : decode cX12_decide 45 = .ok (.getfield 44, 3) := zo_180 (zi_at zh_dX12_decide_31_32 13 rfl) (zi_at zh_dX12_decide_31_32 14 rfl) (zi_at zh_dX12_decide_31_32 15 rfl) rfl
theorem dX12_decide_48 : decode cX12_decide 48 = .ok (.aload_n 2, 1) := zo_44 (zi_at zh_dX12_decide_48_48 0 rfl)
theorem dX12_decide_49 : decode cX12_decide 49 = .ok (.iconst 0, 1) := zo_3 (zi_at zh_dX12_decide_48_48 1 rfl)
theorem dX12_decide_50 : decode cX12_decide 50 = .ok (.aload_n 0, 1) := zo_42 (zi_at zh_dX12_decide_48_48 2 rfl)
theorem dX12_decide_51 : decode cX12_decide 51 = .ok (.getfield 10, 3) := zo_180 (zi_at zh_dX12_decide_48_48 3 rfl) (zi_at zh_dX12_decide_48_48 4 rfl) (zi_at zh_dX12_decide_48_48 5 rfl) rfl
theorem dX12_decide_54 : decode cX12_decide 54 = .ok (.getfield 55, 3) := zo_180 (zi_at zh_dX12_decide_48_48 6 rfl) (zi_at zh_dX12_decide_48_48 7 rfl) (zi_at zh_dX12_decide_48_48 8 rfl) rfl
theorem dX12_decide_57 : decode cX12_decide 57 = .ok (.invokevirtual 233, 3) := zo_182 (zi_at zh_dX12_decide_48_48 9 rfl) (zi_at zh_dX12_decide_48_48 10 rfl) (zi_at zh_dX12_decide_48_48 11 rfl) rfl
theorem dX12_decide_60 : decode cX12_decide 60 = .ok (.iconst 1, 1) := zo_4 (zi_at zh_dX12_decide_48_48 12 rfl)
theorem dX12_decide_61 : decode cX12_decide 61 = .ok (.if_icmp .ne 7, 3) := zo_160 (zi_at zh_dX12_decide_48_48 13 rfl) (zi_at zh_dX12_decide_48_48 14 rfl) (zi_at zh_dX12_decide_48_48 15 rfl) rfl
theorem dX12_decide_64 : decode cX12_decide 64 = .ok (.iconst 1, 1) := zo_4 (zi_at zh_dX12_decide_64_64 0 rfl)
theorem dX12_decide_65 : decode cX12_decide 65 = .ok (.goto 4, 3) := zo_167 (zi_at zh_dX12_decide_64_64 1 rfl) (zi_at zh_dX12_decide_64_64 2 rfl) (zi_at zh_dX12_decide_64_64 3 rfl) rfl
theorem dX12_decide_68 : decode cX12_decide 68 = .ok (.iconst 0, 1) := zo_3 (zi_at zh_dX12_decide_64_64 4 rfl)
theorem dX12_decide_69 : decode cX12_decide 69 = .ok (.istore_n 3, 1) := zo_62 (zi_at zh_dX12_decide_64_64 5 rfl)
theorem dX12_decide_70 : decode cX12_decide 70 = .ok (.aload_n 0, 1) := zo_42 (zi_at zh_dX12_decide_64_64 6 rfl)
theorem dX12_decide_71 : decode cX12_decide 71 = .ok (.getfield 44, 3) := zo_180 (zi_at zh_dX12_decide_64_64 7 rfl) (zi_at zh_dX12_decide_64_64 8 rfl) (zi_at zh_dX12_decide_64_64 9 rfl) rfl
theorem dX12_decide_74 : decode cX12_decide 74 = .ok (.aload_n 2, 1) := zo_44 (zi_at zh_dX12_decide_64_64 10 rfl)
theorem dX12_decide_75 : decode cX12_decide 75 = .ok (.iconst 1, 1) := zo_4 (zi_at zh_dX12_decide_64_64 11 rfl)
theorem dX12_decide_76 : decode cX12_decide 76 = .ok (.aload_n 0, 1) := zo_42 (zi_at zh_dX12_decide_64_64 12 rfl)
theorem dX12_decide_77 : decode cX12_decide 77 = .ok (.getfield 10, 3) := zo_180 (zi_at zh_dX12_decide_64_64 13 rfl) (zi_at zh_dX12_decide_64_64 14 rfl) (zi_at zh_dX12_decide_64_64 15 rfl) rfl
theorem dX12_decide_80 : decode cX12_decide 80 = .ok (.getfield 55, 3) := zo_180 (zi_at zh_dX12_decide_80_80 0 rfl) (zi_at zh_dX12_decide_80_80 1 rfl) (zi_at zh_dX12_decide_80_80 2 rfl) rfl
theorem dX12_decide_83 : decode cX12_decide 83 = .ok (.invokevirtual 233, 3) := zo_182 (zi_at zh_dX12_decide_80_80 3 rfl) (zi_at zh_dX12_decide_80_80 4 rfl) (zi_at zh_dX12_decide_80_80 5 rfl) rfl
theorem dX12_decide_86 : decode cX12_decide 86 = .ok (.iconst 1, 1) := zo_4 (zi_at zh_dX12_decide_80_80 6 rfl)
theorem dX12_decide_87 : decode cX12_decide 87 = .ok (.if_icmp .ne 7, 3) := zo_160 (zi_at zh_dX12_decide_80_80 7 rfl) (zi_at zh_dX12_decide_80_80 8 rfl) (zi_at zh_dX12_decide_80_80 9 rfl) rfl
theorem dX12_decide_90 : decode cX12_decide 90 = .ok (.iload_n 3, 1) := zo_29 (zi_at zh_dX12_decide_80_80 10 rfl)
theorem dX12_decide_91 : decode cX12_decide 91 = .ok (.iconst 2, 1) := zo_5 (zi_at zh_dX12_decide_80_80 11 rfl)
theorem dX12_decide_92 : decode cX12_decide 92 = .ok (.ior, 1) := zo_128 (zi_at zh_dX12_decide_80_80 12 rfl)
theorem dX12_decide_93 : decode cX12_decide 93 = .ok (.istore_n 3, 1) := zo_62 (zi_at zh_dX12_decide_80_80 13 rfl)
theorem dX12_decide_94 : decode cX12_decide 94 = .ok (.aload_n 2, 1) := zo_44 (zi_at zh_dX12_decide_80_80 14 rfl)
theorem dX12_decide_95 : decode cX12_decide 95 = .ok (.iload_n 3, 1) := zo_29 (zi_at zh_dX12_decide_80_80 15 rfl)
theorem dX12_decide_96 : decode cX12_decide 96 = .ok (.aload_n 0, 1) := zo_42 (zi_at zh_dX12_decide_96_96 0 rfl)
theorem dX12_decide_97 : decode cX12_decide 97 = .ok (.getfield 10, 3) := zo_180 (zi_at zh_dX12_decide_96_96 1 rfl) (zi_at zh_dX12_decide_96_96 2 rfl) (zi_at zh_dX12_decide_96_96 3 rfl) rfl
theorem dX12_decide_100 : decode cX12_decide 100 = .ok (.getfield 55, 3) := zo_180 (zi_at zh_dX12_decide_96_96 4 rfl) (zi_at zh_dX12_decide_96_96 5 rfl) (zi_at zh_dX12_decide_96_96 6 rfl) rfl
theorem dX12_decide_103 : decode cX12_decide 103 = .ok (.invokevirtual 240, 3) := zo_182 (zi_at zh_dX12_decide_96_96 7 rfl) (zi_at zh_dX12_decide_96_96 8 rfl) (zi_at zh_dX12_decide_96_96 9 rfl) rfl
theorem dX12_decide_106 : decode cX12_decide 106 = .ok (.iload_n 3, 1) := zo_29 (zi_at zh_dX12_decide_96_96 10 rfl)
theorem dX12_decide_107 : decode cX12_decide 107 = .ok (.ireturn, 1) := zo_172 (zi_at zh_dX12_decide_96_96 11 rfl)
theorem hz_yX4_settle_2 : yX4_settle.cls ≠ "java/lang/invoke/MethodHandle" ∧ yX4_settle.cls ≠ "java/lang/invoke/VarHandle" ∧ (parseMethodDescriptor yX4_settle.desc).map (fun d => d.parameters.length) = some 2 := by decide +kernel

def v_u_decideV : List Cond := .code yX12_decide cX12_decide 4 (some .int) :: vA
abbrev rm_u_decideV : Room := { frames := 7, cells := 0, slots := 0, locals := 280 }
set_option maxHeartbeats 4000000 in
set_option maxRecDepth 100000 in
theorem q_u_decideV (l : Launch) (dC : Nat → ClassId) (dI : Nat → Nat → Nat) (cT : Nat → ClassId) (cf : Nat → Nat) (hC : CF cf) (ad : Nat → Nat) (E : Nat → va_E) (sz : Nat) (a0 : Int32) (hI0 : IXL cT (shC cf) (spC cf) (LC cf) ad E) (hh0 : RulAll cf E) : Met l yX12_decide v_u_decideV rm_u_decideV (va_Pc [.ref (ad 0), .int a0] (HWL dC dI (TYC cT) cf ad E sz)) (va_Qi (S := Nat → va_E) (fun r u => IXL cT (shC cf) (spC cf) (LC cf) ad u ∧ Kp (wl [19, 20, 38, 39, 40, 41, 42] [(5, 6), (5, 7), (5, 8), (5, 9), (64 * (a0.toNatClampNeg + 1) + 14, 5), (64 * (a0.toNatClampNeg + 1) + 14, 6), (64 * (a0.toNatClampNeg + 1) + 14, 8), (64 * (a0.toNatClampNeg + 1) + 14, 9)]) E u ∧ (((0 ≤ r.toInt ∧ r.toInt ≤ 3) ∧ ((0 ≤ a0.toInt ∧ a0.toInt < ((cf 5 : Nat) : Int)) ∧ (xi (E (64 * (a0.toNatClampNeg + 1) + 14)) 4).toInt ≤ (xi (E 1) 0).toInt ∧ ¬ (((xi (E (64 * (a0.toNatClampNeg + 1) + 14)) 7).toInt = -1 ∧ ¬ (xi (E (64 * (a0.toNatClampNeg + 1) + 14)) 5).toInt = -1) ∨ (¬ (xi (E (64 * (a0.toNatClampNeg + 1) + 14)) 7).toInt = -1 ∧ ¬ (xi (E (64 * (a0.toNatClampNeg + 1) + 14)) 8).toInt = -1))) ∧ (((xi (E (64 * (a0.toNatClampNeg + 1) + 14)) 7).toInt = -1 → (xi (u (64 * (a0.toNatClampNeg + 1) + 14)) 5).toInt = (xi (E 1) 0).toInt ∧ (xi (u (64 * (a0.toNatClampNeg + 1) + 14)) 6).toInt = r.toInt ∧ (xi (u (64 * (a0.toNatClampNeg + 1) + 14)) 8).toInt = (xi (E (64 * (a0.toNatClampNeg + 1) + 14)) 8).toInt ∧ (xi (u (64 * (a0.toNatClampNeg + 1) + 14)) 9).toInt = (xi (E (64 * (a0.toNatClampNeg + 1) + 14)) 9).toInt) ∧ (¬ (xi (E (64 * (a0.toNatClampNeg + 1) + 14)) 7).toInt = -1 → (xi (u (64 * (a0.toNatClampNeg + 1) + 14)) 8).toInt = (xi (E 1) 0).toInt ∧ (xi (u (64 * (a0.toNatClampNeg + 1) + 14)) 9).toInt = r.toInt ∧ (xi (u (64 * (a0.toNatClampNeg + 1) + 14)) 5).toInt = (xi (E (64 * (a0.toNatClampNeg + 1) + 14)) 5).toInt ∧ (xi (u (64 * (a0.toNatClampNeg + 1) + 14)) 6).toInt = (xi (E (64 * (a0.toNatClampNeg + 1) + 14)) 6).toInt) ∧ (xi (u (64 * (a0.toNatClampNeg + 1) + 14)) 7).toInt = (xi (E (64 * (a0.toNatClampNeg + 1) + 14)) 7).toInt) ∧ (∃ s9 : Int32, SWq E (xi (E (64 * (a0.toNatClampNeg + 1) + 14)) 0).toNatClampNeg (xi (E 1) 0).toInt s9 ∧ (r.toInt % 2 = 1 ↔ FndC cf E a0.toNatClampNeg 0 (xi (E 1) 0) s9.toInt) ∧ (r.toInt / 2 = 1 ↔ FndC cf E a0.toNatClampNeg 1 (xi (E 1) 0) s9.toInt))) ∨ (r = -1 ∧ (¬ (((0 ≤ a0.toInt ∧ a0.toInt < ((cf 5 : Nat) : Int)) ∧ (xi (E (64 * (a0.toNatClampNeg + 1) + 14)) 4).toInt ≤ (xi (E 1) 0).toInt) ∧ ¬ (((xi (E (64 * (a0.toNatClampNeg + 1) + 14)) 7).toInt = -1 ∧ ¬ (xi (E (64 * (a0.toNatClampNeg + 1) + 14)) 5).toInt = -1) ∨ (¬ (xi (E (64 * (a0.toNatClampNeg + 1) + 14)) 7).toInt = -1 ∧ ¬ (xi (E (64 * (a0.toNatClampNeg + 1) + 14)) 8).toInt = -1)))) ∧ ((xi (u (64 * (a0.toNatClampNeg + 1) + 14)) 5).toInt = (xi (E (64 * (a0.toNatClampNeg + 1) + 14)) 5).toInt ∧ (xi (u (64 * (a0.toNatClampNeg + 1) + 14)) 6).toInt = (xi (E (64 * (a0.toNatClampNeg + 1) + 14)) 6).toInt ∧ (xi (u (64 * (a0.toNatClampNeg + 1) + 14)) 7).toInt = (xi (E (64 * (a0.toNatClampNeg + 1) + 14)) 7).toInt ∧ (xi (u (64 * (a0.toNatClampNeg + 1) + 14)) 8).toInt = (xi (E (64 * (a0.toNatClampNeg + 1) + 14)) 8).toInt ∧ (xi (u (64 * (a0.toNatClampNeg + 1) + 14)) 9).toInt = (xi (E (64 * (a0.toNatClampNeg + 1) + 14)) 9).toInt)))) (HBL dC dI (LC cf) ad) (va_A (WL (LC cf) ad E) sz)) 0 0 (va_A (WL (LC cf) ad E) sz) := by
  obtain ⟨⟨hc0, hc1, hc2, hc3, hc4, hc5⟩, hcr⟩ := id hC
  refine Met.ofW (cc := cX12_decide) (maxL := 4) (ret := (some .int)) (by decide) rfl ?_
  intro p e s m args below meth c s₁ B hml hv
  obtain ⟨hargs, hsz, hP, hK, hD0, hEV⟩ := hv
  subst hsz
  have hx := B.exec
  have hb := B.bytes
  have hr := B.returns
  have hts := atoms_spec (ws := v_u_decideV) B.pre
  have hown : s.vm.findClass RX12 = some m.cls := findClass_of_methodNamed B.named
  have hlocks := B.notSynchronized
  have hinX0 : ∀ w ∈ u_ws RX0 TX0 11, w ∈ v_u_decideV := fun w h => vA_in _ w (in_X0 w h)
  have hinX12 : ∀ w ∈ u_ws RX12 TX12 6, w ∈ v_u_decideV := fun w h => vA_in _ w (in_X12 w h)
  generalize hAe : va_A (WL (LC cf) ad E) s.heap.size = A at hEV ⊢
  have hA : ∀ q : Nat, s.heap.size ≤ q → A q := fun q h => by rw [← hAe]; exact Or.inr h
  have hD : va_D A (WL (LC cf) ad E) := by rw [← hAe]; exact hD0.self
  have hS : va_S A s.heap s.heap [] := va_S.rf
  have hI := hI0
  have hKp : Kp (wl [19, 20, 38, 39, 40, 41, 42] [(5, 6), (5, 7), (5, 8), (5, 9), (64 * (a0.toNatClampNeg + 1) + 14, 5), (64 * (a0.toNatClampNeg + 1) + 14, 6), (64 * (a0.toNatClampNeg + 1) + 14, 8), (64 * (a0.toNatClampNeg + 1) + 14, 9)]) E E := Kp.rf
  have hl := lv_entry ([.ref (ad 0), .int a0]) (n := 4) (Nat.le_of_ble_eq_true rfl)
  obtain ⟨Q, hQ⟩ : ∃ Q, Q = MQ below (va_Qi (S := Nat → va_E) (fun r u => IXL cT (shC cf) (spC cf) (LC cf) ad u ∧ Kp (wl [19, 20, 38, 39, 40, 41, 42] [(5, 6), (5, 7), (5, 8), (5, 9), (64 * (a0.toNatClampNeg + 1) + 14, 5), (64 * (a0.toNatClampNeg + 1) + 14, 6), (64 * (a0.toNatClampNeg + 1) + 14, 8), (64 * (a0.toNatClampNeg + 1) + 14, 9)]) E u ∧ (((0 ≤ r.toInt ∧ r.toInt ≤ 3) ∧ ((0 ≤ a0.toInt ∧ a0.toInt < ((cf 5 : Nat) : Int)) ∧ (xi (E (64 * (a0.toNatClampNeg + 1) + 14)) 4).toInt ≤ (xi (E 1) 0).toInt ∧ ¬ (((xi (E (64 * (a0.toNatClampNeg + 1) + 14)) 7).toInt = -1 ∧ ¬ (xi (E (64 * (a0.toNatClampNeg + 1) + 14)) 5).toInt = -1) ∨ (¬ (xi (E (64 * (a0.toNatClampNeg + 1) + 14)) 7).toInt = -1 ∧ ¬ (xi (E (64 * (a0.toNatClampNeg + 1) + 14)) 8).toInt = -1))) ∧ (((xi (E (64 * (a0.toNatClampNeg + 1) + 14)) 7).toInt = -1 → (xi (u (64 * (a0.toNatClampNeg + 1) + 14)) 5).toInt = (xi (E 1) 0).toInt ∧ (xi (u (64 * (a0.toNatClampNeg + 1) + 14)) 6).toInt = r.toInt ∧ (xi (u (64 * (a0.toNatClampNeg + 1) + 14)) 8).toInt = (xi (E (64 * (a0.toNatClampNeg + 1) + 14)) 8).toInt ∧ (xi (u (64 * (a0.toNatClampNeg + 1) + 14)) 9).toInt = (xi (E (64 * (a0.toNatClampNeg + 1) + 14)) 9).toInt) ∧ (¬ (xi (E (64 * (a0.toNatClampNeg + 1) + 14)) 7).toInt = -1 → (xi (u (64 * (a0.toNatClampNeg + 1) + 14)) 8).toInt = (xi (E 1) 0).toInt ∧ (xi (u (64 * (a0.toNatClampNeg + 1) + 14)) 9).toInt = r.toInt ∧ (xi (u (64 * (a0.toNatClampNeg + 1) + 14)) 5).toInt = (xi (E (64 * (a0.toNatClampNeg + 1) + 14)) 5).toInt ∧ (xi (u (64 * (a0.toNatClampNeg + 1) + 14)) 6).toInt = (xi (E (64 * (a0.toNatClampNeg + 1) + 14)) 6).toInt) ∧ (xi (u (64 * (a0.toNatClampNeg + 1) + 14)) 7).toInt = (xi (E (64 * (a0.toNatClampNeg + 1) + 14)) 7).toInt) ∧ (∃ s9 : Int32, SWq E (xi (E (64 * (a0.toNatClampNeg + 1) + 14)) 0).toNatClampNeg (xi (E 1) 0).toInt s9 ∧ (r.toInt % 2 = 1 ↔ FndC cf E a0.toNatClampNeg 0 (xi (E 1) 0) s9.toInt) ∧ (r.toInt / 2 = 1 ↔ FndC cf E a0.toNatClampNeg 1 (xi (E 1) 0) s9.toInt))) ∨ (r = -1 ∧ (¬ (((0 ≤ a0.toInt ∧ a0.toInt < ((cf 5 : Nat) : Int)) ∧ (xi (E (64 * (a0.toNatClampNeg + 1) + 14)) 4).toInt ≤ (xi (E 1) 0).toInt) ∧ ¬ (((xi (E (64 * (a0.toNatClampNeg + 1) + 14)) 7).toInt = -1 ∧ ¬ (xi (E (64 * (a0.toNatClampNeg + 1) + 14)) 5).toInt = -1) ∨ (¬ (xi (E (64 * (a0.toNatClampNeg + 1) + 14)) 7).toInt = -1 ∧ ¬ (xi (E (64 * (a0.toNatClampNeg + 1) + 14)) 8).toInt = -1)))) ∧ ((xi (u (64 * (a0.toNatClampNeg + 1) + 14)) 5).toInt = (xi (E (64 * (a0.toNatClampNeg + 1) + 14)) 5).toInt ∧ (xi (u (64 * (a0.toNatClampNeg + 1) + 14)) 6).toInt = (xi (E (64 * (a0.toNatClampNeg + 1) + 14)) 6).toInt ∧ (xi (u (64 * (a0.toNatClampNeg + 1) + 14)) 7).toInt = (xi (E (64 * (a0.toNatClampNeg + 1) + 14)) 7).toInt ∧ (xi (u (64 * (a0.toNatClampNeg + 1) + 14)) 8).toInt = (xi (E (64 * (a0.toNatClampNeg + 1) + 14)) 8).toInt ∧ (xi (u (64 * (a0.toNatClampNeg + 1) + 14)) 9).toInt = (xi (E (64 * (a0.toNatClampNeg + 1) + 14)) 9).toInt)))) (HBL dC dI (LC cf) ad) (A)) args s 0 0 (A) := ⟨_, rfl⟩
  rw [← hQ, show entryFrame m args 4 = _ from (congrArg (fun z => entryFrame m z 4) hargs).trans (lg_entry_eq _ _ _)]
  generalize (lg_sl ([.ref (ad 0), .int a0]) ++ List.replicate (4 - (lg_sl ([.ref (ad 0), .int a0])).length) Slot.unset).toArray = ls at hl ⊢
  have hl : lv_has ls 4 [(0, .ref (ad 0)), (1, .int a0)] := hl
  refine lv_aload_n hx hb dX12_decide_0 rfl (lv_at hl 0 rfl) ?_
  refine th_getL (ci := 13) (C := RX12) (T := TX12) (N := 6) (v := .ref (ad 1)) hx hb hts hinX12 hown hK hP hI 0 (mF 0 rfl) rfl rfl 0 (Nat.le_of_ble_eq_true rfl) (hts _ (vA_in _ _ (in_10 _ (zs16 (zs1 (zs0)))))) (fun _ h9 => h9) (hI.fr 0 (mF 0 rfl) rfl (Nat.le_of_ble_eq_true rfl) 1 rfl) dX12_decide_1 ?_
  refine lv_iload_n hx hb dX12_decide_4 rfl (lv_at hl 1 rfl) ?_
  refine lv_aload_n hx hb dX12_decide_5 rfl (lv_at hl 0 rfl) ?_
  refine th_getL (ci := 13) (C := RX12) (T := TX12) (N := 6) (v := .ref (ad 1)) hx hb hts hinX12 hown hK hP hI 0 (mF 0 rfl) rfl rfl 0 (Nat.le_of_ble_eq_true rfl) (hts _ (vA_in _ _ (in_10 _ (zs16 (zs1 (zs0)))))) (fun _ h9 => h9) (hI.fr 0 (mF 0 rfl) rfl (Nat.le_of_ble_eq_true rfl) 1 rfl) dX12_decide_6 ?_
  have i1 : 0 ≤ (xi (E 1) 0).toInt ∧ (xi (E 1) 0).toInt ≤ 400 := hI0.iv 1 (mF 1 rfl) rfl (Nat.le_of_ble_eq_true rfl) rfl
  refine th_getL (ci := 1) (C := RX0) (T := TX0) (N := 11) (v := .int (xi (E 1) 0)) hx hb hts hinX0 hown hK hP hI 1 (mF 1 rfl) rfl rfl 0 (Nat.le_of_ble_eq_true rfl) (hts _ (vA_in _ _ (in_10 _ (zs16 (zs4 (zs4 (zs1 (zs1 (zs0))))))))) (fun _ h9 => h9) (th_v0L hKp hI0 1 (mF 1 rfl) rfl (Nat.le_of_ble_eq_true rfl) rfl rfl) dX12_decide_9 ?_
  refine th_riL (va_runV (As := [.int a0, .int (xi (E 1) 0)]) (rest := []) ⟨hx, hb, hml, hown, hts⟩ (q_isProtestedC l dC dI cT cf hC ad E s.heap.size a0 (xi (E 1) 0) hI) (cwV 2 hts (gi_V (in_14 _ (zs16 (zs4 (zs1 (zs0))))) (in_14 _ (zs16 (zs4 (zs1 (zs1 (zs0)))))) (in_14 _ (zs16 (zs4 (zs1 (zs1 (zs1 (zs0))))))) (in_5 _ (zs4 (zs1 (zs1 (zs0))))) (in_6 _ (zs16 (zs4 (zs0))))) rfl rfl rfl ⟨rfl, hz_yX0_isProtested_2⟩ ⟨Nat.le_of_ble_eq_true rfl, Nat.le_of_ble_eq_true rfl⟩) ⟨HWL_bl, va_recv hK hP (ci := 1) (q0 := posL 1 (LC cf)) rfl (hI.ob 1 (mF 1 rfl) rfl), (HWL_wi hP hK (WL_D hD) hS hA hEV)⟩ rfl rfl hl.1 rfl (lv_room (Nat.le_of_ble_eq_true rfl)) dX12_decide_12 ⟨Nat.le_of_ble_eq_true rfl, Nat.le_of_ble_eq_true rfl⟩) hS hP (fun r2 H locs hw hP hS => ?_)
  rcases hw with hw | hw
  · -- isProtestedC, case 0
    obtain ⟨rfl, f3, f4, f5⟩ := hw
    refine lv_if_ne (tgt := 20) hx hb dX12_decide_15 (by decide) (fun c6 => ?_) (fun c6 => ?_)
    · --15 taken
      refine lv_aload_n hx hb dX12_decide_20 rfl (lv_at hl 0 rfl) ?_
      refine th_getL (ci := 13) (C := RX12) (T := TX12) (N := 6) (v := .ref (ad 1)) hx hb hts hinX12 hown hK hP hI 0 (mF 0 rfl) rfl rfl 0 (Nat.le_of_ble_eq_true rfl) (hts _ (vA_in _ _ (in_10 _ (zs16 (zs1 (zs0)))))) (fun _ h9 => h9) (hI.fr 0 (mF 0 rfl) rfl (Nat.le_of_ble_eq_true rfl) 1 rfl) dX12_decide_21 ?_
      refine th_getL (ci := 1) (C := RX0) (T := TX0) (N := 11) (v := .ref (ad 12)) hx hb hts hinX0 hown hK hP hI 1 (mF 1 rfl) rfl rfl 8 (Nat.le_of_ble_eq_true rfl) (hts _ (vA_in _ _ (in_14 _ (zs4 (zs4 (zs1 (zs1 (zs0)))))))) (fun _ h9 => h9) (hI.fr 1 (mF 1 rfl) rfl (Nat.le_of_ble_eq_true rfl) 12 rfl) dX12_decide_24 ?_
      refine lv_iload_n hx hb dX12_decide_27 rfl (lv_at hl 1 rfl) ?_
      refine th_rrL (va_runV (As := [.int a0]) (rest := []) ⟨hx, hb, hml, hown, hts⟩ (q_get5 l dC dI cT cf hC ad E H.size a0 hI (by omega)) (cwV 1 hts (gi_V (in_14 _ (zs16 (zs4 (zs4 (zs0))))) (in_4 _ (zs16 (zs16 (zs4 (zs1 (zs1 (zs0))))))) (in_4 _ (zs16 (zs16 (zs4 (zs1 (zs1 (zs1 (zs0)))))))) (in_3 _ (zs16 (zs1 (zs1 (zs0))))) (in_3 _ (zs16 (zs16 (zs4 (zs1 (zs1 (zs1 (zs0))))))))) rfl rfl rfl ⟨rfl, hz_yJx4a65c_get_915e3_1⟩ ⟨Nat.le_of_ble_eq_true rfl, Nat.le_of_ble_eq_true rfl⟩) ⟨HWL_bl, va_recv hK hP (ci := 0) (q0 := posL 12 (LC cf)) rfl (hI.ob 12 (mF 12 rfl) rfl), (HWL_wi hP hK (WL_D hD) hS hA hEV)⟩ rfl rfl hl.1 rfl (lv_room (Nat.le_of_ble_eq_true rfl)) dX12_decide_28 ⟨Nat.le_of_ble_eq_true rfl, Nat.le_of_ble_eq_true rfl⟩) hS hP (fun r7 H locs hw hP hS => ?_)
      obtain rfl := hw
      have lv8 : a0.toNatClampNeg < cf 5 := by rw [tn_]; omega
      refine va_castS (cC := dC 5) hx hb hown (hts _ (vA_in _ _ (in_14 _ (zs16 (zs1 (zs1 (zs1 (zs0)))))))) (hK.1 5 _ rfl).2 (va_recv hK hP (ci := 5) (q0 := posL (64 * (a0.toNatClampNeg + 1) + 14) (LC cf)) rfl (hI.ob (64 * (a0.toNatClampNeg + 1) + 14) (mP 14 a0.toNatClampNeg (by decide) lv8 (kl_le hC 5 (by decide))) (shC_p 14 a0.toNatClampNeg (by decide)))) dX12_decide_31 ?_
      refine lv_astore_n (lv' := [(2, .ref (ad (64 * (a0.toNatClampNeg + 1) + 14))), (0, .ref (ad 0)), (1, .int a0)]) hx hb dX12_decide_34 rfl hl (by decide) rfl (fun ls hl => ?_)
      obtain ⟨y9, ey9⟩ : ∃ y, xi (E (64 * (a0.toNatClampNeg + 1) + 14)) 5 = y := ⟨_, rfl⟩
      have fy9 : xv (E (64 * (a0.toNatClampNeg + 1) + 14)) 5 = .int y9 := (hI.fi (64 * (a0.toNatClampNeg + 1) + 14) (mP 14 a0.toNatClampNeg (by decide) lv8 (kl_le hC 5 (by decide))) (shC_p 14 a0.toNatClampNeg (by decide)) (Nat.le_of_ble_eq_true rfl) (spC_p 14 a0.toNatClampNeg (by decide) 5)).trans (congrArg Value.int ey9)
      have i10 : -1 ≤ y9.toInt ∧ y9.toInt ≤ 400 := by rw [← ey9]; exact hI.iv (64 * (a0.toNatClampNeg + 1) + 14) (mP 14 a0.toNatClampNeg (by decide) lv8 (kl_le hC 5 (by decide))) (shC_p 14 a0.toNatClampNeg (by decide)) (Nat.le_of_ble_eq_true rfl) (spC_p 14 a0.toNatClampNeg (by decide) 5)
      obtain ⟨y11, ey11⟩ : ∃ y, xi (E (64 * (a0.toNatClampNeg + 1) + 14)) 6 = y := ⟨_, rfl⟩
      have fy11 : xv (E (64 * (a0.toNatClampNeg + 1) + 14)) 6 = .int y11 := (hI.fi (64 * (a0.toNatClampNeg + 1) + 14) (mP 14 a0.toNatClampNeg (by decide) lv8 (kl_le hC 5 (by decide))) (shC_p 14 a0.toNatClampNeg (by decide)) (Nat.le_of_ble_eq_true rfl) (spC_p 14 a0.toNatClampNeg (by decide) 6)).trans (congrArg Value.int ey11)
      have i12 : 0 ≤ y11.toInt ∧ y11.toInt ≤ 3 := by rw [← ey11]; exact hI.iv (64 * (a0.toNatClampNeg + 1) + 14) (mP 14 a0.toNatClampNeg (by decide) lv8 (kl_le hC 5 (by decide))) (shC_p 14 a0.toNatClampNeg (by decide)) (Nat.le_of_ble_eq_true rfl) (spC_p 14 a0.toNatClampNeg (by decide) 6)
      have i13 : -1 ≤ (xi (E (64 * (a0.toNatClampNeg + 1) + 14)) 7).toInt ∧ (xi (E (64 * (a0.toNatClampNeg + 1) + 14)) 7).toInt ≤ 400 := hI0.iv (64 * (a0.toNatClampNeg + 1) + 14) (mP 14 a0.toNatClampNeg (by decide) lv8 (kl_le hC 5 (by decide))) (shC_p 14 a0.toNatClampNeg (by decide)) (Nat.le_of_ble_eq_true rfl) (spC_p 14 a0.toNatClampNeg (by decide) 7)
      obtain ⟨y14, ey14⟩ : ∃ y, xi (E (64 * (a0.toNatClampNeg + 1) + 14)) 8 = y := ⟨_, rfl⟩
      have fy14 : xv (E (64 * (a0.toNatClampNeg + 1) + 14)) 8 = .int y14 := (hI.fi (64 * (a0.toNatClampNeg + 1) + 14) (mP 14 a0.toNatClampNeg (by decide) lv8 (kl_le hC 5 (by decide))) (shC_p 14 a0.toNatClampNeg (by decide)) (Nat.le_of_ble_eq_true rfl) (spC_p 14 a0.toNatClampNeg (by decide) 8)).trans (congrArg Value.int ey14)
      have i15 : -1 ≤ y14.toInt ∧ y14.toInt ≤ 400 := by rw [← ey14]; exact hI.iv (64 * (a0.toNatClampNeg + 1) + 14) (mP 14 a0.toNatClampNeg (by decide) lv8 (kl_le hC 5 (by decide))) (shC_p 14 a0.toNatClampNeg (by decide)) (Nat.le_of_ble_eq_true rfl) (spC_p 14 a0.toNatClampNeg (by decide) 8)
      obtain ⟨y16, ey16⟩ : ∃ y, xi (E (64 * (a0.toNatClampNeg + 1) + 14)) 9 = y := ⟨_, rfl⟩
      have fy16 : xv (E (64 * (a0.toNatClampNeg + 1) + 14)) 9 = .int y16 := (hI.fi (64 * (a0.toNatClampNeg + 1) + 14) (mP 14 a0.toNatClampNeg (by decide) lv8 (kl_le hC 5 (by decide))) (shC_p 14 a0.toNatClampNeg (by decide)) (Nat.le_of_ble_eq_true rfl) (spC_p 14 a0.toNatClampNeg (by decide) 9)).trans (congrArg Value.int ey16)
      have i17 : 0 ≤ y16.toInt ∧ y16.toInt ≤ 3 := by rw [← ey16]; exact hI.iv (64 * (a0.toNatClampNeg + 1) + 14) (mP 14 a0.toNatClampNeg (by decide) lv8 (kl_le hC 5 (by decide))) (shC_p 14 a0.toNatClampNeg (by decide)) (Nat.le_of_ble_eq_true rfl) (spC_p 14 a0.toNatClampNeg (by decide) 9)
      refine lv_aload_n hx hb dX12_decide_35 rfl (lv_at hl 0 rfl) ?_
      refine th_riL (va_runV (As := []) (rest := []) ⟨hx, hb, hml, hown, hts⟩ (q_pisDecidedX l dC dI cT cf hC ad E H.size a0.toNatClampNeg hI (by omega)) (cwV 0 hts (gi_V (in_14 _ (zs16 (zs4 (zs4 (zs1 (zs0)))))) (in_14 _ (zs16 (zs4 (zs4 (zs1 (zs1 (zs0))))))) (in_14 _ (zs16 (zs4 (zs4 (zs1 (zs1 (zs1 (zs0)))))))) (in_5 _ (zs16 (zs0))) (in_14 _ (zs16 (zs4 (zs4 (zs4 (zs0))))))) rfl rfl rfl ⟨rfl, hz_yX4_isDecided_0⟩ ⟨Nat.le_of_ble_eq_true rfl, Nat.le_of_ble_eq_true rfl⟩) ⟨HWL_bl, va_recv hK hP (ci := 5) (q0 := posL (64 * (a0.toNatClampNeg + 1) + 14) (LC cf)) rfl (hI.ob (64 * (a0.toNatClampNeg + 1) + 14) (mP 14 a0.toNatClampNeg (by decide) lv8 (kl_le hC 5 (by decide))) (shC_p 14 a0.toNatClampNeg (by decide))), (HWL_wi hP hK (WL_D hD) hS hA hEV)⟩ rfl rfl hl.1 rfl (lv_room (Nat.le_of_ble_eq_true rfl)) dX12_decide_36 ⟨Nat.le_of_ble_eq_true rfl, Nat.le_of_ble_eq_true rfl⟩) hS hP (fun r18 H locs hw hP hS => ?_)
      rcases hw with hw | hw
      · -- pisDecidedX, case 0
        obtain ⟨rfl, f19⟩ := hw
        try rw [(show xi (E (64 * (a0.toNatClampNeg + 1) + 14)) 5 = y9 from vi_e fy9)] at f19
        try rw [(show xi (E (64 * (a0.toNatClampNeg + 1) + 14)) 7 = (xi (E (64 * (a0.toNatClampNeg + 1) + 14)) 7) from vi_e (th_v0L hKp hI0 (64 * (a0.toNatClampNeg + 1) + 14) (mP 14 a0.toNatClampNeg (by decide) lv8 (kl_le hC 5 (by decide))) (shC_p 14 a0.toNatClampNeg (by decide)) (Nat.le_of_ble_eq_true rfl) (spC_p 14 a0.toNatClampNeg (by decide) 7) (by simp [wl] <;> omega)))] at f19
        try rw [(show xi (E (64 * (a0.toNatClampNeg + 1) + 14)) 8 = y14 from vi_e fy14)] at f19
        refine lv_if_eq (tgt := 44) hx hb dX12_decide_39 (by decide) (fun c20 => ?_) (fun c20 => ?_)
        · --39 taken
          exact absurd c20 (by decide)
        · --39 not
          refine lv_iconst (v := -1) hx hb dX12_decide_42 (by decide) ?_
          rw [hQ]
          exact W.iret (v := (-1)) hx hb hr (fun t ht hW => ⟨⟨(-1), E, rfl, ⟨hI, hKp, Or.inr (⟨rfl, by (try rw [ey9]); (try rw [ey11]); (try rw [ey14]); (try rw [ey16]); all_goals omega, by omega⟩)⟩, by show va_P (dC, dI) vwCl (WL (LC cf) ad E) t.heap; rw [ht]; exact hP⟩, hS.F ht⟩) hS.2.2 dX12_decide_43
      · -- pisDecidedX, case 1
        obtain ⟨rfl, f21⟩ := hw
        try rw [(show xi (E (64 * (a0.toNatClampNeg + 1) + 14)) 5 = y9 from vi_e fy9)] at f21
        try rw [(show xi (E (64 * (a0.toNatClampNeg + 1) + 14)) 7 = (xi (E (64 * (a0.toNatClampNeg + 1) + 14)) 7) from vi_e (th_v0L hKp hI0 (64 * (a0.toNatClampNeg + 1) + 14) (mP 14 a0.toNatClampNeg (by decide) lv8 (kl_le hC 5 (by decide))) (shC_p 14 a0.toNatClampNeg (by decide)) (Nat.le_of_ble_eq_true rfl) (spC_p 14 a0.toNatClampNeg (by decide) 7) (by simp [wl] <;> omega)))] at f21
        try rw [(show xi (E (64 * (a0.toNatClampNeg + 1) + 14)) 8 = y14 from vi_e fy14)] at f21
        refine lv_if_eq (tgt := 44) hx hb dX12_decide_39 (by decide) (fun c22 => ?_) (fun c22 => ?_)
        · --39 taken
          refine lv_aload_n hx hb dX12_decide_44 rfl (lv_at hl 1 rfl) ?_
          refine th_getL (ci := 13) (C := RX12) (T := TX12) (N := 6) (v := .ref (ad 5)) hx hb hts hinX12 hown hK hP hI 0 (mF 0 rfl) rfl rfl 4 (Nat.le_of_ble_eq_true rfl) (hts _ (vA_in _ _ (in_14 _ (zs16 (zs4 (zs0)))))) (fun _ h9 => h9) (hI.fr 0 (mF 0 rfl) rfl (Nat.le_of_ble_eq_true rfl) 5 rfl) dX12_decide_45 ?_
          refine lv_aload_n hx hb dX12_decide_48 rfl (lv_at hl 0 rfl) ?_
          refine lv_iconst (v := 0) hx hb dX12_decide_49 (by decide) ?_
          refine lv_aload_n hx hb dX12_decide_50 rfl (lv_at hl 1 rfl) ?_
          refine th_getL (ci := 13) (C := RX12) (T := TX12) (N := 6) (v := .ref (ad 1)) hx hb hts hinX12 hown hK hP hI 0 (mF 0 rfl) rfl rfl 0 (Nat.le_of_ble_eq_true rfl) (hts _ (vA_in _ _ (in_10 _ (zs16 (zs1 (zs0)))))) (fun _ h9 => h9) (hI.fr 0 (mF 0 rfl) rfl (Nat.le_of_ble_eq_true rfl) 1 rfl) dX12_decide_51 ?_
          refine th_getL (ci := 1) (C := RX0) (T := TX0) (N := 11) (v := .int (xi (E 1) 0)) hx hb hts hinX0 hown hK hP hI 1 (mF 1 rfl) rfl rfl 0 (Nat.le_of_ble_eq_true rfl) (hts _ (vA_in _ _ (in_10 _ (zs16 (zs4 (zs4 (zs1 (zs1 (zs0))))))))) (fun _ h9 => h9) (th_v0L hKp hI0 1 (mF 1 rfl) rfl (Nat.le_of_ble_eq_true rfl) rfl rfl) dX12_decide_54 ?_
          have z0 := ln_0
          refine th_iL (va_runV (As := [.ref (ad (64 * (a0.toNatClampNeg + 1) + 14)), .int 0, .int (xi (E 1) 0)]) (rest := []) ⟨hx, hb, hml, hown, hts⟩ (q_findX l dC dI cT cf hC ad E H.size (0 : Int32) (xi (E 1) 0) a0.toNatClampNeg hI (by omega) (iv_w ln_0 (by decide)) i1 (by exact hh0)) (cwV 3 hts (gi_V (in_14 _ (zs16 (zs4 (zs4 (zs4 (zs1 (zs0))))))) (in_14 _ (zs16 (zs4 (zs4 (zs4 (zs1 (zs1 (zs0)))))))) (in_14 _ (zs16 (zs4 (zs4 (zs4 (zs1 (zs1 (zs1 (zs0))))))))) (in_14 _ (zs16 (zs16 (zs0)))) (in_14 _ (zs16 (zs16 (zs1 (zs0)))))) rfl rfl rfl ⟨rfl, hz_yX2_find_3⟩ ⟨Nat.le_of_ble_eq_true rfl, Nat.le_of_ble_eq_true rfl⟩) ⟨HWL_bl, va_recv hK hP (ci := 3) (q0 := posL 5 (LC cf)) rfl (hI.ob 5 (mF 5 rfl) rfl), (HWL_wi hP hK (WL_D hD) hS hA hEV)⟩ rfl rfl hl.1 rfl (lv_room (Nat.le_of_ble_eq_true rfl)) dX12_decide_57 ⟨Nat.le_of_ble_eq_true rfl, Nat.le_of_ble_eq_true rfl⟩) (WL_D hD) hS hA (fun r23 E24 H locs hw hP hS => ?_)
          obtain ⟨hI, kq25, hw⟩ := hw
          have hKb := hKp
          have hKp := hKp.tr kq25 (wl_sub rfl rfl)
          obtain ⟨f26, f27⟩ := hw
          obtain ⟨s0_, hsw0, hsf0⟩ := f27
          refine lv_iconst (v := 1) hx hb dX12_decide_60 (by decide) ?_
          refine lv_icmp_ne (tgt := 68) hx hb dX12_decide_61 (by decide) (fun c28 => ?_) (fun c28 => ?_)
          · --61 taken
            have t29 : ¬ r23.toInt = 1 := ti_ne c28
            refine lv_iconst (v := 0) hx hb dX12_decide_68 (by decide) ?_
            refine lv_istore_n (lv' := [(3, .int 0), (2, .ref (ad (64 * (a0.toNatClampNeg + 1) + 14))), (0, .ref (ad 0)), (1, .int a0)]) hx hb dX12_decide_69 rfl hl (by decide) rfl (fun ls hl => ?_)
            refine lv_aload_n hx hb dX12_decide_70 rfl (lv_at hl 2 rfl) ?_
            refine th_getL (ci := 13) (C := RX12) (T := TX12) (N := 6) (v := .ref (ad 5)) hx hb hts hinX12 hown hK hP hI 0 (mF 0 rfl) rfl rfl 4 (Nat.le_of_ble_eq_true rfl) (hts _ (vA_in _ _ (in_14 _ (zs16 (zs4 (zs0)))))) (fun _ h9 => h9) (hI.fr 0 (mF 0 rfl) rfl (Nat.le_of_ble_eq_true rfl) 5 rfl) dX12_decide_71 ?_
            refine lv_aload_n hx hb dX12_decide_74 rfl (lv_at hl 1 rfl) ?_
            refine lv_iconst (v := 1) hx hb dX12_decide_75 (by decide) ?_
            refine lv_aload_n hx hb dX12_decide_76 rfl (lv_at hl 2 rfl) ?_
            refine th_getL (ci := 13) (C := RX12) (T := TX12) (N := 6) (v := .ref (ad 1)) hx hb hts hinX12 hown hK hP hI 0 (mF 0 rfl) rfl rfl 0 (Nat.le_of_ble_eq_true rfl) (hts _ (vA_in _ _ (in_10 _ (zs16 (zs1 (zs0)))))) (fun _ h9 => h9) (hI.fr 0 (mF 0 rfl) rfl (Nat.le_of_ble_eq_true rfl) 1 rfl) dX12_decide_77 ?_
            refine th_getL (ci := 1) (C := RX0) (T := TX0) (N := 11) (v := .int (xi (E 1) 0)) hx hb hts hinX0 hown hK hP hI 1 (mF 1 rfl) rfl rfl 0 (Nat.le_of_ble_eq_true rfl) (hts _ (vA_in _ _ (in_10 _ (zs16 (zs4 (zs4 (zs1 (zs1 (zs0))))))))) (fun _ h9 => h9) (th_v0L hKp hI0 1 (mF 1 rfl) rfl (Nat.le_of_ble_eq_true rfl) rfl rfl) dX12_decide_80 ?_
            have z1 := ln_1
            refine th_iL (va_runV (As := [.ref (ad (64 * (a0.toNatClampNeg + 1) + 14)), .int 1, .int (xi (E 1) 0)]) (rest := []) ⟨hx, hb, hml, hown, hts⟩ (q_findX l dC dI cT cf hC ad E24 H.size (1 : Int32) (xi (E 1) 0) a0.toNatClampNeg hI (by omega) (iv_w ln_1 (by decide)) i1 (by exact (fun i9 hi9 => (hh0 i9 hi9).cg (kp_rul kq25 (fun o9 ho9 j9 => wl_p rfl rfl ho9) i9)))) (cwV 3 hts (gi_V (in_14 _ (zs16 (zs4 (zs4 (zs4 (zs1 (zs0))))))) (in_14 _ (zs16 (zs4 (zs4 (zs4 (zs1 (zs1 (zs0)))))))) (in_14 _ (zs16 (zs4 (zs4 (zs4 (zs1 (zs1 (zs1 (zs0))))))))) (in_14 _ (zs16 (zs16 (zs0)))) (in_14 _ (zs16 (zs16 (zs1 (zs0)))))) rfl rfl rfl ⟨rfl, hz_yX2_find_3⟩ ⟨Nat.le_of_ble_eq_true rfl, Nat.le_of_ble_eq_true rfl⟩) ⟨HWL_bl, va_recv hK hP (ci := 3) (q0 := posL 5 (LC cf)) rfl (hI.ob 5 (mF 5 rfl) rfl), (HWL_wi hP hK (WL_D hD) hS hA hEV)⟩ rfl rfl hl.1 rfl (lv_room (Nat.le_of_ble_eq_true rfl)) dX12_decide_83 ⟨Nat.le_of_ble_eq_true rfl, Nat.le_of_ble_eq_true rfl⟩) (WL_D hD) hS hA (fun r30 E31 H locs hw hP hS => ?_)
            obtain ⟨hI, kq32, hw⟩ := hw
            have hKb := hKp
            have hKp := hKp.tr kq32 (wl_sub rfl rfl)
            obtain ⟨f33, f34⟩ := hw
            obtain ⟨s1_, hsw1, hsf1⟩ := f34
            have hk64 : K64 E E24 := K64.of kq25 (fun o9 ho9 j9 => wl_p rfl rfl ho9)
            have hsw1 := hk64.sw hsw1
            try rw [hk64 (64 * (a0.toNatClampNeg + 1) + 14) (by omega) 0] at hsw1
            have hse := hsw1.un hsw0
            rw [hse] at hsf1
            have hsf1 := hsf1.trans (FndC.cg hk64)
            refine lv_iconst (v := 1) hx hb dX12_decide_86 (by decide) ?_
            refine lv_icmp_ne (tgt := 94) hx hb dX12_decide_87 (by decide) (fun c35 => ?_) (fun c35 => ?_)
            · --87 taken
              have t36 : ¬ r30.toInt = 1 := ti_ne c35
              refine lv_aload_n hx hb dX12_decide_94 rfl (lv_at hl 1 rfl) ?_
              refine lv_iload_n hx hb dX12_decide_95 rfl (lv_at hl 0 rfl) ?_
              refine lv_aload_n hx hb dX12_decide_96 rfl (lv_at hl 2 rfl) ?_
              refine th_getL (ci := 13) (C := RX12) (T := TX12) (N := 6) (v := .ref (ad 1)) hx hb hts hinX12 hown hK hP hI 0 (mF 0 rfl) rfl rfl 0 (Nat.le_of_ble_eq_true rfl) (hts _ (vA_in _ _ (in_10 _ (zs16 (zs1 (zs0)))))) (fun _ h9 => h9) (hI.fr 0 (mF 0 rfl) rfl (Nat.le_of_ble_eq_true rfl) 1 rfl) dX12_decide_97 ?_
              refine th_getL (ci := 1) (C := RX0) (T := TX0) (N := 11) (v := .int (xi (E 1) 0)) hx hb hts hinX0 hown hK hP hI 1 (mF 1 rfl) rfl rfl 0 (Nat.le_of_ble_eq_true rfl) (hts _ (vA_in _ _ (in_10 _ (zs16 (zs4 (zs4 (zs1 (zs1 (zs0))))))))) (fun _ h9 => h9) (th_v0L hKp hI0 1 (mF 1 rfl) rfl (Nat.le_of_ble_eq_true rfl) rfl rfl) dX12_decide_100 ?_
              refine th_vL (va_runV (As := [.int 0, .int (xi (E 1) 0)]) (rest := []) ⟨hx, hb, hml, hown, hts⟩ (q_settleX l dC dI cT cf hC ad E31 H.size (0 : Int32) (xi (E 1) 0) a0.toNatClampNeg hI (by omega) (iv_w ln_0 (by decide)) i1) (cwV 2 hts (gi_V (in_16 _ (zs16 (zs4 (zs4 (zs4 (zs0)))))) (in_16 _ (zs16 (zs4 (zs4 (zs4 (zs1 (zs0))))))) (in_16 _ (zs16 (zs4 (zs4 (zs4 (zs1 (zs1 (zs0)))))))) (in_5 _ (zs16 (zs0))) (in_16 _ (zs16 (zs4 (zs4 (zs4 (zs1 (zs1 (zs1 (zs0)))))))))) rfl rfl rfl ⟨rfl, hz_yX4_settle_2⟩ ⟨Nat.le_of_ble_eq_true rfl, Nat.le_of_ble_eq_true rfl⟩) ⟨HWL_bl, va_recv hK hP (ci := 5) (q0 := posL (64 * (a0.toNatClampNeg + 1) + 14) (LC cf)) rfl (hI.ob (64 * (a0.toNatClampNeg + 1) + 14) (mP 14 a0.toNatClampNeg (by decide) lv8 (kl_le hC 5 (by decide))) (shC_p 14 a0.toNatClampNeg (by decide))), (HWL_wi hP hK (WL_D hD) hS hA hEV)⟩ rfl rfl hl.1 rfl (lv_room (Nat.le_of_ble_eq_true rfl)) dX12_decide_103 ⟨Nat.le_of_ble_eq_true rfl, Nat.le_of_ble_eq_true rfl⟩) (WL_D hD) hS hA (fun E38 H locs hw hP hS => ?_)
              obtain ⟨hI, kq39, hw⟩ := hw
              have hKb := hKp
              have hKp := hKp.tr kq39 (by intro o j h9; simp [wl] at h9 ⊢; omega)
              obtain ⟨y40, ey40⟩ : ∃ y, xi (E38 (64 * (a0.toNatClampNeg + 1) + 14)) 5 = y := ⟨_, rfl⟩
              have fy40 : xv (E38 (64 * (a0.toNatClampNeg + 1) + 14)) 5 = .int y40 := (hI.fi (64 * (a0.toNatClampNeg + 1) + 14) (mP 14 a0.toNatClampNeg (by decide) lv8 (kl_le hC 5 (by decide))) (shC_p 14 a0.toNatClampNeg (by decide)) (Nat.le_of_ble_eq_true rfl) (spC_p 14 a0.toNatClampNeg (by decide) 5)).trans (congrArg Value.int ey40)
              have i41 : -1 ≤ y40.toInt ∧ y40.toInt ≤ 400 := by rw [← ey40]; exact hI.iv (64 * (a0.toNatClampNeg + 1) + 14) (mP 14 a0.toNatClampNeg (by decide) lv8 (kl_le hC 5 (by decide))) (shC_p 14 a0.toNatClampNeg (by decide)) (Nat.le_of_ble_eq_true rfl) (spC_p 14 a0.toNatClampNeg (by decide) 5)
              obtain ⟨y42, ey42⟩ : ∃ y, xi (E38 (64 * (a0.toNatClampNeg + 1) + 14)) 6 = y := ⟨_, rfl⟩
              have fy42 : xv (E38 (64 * (a0.toNatClampNeg + 1) + 14)) 6 = .int y42 := (hI.fi (64 * (a0.toNatClampNeg + 1) + 14) (mP 14 a0.toNatClampNeg (by decide) lv8 (kl_le hC 5 (by decide))) (shC_p 14 a0.toNatClampNeg (by decide)) (Nat.le_of_ble_eq_true rfl) (spC_p 14 a0.toNatClampNeg (by decide) 6)).trans (congrArg Value.int ey42)
              have i43 : 0 ≤ y42.toInt ∧ y42.toInt ≤ 3 := by rw [← ey42]; exact hI.iv (64 * (a0.toNatClampNeg + 1) + 14) (mP 14 a0.toNatClampNeg (by decide) lv8 (kl_le hC 5 (by decide))) (shC_p 14 a0.toNatClampNeg (by decide)) (Nat.le_of_ble_eq_true rfl) (spC_p 14 a0.toNatClampNeg (by decide) 6)
              obtain ⟨y44, ey44⟩ : ∃ y, xi (E38 (64 * (a0.toNatClampNeg + 1) + 14)) 8 = y := ⟨_, rfl⟩
              have fy44 : xv (E38 (64 * (a0.toNatClampNeg + 1) + 14)) 8 = .int y44 := (hI.fi (64 * (a0.toNatClampNeg + 1) + 14) (mP 14 a0.toNatClampNeg (by decide) lv8 (kl_le hC 5 (by decide))) (shC_p 14 a0.toNatClampNeg (by decide)) (Nat.le_of_ble_eq_true rfl) (spC_p 14 a0.toNatClampNeg (by decide) 8)).trans (congrArg Value.int ey44)
              have i45 : -1 ≤ y44.toInt ∧ y44.toInt ≤ 400 := by rw [← ey44]; exact hI.iv (64 * (a0.toNatClampNeg + 1) + 14) (mP 14 a0.toNatClampNeg (by decide) lv8 (kl_le hC 5 (by decide))) (shC_p 14 a0.toNatClampNeg (by decide)) (Nat.le_of_ble_eq_true rfl) (spC_p 14 a0.toNatClampNeg (by decide) 8)
              obtain ⟨y46, ey46⟩ : ∃ y, xi (E38 (64 * (a0.toNatClampNeg + 1) + 14)) 9 = y := ⟨_, rfl⟩
              have fy46 : xv (E38 (64 * (a0.toNatClampNeg + 1) + 14)) 9 = .int y46 := (hI.fi (64 * (a0.toNatClampNeg + 1) + 14) (mP 14 a0.toNatClampNeg (by decide) lv8 (kl_le hC 5 (by decide))) (shC_p 14 a0.toNatClampNeg (by decide)) (Nat.le_of_ble_eq_true rfl) (spC_p 14 a0.toNatClampNeg (by decide) 9)).trans (congrArg Value.int ey46)
              have i47 : 0 ≤ y46.toInt ∧ y46.toInt ≤ 3 := by rw [← ey46]; exact hI.iv (64 * (a0.toNatClampNeg + 1) + 14) (mP 14 a0.toNatClampNeg (by decide) lv8 (kl_le hC 5 (by decide))) (shC_p 14 a0.toNatClampNeg (by decide)) (Nat.le_of_ble_eq_true rfl) (spC_p 14 a0.toNatClampNeg (by decide) 9)
              have f48 := hw
              try rw [(show xi (E31 (64 * (a0.toNatClampNeg + 1) + 14)) 5 = y9 from vi_e ((kq32 (64 * (a0.toNatClampNeg + 1) + 14) 5 (wl_p rfl rfl (by omega))).trans ((kq25 (64 * (a0.toNatClampNeg + 1) + 14) 5 (wl_p rfl rfl (by omega))).trans fy9)))] at f48
              try rw [(show xi (E31 (64 * (a0.toNatClampNeg + 1) + 14)) 6 = y11 from vi_e ((kq32 (64 * (a0.toNatClampNeg + 1) + 14) 6 (wl_p rfl rfl (by omega))).trans ((kq25 (64 * (a0.toNatClampNeg + 1) + 14) 6 (wl_p rfl rfl (by omega))).trans fy11)))] at f48
              try rw [(show xi (E31 (64 * (a0.toNatClampNeg + 1) + 14)) 7 = (xi (E (64 * (a0.toNatClampNeg + 1) + 14)) 7) from vi_e (th_v0L hKb hI0 (64 * (a0.toNatClampNeg + 1) + 14) (mP 14 a0.toNatClampNeg (by decide) lv8 (kl_le hC 5 (by decide))) (shC_p 14 a0.toNatClampNeg (by decide)) (Nat.le_of_ble_eq_true rfl) (spC_p 14 a0.toNatClampNeg (by decide) 7) (by simp [wl] <;> omega)))] at f48
              try rw [(show xi (E31 (64 * (a0.toNatClampNeg + 1) + 14)) 8 = y14 from vi_e ((kq32 (64 * (a0.toNatClampNeg + 1) + 14) 8 (wl_p rfl rfl (by omega))).trans ((kq25 (64 * (a0.toNatClampNeg + 1) + 14) 8 (wl_p rfl rfl (by omega))).trans fy14)))] at f48
              try rw [(show xi (E31 (64 * (a0.toNatClampNeg + 1) + 14)) 9 = y16 from vi_e ((kq32 (64 * (a0.toNatClampNeg + 1) + 14) 9 (wl_p rfl rfl (by omega))).trans ((kq25 (64 * (a0.toNatClampNeg + 1) + 14) 9 (wl_p rfl rfl (by omega))).trans fy16)))] at f48
              try rw [(show xi (E38 (64 * (a0.toNatClampNeg + 1) + 14)) 5 = y40 from vi_e fy40)] at f48
              try rw [(show xi (E38 (64 * (a0.toNatClampNeg + 1) + 14)) 6 = y42 from vi_e fy42)] at f48
              try rw [(show xi (E38 (64 * (a0.toNatClampNeg + 1) + 14)) 8 = y44 from vi_e fy44)] at f48
              try rw [(show xi (E38 (64 * (a0.toNatClampNeg + 1) + 14)) 9 = y46 from vi_e fy46)] at f48
              refine lv_iload_n hx hb dX12_decide_106 rfl (lv_at hl 0 rfl) ?_
              rw [hQ]
              exact W.iret (v := 0) hx hb hr (fun t ht hW => ⟨⟨0, E38, rfl, ⟨hI, hKp, Or.inl ⟨(iv_w ln_0 (by decide)), by (try rw [ey9]); (try rw [ey11]); (try rw [ey14]); (try rw [ey16]); all_goals omega, by (try rw [(show xi (E38 (64 * (a0.toNatClampNeg + 1) + 14)) 5 = y40 from vi_e fy40)]); (try rw [(show xi (E38 (64 * (a0.toNatClampNeg + 1) + 14)) 6 = y42 from vi_e fy42)]); (try rw [(show xi (E38 (64 * (a0.toNatClampNeg + 1) + 14)) 7 = (xi (E (64 * (a0.toNatClampNeg + 1) + 14)) 7) from vi_e (th_v0L hKp hI0 (64 * (a0.toNatClampNeg + 1) + 14) (mP 14 a0.toNatClampNeg (by decide) lv8 (kl_le hC 5 (by decide))) (shC_p 14 a0.toNatClampNeg (by decide)) (Nat.le_of_ble_eq_true rfl) (spC_p 14 a0.toNatClampNeg (by decide) 7) (by simp [wl] <;> omega)))]); (try rw [(show xi (E38 (64 * (a0.toNatClampNeg + 1) + 14)) 8 = y44 from vi_e fy44)]); (try rw [(show xi (E38 (64 * (a0.toNatClampNeg + 1) + 14)) 9 = y46 from vi_e fy46)]); (try rw [ey9]); (try rw [ey11]); (try rw [ey14]); (try rw [ey16]); all_goals omega, ⟨s0_, hsw0, dec_b hsf0 hsf1 (by rw [if_neg (by omega), if_neg (by omega)] <;> first | rfl | decide)⟩⟩⟩, by show va_P (dC, dI) vwCl (WL (LC cf) ad E38) t.heap; rw [ht]; exact hP⟩, hS.F ht⟩) hS.2.2 dX12_decide_107
            · --87 not
              have t49 : r30.toInt = 1 := ti_eq c35
              have i50 : 1 ≤ r30.toInt ∧ r30.toInt ≤ 1 := iv_eqi t49 f33 (il_ 1) (by decide)
              refine lv_iload_n hx hb dX12_decide_90 rfl (lv_at hl 0 rfl) ?_
              refine lv_iconst (v := 2) hx hb dX12_decide_91 (by decide) ?_
              have z2 := ln_2
              refine lv_ior hx hb dX12_decide_92 ?_
              refine lv_topi (fun y51 ey51 => ?_)
              have iy51 : 0 ≤ y51.toInt ∧ y51.toInt ≤ 3 := ti_or3 ey51 (by omega) (by omega)
              refine lv_istore_n (lv' := [(3, .int y51), (2, .ref (ad (64 * (a0.toNatClampNeg + 1) + 14))), (0, .ref (ad 0)), (1, .int a0)]) hx hb dX12_decide_93 rfl hl (by decide) rfl (fun ls hl => ?_)
              refine lv_aload_n hx hb dX12_decide_94 rfl (lv_at hl 1 rfl) ?_
              refine lv_iload_n hx hb dX12_decide_95 rfl (lv_at hl 0 rfl) ?_
              refine lv_aload_n hx hb dX12_decide_96 rfl (lv_at hl 2 rfl) ?_
              refine th_getL (ci := 13) (C := RX12) (T := TX12) (N := 6) (v := .ref (ad 1)) hx hb hts hinX12 hown hK hP hI 0 (mF 0 rfl) rfl rfl 0 (Nat.le_of_ble_eq_true rfl) (hts _ (vA_in _ _ (in_10 _ (zs16 (zs1 (zs0)))))) (fun _ h9 => h9) (hI.fr 0 (mF 0 rfl) rfl (Nat.le_of_ble_eq_true rfl) 1 rfl) dX12_decide_97 ?_
              refine th_getL (ci := 1) (C := RX0) (T := TX0) (N := 11) (v := .int (xi (E 1) 0)) hx hb hts hinX0 hown hK hP hI 1 (mF 1 rfl) rfl rfl 0 (Nat.le_of_ble_eq_true rfl) (hts _ (vA_in _ _ (in_10 _ (zs16 (zs4 (zs4 (zs1 (zs1 (zs0))))))))) (fun _ h9 => h9) (th_v0L hKp hI0 1 (mF 1 rfl) rfl (Nat.le_of_ble_eq_true rfl) rfl rfl) dX12_decide_100 ?_
              refine th_vL (va_runV (As := [.int y51, .int (xi (E 1) 0)]) (rest := []) ⟨hx, hb, hml, hown, hts⟩ (q_settleX l dC dI cT cf hC ad E31 H.size y51 (xi (E 1) 0) a0.toNatClampNeg hI (by omega) iy51 i1) (cwV 2 hts (gi_V (in_16 _ (zs16 (zs4 (zs4 (zs4 (zs0)))))) (in_16 _ (zs16 (zs4 (zs4 (zs4 (zs1 (zs0))))))) (in_16 _ (zs16 (zs4 (zs4 (zs4 (zs1 (zs1 (zs0)))))))) (in_5 _ (zs16 (zs0))) (in_16 _ (zs16 (zs4 (zs4 (zs4 (zs1 (zs1 (zs1 (zs0)))))))))) rfl rfl rfl ⟨rfl, hz_yX4_settle_2⟩ ⟨Nat.le_of_ble_eq_true rfl, Nat.le_of_ble_eq_true rfl⟩) ⟨HWL_bl, va_recv hK hP (ci := 5) (q0 := posL (64 * (a0.toNatClampNeg + 1) + 14) (LC cf)) rfl (hI.ob (64 * (a0.toNatClampNeg + 1) + 14) (mP 14 a0.toNatClampNeg (by decide) lv8 (kl_le hC 5 (by decide))) (shC_p 14 a0.toNatClampNeg (by decide))), (HWL_wi hP hK (WL_D hD) hS hA hEV)⟩ rfl rfl hl.1 rfl (lv_room (Nat.le_of_ble_eq_true rfl)) dX12_decide_103 ⟨Nat.le_of_ble_eq_true rfl, Nat.le_of_ble_eq_true rfl⟩) (WL_D hD) hS hA (fun E53 H locs hw hP hS => ?_)
              obtain ⟨hI, kq54, hw⟩ := hw
              have hKb := hKp
              have hKp := hKp.tr kq54 (by intro o j h9; simp [wl] at h9 ⊢; omega)
              obtain ⟨y55, ey55⟩ : ∃ y, xi (E53 (64 * (a0.toNatClampNeg + 1) + 14)) 5 = y := ⟨_, rfl⟩
              have fy55 : xv (E53 (64 * (a0.toNatClampNeg + 1) + 14)) 5 = .int y55 := (hI.fi (64 * (a0.toNatClampNeg + 1) + 14) (mP 14 a0.toNatClampNeg (by decide) lv8 (kl_le hC 5 (by decide))) (shC_p 14 a0.toNatClampNeg (by decide)) (Nat.le_of_ble_eq_true rfl) (spC_p 14 a0.toNatClampNeg (by decide) 5)).trans (congrArg Value.int ey55)
              have i56 : -1 ≤ y55.toInt ∧ y55.toInt ≤ 400 := by rw [← ey55]; exact hI.iv (64 * (a0.toNatClampNeg + 1) + 14) (mP 14 a0.toNatClampNeg (by decide) lv8 (kl_le hC 5 (by decide))) (shC_p 14 a0.toNatClampNeg (by decide)) (Nat.le_of_ble_eq_true rfl) (spC_p 14 a0.toNatClampNeg (by decide) 5)
              obtain ⟨y57, ey57⟩ : ∃ y, xi (E53 (64 * (a0.toNatClampNeg + 1) + 14)) 6 = y := ⟨_, rfl⟩
              have fy57 : xv (E53 (64 * (a0.toNatClampNeg + 1) + 14)) 6 = .int y57 := (hI.fi (64 * (a0.toNatClampNeg + 1) + 14) (mP 14 a0.toNatClampNeg (by decide) lv8 (kl_le hC 5 (by decide))) (shC_p 14 a0.toNatClampNeg (by decide)) (Nat.le_of_ble_eq_true rfl) (spC_p 14 a0.toNatClampNeg (by decide) 6)).trans (congrArg Value.int ey57)
              have i58 : 0 ≤ y57.toInt ∧ y57.toInt ≤ 3 := by rw [← ey57]; exact hI.iv (64 * (a0.toNatClampNeg + 1) + 14) (mP 14 a0.toNatClampNeg (by decide) lv8 (kl_le hC 5 (by decide))) (shC_p 14 a0.toNatClampNeg (by decide)) (Nat.le_of_ble_eq_true rfl) (spC_p 14 a0.toNatClampNeg (by decide) 6)
              obtain ⟨y59, ey59⟩ : ∃ y, xi (E53 (64 * (a0.toNatClampNeg + 1) + 14)) 8 = y := ⟨_, rfl⟩
              have fy59 : xv (E53 (64 * (a0.toNatClampNeg + 1) + 14)) 8 = .int y59 := (hI.fi (64 * (a0.toNatClampNeg + 1) + 14) (mP 14 a0.toNatClampNeg (by decide) lv8 (kl_le hC 5 (by decide))) (shC_p 14 a0.toNatClampNeg (by decide)) (Nat.le_of_ble_eq_true rfl) (spC_p 14 a0.toNatClampNeg (by decide) 8)).trans (congrArg Value.int ey59)
              have i60 : -1 ≤ y59.toInt ∧ y59.toInt ≤ 400 := by rw [← ey59]; exact hI.iv (64 * (a0.toNatClampNeg + 1) + 14) (mP 14 a0.toNatClampNeg (by decide) lv8 (kl_le hC 5 (by decide))) (shC_p 14 a0.toNatClampNeg (by decide)) (Nat.le_of_ble_eq_true rfl) (spC_p 14 a0.toNatClampNeg (by decide) 8)
              obtain ⟨y61, ey61⟩ : ∃ y, xi (E53 (64 * (a0.toNatClampNeg + 1) + 14)) 9 = y := ⟨_, rfl⟩
              have fy61 : xv (E53 (64 * (a0.toNatClampNeg + 1) + 14)) 9 = .int y61 := (hI.fi (64 * (a0.toNatClampNeg + 1) + 14) (mP 14 a0.toNatClampNeg (by decide) lv8 (kl_le hC 5 (by decide))) (shC_p 14 a0.toNatClampNeg (by decide)) (Nat.le_of_ble_eq_true rfl) (spC_p 14 a0.toNatClampNeg (by decide) 9)).trans (congrArg Value.int ey61)
              have i62 : 0 ≤ y61.toInt ∧ y61.toInt ≤ 3 := by rw [← ey61]; exact hI.iv (64 * (a0.toNatClampNeg + 1) + 14) (mP 14 a0.toNatClampNeg (by decide) lv8 (kl_le hC 5 (by decide))) (shC_p 14 a0.toNatClampNeg (by decide)) (Nat.le_of_ble_eq_true rfl) (spC_p 14 a0.toNatClampNeg (by decide) 9)
              have f63 := hw
              try rw [(show xi (E31 (64 * (a0.toNatClampNeg + 1) + 14)) 5 = y9 from vi_e ((kq32 (64 * (a0.toNatClampNeg + 1) + 14) 5 (wl_p rfl rfl (by omega))).trans ((kq25 (64 * (a0.toNatClampNeg + 1) + 14) 5 (wl_p rfl rfl (by omega))).trans fy9)))] at f63
              try rw [(show xi (E31 (64 * (a0.toNatClampNeg + 1) + 14)) 6 = y11 from vi_e ((kq32 (64 * (a0.toNatClampNeg + 1) + 14) 6 (wl_p rfl rfl (by omega))).trans ((kq25 (64 * (a0.toNatClampNeg + 1) + 14) 6 (wl_p rfl rfl (by omega))).trans fy11)))] at f63
              try rw [(show xi (E31 (64 * (a0.toNatClampNeg + 1) + 14)) 7 = (xi (E (64 * (a0.toNatClampNeg + 1) + 14)) 7) from vi_e (th_v0L hKb hI0 (64 * (a0.toNatClampNeg + 1) + 14) (mP 14 a0.toNatClampNeg (by decide) lv8 (kl_le hC 5 (by decide))) (shC_p 14 a0.toNatClampNeg (by decide)) (Nat.le_of_ble_eq_true rfl) (spC_p 14 a0.toNatClampNeg (by decide) 7) (by simp [wl] <;> omega)))] at f63
              try rw [(show xi (E31 (64 * (a0.toNatClampNeg + 1) + 14)) 8 = y14 from vi_e ((kq32 (64 * (a0.toNatClampNeg + 1) + 14) 8 (wl_p rfl rfl (by omega))).trans ((kq25 (64 * (a0.toNatClampNeg + 1) + 14) 8 (wl_p rfl rfl (by omega))).trans fy14)))] at f63
              try rw [(show xi (E31 (64 * (a0.toNatClampNeg + 1) + 14)) 9 = y16 from vi_e ((kq32 (64 * (a0.toNatClampNeg + 1) + 14) 9 (wl_p rfl rfl (by omega))).trans ((kq25 (64 * (a0.toNatClampNeg + 1) + 14) 9 (wl_p rfl rfl (by omega))).trans fy16)))] at f63
              try rw [(show xi (E53 (64 * (a0.toNatClampNeg + 1) + 14)) 5 = y55 from vi_e fy55)] at f63
              try rw [(show xi (E53 (64 * (a0.toNatClampNeg + 1) + 14)) 6 = y57 from vi_e fy57)] at f63
              try rw [(show xi (E53 (64 * (a0.toNatClampNeg + 1) + 14)) 8 = y59 from vi_e fy59)] at f63
              try rw [(show xi (E53 (64 * (a0.toNatClampNeg + 1) + 14)) 9 = y61 from vi_e fy61)] at f63
              refine lv_iload_n hx hb dX12_decide_106 rfl (lv_at hl 0 rfl) ?_
              rw [hQ]
              exact W.iret (v := y51) hx hb hr (fun t ht hW => ⟨⟨y51, E53, rfl, ⟨hI, hKp, Or.inl ⟨iy51, by (try rw [ey9]); (try rw [ey11]); (try rw [ey14]); (try rw [ey16]); all_goals omega, by (try rw [(show xi (E53 (64 * (a0.toNatClampNeg + 1) + 14)) 5 = y55 from vi_e fy55)]); (try rw [(show xi (E53 (64 * (a0.toNatClampNeg + 1) + 14)) 6 = y57 from vi_e fy57)]); (try rw [(show xi (E53 (64 * (a0.toNatClampNeg + 1) + 14)) 7 = (xi (E (64 * (a0.toNatClampNeg + 1) + 14)) 7) from vi_e (th_v0L hKp hI0 (64 * (a0.toNatClampNeg + 1) + 14) (mP 14 a0.toNatClampNeg (by decide) lv8 (kl_le hC 5 (by decide))) (shC_p 14 a0.toNatClampNeg (by decide)) (Nat.le_of_ble_eq_true rfl) (spC_p 14 a0.toNatClampNeg (by decide) 7) (by simp [wl] <;> omega)))]); (try rw [(show xi (E53 (64 * (a0.toNatClampNeg + 1) + 14)) 8 = y59 from vi_e fy59)]); (try rw [(show xi (E53 (64 * (a0.toNatClampNeg + 1) + 14)) 9 = y61 from vi_e fy61)]); (try rw [ey9]); (try rw [ey11]); (try rw [ey14]); (try rw [ey16]); all_goals omega, ⟨s0_, hsw0, dec_b hsf0 hsf1 (by rw [if_neg (by omega), if_pos (by omega)]; rw [ey51] <;> first | rfl | decide)⟩⟩⟩, by show va_P (dC, dI) vwCl (WL (LC cf) ad E53) t.heap; rw [ht]; exact hP⟩, hS.F ht⟩) hS.2.2 dX12_decide_107
          · --61 not
            have t64 : r23.toInt = 1 := ti_eq c28
            have i65 : 1 ≤ r23.toInt ∧ r23.toInt ≤ 1 := iv_eqi t64 f26 (il_ 1) (by decide)
            refine lv_iconst (v := 1) hx hb dX12_decide_64 (by decide) ?_
            refine lv_goto (tgt := 69) hx hb dX12_decide_65 (by decide) ?_
            refine lv_istore_n (lv' := [(3, .int 1), (2, .ref (ad (64 * (a0.toNatClampNeg + 1) + 14))), (0, .ref (ad 0)), (1, .int a0)]) hx hb dX12_decide_69 rfl hl (by decide) rfl (fun ls hl => ?_)
            refine lv_aload_n hx hb dX12_decide_70 rfl (lv_at hl 2 rfl) ?_
            refine th_getL (ci := 13) (C := RX12) (T := TX12) (N := 6) (v := .ref (ad 5)) hx hb hts hinX12 hown hK hP hI 0 (mF 0 rfl) rfl rfl 4 (Nat.le_of_ble_eq_true rfl) (hts _ (vA_in _ _ (in_14 _ (zs16 (zs4 (zs0)))))) (fun _ h9 => h9) (hI.fr 0 (mF 0 rfl) rfl (Nat.le_of_ble_eq_true rfl) 5 rfl) dX12_decide_71 ?_
            refine lv_aload_n hx hb dX12_decide_74 rfl (lv_at hl 1 rfl) ?_
            refine lv_iconst (v := 1) hx hb dX12_decide_75 (by decide) ?_
            refine lv_aload_n hx hb dX12_decide_76 rfl (lv_at hl 2 rfl) ?_
            refine th_getL (ci := 13) (C := RX12) (T := TX12) (N := 6) (v := .ref (ad 1)) hx hb hts hinX12 hown hK hP hI 0 (mF 0 rfl) rfl rfl 0 (Nat.le_of_ble_eq_true rfl) (hts _ (vA_in _ _ (in_10 _ (zs16 (zs1 (zs0)))))) (fun _ h9 => h9) (hI.fr 0 (mF 0 rfl) rfl (Nat.le_of_ble_eq_true rfl) 1 rfl) dX12_decide_77 ?_
            refine th_getL (ci := 1) (C := RX0) (T := TX0) (N := 11) (v := .int (xi (E 1) 0)) hx hb hts hinX0 hown hK hP hI 1 (mF 1 rfl) rfl rfl 0 (Nat.le_of_ble_eq_true rfl) (hts _ (vA_in _ _ (in_10 _ (zs16 (zs4 (zs4 (zs1 (zs1 (zs0))))))))) (fun _ h9 => h9) (th_v0L hKp hI0 1 (mF 1 rfl) rfl (Nat.le_of_ble_eq_true rfl) rfl rfl) dX12_decide_80 ?_
            have z1 := ln_1
            refine th_iL (va_runV (As := [.ref (ad (64 * (a0.toNatClampNeg + 1) + 14)), .int 1, .int (xi (E 1) 0)]) (rest := []) ⟨hx, hb, hml, hown, hts⟩ (q_findX l dC dI cT cf hC ad E24 H.size (1 : Int32) (xi (E 1) 0) a0.toNatClampNeg hI (by omega) (iv_w ln_1 (by decide)) i1 (by exact (fun i9 hi9 => (hh0 i9 hi9).cg (kp_rul kq25 (fun o9 ho9 j9 => wl_p rfl rfl ho9) i9)))) (cwV 3 hts (gi_V (in_14 _ (zs16 (zs4 (zs4 (zs4 (zs1 (zs0))))))) (in_14 _ (zs16 (zs4 (zs4 (zs4 (zs1 (zs1 (zs0)))))))) (in_14 _ (zs16 (zs4 (zs4 (zs4 (zs1 (zs1 (zs1 (zs0))))))))) (in_14 _ (zs16 (zs16 (zs0)))) (in_14 _ (zs16 (zs16 (zs1 (zs0)))))) rfl rfl rfl ⟨rfl, hz_yX2_find_3⟩ ⟨Nat.le_of_ble_eq_true rfl, Nat.le_of_ble_eq_true rfl⟩) ⟨HWL_bl, va_recv hK hP (ci := 3) (q0 := posL 5 (LC cf)) rfl (hI.ob 5 (mF 5 rfl) rfl), (HWL_wi hP hK (WL_D hD) hS hA hEV)⟩ rfl rfl hl.1 rfl (lv_room (Nat.le_of_ble_eq_true rfl)) dX12_decide_83 ⟨Nat.le_of_ble_eq_true rfl, Nat.le_of_ble_eq_true rfl⟩) (WL_D hD) hS hA (fun r66 E67 H locs hw hP hS => ?_)
            obtain ⟨hI, kq68, hw⟩ := hw
            have hKb := hKp
            have hKp := hKp.tr kq68 (wl_sub rfl rfl)
            obtain ⟨f69, f70⟩ := hw
            obtain ⟨s1_, hsw1, hsf1⟩ := f70
            have hk64 : K64 E E24 := K64.of kq25 (fun o9 ho9 j9 => wl_p rfl rfl ho9)
            have hsw1 := hk64.sw hsw1
            try rw [hk64 (64 * (a0.toNatClampNeg + 1) + 14) (by omega) 0] at hsw1
            have hse := hsw1.un hsw0
            rw [hse] at hsf1
            have hsf1 := hsf1.trans (FndC.cg hk64)
            refine lv_iconst (v := 1) hx hb dX12_decide_86 (by decide) ?_
            refine lv_icmp_ne (tgt := 94) hx hb dX12_decide_87 (by decide) (fun c71 => ?_) (fun c71 => ?_)
            · --87 taken
              have t72 : ¬ r66.toInt = 1 := ti_ne c71
              refine lv_aload_n hx hb dX12_decide_94 rfl (lv_at hl 1 rfl) ?_
              refine lv_iload_n hx hb dX12_decide_95 rfl (lv_at hl 0 rfl) ?_
              refine lv_aload_n hx hb dX12_decide_96 rfl (lv_at hl 2 rfl) ?_
              refine th_getL (ci := 13) (C := RX12) (T := TX12) (N := 6) (v := .ref (ad 1)) hx hb hts hinX12 hown hK hP hI 0 (mF 0 rfl) rfl rfl 0 (Nat.le_of_ble_eq_true rfl) (hts _ (vA_in _ _ (in_10 _ (zs16 (zs1 (zs0)))))) (fun _ h9 => h9) (hI.fr 0 (mF 0 rfl) rfl (Nat.le_of_ble_eq_true rfl) 1 rfl) dX12_decide_97 ?_
              refine th_getL (ci := 1) (C := RX0) (T := TX0) (N := 11) (v := .int (xi (E 1) 0)) hx hb hts hinX0 hown hK hP hI 1 (mF 1 rfl) rfl rfl 0 (Nat.le_of_ble_eq_true rfl) (hts _ (vA_in _ _ (in_10 _ (zs16 (zs4 (zs4 (zs1 (zs1 (zs0))))))))) (fun _ h9 => h9) (th_v0L hKp hI0 1 (mF 1 rfl) rfl (Nat.le_of_ble_eq_true rfl) rfl rfl) dX12_decide_100 ?_
              refine th_vL (va_runV (As := [.int 1, .int (xi (E 1) 0)]) (rest := []) ⟨hx, hb, hml, hown, hts⟩ (q_settleX l dC dI cT cf hC ad E67 H.size (1 : Int32) (xi (E 1) 0) a0.toNatClampNeg hI (by omega) (iv_w ln_1 (by decide)) i1) (cwV 2 hts (gi_V (in_16 _ (zs16 (zs4 (zs4 (zs4 (zs0)))))) (in_16 _ (zs16 (zs4 (zs4 (zs4 (zs1 (zs0))))))) (in_16 _ (zs16 (zs4 (zs4 (zs4 (zs1 (zs1 (zs0)))))))) (in_5 _ (zs16 (zs0))) (in_16 _ (zs16 (zs4 (zs4 (zs4 (zs1 (zs1 (zs1 (zs0)))))))))) rfl rfl rfl ⟨rfl, hz_yX4_settle_2⟩ ⟨Nat.le_of_ble_eq_true rfl, Nat.le_of_ble_eq_true rfl⟩) ⟨HWL_bl, va_recv hK hP (ci := 5) (q0 := posL (64 * (a0.toNatClampNeg + 1) + 14) (LC cf)) rfl (hI.ob (64 * (a0.toNatClampNeg + 1) + 14) (mP 14 a0.toNatClampNeg (by decide) lv8 (kl_le hC 5 (by decide))) (shC_p 14 a0.toNatClampNeg (by decide))), (HWL_wi hP hK (WL_D hD) hS hA hEV)⟩ rfl rfl hl.1 rfl (lv_room (Nat.le_of_ble_eq_true rfl)) dX12_decide_103 ⟨Nat.le_of_ble_eq_true rfl, Nat.le_of_ble_eq_true rfl⟩) (WL_D hD) hS hA (fun E74 H locs hw hP hS => ?_)
              obtain ⟨hI, kq75, hw⟩ := hw
              have hKb := hKp
              have hKp := hKp.tr kq75 (by intro o j h9; simp [wl] at h9 ⊢; omega)
              obtain ⟨y76, ey76⟩ : ∃ y, xi (E74 (64 * (a0.toNatClampNeg + 1) + 14)) 5 = y := ⟨_, rfl⟩
              have fy76 : xv (E74 (64 * (a0.toNatClampNeg + 1) + 14)) 5 = .int y76 := (hI.fi (64 * (a0.toNatClampNeg + 1) + 14) (mP 14 a0.toNatClampNeg (by decide) lv8 (kl_le hC 5 (by decide))) (shC_p 14 a0.toNatClampNeg (by decide)) (Nat.le_of_ble_eq_true rfl) (spC_p 14 a0.toNatClampNeg (by decide) 5)).trans (congrArg Value.int ey76)
              have i77 : -1 ≤ y76.toInt ∧ y76.toInt ≤ 400 := by rw [← ey76]; exact hI.iv (64 * (a0.toNatClampNeg + 1) + 14) (mP 14 a0.toNatClampNeg (by decide) lv8 (kl_le hC 5 (by decide))) (shC_p 14 a0.toNatClampNeg (by decide)) (Nat.le_of_ble_eq_true rfl) (spC_p 14 a0.toNatClampNeg (by decide) 5)
              obtain ⟨y78, ey78⟩ : ∃ y, xi (E74 (64 * (a0.toNatClampNeg + 1) + 14)) 6 = y := ⟨_, rfl⟩
              have fy78 : xv (E74 (64 * (a0.toNatClampNeg + 1) + 14)) 6 = .int y78 := (hI.fi (64 * (a0.toNatClampNeg + 1) + 14) (mP 14 a0.toNatClampNeg (by decide) lv8 (kl_le hC 5 (by decide))) (shC_p 14 a0.toNatClampNeg (by decide)) (Nat.le_of_ble_eq_true rfl) (spC_p 14 a0.toNatClampNeg (by decide) 6)).trans (congrArg Value.int ey78)
              have i79 : 0 ≤ y78.toInt ∧ y78.toInt ≤ 3 := by rw [← ey78]; exact hI.iv (64 * (a0.toNatClampNeg + 1) + 14) (mP 14 a0.toNatClampNeg (by decide) lv8 (kl_le hC 5 (by decide))) (shC_p 14 a0.toNatClampNeg (by decide)) (Nat.le_of_ble_eq_true rfl) (spC_p 14 a0.toNatClampNeg (by decide) 6)
              obtain ⟨y80, ey80⟩ : ∃ y, xi (E74 (64 * (a0.toNatClampNeg + 1) + 14)) 8 = y := ⟨_, rfl⟩
              have fy80 : xv (E74 (64 * (a0.toNatClampNeg + 1) + 14)) 8 = .int y80 := (hI.fi (64 * (a0.toNatClampNeg + 1) + 14) (mP 14 a0.toNatClampNeg (by decide) lv8 (kl_le hC 5 (by decide))) (shC_p 14 a0.toNatClampNeg (by decide)) (Nat.le_of_ble_eq_true rfl) (spC_p 14 a0.toNatClampNeg (by decide) 8)).trans (congrArg Value.int ey80)
              have i81 : -1 ≤ y80.toInt ∧ y80.toInt ≤ 400 := by rw [← ey80]; exact hI.iv (64 * (a0.toNatClampNeg + 1) + 14) (mP 14 a0.toNatClampNeg (by decide) lv8 (kl_le hC 5 (by decide))) (shC_p 14 a0.toNatClampNeg (by decide)) (Nat.le_of_ble_eq_true rfl) (spC_p 14 a0.toNatClampNeg (by decide) 8)
              obtain ⟨y82, ey82⟩ : ∃ y, xi (E74 (64 * (a0.toNatClampNeg + 1) + 14)) 9 = y := ⟨_, rfl⟩
              have fy82 : xv (E74 (64 * (a0.toNatClampNeg + 1) + 14)) 9 = .int y82 := (hI.fi (64 * (a0.toNatClampNeg + 1) + 14) (mP 14 a0.toNatClampNeg (by decide) lv8 (kl_le hC 5 (by decide))) (shC_p 14 a0.toNatClampNeg (by decide)) (Nat.le_of_ble_eq_true rfl) (spC_p 14 a0.toNatClampNeg (by decide) 9)).trans (congrArg Value.int ey82)
              have i83 : 0 ≤ y82.toInt ∧ y82.toInt ≤ 3 := by rw [← ey82]; exact hI.iv (64 * (a0.toNatClampNeg + 1) + 14) (mP 14 a0.toNatClampNeg (by decide) lv8 (kl_le hC 5 (by decide))) (shC_p 14 a0.toNatClampNeg (by decide)) (Nat.le_of_ble_eq_true rfl) (spC_p 14 a0.toNatClampNeg (by decide) 9)
              have f84 := hw
              try rw [(show xi (E67 (64 * (a0.toNatClampNeg + 1) + 14)) 5 = y9 from vi_e ((kq68 (64 * (a0.toNatClampNeg + 1) + 14) 5 (wl_p rfl rfl (by omega))).trans ((kq25 (64 * (a0.toNatClampNeg + 1) + 14) 5 (wl_p rfl rfl (by omega))).trans fy9)))] at f84
              try rw [(show xi (E67 (64 * (a0.toNatClampNeg + 1) + 14)) 6 = y11 from vi_e ((kq68 (64 * (a0.toNatClampNeg + 1) + 14) 6 (wl_p rfl rfl (by omega))).trans ((kq25 (64 * (a0.toNatClampNeg + 1) + 14) 6 (wl_p rfl rfl (by omega))).trans fy11)))] at f84
              try rw [(show xi (E67 (64 * (a0.toNatClampNeg + 1) + 14)) 7 = (xi (E (64 * (a0.toNatClampNeg + 1) + 14)) 7) from vi_e (th_v0L hKb hI0 (64 * (a0.toNatClampNeg + 1) + 14) (mP 14 a0.toNatClampNeg (by decide) lv8 (kl_le hC 5 (by decide))) (shC_p 14 a0.toNatClampNeg (by decide)) (Nat.le_of_ble_eq_true rfl) (spC_p 14 a0.toNatClampNeg (by decide) 7) (by simp [wl] <;> omega)))] at f84
              try rw [(show xi (E67 (64 * (a0.toNatClampNeg + 1) + 14)) 8 = y14 from vi_e ((kq68 (64 * (a0.toNatClampNeg + 1) + 14) 8 (wl_p rfl rfl (by omega))).trans ((kq25 (64 * (a0.toNatClampNeg + 1) + 14) 8 (wl_p rfl rfl (by omega))).trans fy14)))] at f84
              try rw [(show xi (E67 (64 * (a0.toNatClampNeg + 1) + 14)) 9 = y16 from vi_e ((kq68 (64 * (a0.toNatClampNeg + 1) + 14) 9 (wl_p rfl rfl (by omega))).trans ((kq25 (64 * (a0.toNatClampNeg + 1) + 14) 9 (wl_p rfl rfl (by omega))).trans fy16)))] at f84
              try rw [(show xi (E74 (64 * (a0.toNatClampNeg + 1) + 14)) 5 = y76 from vi_e fy76)] at f84
              try rw [(show xi (E74 (64 * (a0.toNatClampNeg + 1) + 14)) 6 = y78 from vi_e fy78)] at f84
              try rw [(show xi (E74 (64 * (a0.toNatClampNeg + 1) + 14)) 8 = y80 from vi_e fy80)] at f84
              try rw [(show xi (E74 (64 * (a0.toNatClampNeg + 1) + 14)) 9 = y82 from vi_e fy82)] at f84
              refine lv_iload_n hx hb dX12_decide_106 rfl (lv_at hl 0 rfl) ?_
              rw [hQ]
              exact W.iret (v := 1) hx hb hr (fun t ht hW => ⟨⟨1, E74, rfl, ⟨hI, hKp, Or.inl ⟨(iv_w ln_1 (by decide)), by (try rw [ey9]); (try rw [ey11]); (try rw [ey14]); (try rw [ey16]); all_goals omega, by (try rw [(show xi (E74 (64 * (a0.toNatClampNeg + 1) + 14)) 5 = y76 from vi_e fy76)]); (try rw [(show xi (E74 (64 * (a0.toNatClampNeg + 1) + 14)) 6 = y78 from vi_e fy78)]); (try rw [(show xi (E74 (64 * (a0.toNatClampNeg + 1) + 14)) 7 = (xi (E (64 * (a0.toNatClampNeg + 1) + 14)) 7) from vi_e (th_v0L hKp hI0 (64 * (a0.toNatClampNeg + 1) + 14) (mP 14 a0.toNatClampNeg (by decide) lv8 (kl_le hC 5 (by decide))) (shC_p 14 a0.toNatClampNeg (by decide)) (Nat.le_of_ble_eq_true rfl) (spC_p 14 a0.toNatClampNeg (by decide) 7) (by simp [wl] <;> omega)))]); (try rw [(show xi (E74 (64 * (a0.toNatClampNeg + 1) + 14)) 8 = y80 from vi_e fy80)]); (try rw [(show xi (E74 (64 * (a0.toNatClampNeg + 1) + 14)) 9 = y82 from vi_e fy82)]); (try rw [ey9]); (try rw [ey11]); (try rw [ey14]); (try rw [ey16]); all_goals omega, ⟨s0_, hsw0, dec_b hsf0 hsf1 (by rw [if_pos (by omega), if_neg (by omega)] <;> first | rfl | decide)⟩⟩⟩, by show va_P (dC, dI) vwCl (WL (LC cf) ad E74) t.heap; rw [ht]; exact hP⟩, hS.F ht⟩) hS.2.2 dX12_decide_107
            · --87 not
              have t85 : r66.toInt = 1 := ti_eq c71
              have i86 : 1 ≤ r66.toInt ∧ r66.toInt ≤ 1 := iv_eqi t85 f69 (il_ 1) (by decide)
              refine lv_iload_n hx hb dX12_decide_90 rfl (lv_at hl 0 rfl) ?_
              refine lv_iconst (v := 2) hx hb dX12_decide_91 (by decide) ?_
              have z2 := ln_2
              refine lv_ior hx hb dX12_decide_92 ?_
              refine lv_topi (fun y87 ey87 => ?_)
              have iy87 : 0 ≤ y87.toInt ∧ y87.toInt ≤ 3 := ti_or3 ey87 (by omega) (by omega)
              refine lv_istore_n (lv' := [(3, .int y87), (2, .ref (ad (64 * (a0.toNatClampNeg + 1) + 14))), (0, .ref (ad 0)), (1, .int a0)]) hx hb dX12_decide_93 rfl hl (by decide) rfl (fun ls hl => ?_)
              refine lv_aload_n hx hb dX12_decide_94 rfl (lv_at hl 1 rfl) ?_
              refine lv_iload_n hx hb dX12_decide_95 rfl (lv_at hl 0 rfl) ?_
              refine lv_aload_n hx hb dX12_decide_96 rfl (lv_at hl 2 rfl) ?_
              refine th_getL (ci := 13) (C := RX12) (T := TX12) (N := 6) (v := .ref (ad 1)) hx hb hts hinX12 hown hK hP hI 0 (mF 0 rfl) rfl rfl 0 (Nat.le_of_ble_eq_true rfl) (hts _ (vA_in _ _ (in_10 _ (zs16 (zs1 (zs0)))))) (fun _ h9 => h9) (hI.fr 0 (mF 0 rfl) rfl (Nat.le_of_ble_eq_true rfl) 1 rfl) dX12_decide_97 ?_
              refine th_getL (ci := 1) (C := RX0) (T := TX0) (N := 11) (v := .int (xi (E 1) 0)) hx hb hts hinX0 hown hK hP hI 1 (mF 1 rfl) rfl rfl 0 (Nat.le_of_ble_eq_true rfl) (hts _ (vA_in _ _ (in_10 _ (zs16 (zs4 (zs4 (zs1 (zs1 (zs0))))))))) (fun _ h9 => h9) (th_v0L hKp hI0 1 (mF 1 rfl) rfl (Nat.le_of_ble_eq_true rfl) rfl rfl) dX12_decide_100 ?_
              refine th_vL (va_runV (As := [.int y87, .int (xi (E 1) 0)]) (rest := []) ⟨hx, hb, hml, hown, hts⟩ (q_settleX l dC dI cT cf hC ad E67 H.size y87 (xi (E 1) 0) a0.toNatClampNeg hI (by omega) iy87 i1) (cwV 2 hts (gi_V (in_16 _ (zs16 (zs4 (zs4 (zs4 (zs0)))))) (in_16 _ (zs16 (zs4 (zs4 (zs4 (zs1 (zs0))))))) (in_16 _ (zs16 (zs4 (zs4 (zs4 (zs1 (zs1 (zs0)))))))) (in_5 _ (zs16 (zs0))) (in_16 _ (zs16 (zs4 (zs4 (zs4 (zs1 (zs1 (zs1 (zs0)))))))))) rfl rfl rfl ⟨rfl, hz_yX4_settle_2⟩ ⟨Nat.le_of_ble_eq_true rfl, Nat.le_of_ble_eq_true rfl⟩) ⟨HWL_bl, va_recv hK hP (ci := 5) (q0 := posL (64 * (a0.toNatClampNeg + 1) + 14) (LC cf)) rfl (hI.ob (64 * (a0.toNatClampNeg + 1) + 14) (mP 14 a0.toNatClampNeg (by decide) lv8 (kl_le hC 5 (by decide))) (shC_p 14 a0.toNatClampNeg (by decide))), (HWL_wi hP hK (WL_D hD) hS hA hEV)⟩ rfl rfl hl.1 rfl (lv_room (Nat.le_of_ble_eq_true rfl)) dX12_decide_103 ⟨Nat.le_of_ble_eq_true rfl, Nat.le_of_ble_eq_true rfl⟩) (WL_D hD) hS hA (fun E89 H locs hw hP hS => ?_)
              obtain ⟨hI, kq90, hw⟩ := hw
              have hKb := hKp
              have hKp := hKp.tr kq90 (by intro o j h9; simp [wl] at h9 ⊢; omega)
              obtain ⟨y91, ey91⟩ : ∃ y, xi (E89 (64 * (a0.toNatClampNeg + 1) + 14)) 5 = y := ⟨_, rfl⟩
              have fy91 : xv (E89 (64 * (a0.toNatClampNeg + 1) + 14)) 5 = .int y91 := (hI.fi (64 * (a0.toNatClampNeg + 1) + 14) (mP 14 a0.toNatClampNeg (by decide) lv8 (kl_le hC 5 (by decide))) (shC_p 14 a0.toNatClampNeg (by decide)) (Nat.le_of_ble_eq_true rfl) (spC_p 14 a0.toNatClampNeg (by decide) 5)).trans (congrArg Value.int ey91)
              have i92 : -1 ≤ y91.toInt ∧ y91.toInt ≤ 400 := by rw [← ey91]; exact hI.iv (64 * (a0.toNatClampNeg + 1) + 14) (mP 14 a0.toNatClampNeg (by decide) lv8 (kl_le hC 5 (by decide))) (shC_p 14 a0.toNatClampNeg (by decide)) (Nat.le_of_ble_eq_true rfl) (spC_p 14 a0.toNatClampNeg (by decide) 5)
              obtain ⟨y93, ey93⟩ : ∃ y, xi (E89 (64 * (a0.toNatClampNeg + 1) + 14)) 6 = y := ⟨_, rfl⟩
              have fy93 : xv (E89 (64 * (a0.toNatClampNeg + 1) + 14)) 6 = .int y93 := (hI.fi (64 * (a0.toNatClampNeg + 1) + 14) (mP 14 a0.toNatClampNeg (by decide) lv8 (kl_le hC 5 (by decide))) (shC_p 14 a0.toNatClampNeg (by decide)) (Nat.le_of_ble_eq_true rfl) (spC_p 14 a0.toNatClampNeg (by decide) 6)).trans (congrArg Value.int ey93)
              have i94 : 0 ≤ y93.toInt ∧ y93.toInt ≤ 3 := by rw [← ey93]; exact hI.iv (64 * (a0.toNatClampNeg + 1) + 14) (mP 14 a0.toNatClampNeg (by decide) lv8 (kl_le hC 5 (by decide))) (shC_p 14 a0.toNatClampNeg (by decide)) (Nat.le_of_ble_eq_true rfl) (spC_p 14 a0.toNatClampNeg (by decide) 6)
              obtain ⟨y95, ey95⟩ : ∃ y, xi (E89 (64 * (a0.toNatClampNeg + 1) + 14)) 8 = y := ⟨_, rfl⟩
              have fy95 : xv (E89 (64 * (a0.toNatClampNeg + 1) + 14)) 8 = .int y95 := (hI.fi (64 * (a0.toNatClampNeg + 1) + 14) (mP 14 a0.toNatClampNeg (by decide) lv8 (kl_le hC 5 (by decide))) (shC_p 14 a0.toNatClampNeg (by decide)) (Nat.le_of_ble_eq_true rfl) (spC_p 14 a0.toNatClampNeg (by decide) 8)).trans (congrArg Value.int ey95)
              have i96 : -1 ≤ y95.toInt ∧ y95.toInt ≤ 400 := by rw [← ey95]; exact hI.iv (64 * (a0.toNatClampNeg + 1) + 14) (mP 14 a0.toNatClampNeg (by decide) lv8 (kl_le hC 5 (by decide))) (shC_p 14 a0.toNatClampNeg (by decide)) (Nat.le_of_ble_eq_true rfl) (spC_p 14 a0.toNatClampNeg (by decide) 8)
              obtain ⟨y97, ey97⟩ : ∃ y, xi (E89 (64 * (a0.toNatClampNeg + 1) + 14)) 9 = y := ⟨_, rfl⟩
              have fy97 : xv (E89 (64 * (a0.toNatClampNeg + 1) + 14)) 9 = .int y97 := (hI.fi (64 * (a0.toNatClampNeg + 1) + 14) (mP 14 a0.toNatClampNeg (by decide) lv8 (kl_le hC 5 (by decide))) (shC_p 14 a0.toNatClampNeg (by decide)) (Nat.le_of_ble_eq_true rfl) (spC_p 14 a0.toNatClampNeg (by decide) 9)).trans (congrArg Value.int ey97)
              have i98 : 0 ≤ y97.toInt ∧ y97.toInt ≤ 3 := by rw [← ey97]; exact hI.iv (64 * (a0.toNatClampNeg + 1) + 14) (mP 14 a0.toNatClampNeg (by decide) lv8 (kl_le hC 5 (by decide))) (shC_p 14 a0.toNatClampNeg (by decide)) (Nat.le_of_ble_eq_true rfl) (spC_p 14 a0.toNatClampNeg (by decide) 9)
              have f99 := hw
              try rw [(show xi (E67 (64 * (a0.toNatClampNeg + 1) + 14)) 5 = y9 from vi_e ((kq68 (64 * (a0.toNatClampNeg + 1) + 14) 5 (wl_p rfl rfl (by omega))).trans ((kq25 (64 * (a0.toNatClampNeg + 1) + 14) 5 (wl_p rfl rfl (by omega))).trans fy9)))] at f99
              try rw [(show xi (E67 (64 * (a0.toNatClampNeg + 1) + 14)) 6 = y11 from vi_e ((kq68 (64 * (a0.toNatClampNeg + 1) + 14) 6 (wl_p rfl rfl (by omega))).trans ((kq25 (64 * (a0.toNatClampNeg + 1) + 14) 6 (wl_p rfl rfl (by omega))).trans fy11)))] at f99
              try rw [(show xi (E67 (64 * (a0.toNatClampNeg + 1) + 14)) 7 = (xi (E (64 * (a0.toNatClampNeg + 1) + 14)) 7) from vi_e (th_v0L hKb hI0 (64 * (a0.toNatClampNeg + 1) + 14) (mP 14 a0.toNatClampNeg (by decide) lv8 (kl_le hC 5 (by decide))) (shC_p 14 a0.toNatClampNeg (by decide)) (Nat.le_of_ble_eq_true rfl) (spC_p 14 a0.toNatClampNeg (by decide) 7) (by simp [wl] <;> omega)))] at f99
              try rw [(show xi (E67 (64 * (a0.toNatClampNeg + 1) + 14)) 8 = y14 from vi_e ((kq68 (64 * (a0.toNatClampNeg + 1) + 14) 8 (wl_p rfl rfl (by omega))).trans ((kq25 (64 * (a0.toNatClampNeg + 1) + 14) 8 (wl_p rfl rfl (by omega))).trans fy14)))] at f99
              try rw [(show xi (E67 (64 * (a0.toNatClampNeg + 1) + 14)) 9 = y16 from vi_e ((kq68 (64 * (a0.toNatClampNeg + 1) + 14) 9 (wl_p rfl rfl (by omega))).trans ((kq25 (64 * (a0.toNatClampNeg + 1) + 14) 9 (wl_p rfl rfl (by omega))).trans fy16)))] at f99
              try rw [(show xi (E89 (64 * (a0.toNatClampNeg + 1) + 14)) 5 = y91 from vi_e fy91)] at f99
              try rw [(show xi (E89 (64 * (a0.toNatClampNeg + 1) + 14)) 6 = y93 from vi_e fy93)] at f99
              try rw [(show xi (E89 (64 * (a0.toNatClampNeg + 1) + 14)) 8 = y95 from vi_e fy95)] at f99
              try rw [(show xi (E89 (64 * (a0.toNatClampNeg + 1) + 14)) 9 = y97 from vi_e fy97)] at f99
              refine lv_iload_n hx hb dX12_decide_106 rfl (lv_at hl 0 rfl) ?_
              rw [hQ]
              exact W.iret (v := y87) hx hb hr (fun t ht hW => ⟨⟨y87, E89, rfl, ⟨hI, hKp, Or.inl ⟨iy87, by (try rw [ey9]); (try rw [ey11]); (try rw [ey14]); (try rw [ey16]); all_goals omega, by (try rw [(show xi (E89 (64 * (a0.toNatClampNeg + 1) + 14)) 5 = y91 from vi_e fy91)]); (try rw [(show xi (E89 (64 * (a0.toNatClampNeg + 1) + 14)) 6 = y93 from vi_e fy93)]); (try rw [(show xi (E89 (64 * (a0.toNatClampNeg + 1) + 14)) 7 = (xi (E (64 * (a0.toNatClampNeg + 1) + 14)) 7) from vi_e (th_v0L hKp hI0 (64 * (a0.toNatClampNeg + 1) + 14) (mP 14 a0.toNatClampNeg (by decide) lv8 (kl_le hC 5 (by decide))) (shC_p 14 a0.toNatClampNeg (by decide)) (Nat.le_of_ble_eq_true rfl) (spC_p 14 a0.toNatClampNeg (by decide) 7) (by simp [wl] <;> omega)))]); (try rw [(show xi (E89 (64 * (a0.toNatClampNeg + 1) + 14)) 8 = y95 from vi_e fy95)]); (try rw [(show xi (E89 (64 * (a0.toNatClampNeg + 1) + 14)) 9 = y97 from vi_e fy97)]); (try rw [ey9]); (try rw [ey11]); (try rw [ey14]); (try rw [ey16]); all_goals omega, ⟨s0_, hsw0, dec_b hsf0 hsf1 (by rw [if_pos (by omega), if_pos (by omega)]; rw [ey87] <;> first | rfl | decide)⟩⟩⟩, by show va_P (dC, dI) vwCl (WL (LC cf) ad E89) t.heap; rw [ht]; exact hP⟩, hS.F ht⟩) hS.2.2 dX12_decide_107
        · --39 not
          exact absurd c22 (by decide)
    · --15 not
      exact absurd c6 (by decide)
  · -- isProtestedC, case 1
    obtain ⟨rfl, f100⟩ := hw
    refine lv_if_ne (tgt := 20) hx hb dX12_decide_15 (by decide) (fun c101 => ?_) (fun c101 => ?_)
    · --15 taken
      exact absurd c101 (by decide)
    · --15 not
      refine lv_iconst (v := -1) hx hb dX12_decide_18 (by decide) ?_
      rw [hQ]
      exact W.iret (v := (-1)) hx hb hr (fun t ht hW => ⟨⟨(-1), E, rfl, ⟨hI, hKp, Or.inr (⟨rfl, by all_goals omega, by omega⟩)⟩, by show va_P (dC, dI) vwCl (WL (LC cf) ad E) t.heap; rw [ht]; exact hP⟩, hS.F ht⟩) hS.2.2 dX12_decide_19
section
/-! ===== who is DISQUALIFIED (pure) ===== -/
def gCe (e : Nat → Int) (q : Int) : Int := if ¬ e 8 = -1 ∧ e 8 ≤ q then e 9 else if ¬ e 7 = -1 ∧ e 7 ≤ q then 0 else if ¬ e 5 = -1 ∧ e 5 ≤ q then e 6 else 0
def gC (E : Nat → va_E) (p : Nat) (q : Int) : Int := gCe (pA E p) q
theorem gCe_1 {e : Nat → Int} {q : Int} (h : ¬ e 8 = -1 ∧ e 8 ≤ q) : e 9 = gCe e q := (if_pos h).symm
theorem gCe_2 {e : Nat → Int} {q : Int} (h : ¬ (¬ e 8 = -1 ∧ e 8 ≤ q)) (h7 : ¬ e 7 = -1 ∧ e 7 ≤ q) : 0 = gCe e q := by
  unfold gCe
  rw [if_neg h, if_pos h7]
theorem gCe_3 {e : Nat → Int} {q : Int} (h : ¬ (¬ e 8 = -1 ∧ e 8 ≤ q)) (h7 : ¬ (¬ e 7 = -1 ∧ e 7 ≤ q)) (h5 : ¬ e 5 = -1 ∧ e 5 ≤ q) : e 6 = gCe e q := by
  unfold gCe
  rw [if_neg h, if_neg h7, if_pos h5]
theorem gCe_4 {e : Nat → Int} {q : Int} (h : ¬ (¬ e 8 = -1 ∧ e 8 ≤ q)) (h7 : ¬ (¬ e 7 = -1 ∧ e 7 ≤ q)) (h5 : ¬ (¬ e 5 = -1 ∧ e 5 ≤ q)) : 0 = gCe e q := by
  unfold gCe
  rw [if_neg h, if_neg h7, if_neg h5]
def outC (E : Nat → va_E) (race q : Int) (boat : Int) (p : Nat) : Prop := pA E p 0 = race ∧ ((gC E p q % 2 = 1 ∧ pA E p 1 = boat) ∨ (gC E p q / 2 = 1 ∧ pA E p 2 = boat))
/-- the bits of those DISQUALIFIED by the first n PROTESTS -/
def DqS (E : Nat → va_E) (n : Nat) (race q : Int) (w : Int32) : Prop := ∀ b : Nat, b < 16 → (bt w b = true ↔ exF (outC E race q (b : Int)) n)
theorem bt_sh16 : ∀ k0 : Nat, k0 < 16 → ∀ k : Nat, k < 16 → (bt ((1 : Int32) <<< (nI k0 &&& 31)) k = true ↔ k = k0) := by decide
theorem DqS.start {E : Nat → va_E} {race q : Int} {n : Nat} (h : n = 0) : DqS E n race q 0 := fun b hb => by
  subst h
  rw [bt_0]
  exact ⟨fun q => absurd q (by decide), fun q => absurd q exF_0⟩
theorem DqS.skip {E : Nat → va_E} {race q : Int} {n n' : Nat} {w : Int32} (h : DqS E n race q w) (hn : ¬ pA E n 0 = race) (e : n' = n + 1) : DqS E n' race q w := fun b hb => by
  rw [h b hb, exF_s e]
  exact ⟨Or.inl, fun q => q.elim id (fun g => absurd g.1 hn)⟩
/-- one of the two bits of a decision -/
def half (w w' : Int32) (C : Prop) (x : Int) : Prop := (¬ C ∧ w' = w) ∨ (C ∧ ∃ a z : Int32, (0 ≤ a.toInt ∧ a.toInt ≤ 15) ∧ a.toInt = x ∧ z = (1 : Int32) <<< (a &&& 31) ∧ w' = w ||| z)
theorem half.bt {w w' : Int32} {P : Nat → Prop} {C : Prop} {x : Int} (h : ∀ b, b < 16 → (bt w b = true ↔ P b)) (s : half w w' C x) : ∀ b : Nat, b < 16 → (bt w' b = true ↔ (P b ∨ (C ∧ x = (b : Int)))) := fun b hb => by
  rcases s with ⟨s1, s2⟩ | ⟨s1, a, z, s2, s3, s4, s5⟩
  · rw [s2, h b hb]
    exact ⟨Or.inl, fun q => q.elim id (fun g => absurd g.1 s1)⟩
  · have ha : a = nI a.toNatClampNeg := (nI_tn s2.1).symm
    have ha1 : a.toNatClampNeg < 16 := by
      rw [tn_]
      omega
    rw [s5, bt_or, Bool.or_eq_true, h b hb, s4, ha, bt_sh16 _ ha1 b hb, tn_]
    refine ⟨fun q => q.elim Or.inl (fun g => Or.inr ⟨s1, by omega⟩), fun q => q.elim Or.inl (fun g => Or.inr (by omega))⟩
theorem DqS.take {E : Nat → va_E} {race q g : Int} {n n' : Nat} {w w1 w2 : Int32} (h : DqS E n race q w) (hr : pA E n 0 = race) (hg : g = gC E n q) (s1 : half w w1 (g % 2 = 1) (pA E n 1)) (s2 : half w1 w2 (g / 2 = 1) (pA E n 2)) (e : n' = n + 1) : DqS E n' race q w2 := fun b hb => by
  rw [half.bt (half.bt h s1) s2 b hb, exF_s e]
  unfold outC
  rw [← hg]
  constructor
  · rintro ((a | a) | a)
    · exact Or.inl a
    · exact Or.inr ⟨hr, Or.inl a⟩
    · exact Or.inr ⟨hr, Or.inr a⟩
  · rintro (a | ⟨-, a | a⟩)
    · exact Or.inl (Or.inl a)
    · exact Or.inl (Or.inr a)
    · exact Or.inr a
theorem and1_ {x y : Int32} (h : 0 ≤ x.toInt ∧ x.toInt ≤ 3) (e : y = x &&& 1) : y.toInt = 0 ↔ ¬ x.toInt % 2 = 1 := by
  rw [e]
  rcases i03 h with rfl | rfl | rfl | rfl <;> decide
theorem and2_ {x y : Int32} (h : 0 ≤ x.toInt ∧ x.toInt ≤ 3) (e : y = x &&& 2) : y.toInt = 0 ↔ ¬ x.toInt / 2 = 1 := by
  rw [e]
  rcases i03 h with rfl | rfl | rfl | rfl <;> decide
/-! ===== counting (pure) ===== -/
def CnR (P : Nat → Prop) : Nat → Int → Prop
  | 0, c => c = 0
  | k + 1, c => (P k ∧ CnR P k (c - 1)) ∨ (¬ P k ∧ CnR P k c)
def Cn2 (P : Nat → Nat → Prop) (m : Nat) : Nat → Int → Prop
  | 0, c => c = 0
  | k + 1, c => ∃ d, Cn2 P m k (c - d) ∧ CnR (P k) m d
theorem CnR.one {P : Nat → Prop} {k k' : Nat} {c c' : Int} (h : CnR P k c) (hp : P k) (e : c' = c + 1) (ek : k' = k + 1) : CnR P k' c' := by
  subst ek
  refine Or.inl ⟨hp, ?_⟩
  rw [show c' - 1 = c by omega]
  exact h
theorem CnR.no {P : Nat → Prop} {k k' : Nat} {c c' : Int} (h : CnR P k c) (hp : ¬ P k) (e : c' = c) (ek : k' = k + 1) : CnR P k' c' := by
  subst ek
  rw [e]
  exact Or.inr ⟨hp, h⟩
theorem CnR.un {P Q : Nat → Prop} : ∀ (n : Nat) (c c' : Int), CnR P n c → CnR Q n c' → (∀ k, k < n → (P k ↔ Q k)) → c = c' := by
  intro n
  induction n with
  | zero => exact fun c c' h h' _ => Eq.trans h (Eq.symm h')
  | succ n ih =>
    intro c c' h h' e
    have en := e n (by omega)
    have e' : ∀ k, k < n → (P k ↔ Q k) := fun k hk => e k (by omega)
    rcases h with ⟨h1, h2⟩ | ⟨h1, h2⟩ <;> rcases h' with ⟨g1, g2⟩ | ⟨g1, g2⟩
    · have := ih _ _ h2 g2 e'
      omega
    · exact absurd (en.mp h1) g1
    · exact absurd (en.mpr g1) h1
    · exact ih _ _ h2 g2 e'
theorem CnR.top {P : Nat → Prop} {n : Nat} : ∀ (d : Nat) (c : Int), CnR P (n + d) c → (∀ k, n ≤ k → k < n + d → ¬ P k) → CnR P n c := by
  intro d
  induction d with
  | zero => exact fun c h _ => h
  | succ d ih =>
    intro c h e
    rcases (show (P (n + d) ∧ CnR P (n + d) (c - 1)) ∨ (¬ P (n + d) ∧ CnR P (n + d) c) from h) with ⟨h1, -⟩ | ⟨-, h2⟩
    · exact absurd h1 (e _ (by omega) (by omega))
    · exact ih c h2 (fun k hk hk2 => e k hk (by omega))
theorem CnR.cut {P : Nat → Prop} {n m : Nat} {c : Int} (h : CnR P m c) (hn : n ≤ m) (e : ∀ k, n ≤ k → k < m → ¬ P k) : CnR P n c := by
  obtain ⟨d, rfl⟩ : ∃ d, m = n + d := ⟨m - n, by omega⟩
  exact CnR.top d c h e
theorem CnR.bd {P : Nat → Prop} : ∀ (n : Nat) (c : Int), CnR P n c → 0 ≤ c ∧ c ≤ (n : Int) := by
  intro n
  induction n with
  | zero =>
    intro c h
    have h1 : c = 0 := h
    omega
  | succ n ih =>
    intro c h
    rcases h with ⟨-, h2⟩ | ⟨-, h2⟩
    · have := ih _ h2
      omega
    · have := ih _ h2
      omega
theorem Cn2.un {P Q : Nat → Nat → Prop} {m m' : Nat} : ∀ (n : Nat) (c c' : Int), Cn2 P m n c → Cn2 Q m' n c' → (∀ k, k < n → ∀ d d', CnR (P k) m d → CnR (Q k) m' d' → d = d') → c = c' := by
  intro n
  induction n with
  | zero => exact fun c c' h h' _ => Eq.trans h (Eq.symm h')
  | succ n ih =>
    intro c c' h h' e
    obtain ⟨d, h1, h2⟩ := h
    obtain ⟨d', g1, g2⟩ := h'
    have e1 := e n (by omega) d d' h2 g2
    have := ih _ _ h1 g1 (fun k hk => e k (by omega))
    omega
theorem Cn2.next {P : Nat → Nat → Prop} {m n n' : Nat} {c d c' : Int} (h : Cn2 P m n c) (g : CnR (P n) m d) (e : c' = c + d) (en : n' = n + 1) : Cn2 P m n' c' := by
  subst en
  refine ⟨d, ?_, g⟩
  rw [show c' - d = c by omega]
  exact h
/-- the bits of a number, counted -/
theorem pcS_cn {w : Int32} {P : Nat → Prop} (h0 : 0 ≤ w.toInt) : ∀ n : Nat, n ≤ 16 → (∀ b, b < 16 → (bt w b = true ↔ P b)) → CnR P n ((pcS w.toNatClampNeg n : Nat) : Int) := by
  intro n
  induction n with
  | zero => exact fun _ _ => rfl
  | succ n ih =>
    intro hn h
    have i1 := ih (by omega) h
    have h1 : w.toNatClampNeg / 2 ^ n % 2 < 2 := Nat.mod_lt _ (by decide)
    have e : pcS w.toNatClampNeg (n + 1) = pcS w.toNatClampNeg n + w.toNatClampNeg / 2 ^ n % 2 := rfl
    have hb := (bt_nat h0 n).symm.trans (h n (by omega))
    by_cases c : w.toNatClampNeg / 2 ^ n % 2 = 1
    · exact i1.one (hb.mp c) (by rw [e]; omega) rfl
    · exact i1.no (fun q => c (hb.mpr q)) (by rw [e]; omega) rfl
/-! ===== the same in the reference ===== -/
def hasB (bit v : Int) : Prop := if bit = 1 then v % 2 = 1 else v / 2 = 1
theorem hasB_0 {bit : Int} : ¬ hasB bit 0 := by
  unfold hasB
  by_cases c : bit = 1
  · rw [if_pos c]
    decide
  · rw [if_neg c]
    decide
def kM (E : Nat → va_E) (bit q : Int) (k : Nat) : Prop := hasB bit (xi (E 51) k).toInt ∧ (xi (E 52) k).toInt ≤ q ∧ q < (xi (E 53) k).toInt
def outM (E : Nat → va_E) (race q : Int) (boat : Int) (p : Nat) : Prop := (xi (E 46) p).toInt = race ∧ ((xi (E 47) p).toInt = boat ∨ (xi (E 48) p).toInt = boat) ∧ ∃ k : Nat, 2 * p ≤ k ∧ (k : Int) < 2 * (p : Int) + (xi (E 54) p).toInt ∧ kM E (if (xi (E 47) p).toInt = boat then 1 else 2) q k
theorem outM_e {E : Nat → va_E} {race q boat bit : Int} {p k : Nat} (h0 : (xi (E 46) p).toInt = race) (hb : (bit = 1 ∧ (xi (E 47) p).toInt = boat) ∨ (bit = 2 ∧ ¬ (xi (E 47) p).toInt = boat ∧ (xi (E 48) p).toInt = boat)) (hk : 2 * p ≤ k) (hk2 : (k : Int) < 2 * (p : Int) + (xi (E 54) p).toInt) (hm : kM E bit q k) : outM E race q boat p := by
  refine ⟨h0, hb.elim (fun g => Or.inl g.2) (fun g => Or.inr g.2.2), k, hk, hk2, ?_⟩
  rcases hb with ⟨g1, g2⟩ | ⟨g1, g2, -⟩
  · rw [if_pos g2, ← g1]
    exact hm
  · rw [if_neg g2, ← g1]
    exact hm
theorem outM_n {E : Nat → va_E} {race q boat bit : Int} {p : Nat} (hb : (bit = 1 ∧ (xi (E 47) p).toInt = boat) ∨ (bit = 2 ∧ ¬ (xi (E 47) p).toInt = boat ∧ (xi (E 48) p).toInt = boat)) (hm : ∀ k : Nat, 2 * p ≤ k → (k : Int) < 2 * (p : Int) + (xi (E 54) p).toInt → ¬ kM E bit q k) : ¬ outM E race q boat p := by
  rintro ⟨-, -, k, h1, h2, h3⟩
  refine hm k h1 h2 ?_
  rcases hb with ⟨g1, g2⟩ | ⟨g1, g2, -⟩
  · rw [if_pos g2] at h3
    rw [g1]
    exact h3
  · rw [if_neg g2] at h3
    rw [g1]
    exact h3
theorem hb1 {x y : Int32} (h : 0 ≤ x.toInt ∧ x.toInt ≤ 3) (e : y = x &&& 1) : y.toInt = 0 ↔ ¬ hasB 1 x.toInt := by
  unfold hasB
  rw [if_pos rfl]
  exact and1_ h e
theorem hb2 {x y : Int32} (h : 0 ≤ x.toInt ∧ x.toInt ≤ 3) (e : y = x &&& 2) : y.toInt = 0 ↔ ¬ hasB 2 x.toInt := by
  unfold hasB
  rw [if_neg (by decide)]
  exact and2_ h e
/-! ===== CODES (pure) ===== -/
/-- the last RESULT of a BOAT in a RACE -/
def lRC (E : Nat → va_E) (race boat q : Int32) (n : Nat) : Int32 := lO (fun k => xi (E (64 * (k + 1) + 12)) 0) (fun k => xi (E (64 * (k + 1) + 12)) 1) (fun k => xi (E (64 * (k + 1) + 12)) 4) race boat q n
def entCd (E : Nat → va_E) (race boat : Nat) (q : Int) : Prop := ¬ (xi (E (64 * (race + 1) + 7)) boat).toInt = -1 ∧ (xi (E (64 * (race + 1) + 7)) boat).toInt ≤ q
def cd0 (E : Nat → va_E) (race boat : Nat) (q : Int) (c : Int) : Prop := (entCd E race boat q → c = 2) ∧ (¬ entCd E race boat q → c = -1)
/-- behind the first n RESULTS -/
def cdN (E : Nat → va_E) (race q : Int32) (n boat : Nat) (c : Int) : Prop := ((lRC E race (nI boat) q n).toInt = -1 → cd0 E race.toNatClampNeg boat q.toInt c) ∧ (¬ (lRC E race (nI boat) q n).toInt = -1 → c = (xi (E (64 * ((lRC E race (nI boat) q n).toNatClampNeg + 1) + 12)) 2).toInt)
def scN (E : Nat → va_E) (race q : Int32) (n boat : Nat) (s : Int) : Prop := ¬ (lRC E race (nI boat) q n).toInt = -1 → s = (xi (E (64 * ((lRC E race (nI boat) q n).toNatClampNeg + 1) + 12)) 3).toInt
def CdR (cf : Nat → Nat) (E : Nat → va_E) (race q : Int32) (boat : Nat) (c : Int) : Prop := (exF (outC E race.toInt q.toInt (boat : Int)) (cf 5) → c = 5) ∧ (¬ exF (outC E race.toInt q.toInt (boat : Int)) (cf 5) → cdN E race q (cf 3) boat c)
theorem lRC_0 {E : Nat → va_E} {race boat q : Int32} : (lRC E race boat q 0).toInt = -1 := (congrArg Int32.toInt (show lRC E race boat q 0 = -1 from rfl)).trans (by decide)
theorem lRC_no {E : Nat → va_E} {race boat q : Int32} {n : Nat} (h : ¬ ((xi (E (64 * (n + 1) + 12)) 0).toInt = race.toInt ∧ (xi (E (64 * (n + 1) + 12)) 1).toInt = boat.toInt ∧ (xi (E (64 * (n + 1) + 12)) 4).toInt ≤ q.toInt)) : lRC E race boat q (n + 1) = lRC E race boat q n := if_neg (fun g => h ⟨congrArg Int32.toInt g.1, congrArg Int32.toInt g.2.1, Int32.le_iff_toInt_le.mp g.2.2⟩)
theorem lRC_yes {E : Nat → va_E} {race boat q : Int32} {n : Nat} (h : (xi (E (64 * (n + 1) + 12)) 0).toInt = race.toInt ∧ (xi (E (64 * (n + 1) + 12)) 1).toInt = boat.toInt ∧ (xi (E (64 * (n + 1) + 12)) 4).toInt ≤ q.toInt) : lRC E race boat q (n + 1) = nI n := if_pos ⟨Int32.toInt_inj.mp h.1, Int32.toInt_inj.mp h.2.1, Int32.le_iff_toInt_le.mpr h.2.2⟩
theorem cdN.no {E : Nat → va_E} {race q : Int32} {n n' boat : Nat} {c : Int} (h : cdN E race q n boat c) (e : n' = n + 1) (hn : ¬ ((xi (E (64 * (n + 1) + 12)) 0).toInt = race.toInt ∧ (xi (E (64 * (n + 1) + 12)) 1).toInt = (nI boat).toInt ∧ (xi (E (64 * (n + 1) + 12)) 4).toInt ≤ q.toInt)) : cdN E race q n' boat c := by
  subst e
  unfold cdN
  rw [lRC_no hn]
  exact h
theorem scN.no {E : Nat → va_E} {race q : Int32} {n n' boat : Nat} {c : Int} (h : scN E race q n boat c) (e : n' = n + 1) (hn : ¬ ((xi (E (64 * (n + 1) + 12)) 0).toInt = race.toInt ∧ (xi (E (64 * (n + 1) + 12)) 1).toInt = (nI boat).toInt ∧ (xi (E (64 * (n + 1) + 12)) 4).toInt ≤ q.toInt)) : scN E race q n' boat c := by
  subst e
  unfold scN
  rw [lRC_no hn]
  exact h
theorem cdN.yes {E : Nat → va_E} {race q : Int32} {n n' boat : Nat} {c : Int} (e : n' = n + 1) (h16 : n ≤ 400) (hn : (xi (E (64 * (n + 1) + 12)) 0).toInt = race.toInt ∧ (xi (E (64 * (n + 1) + 12)) 1).toInt = (nI boat).toInt ∧ (xi (E (64 * (n + 1) + 12)) 4).toInt ≤ q.toInt) (hc : c = (xi (E (64 * (n + 1) + 12)) 2).toInt) : cdN E race q n' boat c := by
  subst e
  have hi : (nI n).toInt = (n : Int) := nI_toInt (by omega)
  unfold cdN
  rw [lRC_yes hn, hi, tn_ (nI n), hi]
  exact ⟨fun q => by omega, fun _ => hc⟩
theorem scN.yes {E : Nat → va_E} {race q : Int32} {n n' boat : Nat} {c : Int} (e : n' = n + 1) (h16 : n ≤ 400) (hn : (xi (E (64 * (n + 1) + 12)) 0).toInt = race.toInt ∧ (xi (E (64 * (n + 1) + 12)) 1).toInt = (nI boat).toInt ∧ (xi (E (64 * (n + 1) + 12)) 4).toInt ≤ q.toInt) (hc : c = (xi (E (64 * (n + 1) + 12)) 3).toInt) : scN E race q n' boat c := by
  subst e
  have hi : (nI n).toInt = (n : Int) := nI_toInt (by omega)
  unfold scN
  rw [lRC_yes hn, hi, tn_ (nI n), hi]
  exact fun _ => hc
/-- the reference's CODE -/
def lRM (E : Nat → va_E) (race boat q : Int32) : Int32 := lO (xi (E 24)) (xi (E 25)) (xi (E 28)) race boat q (xi (E 0) 47).toNatClampNeg
def OutMx (E : Nat → va_E) (race boat q : Int) : Prop := exF (outM E race q boat) (xi (E 0) 75).toNatClampNeg
def entMd (E : Nat → va_E) (race boat q : Int) : Prop := (xi (E 21) (16 * race + boat).toNat).toInt ≤ q
def CdM (E : Nat → va_E) (race boat q : Int32) (c : Int) : Prop := (¬ entMd E race.toInt boat.toInt q.toInt → c = 2) ∧ (entMd E race.toInt boat.toInt q.toInt → (OutMx E race.toInt boat.toInt q.toInt → c = 5) ∧ (¬ OutMx E race.toInt boat.toInt q.toInt → ((lRM E race boat q).toInt = -1 → c = 2) ∧ (¬ (lRM E race boat q).toInt = -1 → c = (xi (E 26) (lRM E race boat q).toNatClampNeg).toInt)))
/-! ===== rows that are written one by one ===== -/
theorem row_s {E E' : Nat → va_E} {o : Nat} {k k' v : Int32} {P : Nat → Int → Prop} (h : ∀ b, b < k.toNatClampNeg → P b (xi (E o) b).toInt) (p : Pw E E' o k.toNatClampNeg (.int v)) (hv : P k.toNatClampNeg v.toInt) (e : k'.toInt = k.toInt + 1) (h0 : 0 ≤ k.toInt) : ∀ b, b < k'.toNatClampNeg → P b (xi (E' o) b).toInt := fun b hb => by
  by_cases c : b = k.toNatClampNeg
  · subst c
    rw [show xi (E' o) k.toNatClampNeg = v from vi_e p.1]
    exact hv
  · rw [show xi (E' o) b = xi (E o) b from congrArg vi (p.2 o b (fun q => c q.2))]
    exact h b (by rw [tn_] at hb c ⊢; omega)
theorem row_k {E : Nat → va_E} {o : Nat} {k k' : Int32} {P : Nat → Int → Prop} (h : ∀ b, b < k.toNatClampNeg → P b (xi (E o) b).toInt) (hv : P k.toNatClampNeg (xi (E o) k.toNatClampNeg).toInt) (e : k'.toInt = k.toInt + 1) (h0 : 0 ≤ k.toInt) : ∀ b, b < k'.toNatClampNeg → P b (xi (E o) b).toInt := fun b hb => by
  by_cases c : b = k.toNatClampNeg
  · subst c
    exact hv
  · exact h b (by rw [tn_] at hb c ⊢; omega)
theorem row_x {E E' : Nat → va_E} {o : Nat} {k v : Int32} {P Q : Nat → Int → Prop} (h : ∀ b, b < 16 → P b (xi (E o) b).toInt) (p : Pw E E' o k.toNatClampNeg (.int v)) (hv : Q k.toNatClampNeg v.toInt) (hn : ∀ b c, b < 16 → b ≠ k.toNatClampNeg → P b c → Q b c) : ∀ b, b < 16 → Q b (xi (E' o) b).toInt := fun b hb => by
  by_cases c : b = k.toNatClampNeg
  · subst c
    rw [show xi (E' o) k.toNatClampNeg = v from vi_e p.1]
    exact hv
  · rw [show xi (E' o) b = xi (E o) b from congrArg vi (p.2 o b (fun q => c q.2))]
    exact hn b _ hb c (h b hb)
theorem row_o {E E' : Nat → va_E} {o o' j : Nat} {v : Value} {P : Nat → Int → Prop} {A : Nat → Prop} (h : ∀ b, A b → P b (xi (E o) b).toInt) (p : Pw E E' o' j v) (ho : ¬ o = o') : ∀ b, A b → P b (xi (E' o) b).toInt := fun b hb => by
  rw [show xi (E' o) b = xi (E o) b from congrArg vi (p.2 o b (fun q => ho q.1))]
  exact h b hb
/-- behind k the row stands -/
theorem row_b {E E' : Nat → va_E} {o : Nat} {k k' : Int32} {v : Value} {P : Nat → Int → Prop} (h : ∀ b, k.toNatClampNeg ≤ b → b < 16 → P b (xi (E o) b).toInt) (p : Pw E E' o k.toNatClampNeg v) (e : k'.toInt = k.toInt + 1) (h0 : 0 ≤ k.toInt) : ∀ b, k'.toNatClampNeg ≤ b → b < 16 → P b (xi (E' o) b).toInt := fun b hb h16 => by
  have c : b ≠ k.toNatClampNeg := by
    rw [tn_] at hb ⊢
    omega
  rw [show xi (E' o) b = xi (E o) b from congrArg vi (p.2 o b (fun q => c q.2))]
  exact h b (by rw [tn_] at hb ⊢; omega) h16
theorem row_b0 {E : Nat → va_E} {o : Nat} {k k' : Int32} {P : Nat → Int → Prop} (h : ∀ b, k.toNatClampNeg ≤ b → b < 16 → P b (xi (E o) b).toInt) (e : k'.toInt = k.toInt + 1) (h0 : 0 ≤ k.toInt) : ∀ b, k'.toNatClampNeg ≤ b → b < 16 → P b (xi (E o) b).toInt := fun b hb h16 => h b (by rw [tn_] at hb ⊢; omega) h16
theorem cdN.start {E : Nat → va_E} {race q : Int32} {n boat : Nat} {c : Int} (hn : n = 0) (h : cd0 E race.toNatClampNeg boat q.toInt c) : cdN E race q n boat c := by
  subst hn
  exact ⟨fun _ => h, fun g => absurd lRC_0 g⟩
theorem scN.start {E : Nat → va_E} {race q : Int32} {n boat : Nat} {s : Int} (hn : n = 0) : scN E race q n boat s := by
  subst hn
  exact fun g => absurd lRC_0 g
theorem cd0_y {E : Nat → va_E} {race boat : Nat} {q : Int} (h : entCd E race boat q) : cd0 E race boat q (2 : Int32).toInt := ⟨fun _ => rfl, fun g => absurd h g⟩
theorem cd0_n {E : Nat → va_E} {race boat : Nat} {q : Int} (h : ¬ entCd E race boat q) : cd0 E race boat q (-1 : Int32).toInt := ⟨fun g => absurd g h, fun _ => rfl⟩
theorem DqS.cg {E E' : Nat → va_E} {n : Nat} {race q : Int} {w : Int32} (k : K64 E E') (h : DqS E' n race q w) : DqS E n race q w := fun b hb => by
  have e : outC E' race q (b : Int) = outC E race q (b : Int) := funext (fun p => by
    have ep : pA E' p = pA E p := funext (fun j => k.pa p j)
    unfold outC gC
    rw [ep])
  rw [h b hb, e]
theorem dq_next {E : Nat → va_E} {n : Nat} {q : Int} {k k' w : Int32} {c c' p : Int} (h : Cn2 (fun r9 b9 => exF (outC E (r9 : Int) q (b9 : Int)) n) 16 k.toNatClampNeg c) (hk : 0 ≤ k.toInt) (hd : DqS E n k.toInt q w) (h0 : 0 ≤ w.toInt) (hp : p = ((pcS w.toNatClampNeg 16 : Nat) : Int)) (e : c' = c + p) (ek : k'.toInt = k.toInt + 1) : Cn2 (fun r9 b9 => exF (outC E (r9 : Int) q (b9 : Int)) n) 16 k'.toNatClampNeg c' := by
  have tk : ((k.toNatClampNeg : Nat) : Int) = k.toInt := by
    rw [tn_]
    omega
  refine h.next (d := p) ?_ e (by rw [tn_, tn_]; omega)
  rw [hp]
  refine pcS_cn h0 16 (Nat.le_refl _) (fun b hb => ?_)
  rw [tk]
  exact hd b hb
theorem CdR.out {cf : Nat → Nat} {E : Nat → va_E} {race q : Int32} {boat : Nat} (h : exF (outC E race.toInt q.toInt (boat : Int)) (cf 5)) : CdR cf E race q boat (5 : Int32).toInt := ⟨fun _ => rfl, fun g => absurd h g⟩
theorem CdR.in {cf : Nat → Nat} {E : Nat → va_E} {race q : Int32} {boat : Nat} {c : Int} (h : ¬ exF (outC E race.toInt q.toInt (boat : Int)) (cf 5)) (g : cdN E race q (cf 3) boat c) : CdR cf E race q boat c := ⟨fun g => absurd g h, fun _ => g⟩
end

