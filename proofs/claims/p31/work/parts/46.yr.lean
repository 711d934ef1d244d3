set_option maxRecDepth 100000 in
theorem zh_dX13_rules_0_0 : zc cX13_rules 0 [42, 3, 181, 0, 228, 42, 42, 180, 0, 28, 3, 42, 180, 1, 3, 3] = true := by decide +kernel
set_option maxRecDepth 100000 in
theorem zh_dX13_rules_16_16 : zc cX13_rules 16 [182, 1, 110, 42, 180, 1, 23, 2, 160, 0, 19, 27, 184, 0, 249, 153] = true := by decide +kernel
set_option maxRecDepth 100000 in
theorem zh_dX13_rules_31_32 : zc cX13_rules 32 [0, 12, 42, 180, 1, 114, 16, 16, 160, 0, 5, 2, 172, 3, 61, 28] = true := by decide +kernel
set_option maxRecDepth 100000 in
theorem zh_dX13_rules_48_48 : zc cX13_rules 48 [42, 180, 1, 3, 162, 0, 30, 42, 180, 0, 32, 17, 0, 200, 42, 180] = true := by decide +kernel
set_option maxRecDepth 100000 in
theorem zh_dX13_rules_63_64 : zc cX13_rules 64 [1, 114, 104, 28, 96, 42, 180, 0, 28, 28, 51, 84, 132, 2, 1, 167] = true := by decide +kernel
set_option maxRecDepth 100000 in
theorem zh_dX13_rules_79_80 : zc cX13_rules 80 [255, 224, 42, 180, 0, 35, 42, 180, 1, 114, 42, 180, 1, 3, 79, 42] = true := by decide +kernel
set_option maxRecDepth 100000 in
theorem zh_dX13_rules_96_96 : zc cX13_rules 96 [180, 0, 38, 42, 180, 1, 114, 27, 79, 42, 180, 0, 41, 42, 180, 1] = true := by decide +kernel
set_option maxRecDepth 100000 in
theorem zh_dX13_rules_110_112 : zc cX13_rules 112 [114, 42, 180, 0, 232, 79, 42, 89, 180, 1, 114, 4, 96, 181, 1, 114] = true := by decide +kernel
set_option maxRecDepth 100000 in
theorem zh_dX13_rules_128_128 : zc cX13_rules 128 [42, 3, 181, 1, 3, 42, 180, 1, 114, 4, 100, 172] = true := by decide +kernel
theorem dX13_rules_0 : decode cX13_rules 0 = .ok (.aload_n 0, 1) := zo_42 (zi_at zh_dX13_rules_0_0 0 rfl)
theorem dX13_rules_1 : decode cX13_rules 1 = .ok (.iconst 0, 1) := zo_3 (zi_at zh_dX13_rules_0_0 1 rfl)
theorem dX13_rules_2 : decode cX13_rules 2 = .ok (.putfield 228, 3) := zo_181 (zi_at zh_dX13_rules_0_0 2 rfl) (zi_at zh_dX13_rules_0_0 3 rfl) (zi_at zh_dX13_rules_0_0 4 rfl) rfl
theorem dX13_rules_5 : decode cX13_rules 5 = .ok (.aload_n 0, 1) := zo_42 (zi_at zh_dX13_rules_0_0 5 rfl)
theorem dX13_rules_6 : decode cX13_rules 6 = .ok (.aload_n 0, 1) := zo_42 (zi_at zh_dX13_rules_0_0 6 rfl)
theorem dX13_rules_7 : decode cX13_rules 7 = .ok (.getfield 28, 3) := zo_180 (zi_at zh_dX13_rules_0_0 7 rfl) (zi_at zh_dX13_rules_0_0 8 rfl) (zi_at zh_dX13_rules_0_0 9 rfl) rfl
theorem dX13_rules_10 : decode cX13_rules 10 = .ok (.iconst 0, 1) := zo_3 (zi_at zh_dX13_rules_0_0 10 rfl)
theorem dX13_rules_11 : decode cX13_rules 11 = .ok (.aload_n 0, 1) := zo_42 (zi_at zh_dX13_rules_0_0 11 rfl)
theorem dX13_rules_12 : decode cX13_rules 12 = .ok (.getfield 259, 3) := zo_180 (zi_at zh_dX13_rules_0_0 12 rfl) (zi_at zh_dX13_rules_0_0 13 rfl) (zi_at zh_dX13_rules_0_0 14 rfl) rfl
theorem dX13_rules_15 : decode cX13_rules 15 = .ok (.iconst 0, 1) := zo_3 (zi_at zh_dX13_rules_0_0 15 rfl)
theorem dX13_rules_16 : decode cX13_rules 16 = .ok (.invokevirtual 366, 3) := zo_182 (zi_at zh_dX13_rules_16_16 0 rfl) (zi_at zh_dX13_rules_16_16 1 rfl) (zi_at zh_dX13_rules_16_16 2 rfl) rfl
theorem dX13_rules_19 : decode cX13_rules 19 = .ok (.aload_n 0, 1) := zo_42 (zi_at zh_dX13_rules_16_16 3 rfl)
theorem dX13_rules_20 : decode cX13_rules 20 = .ok (.getfield 279, 3) := zo_180 (zi_at zh_dX13_rules_16_16 4 rfl) (zi_at zh_dX13_rules_16_16 5 rfl) (zi_at zh_dX13_rules_16_16 6 rfl) rfl
theorem dX13_rules_23 : decode cX13_rules 23 = .ok (.iconst (-1), 1) := zo_2 (zi_at zh_dX13_rules_16_16 7 rfl)
theorem dX13_rules_24 : decode cX13_rules 24 = .ok (.if_icmp .ne 19, 3) := zo_160 (zi_at zh_dX13_rules_16_16 8 rfl) (zi_at zh_dX13_rules_16_16 9 rfl) (zi_at zh_dX13_rules_16_16 10 rfl) rfl
theorem dX13_rules_27 : decode cX13_rules 27 = .ok (.iload_n 1, 1) := zo_27 (zi_at zh_dX13_rules_16_16 11 rfl)
theorem dX13_rules_28 : decode cX13_rules 28 = .ok (.invokestatic 249, 3) := zo_184 (zi_at zh_dX13_rules_16_16 12 rfl) (zi_at zh_dX13_rules_16_16 13 rfl) (zi_at zh_dX13_rules_16_16 14 rfl) rfl
theorem dX13_rules_31 : decode cX13_rules 31 = .ok (.ifCond .eq 12, 3) := zo_153 (zi_at zh_dX13_rules_16_16 15 rfl) (zi_at zh_dX13_rules_31_32 0 rfl) (zi_at zh_dX13_rules_31_32 1 rfl) rfl
theorem dX13_rules_34 : decode cX13_rules 34 = .ok (.aload_n 0, 1) := zo_42 (zi_at zh_dX13_rules_31_32 2 rfl)
theorem dX13_rules_35 : decode cX13_rules 35 = .ok (.getfield 370, 3) := zo_180 (zi_at zh_dX13_rules_31_32 3 rfl) (zi_at zh_dX13_rules_31_32 4 rfl) (zi_at zh_dX13_rules_31_32 5 rfl) rfl
theorem dX13_rules_38 : decode cX13_rules 38 = .ok (.bipush 16, 2) := zo_16 (zi_at zh_dX13_rules_31_32 6 rfl) (zi_at zh_dX13_rules_31_32 7 rfl) rfl
theorem dX13_rules_40 : decode cX13_rules 40 = .ok (.if_icmp .ne 5, 3) := zo_160 (zi_at zh_dX13_rules_31_32 8 rfl) (zi_at zh_dX13_rules_31_32 9 rfl) (zi_at zh_dX13_rules_31_32 10 rfl) rfl
theorem dX13_rules_43 : decode cX13_rules 43 = .ok (.iconst (-1), 1) := zo_2 (zi_at zh_dX13_rules_31_32 11 rfl)
theorem dX13_rules_44 : decode cX13_rules 44 = .ok (.ireturn, 1) := zo_172 (zi_at zh_dX13_rules_31_32 12 rfl)
theorem dX13_rules_45 : decode cX13_rules 45 = .ok (.iconst 0, 1) := zo_3 (zi_at zh_dX13_rules_31_32 13 rfl)
theorem dX13_rules_46 : decode cX13_rules 46 = .ok (.istore_n 2, 1) := zo_61 (zi_at zh_dX13_rules_31_32 14 rfl)
theorem dX13_rules_47 : decode cX13_rules 47 = .ok (.iload_n 2, 1) := zo_28 (zi_at zh_dX13_rules_31_32 15 rfl)
theorem dX13_rules_48 : decode cX13_rules 48 = .ok (.aload_n 0, 1) := zo_42 (zi_at zh_dX13_rules_48_48 0 rfl)
theorem dX13_rules_49 : decode cX13_rules 49 = .ok (.getfield 259, 3) := zo_180 (zi_at zh_dX13_rules_48_48 1 rfl) (zi_at zh_dX13_rules_48_48 2 rfl) (zi_at zh_dX13_rules_48_48 3 rfl) rfl
theorem dX13_rules_52 : decode cX13_rules 52 = .ok (.if_icmp .ge 30, 3) := zo_162 (zi_at zh_dX13_rules_48_48 4 rfl) (zi_at zh_dX13_rules_48_48 5 rfl) (zi_at zh_dX13_rules_48_48 6 rfl) rfl
theorem dX13_rules_55 : decode cX13_rules 55 = .ok (.aload_n 0, 1) := zo_42 (zi_at zh_dX13_rules_48_48 7 rfl)
theorem dX13_rules_56 : decode cX13_rules 56 = .ok (.getfield 32, 3) := zo_180 (zi_at zh_dX13_rules_48_48 8 rfl) (zi_at zh_dX13_rules_48_48 9 rfl) (zi_at zh_dX13_rules_48_48 10 rfl) rfl
theorem dX13_rules_59 : decode cX13_rules 59 = .ok (.sipush 200, 3) := zo_17 (zi_at zh_dX13_rules_48_48 11 rfl) (zi_at zh_dX13_rules_48_48 12 rfl) (zi_at zh_dX13_rules_48_48 13 rfl) rfl
theorem dX13_rules_62 : decode cX13_rules 62 = .ok (.aload_n 0, 1) := zo_42 (zi_at zh_dX13_rules_48_48 14 rfl)
theorem dX13_rules_63 : decode cX13_rules 63 = .ok (.getfield 370, 3) := zo_180 (zi_at zh_dX13_rules_48_48 15 rfl) (zi_at zh_dX13_rules_63_64 0 rfl) (zi_at zh_dX13_rules_63_64 1 rfl) rfl
theorem dX13_rules_66 : decode cX13_rules 66 = .ok (.imul, 1) := zo_104 (zi_at zh_dX13_rules_63_64 2 rfl)
theorem dX13_rules_67 : decode cX13_rules 67 = .ok (.iload_n 2, 1) := zo_28 (zi_at zh_dX13_rules_63_64 3 rfl)
theorem dX13_rules_68 : decode cX13_rules 68 = .ok (.iadd, 1) := zo_96 (zi_at zh_dX13_rules_63_64 4 rfl)
theorem dX13_rules_69 : decode cX13_rules 69 = .ok (.aload_n 0, 1) := zo_42 (zi_at zh_dX13_rules_63_64 5 rfl)
theorem dX13_rules_70 : decode cX13_rules 70 = .ok (.getfield 28, 3) := zo_180 (zi_at zh_dX13_rules_63_64 6 rfl) (zi_at zh_dX13_rules_63_64 7 rfl) (zi_at zh_dX13_rules_63_64 8 rfl) rfl
theorem dX13_rules_73 : decode cX13_rules 73 = .ok (.iload_n 2, 1) := zo_28 (zi_at zh_dX13_rules_63_64 9 rfl)
theorem dX13_rules_74 : decode cX13_rules 74 = .ok (.baload, 1) := zo_51 (zi_at zh_dX13_rules_63_64 10 rfl)
theorem dX13_rules_75 : decode cX13_rules 75 = .ok (.bastore, 1) := zo_84 (zi_at zh_dX13_rules_63_64 11 rfl)
theorem dX13_rules_76 : decode cX13_rules 76 = .ok (.iinc 2 1, 3) := zo_132 (zi_at zh_dX13_rules_63_64 12 rfl) (zi_at zh_dX13_rules_63_64 13 rfl) (zi_at zh_dX13_rules_63_64 14 rfl) rfl
theorem dX13_rules_79 : decode cX13_rules 79 = .ok (.goto (-32), 3) := zo_167 (zi_at zh_dX13_rules_63_64 15 rfl) (zi_at zh_dX13_rules_79_80 0 rfl) (zi_at zh_dX13_rules_79_80 1 rfl) rfl
theorem dX13_rules_82 : decode cX13_rules 82 = .ok (.aload_n 0, 1) := zo_42 (zi_at zh_dX13_rules_79_80 2 rfl)
theorem dX13_rules_83 : decode cX13_rules 83 = .ok (.getfield 35, 3) := zo_180 (zi_at zh_dX13_rules_79_80 3 rfl) (zi_at zh_dX13_rules_79_80 4 rfl) (zi_at zh_dX13_rules_79_80 5 rfl) rfl
theorem dX13_rules_86 : decode cX13_rules 86 = .ok (.aload_n 0, 1) := zo_42 (zi_at zh_dX13_rules_79_80 6 rfl)
theorem dX13_rules_87 : decode cX13_rules 87 = .ok (.getfield 370, 3) := zo_180 (zi_at zh_dX13_rules_79_80 7 rfl) (zi_at zh_dX13_rules_79_80 8 rfl) (zi_at zh_dX13_rules_79_80 9 rfl) rfl
theorem dX13_rules_90 : decode cX13_rules 90 = .ok (.aload_n 0, 1) := zo_42 (zi_at zh_dX13_rules_79_80 10 rfl)
theorem dX13_rules_91 : decode cX13_rules 91 = .ok (.getfield 259, 3) := zo_180 (zi_at zh_dX13_rules_79_80 11 rfl) (zi_at zh_dX13_rules_79_80 12 rfl) (zi_at zh_dX13_rules_79_80 13 rfl) rfl
theorem dX13_rules_94 : decode cX13_rules 94 = .ok (.iastore, 1) := zo_79 (zi_at zh_dX13_rules_79_80 14 rfl)
theorem dX13_rules_95 : decode cX13_rules 95 = .ok (.aload_n 0, 1) := zo_42 (zi_at zh_dX13_rules_79_80 15 rfl)
theorem dX13_rules_96 : decode cX13_rules 96 = .ok (.getfield 38, 3) := zo_180 (zi_at zh_dX13_rules_96_96 0 rfl) (zi_at zh_dX13_rules_96_96 1 rfl) (zi_at zh_dX13_rules_96_96 2 rfl) rfl
theorem dX13_rules_99 : decode cX13_rules 99 = .ok (.aload_n 0, 1) := zo_42 (zi_at zh_dX13_rules_96_96 3 rfl)
theorem dX13_rules_100 : decode cX13_rules 100 = .ok (.getfield 370, 3) := zo_180 (zi_at zh_dX13_rules_96_96 4 rfl) (zi_at zh_dX13_rules_96_96 5 rfl) (zi_at zh_dX13_rules_96_96 6 rfl) rfl
theorem dX13_rules_103 : decode cX13_rules 103 = .ok (.iload_n 1, 1) := zo_27 (zi_at zh_dX13_rules_96_96 7 rfl)
theorem dX13_rules_104 : decode cX13_rules 104 = .ok (.iastore, 1) := zo_79 (zi_at zh_dX13_rules_96_96 8 rfl)
theorem dX13_rules_105 : decode cX13_rules 105 = .ok (.aload_n 0, 1) := zo_42 (zi_at zh_dX13_rules_96_96 9 rfl)
theorem dX13_rules_106 : decode cX13_rules 106 = .ok (.getfield 41, 3) := zo_180 (zi_at zh_dX13_rules_96_96 10 rfl) (zi_at zh_dX13_rules_96_96 11 rfl) (zi_at zh_dX13_rules_96_96 12 rfl) rfl
theorem dX13_rules_109 : decode cX13_rules 109 = .ok (.aload_n 0, 1) := zo_42 (zi_at zh_dX13_rules_96_96 13 rfl)
theorem dX13_rules_110 : decode cX13_rules 110 = .ok (.getfield 370, 3) := zo_180 (zi_at zh_dX13_rules_96_96 14 rfl) (zi_at zh_dX13_rules_96_96 15 rfl) (zi_at zh_dX13_rules_110_112 0 rfl) rfl
theorem dX13_rules_113 : decode cX13_rules 113 = .ok (.aload_n 0, 1) := zo_42 (zi_at zh_dX13_rules_110_112 1 rfl)
theorem dX13_rules_114 : decode cX13_rules 114 = .ok (.getfield 232, 3) := zo_180 (zi_at zh_dX13_rules_110_112 2 rfl) (zi_at zh_dX13_rules_110_112 3 rfl) (zi_at zh_dX13_rules_110_112 4 rfl) rfl
theorem dX13_rules_117 : decode cX13_rules 117 = .ok (.iastore, 1) := zo_79 (zi_at zh_dX13_rules_110_112 5 rfl)
theorem dX13_rules_118 : decode cX13_rules 118 = .ok (.aload_n 0, 1) := zo_42 (zi_at zh_dX13_rules_110_112 6 rfl)
theorem dX13_rules_119 : decode cX13_rules 119 = .ok (.dup, 1) := zo_89 (zi_at zh_dX13_rules_110_112 7 rfl)
theorem dX13_rules_120 : decode cX13_rules 120 = .ok (.getfield 370, 3) := zo_180 (zi_at zh_dX13_rules_110_112 8 rfl) (zi_at zh_dX13_rules_110_112 9 rfl) (zi_at zh_dX13_rules_110_112 10 rfl) rfl
theorem dX13_rules_123 : decode cX13_rules 123 = .ok (.iconst 1, 1) := zo_4 (zi_at zh_dX13_rules_110_112 11 rfl)
theorem dX13_rules_124 : decode cX13_rules 124 = .ok (.iadd, 1) := zo_96 (zi_at zh_dX13_rules_110_112 12 rfl)
theorem dX13_rules_125 : decode cX13_rules 125 = .ok (.putfield 370, 3) := zo_181 (zi_at zh_dX13_rules_110_112 13 rfl) (zi_at zh_dX13_rules_110_112 14 rfl) (zi_at zh_dX13_rules_110_112 15 rfl) rfl
theorem dX13_rules_128 : decode cX13_rules 128 = .ok (.aload_n 0, 1) := zo_42 (zi_at zh_dX13_rules_128_128 0 rfl)
theorem dX13_rules_129 : decode cX13_rules 129 = .ok (.iconst 0, 1) := zo_3 (zi_at zh_dX13_rules_128_128 1 rfl)
theorem dX13_rules_130 : decode cX13_rules 130 = .ok (.putfield 259, 3) := zo_181 (zi_at zh_dX13_rules_128_128 2 rfl) (zi_at zh_dX13_rules_128_128 3 rfl) (zi_at zh_dX13_rules_128_128 4 rfl) rfl
theorem dX13_rules_133 : decode cX13_rules 133 = .ok (.aload_n 0, 1) := zo_42 (zi_at zh_dX13_rules_128_128 5 rfl)
theorem dX13_rules_134 : decode cX13_rules 134 = .ok (.getfield 370, 3) := zo_180 (zi_at zh_dX13_rules_128_128 6 rfl) (zi_at zh_dX13_rules_128_128 7 rfl) (zi_at zh_dX13_rules_128_128 8 rfl) rfl
theorem dX13_rules_137 : decode cX13_rules 137 = .ok (.iconst 1, 1) := zo_4 (zi_at zh_dX13_rules_128_128 9 rfl)
theorem dX13_rules_138 : decode cX13_rules 138 = .ok (.isub, 1) := zo_100 (zi_at zh_dX13_rules_128_128 10 rfl)
theorem dX13_rules_139 : decode cX13_rules 139 = .ok (.ireturn, 1) := zo_172 (zi_at zh_dX13_rules_128_128 11 rfl)

def v_rulesV : List Cond := .code yX13_rules cX13_rules 3 (some .int) :: vA
abbrev rm_rulesV : Room := { frames := 70, cells := 0, slots := 0, locals := 2800 }
def w_rulesV : Nat → Nat → Bool := wl [10, 11, 8, 9] [(0, 0), (0, 16), (0, 17), (0, 18), (0, 19), (0, 20), (0, 21), (0, 22), (0, 23), (0, 24), (0, 25), (0, 26)]
set_option maxHeartbeats 4000000 in
set_option maxRecDepth 100000 in
theorem q_rulesV (l : Launch) (dC : Nat → ClassId) (dI : Nat → Nat → Nat) (cT : Nat → ClassId) (ad : Nat → Nat) (E : Nat → va_E) (sz : Nat) (a0 : Int32) (hI0 : IX cT shM spM 72 ad E)  : Met l yX13_rules v_rulesV rm_rulesV (va_Pc [.ref (ad 0), .int a0] (HW dC dI (TYM cT) 72 ad E sz)) (va_Qi (S := Nat → va_E) (fun r u => IX cT shM spM 72 ad u ∧ Kp w_rulesV E u ∧ ((r = -1 ∧ (¬ ((textS true (mB (xi (E 7)) (0 : Int32)) (xi (E 0) 16).toNatClampNeg).flt = -1 ∧ (0 ≤ a0.toInt ∧ a0.toInt ≤ 400) ∧ (xi (E 0) 17).toInt < 16)) ∧ ((xi (u 0) 17).toInt = (xi (E 0) 17).toInt) ∧ ((xi (u 0) 16).toInt = (xi (E 0) 16).toInt) ∧ (xi (u 10) = xi (E 10) ∧ xi (u 11) = xi (E 11)) ∧ (xi (u 7) = xi (E 7)) ∧ (xi (u 8) = xi (E 8) ∧ xi (u 9) = xi (E 9))) ∨ ((0 ≤ r.toInt ∧ r.toInt ≤ 15) ∧ (((textS true (mB (xi (E 7)) (0 : Int32)) (xi (E 0) 16).toNatClampNeg).flt = -1 ∧ (0 ≤ a0.toInt ∧ a0.toInt ≤ 400) ∧ (xi (E 0) 17).toInt < 16)) ∧ (r.toInt = (xi (E 0) 17).toInt) ∧ ((xi (u 0) 17).toInt = (xi (E 0) 17).toInt + 1) ∧ ((xi (u 0) 16).toInt = 0) ∧ (xi (u 10) = upd (xi (E 10)) (xi (E 0) 17).toNatClampNeg a0 ∧ xi (u 11) = upd (xi (E 11)) (xi (E 0) 17).toNatClampNeg (xi (E 0) 1)) ∧ (CpI (xi (E 0) 17).toNatClampNeg (xi (E 0) 16).toNatClampNeg E u) ∧ (xi (u 9) = upd (xi (E 9)) (xi (E 0) 17).toNatClampNeg (xi (E 0) 16))))) (HB dC dI 72 ad) (va_A (WX 72 ad E) sz)) 0 0 (va_A (WX 72 ad E) sz) := by
  refine Met.ofW (cc := cX13_rules) (maxL := 3) (ret := (some .int)) (by decide) rfl ?_
  intro p e s m args below meth c s₁ B hml hv
  obtain ⟨hargs, hsz, hP, hK, hD0, hEV⟩ := hv
  subst hsz
  have hx := B.exec
  have hb := B.bytes
  have hr := B.returns
  have hts := atoms_spec (ws := v_rulesV) B.pre
  have hown : s.vm.findClass RX13 = some m.cls := findClass_of_methodNamed B.named
  have hlocks := B.notSynchronized
  have hinX13 : ∀ w ∈ u_ws RX13 TX13 97, w ∈ v_rulesV := fun w h => vA_in _ w (in_X13 w h)
  generalize hAe : va_A (WX 72 ad E) s.heap.size = A at hEV ⊢
  have hA : ∀ q : Nat, s.heap.size ≤ q → A q := fun q h => by rw [← hAe]; exact Or.inr h
  have hD : va_D A (WX 72 ad E) := by rw [← hAe]; exact hD0.self
  have hS : va_S A s.heap s.heap [] := va_S.rf
  have hI := hI0
  have hKp : Kp w_rulesV E E := Kp.rf
  have hl := lv_entry ([.ref (ad 0), .int a0]) (n := 3) (Nat.le_of_ble_eq_true rfl)
  obtain ⟨Q, hQ⟩ : ∃ Q, Q = MQ below (va_Qi (S := Nat → va_E) (fun r u => IX cT shM spM 72 ad u ∧ Kp w_rulesV E u ∧ ((r = -1 ∧ (¬ ((textS true (mB (xi (E 7)) (0 : Int32)) (xi (E 0) 16).toNatClampNeg).flt = -1 ∧ (0 ≤ a0.toInt ∧ a0.toInt ≤ 400) ∧ (xi (E 0) 17).toInt < 16)) ∧ ((xi (u 0) 17).toInt = (xi (E 0) 17).toInt) ∧ ((xi (u 0) 16).toInt = (xi (E 0) 16).toInt) ∧ (xi (u 10) = xi (E 10) ∧ xi (u 11) = xi (E 11)) ∧ (xi (u 7) = xi (E 7)) ∧ (xi (u 8) = xi (E 8) ∧ xi (u 9) = xi (E 9))) ∨ ((0 ≤ r.toInt ∧ r.toInt ≤ 15) ∧ (((textS true (mB (xi (E 7)) (0 : Int32)) (xi (E 0) 16).toNatClampNeg).flt = -1 ∧ (0 ≤ a0.toInt ∧ a0.toInt ≤ 400) ∧ (xi (E 0) 17).toInt < 16)) ∧ (r.toInt = (xi (E 0) 17).toInt) ∧ ((xi (u 0) 17).toInt = (xi (E 0) 17).toInt + 1) ∧ ((xi (u 0) 16).toInt = 0) ∧ (xi (u 10) = upd (xi (E 10)) (xi (E 0) 17).toNatClampNeg a0 ∧ xi (u 11) = upd (xi (E 11)) (xi (E 0) 17).toNatClampNeg (xi (E 0) 1)) ∧ (CpI (xi (E 0) 17).toNatClampNeg (xi (E 0) 16).toNatClampNeg E u) ∧ (xi (u 9) = upd (xi (E 9)) (xi (E 0) 17).toNatClampNeg (xi (E 0) 16))))) (HB dC dI 72 ad) (A)) args s 0 0 (A) := ⟨_, rfl⟩
  rw [← hQ, show entryFrame m args 3 = _ from (congrArg (fun z => entryFrame m z 3) hargs).trans (lg_entry_eq _ _ _)]
  generalize (lg_sl ([.ref (ad 0), .int a0]) ++ List.replicate (3 - (lg_sl ([.ref (ad 0), .int a0])).length) Slot.unset).toArray = ls at hl ⊢
  have hl : lv_has ls 3 [(0, .ref (ad 0)), (1, .int a0)] := hl
  obtain ⟨y1, ey1⟩ : ∃ y, xi (E 0) 17 = y := ⟨_, rfl⟩
  have fy1 : xv (E 0) 17 = .int y1 := (hI.fi 0 (Nat.le_of_ble_eq_true rfl) rfl (Nat.le_of_ble_eq_true rfl) rfl).trans (congrArg Value.int ey1)
  have iy1 : 0 ≤ y1.toInt ∧ y1.toInt ≤ 16 := by rw [← ey1]; exact hI.iv 0 (Nat.le_of_ble_eq_true rfl) rfl (Nat.le_of_ble_eq_true rfl) rfl
  obtain ⟨y2, ey2⟩ : ∃ y, xi (E 0) 16 = y := ⟨_, rfl⟩
  have fy2 : xv (E 0) 16 = .int y2 := (hI.fi 0 (Nat.le_of_ble_eq_true rfl) rfl (Nat.le_of_ble_eq_true rfl) rfl).trans (congrArg Value.int ey2)
  have iy2 : 0 ≤ y2.toInt ∧ y2.toInt ≤ 200 := by rw [← ey2]; exact hI.iv 0 (Nat.le_of_ble_eq_true rfl) rfl (Nat.le_of_ble_eq_true rfl) rfl
  obtain ⟨g3, hg3⟩ : ∃ g, xi (E 10) = g := ⟨_, rfl⟩
  obtain ⟨g4, hg4⟩ : ∃ g, xi (E 11) = g := ⟨_, rfl⟩
  obtain ⟨g5, hg5⟩ : ∃ g, xi (E 8) = g := ⟨_, rfl⟩
  obtain ⟨g6, hg6⟩ : ∃ g, xi (E 9) = g := ⟨_, rfl⟩
  refine lv_aload_n hx hb dX13_rules_0 rfl (lv_at hl 0 rfl) ?_
  refine lv_iconst (v := 0) hx hb dX13_rules_1 (by decide) ?_
  refine th_put (ci := 14) (C := RX13) (T := TX13) (N := 97) (v := .int 0) (ty := .int) hx hb hts hinX13 tyX13 tyX13_ok nmX13 hown hK hP (WX_D hD) hS hI 0 (Nat.le_of_ble_eq_true rfl) rfl rfl 0 (Nat.le_of_ble_eq_true rfl) (hts _ (vA_in _ _ (in_24 _ (zs4 (zs4 (zs1 (zs1 (zs0)))))))) (fun _ h9 => h9) rfl (by decide +kernel) rfl rfl (okI rfl (iv_w ln_0 (by decide))) dX13_rules_2 (fun H locs E7 pw8 hI hP hS => ?_)
  have hKp := hKp.pw pw8 rfl
  refine lv_aload_n hx hb dX13_rules_5 rfl (lv_at hl 0 rfl) ?_
  refine lv_aload_n hx hb dX13_rules_6 rfl (lv_at hl 0 rfl) ?_
  refine th_get (ci := 14) (C := RX13) (T := TX13) (N := 97) (v := .ref (ad 7)) hx hb hts hinX13 hown hK hP hI 0 (Nat.le_of_ble_eq_true rfl) rfl rfl 10 (Nat.le_of_ble_eq_true rfl) (hts _ (vA_in _ _ (in_31 _ (zs16 (zs4 (zs4 (zs4 (zs1 (zs0))))))))) (fun _ h9 => h9) (hI.fr 0 (Nat.le_of_ble_eq_true rfl) rfl (Nat.le_of_ble_eq_true rfl) 7 rfl) dX13_rules_7 ?_
  refine lv_iconst (v := 0) hx hb dX13_rules_10 (by decide) ?_
  refine lv_aload_n hx hb dX13_rules_11 rfl (lv_at hl 0 rfl) ?_
  refine th_get (ci := 14) (C := RX13) (T := TX13) (N := 97) (v := .int y2) hx hb hts hinX13 hown hK hP hI 0 (Nat.le_of_ble_eq_true rfl) rfl rfl 16 (Nat.le_of_ble_eq_true rfl) (hts _ (vA_in _ _ (in_30 _ (zs16 (zs4 (zs0)))))) (fun _ h9 => h9) ((pw8.2 0 16 (fun q9 => absurd q9.2 (Nat.ne_of_beq_eq_false rfl))).trans fy2) dX13_rules_12 ?_
  refine lv_iconst (v := 0) hx hb dX13_rules_15 (by decide) ?_
  refine th_v (va_runV (As := [.ref (ad 7), .int 0, .int y2, .int 0]) (rest := []) ⟨hx, hb, hml, hown, hts⟩ (q_goThroughTX l dC dI cT ad E7 H.size y2 (0 : Int32) hI iy2 (iv_w ln_0 (by decide))) (cwV 4 hts (gi_V (in_29 _ (zs4 (zs4 (zs0)))) (in_29 _ (zs4 (zs4 (zs1 (zs0))))) (in_29 _ (zs4 (zs4 (zs1 (zs1 (zs0)))))) (in_24 _ (zs4 (zs4 (zs4 (zs1 (zs1 (zs1 (zs0)))))))) (in_29 _ (zs4 (zs4 (zs1 (zs1 (zs1 (zs0)))))))) rfl rfl rfl ⟨rfl, hz_yX13_goThrough_4⟩ ⟨Nat.le_of_ble_eq_true rfl, Nat.le_of_ble_eq_true rfl⟩) ⟨HW_bl, va_recv hK hP (ci := 14) (q0 := 0) rfl (hI.ob 0 (Nat.le_of_ble_eq_true rfl) rfl), (HW_wi hP hK (WX_D hD) hS hA hEV)⟩ rfl rfl hl.1 rfl (lv_room (Nat.le_of_ble_eq_true rfl)) dX13_rules_16 ⟨Nat.le_of_ble_eq_true rfl, Nat.le_of_ble_eq_true rfl⟩) (WX_D hD) hS hA (fun E10 H locs hw hP hS => ?_)
  obtain ⟨hI, kq11, hw⟩ := hw
  have hKb := hKp
  have hKp := hKp.tr kq11 (wl_sub rfl rfl)
  obtain ⟨y12, ey12⟩ : ∃ y, xi (E10 0) 22 = y := ⟨_, rfl⟩
  have fy12 : xv (E10 0) 22 = .int y12 := (hI.fi 0 (Nat.le_of_ble_eq_true rfl) rfl (Nat.le_of_ble_eq_true rfl) rfl).trans (congrArg Value.int ey12)
  have iy12 : -1 ≤ y12.toInt ∧ y12.toInt ≤ 201 := by rw [← ey12]; exact hI.iv 0 (Nat.le_of_ble_eq_true rfl) rfl (Nat.le_of_ble_eq_true rfl) rfl
  have f13 := hw
  try rw [hKb.ef 7 (fun _ => rfl)] at f13
  have k14 : y12.toInt = (textS true (mB (xi (E 7)) (0 : Int32)) (xi (E 0) 16).toNatClampNeg).flt := (show y12.toInt = mFa E10 by show _ = (xi (E10 0) 22).toInt; rw [show xi (E10 0) 22 = y12 from vi_e fy12]).trans (by rw [ey2]; exact f13)
  refine lv_aload_n hx hb dX13_rules_19 rfl (lv_at hl 0 rfl) ?_
  refine th_get (ci := 14) (C := RX13) (T := TX13) (N := 97) (v := .int y12) hx hb hts hinX13 hown hK hP hI 0 (Nat.le_of_ble_eq_true rfl) rfl rfl 22 (Nat.le_of_ble_eq_true rfl) (hts _ (vA_in _ _ (in_25 _ (zs16 (zs16 (zs4 (zs1 (zs1 (zs1 (zs0)))))))))) (fun _ h9 => h9) fy12 dX13_rules_20 ?_
  refine lv_iconst (v := -1) hx hb dX13_rules_23 (by decide) ?_
  refine lv_icmp_ne (tgt := 43) hx hb dX13_rules_24 (by decide) (fun c15 => ?_) (fun c15 => ?_)
  · --24 taken
    have t16 : ¬ y12.toInt = -1 := ti_ne c15
    have i17 : 0 ≤ y12.toInt ∧ y12.toInt ≤ 201 := iv_ne_l t16 iy12 (il_ (-1))
    refine lv_iconst (v := -1) hx hb dX13_rules_43 (by decide) ?_
    rw [hQ]
    exact W.iret (v := (-1)) hx hb hr (fun t ht hW => ⟨⟨(-1), E10, rfl, ⟨hI, hKp, Or.inl ⟨rfl, by have b1 := k14; have gy1 := congrArg Int32.toInt ey1; have gy2 := congrArg Int32.toInt ey2; all_goals omega, by have h8 := ln_m1; (try rw [(show xi (E10 0) 17 = y1 from vi_e ((kq11 0 17 rfl).trans ((pw8.2 0 17 (fun q9 => absurd q9.2 (Nat.ne_of_beq_eq_false rfl))).trans fy1)))]); (try rw [ey1]); (try rw [ey2]); all_goals omega, by have h8 := ln_m1; (try rw [(show xi (E10 0) 16 = y2 from vi_e ((kq11 0 16 rfl).trans ((pw8.2 0 16 (fun q9 => absurd q9.2 (Nat.ne_of_beq_eq_false rfl))).trans fy2)))]); (try rw [ey1]); (try rw [ey2]); all_goals omega, ⟨(show xi (E10 10) = g3 from ((kq11.ef 10 (fun _ => rfl)).trans ((pw8.ef 10 (Nat.ne_of_beq_eq_false rfl)).trans hg3))).trans (show xi (E 10) = g3 from hg3).symm, (show xi (E10 11) = g4 from ((kq11.ef 11 (fun _ => rfl)).trans ((pw8.ef 11 (Nat.ne_of_beq_eq_false rfl)).trans hg4))).trans (show xi (E 11) = g4 from hg4).symm⟩, hKp.ef 7 (fun _ => rfl), ⟨(show xi (E10 8) = g5 from ((kq11.ef 8 (fun _ => rfl)).trans ((pw8.ef 8 (Nat.ne_of_beq_eq_false rfl)).trans hg5))).trans (show xi (E 8) = g5 from hg5).symm, (show xi (E10 9) = g6 from ((kq11.ef 9 (fun _ => rfl)).trans ((pw8.ef 9 (Nat.ne_of_beq_eq_false rfl)).trans hg6))).trans (show xi (E 9) = g6 from hg6).symm⟩⟩⟩, by show va_P (dC, dI) vwCl (WX 72 ad E10) t.heap; rw [ht]; exact hP⟩, hS.F ht⟩) hS.2.2 dX13_rules_44
  · --24 not
    have t18 : y12.toInt = -1 := ti_eq c15
    have i19 : -1 ≤ y12.toInt ∧ y12.toInt ≤ -1 := iv_eqi t18 iy12 (il_ (-1)) (by decide)
    refine lv_iload_n hx hb dX13_rules_27 rfl (lv_at hl 1 rfl) ?_
    refine th_pi (va_runS (As := [.int a0]) (rest := []) ⟨hx, hb, hml, hown, hts⟩ (q_isDay l a0) (va_cwS 1 hts (gi_S (in_27 _ (zs16 (zs1 (zs0)))) (in_27 _ (zs16 (zs1 (zs1 (zs0))))) (in_24 _ (zs4 (zs4 (zs4 (zs1 (zs1 (zs1 (zs0)))))))) (in_27 _ (zs16 (zs1 (zs1 (zs1 (zs0))))))) rfl rfl rfl hz_yX13_isDay_1 ⟨Nat.le_of_ble_eq_true rfl, Nat.le_of_ble_eq_true rfl⟩) ⟨fun _ _ _ _ q => q, fun _ _ _ => ⟨rfl, trivial⟩⟩ rfl rfl hl.1 rfl (lv_room (Nat.le_of_ble_eq_true rfl)) dX13_rules_28 ⟨Nat.le_of_ble_eq_true rfl, Nat.le_of_ble_eq_true rfl⟩) hS (fun r20 H1 locs1 hw hk1 hS => ?_)
    have hP := ub_keep hP hk1
    generalize H1 = H at hP hS ⊢
    generalize locs1 = locs at hS ⊢
    rcases hw with hw | hw
    · -- isDay, case 0
      obtain ⟨rfl, f21⟩ := hw
      have t22 : (0 : Int) ≤ a0.toInt := f21.1
      have t23 : a0.toInt ≤ 400 := f21.2
      have i24 : 0 ≤ a0.toInt ∧ a0.toInt ≤ 2147483647 := iv_le_r t22 (il_ 0) (iv_all _) (by decide)
      have i25 : 0 ≤ a0.toInt ∧ a0.toInt ≤ 400 := iv_le_l t23 i24 (il_ 400) (by decide)
      refine lv_if_eq (tgt := 43) hx hb dX13_rules_31 (by decide) (fun c26 => ?_) (fun c26 => ?_)
      · --31 taken
        exact absurd c26 (by decide)
      · --31 not
        refine lv_aload_n hx hb dX13_rules_34 rfl (lv_at hl 0 rfl) ?_
        refine th_get (ci := 14) (C := RX13) (T := TX13) (N := 97) (v := .int y1) hx hb hts hinX13 hown hK hP hI 0 (Nat.le_of_ble_eq_true rfl) rfl rfl 17 (Nat.le_of_ble_eq_true rfl) (hts _ (vA_in _ _ (in_29 _ (zs4 (zs1 (zs0)))))) (fun _ h9 => h9) ((kq11 0 17 rfl).trans ((pw8.2 0 17 (fun q9 => absurd q9.2 (Nat.ne_of_beq_eq_false rfl))).trans fy1)) dX13_rules_35 ?_
        refine lv_bipush (v := 16) hx hb dX13_rules_38 (by decide) ?_
        refine lv_icmp_ne (tgt := 45) hx hb dX13_rules_40 (by decide) (fun c27 => ?_) (fun c27 => ?_)
        · --40 taken
          have t28 : ¬ y1.toInt = 16 := ti_ne c27
          have i29 : 0 ≤ y1.toInt ∧ y1.toInt ≤ 15 := iv_ne_r t28 iy1 (il_ 16)
          refine lv_iconst (v := 0) hx hb dX13_rules_45 (by decide) ?_
          refine lv_istore_n (lv' := [(2, .int 0), (0, .ref (ad 0)), (1, .int a0)]) hx hb dX13_rules_46 rfl hl (by decide) rfl (fun ls hl => ?_)
          have hL47 : ∀ d : Nat, ∀ (g47_8 : Nat → Int32) (v47_2 : Int32) (E47_ : Nat → va_E) (H : Heap) (locs : List Loc) (ls : Array Slot), 0 ≤ v47_2.toInt ∧ v47_2.toInt ≤ 200 → CpI y1.toNatClampNeg v47_2.toNatClampNeg E E47_ → v47_2.toInt ≤ y2.toInt → 200 - v47_2.toInt < (d : Int) → IX cT shM spM 72 ad E47_ → Kp w_rulesV E E47_ → xv (E47_ 0) 17 = .int y1 → xv (E47_ 0) 16 = .int y2 → xv (E47_ 0) 0 = .int 0 → xv (E47_ 0) 22 = .int y12 → xi (E47_ 10) = g3 → xi (E47_ 11) = g4 → xi (E47_ 8) = g47_8 → xi (E47_ 9) = g6 → va_P (dC, dI) vwCl (WX 72 ad E47_) H → va_S A s.heap H locs → lv_has ls 3 [(2, .int v47_2), (0, .ref (ad 0)), (1, .int a0)] → W p l e (headSpec v_rulesV rm_rulesV).room s m args below meth c H locs 0 0 Q (F0 m 47 ls []) := by
            intro d
            induction d with
            | zero =>
              intro g47_8 v47_2 E47_ H locs ls hv47_2 hx47_0 hx47_1 hx47_2 hI hKp hs47_0_17 hs47_0_16 hs47_0_0 hs47_0_22 hr47_10 hr47_11 hr47_8 hr47_9 hP hS hl
              exact absurd hx47_2 (by first | exact ms_zu hv47_2.2 | omega)
            | succ d ih47 =>
              intro g47_8 v47_2 E47_ H locs ls hv47_2 hx47_0 hx47_1 hx47_2 hI hKp hs47_0_17 hs47_0_16 hs47_0_0 hs47_0_22 hr47_10 hr47_11 hr47_8 hr47_9 hP hS hl
              refine lv_iload_n hx hb dX13_rules_47 rfl (lv_at hl 0 rfl) ?_
              refine lv_aload_n hx hb dX13_rules_48 rfl (lv_at hl 1 rfl) ?_
              refine th_get (ci := 14) (C := RX13) (T := TX13) (N := 97) (v := .int y2) hx hb hts hinX13 hown hK hP hI 0 (Nat.le_of_ble_eq_true rfl) rfl rfl 16 (Nat.le_of_ble_eq_true rfl) (hts _ (vA_in _ _ (in_30 _ (zs16 (zs4 (zs0)))))) (fun _ h9 => h9) hs47_0_16 dX13_rules_49 ?_
              refine lv_icmp_ge (tgt := 82) hx hb dX13_rules_52 (by decide) (fun c30 => ?_) (fun c30 => ?_)
              · --52 taken
                have t31 : y2.toInt ≤ v47_2.toInt := ti_le c30
                refine lv_aload_n hx hb dX13_rules_82 rfl (lv_at hl 1 rfl) ?_
                refine th_get (ci := 14) (C := RX13) (T := TX13) (N := 97) (v := .ref (ad 9)) hx hb hts hinX13 hown hK hP hI 0 (Nat.le_of_ble_eq_true rfl) rfl rfl 12 (Nat.le_of_ble_eq_true rfl) (hts _ (vA_in _ _ (in_28 _ (zs16 (zs16 (zs4 (zs1 (zs1 (zs1 (zs0)))))))))) (fun _ h9 => h9) (hI.fr 0 (Nat.le_of_ble_eq_true rfl) rfl (Nat.le_of_ble_eq_true rfl) 9 rfl) dX13_rules_83 ?_
                refine lv_aload_n hx hb dX13_rules_86 rfl (lv_at hl 1 rfl) ?_
                refine th_get (ci := 14) (C := RX13) (T := TX13) (N := 97) (v := .int y1) hx hb hts hinX13 hown hK hP hI 0 (Nat.le_of_ble_eq_true rfl) rfl rfl 17 (Nat.le_of_ble_eq_true rfl) (hts _ (vA_in _ _ (in_29 _ (zs4 (zs1 (zs0)))))) (fun _ h9 => h9) hs47_0_17 dX13_rules_87 ?_
                refine lv_aload_n hx hb dX13_rules_90 rfl (lv_at hl 1 rfl) ?_
                refine th_get (ci := 14) (C := RX13) (T := TX13) (N := 97) (v := .int y2) hx hb hts hinX13 hown hK hP hI 0 (Nat.le_of_ble_eq_true rfl) rfl rfl 16 (Nat.le_of_ble_eq_true rfl) (hts _ (vA_in _ _ (in_30 _ (zs16 (zs4 (zs0)))))) (fun _ h9 => h9) hs47_0_16 dX13_rules_91 ?_
                have n32 : vp_in y1 16 := (iv_in (n := 16) i29 (by decide))
                refine th_iast hx hb hK hP (WX_D hD) hS hI 9 (Nat.le_of_ble_eq_true rfl) rfl rfl n32 (okI rfl iy2) dX13_rules_94 (fun H locs E33 pw34 hI hP hS => ?_)
                have hKp := hKp.pw pw34 rfl
                obtain ⟨g35, eg35⟩ : ∃ z : Nat → Int32, z = upd g6 y1.toNatClampNeg y2 := ⟨_, rfl⟩
                have hg35 : xi (E33 9) = g35 := by rw [pw34.eu, hr47_9, eg35]
                refine lv_aload_n hx hb dX13_rules_95 rfl (lv_at hl 1 rfl) ?_
                refine th_get (ci := 14) (C := RX13) (T := TX13) (N := 97) (v := .ref (ad 10)) hx hb hts hinX13 hown hK hP hI 0 (Nat.le_of_ble_eq_true rfl) rfl rfl 13 (Nat.le_of_ble_eq_true rfl) (hts _ (vA_in _ _ (in_29 _ (zs4 (zs1 (zs1 (zs1 (zs0)))))))) (fun _ h9 => h9) (hI.fr 0 (Nat.le_of_ble_eq_true rfl) rfl (Nat.le_of_ble_eq_true rfl) 10 rfl) dX13_rules_96 ?_
                refine lv_aload_n hx hb dX13_rules_99 rfl (lv_at hl 1 rfl) ?_
                refine th_get (ci := 14) (C := RX13) (T := TX13) (N := 97) (v := .int y1) hx hb hts hinX13 hown hK hP hI 0 (Nat.le_of_ble_eq_true rfl) rfl rfl 17 (Nat.le_of_ble_eq_true rfl) (hts _ (vA_in _ _ (in_29 _ (zs4 (zs1 (zs0)))))) (fun _ h9 => h9) ((pw34.2 0 17 (fun q9 => absurd q9.1 (Nat.ne_of_beq_eq_false rfl))).trans hs47_0_17) dX13_rules_100 ?_
                refine lv_iload_n hx hb dX13_rules_103 rfl (lv_at hl 2 rfl) ?_
                have n36 : vp_in y1 16 := (iv_in (n := 16) i29 (by decide))
                refine th_iast hx hb hK hP (WX_D hD) hS hI 10 (Nat.le_of_ble_eq_true rfl) rfl rfl n36 (okI rfl i25) dX13_rules_104 (fun H locs E37 pw38 hI hP hS => ?_)
                have hKp := hKp.pw pw38 rfl
                obtain ⟨g39, eg39⟩ : ∃ z : Nat → Int32, z = upd g3 y1.toNatClampNeg a0 := ⟨_, rfl⟩
                have hg39 : xi (E37 10) = g39 := by rw [pw38.eu, ((pw34.ef 10 (Nat.ne_of_beq_eq_false rfl)).trans hr47_10), eg39]
                refine lv_aload_n hx hb dX13_rules_105 rfl (lv_at hl 1 rfl) ?_
                refine th_get (ci := 14) (C := RX13) (T := TX13) (N := 97) (v := .ref (ad 11)) hx hb hts hinX13 hown hK hP hI 0 (Nat.le_of_ble_eq_true rfl) rfl rfl 14 (Nat.le_of_ble_eq_true rfl) (hts _ (vA_in _ _ (in_29 _ (zs4 (zs1 (zs1 (zs0))))))) (fun _ h9 => h9) (hI.fr 0 (Nat.le_of_ble_eq_true rfl) rfl (Nat.le_of_ble_eq_true rfl) 11 rfl) dX13_rules_106 ?_
                refine lv_aload_n hx hb dX13_rules_109 rfl (lv_at hl 1 rfl) ?_
                refine th_get (ci := 14) (C := RX13) (T := TX13) (N := 97) (v := .int y1) hx hb hts hinX13 hown hK hP hI 0 (Nat.le_of_ble_eq_true rfl) rfl rfl 17 (Nat.le_of_ble_eq_true rfl) (hts _ (vA_in _ _ (in_29 _ (zs4 (zs1 (zs0)))))) (fun _ h9 => h9) ((pw38.2 0 17 (fun q9 => absurd q9.1 (Nat.ne_of_beq_eq_false rfl))).trans ((pw34.2 0 17 (fun q9 => absurd q9.1 (Nat.ne_of_beq_eq_false rfl))).trans hs47_0_17)) dX13_rules_110 ?_
                refine lv_aload_n hx hb dX13_rules_113 rfl (lv_at hl 1 rfl) ?_
                have i40 : 0 ≤ (xi (E 0) 1).toInt ∧ (xi (E 0) 1).toInt ≤ 400 := hI0.iv 0 (Nat.le_of_ble_eq_true rfl) rfl (Nat.le_of_ble_eq_true rfl) rfl
                refine th_get (ci := 14) (C := RX13) (T := TX13) (N := 97) (v := .int (xi (E 0) 1)) hx hb hts hinX13 hown hK hP hI 0 (Nat.le_of_ble_eq_true rfl) rfl rfl 1 (Nat.le_of_ble_eq_true rfl) (hts _ (vA_in _ _ (in_24 _ (zs16 (zs4 (zs4 (zs1 (zs1 (zs1 (zs0)))))))))) (fun _ h9 => h9) (th_v0 hKp hI0 0 (Nat.le_of_ble_eq_true rfl) rfl (Nat.le_of_ble_eq_true rfl) rfl rfl) dX13_rules_114 ?_
                have n41 : vp_in y1 16 := (iv_in (n := 16) i29 (by decide))
                refine th_iast hx hb hK hP (WX_D hD) hS hI 11 (Nat.le_of_ble_eq_true rfl) rfl rfl n41 (okI rfl i40) dX13_rules_117 (fun H locs E42 pw43 hI hP hS => ?_)
                have hKp := hKp.pw pw43 rfl
                obtain ⟨g44, eg44⟩ : ∃ z : Nat → Int32, z = upd g4 y1.toNatClampNeg (xi (E 0) 1) := ⟨_, rfl⟩
                have hg44 : xi (E42 11) = g44 := by rw [pw43.eu, ((pw38.ef 11 (Nat.ne_of_beq_eq_false rfl)).trans ((pw34.ef 11 (Nat.ne_of_beq_eq_false rfl)).trans hr47_11)), eg44]
                refine lv_aload_n hx hb dX13_rules_118 rfl (lv_at hl 1 rfl) ?_
                refine lv_dup hx hb dX13_rules_119 rfl ?_
                refine th_get (ci := 14) (C := RX13) (T := TX13) (N := 97) (v := .int y1) hx hb hts hinX13 hown hK hP hI 0 (Nat.le_of_ble_eq_true rfl) rfl rfl 17 (Nat.le_of_ble_eq_true rfl) (hts _ (vA_in _ _ (in_29 _ (zs4 (zs1 (zs0)))))) (fun _ h9 => h9) ((pw43.2 0 17 (fun q9 => absurd q9.1 (Nat.ne_of_beq_eq_false rfl))).trans ((pw38.2 0 17 (fun q9 => absurd q9.1 (Nat.ne_of_beq_eq_false rfl))).trans ((pw34.2 0 17 (fun q9 => absurd q9.1 (Nat.ne_of_beq_eq_false rfl))).trans hs47_0_17))) dX13_rules_120 ?_
                refine lv_iconst (v := 1) hx hb dX13_rules_123 (by decide) ?_
                refine lv_iadd hx hb dX13_rules_124 ?_
                refine lv_topi (fun y45 ey45 => ?_)
                obtain ⟨ty45, iy45⟩ := ti_add (e := 1) (f := 16) i29 ln_1 ey45 (by decide)
                have ty45 : y45.toInt = y1.toInt + 1 := ty45
                have iy45 : 1 ≤ y45.toInt ∧ y45.toInt ≤ 16 := iy45
                refine th_put (ci := 14) (C := RX13) (T := TX13) (N := 97) (v := .int y45) (ty := .int) hx hb hts hinX13 tyX13 tyX13_ok nmX13 hown hK hP (WX_D hD) hS hI 0 (Nat.le_of_ble_eq_true rfl) rfl rfl 17 (Nat.le_of_ble_eq_true rfl) (hts _ (vA_in _ _ (in_29 _ (zs4 (zs1 (zs0)))))) (fun _ h9 => h9) rfl (by decide +kernel) rfl rfl (okI rfl (iv_w iy45 (by decide))) dX13_rules_125 (fun H locs E46 pw47 hI hP hS => ?_)
                have hKp := hKp.pw pw47 rfl
                refine lv_aload_n hx hb dX13_rules_128 rfl (lv_at hl 1 rfl) ?_
                refine lv_iconst (v := 0) hx hb dX13_rules_129 (by decide) ?_
                refine th_put (ci := 14) (C := RX13) (T := TX13) (N := 97) (v := .int 0) (ty := .int) hx hb hts hinX13 tyX13 tyX13_ok nmX13 hown hK hP (WX_D hD) hS hI 0 (Nat.le_of_ble_eq_true rfl) rfl rfl 16 (Nat.le_of_ble_eq_true rfl) (hts _ (vA_in _ _ (in_30 _ (zs16 (zs4 (zs0)))))) (fun _ h9 => h9) rfl (by decide +kernel) rfl rfl (okI rfl (iv_w ln_0 (by decide))) dX13_rules_130 (fun H locs E48 pw49 hI hP hS => ?_)
                have hKp := hKp.pw pw49 rfl
                refine lv_aload_n hx hb dX13_rules_133 rfl (lv_at hl 1 rfl) ?_
                refine th_get (ci := 14) (C := RX13) (T := TX13) (N := 97) (v := .int y45) hx hb hts hinX13 hown hK hP hI 0 (Nat.le_of_ble_eq_true rfl) rfl rfl 17 (Nat.le_of_ble_eq_true rfl) (hts _ (vA_in _ _ (in_29 _ (zs4 (zs1 (zs0)))))) (fun _ h9 => h9) ((pw49.2 0 17 (fun q9 => absurd q9.2 (Nat.ne_of_beq_eq_false rfl))).trans pw47.1) dX13_rules_134 ?_
                refine lv_iconst (v := 1) hx hb dX13_rules_137 (by decide) ?_
                refine lv_isub hx hb dX13_rules_138 ?_
                refine lv_topi (fun y50 ey50 => ?_)
                obtain ⟨ty50, iy50⟩ := ti_sub (e := 0) (f := 15) iy45 ln_1 ey50 (by decide)
                have ty50 : y50.toInt = y45.toInt - 1 := ty50
                have iy50 : 0 ≤ y50.toInt ∧ y50.toInt ≤ 15 := iy50
                have z0 := ln_0
                rw [hQ]
                exact W.iret (v := y50) hx hb hr (fun t ht hW => ⟨⟨y50, E48, rfl, ⟨hI, hKp, Or.inr (⟨iy50, by have b1 := k14; have gy1 := congrArg Int32.toInt ey1; have gy2 := congrArg Int32.toInt ey2; all_goals omega, by (try rw [(show xi (E48 0) 17 = y45 from vi_e ((pw49.2 0 17 (fun q9 => absurd q9.2 (Nat.ne_of_beq_eq_false rfl))).trans pw47.1))]); (try rw [ey1]); (try rw [ey2]); all_goals omega, by (try rw [(show xi (E48 0) 17 = y45 from vi_e ((pw49.2 0 17 (fun q9 => absurd q9.2 (Nat.ne_of_beq_eq_false rfl))).trans pw47.1))]); (try rw [ey1]); (try rw [ey2]); all_goals omega, by (try rw [(show xi (E48 0) 16 = (0 : Int32) from vi_e pw49.1)]); (try rw [ey1]); (try rw [ey2]); all_goals omega, ⟨(show xi (E48 10) = g39 from ((pw49.ef 10 (Nat.ne_of_beq_eq_false rfl)).trans ((pw47.ef 10 (Nat.ne_of_beq_eq_false rfl)).trans ((pw43.ef 10 (Nat.ne_of_beq_eq_false rfl)).trans hg39)))).trans (by rw [eg39, show xi (E 10) = g3 from hg3, ey1]), (show xi (E48 11) = g44 from ((pw49.ef 11 (Nat.ne_of_beq_eq_false rfl)).trans ((pw47.ef 11 (Nat.ne_of_beq_eq_false rfl)).trans hg44))).trans (by rw [eg44, show xi (E 11) = g4 from hg4, ey1])⟩, by rw [ey1, ey2, show y2.toNatClampNeg = v47_2.toNatClampNeg by rw [tn_, tn_]; omega]; exact hx47_0.kp (fun j9 => congrFun ((show xi (E48 8) = g47_8 from ((pw49.ef 8 (Nat.ne_of_beq_eq_false rfl)).trans ((pw47.ef 8 (Nat.ne_of_beq_eq_false rfl)).trans ((pw43.ef 8 (Nat.ne_of_beq_eq_false rfl)).trans ((pw38.ef 8 (Nat.ne_of_beq_eq_false rfl)).trans ((pw34.ef 8 (Nat.ne_of_beq_eq_false rfl)).trans hr47_8)))))).trans hr47_8.symm) j9), (show xi (E48 9) = g35 from ((pw49.ef 9 (Nat.ne_of_beq_eq_false rfl)).trans ((pw47.ef 9 (Nat.ne_of_beq_eq_false rfl)).trans ((pw43.ef 9 (Nat.ne_of_beq_eq_false rfl)).trans ((pw38.ef 9 (Nat.ne_of_beq_eq_false rfl)).trans hg35))))).trans (by rw [eg35, show xi (E 9) = g6 from hg6, ey1, ey2])⟩)⟩, by show va_P (dC, dI) vwCl (WX 72 ad E48) t.heap; rw [ht]; exact hP⟩, hS.F ht⟩) hS.2.2 dX13_rules_139
              · --52 not
                have t51 : v47_2.toInt < y2.toInt := ti_nle c30
                have i52 : 0 ≤ v47_2.toInt ∧ v47_2.toInt ≤ 199 := iv_lt_l t51 hv47_2 iy2 (by decide)
                have i53 : 1 ≤ y2.toInt ∧ y2.toInt ≤ 200 := iv_lt_r t51 hv47_2 iy2 (by decide)
                refine lv_aload_n hx hb dX13_rules_55 rfl (lv_at hl 1 rfl) ?_
                refine th_get (ci := 14) (C := RX13) (T := TX13) (N := 97) (v := .ref (ad 8)) hx hb hts hinX13 hown hK hP hI 0 (Nat.le_of_ble_eq_true rfl) rfl rfl 11 (Nat.le_of_ble_eq_true rfl) (hts _ (vA_in _ _ (in_28 _ (zs16 (zs16 (zs4 (zs1 (zs1 (zs0))))))))) (fun _ h9 => h9) (hI.fr 0 (Nat.le_of_ble_eq_true rfl) rfl (Nat.le_of_ble_eq_true rfl) 8 rfl) dX13_rules_56 ?_
                refine lv_sipush (v := 200) hx hb dX13_rules_59 (by decide) ?_
                refine lv_aload_n hx hb dX13_rules_62 rfl (lv_at hl 1 rfl) ?_
                refine th_get (ci := 14) (C := RX13) (T := TX13) (N := 97) (v := .int y1) hx hb hts hinX13 hown hK hP hI 0 (Nat.le_of_ble_eq_true rfl) rfl rfl 17 (Nat.le_of_ble_eq_true rfl) (hts _ (vA_in _ _ (in_29 _ (zs4 (zs1 (zs0)))))) (fun _ h9 => h9) hs47_0_17 dX13_rules_63 ?_
                refine lv_imul hx hb dX13_rules_66 ?_
                refine lv_topi (fun y54 ey54 => ?_)
                obtain ⟨ty54, iy54⟩ := ti_mul (e := 0) (f := 3000) ln_200 i29 ey54 (by decide)
                have ty54 : y54.toInt = 200 * y1.toInt := ty54
                have iy54 : 0 ≤ y54.toInt ∧ y54.toInt ≤ 3000 := iy54
                refine lv_iload_n hx hb dX13_rules_67 rfl (lv_at hl 0 rfl) ?_
                refine lv_iadd hx hb dX13_rules_68 ?_
                refine lv_topi (fun y55 ey55 => ?_)
                obtain ⟨ty55, iy55⟩ := ti_add (e := 0) (f := 3199) iy54 i52 ey55 (by decide)
                have ty55 : y55.toInt = y54.toInt + v47_2.toInt := ty55
                have iy55 : 0 ≤ y55.toInt ∧ y55.toInt ≤ 3199 := iy55
                refine lv_aload_n hx hb dX13_rules_69 rfl (lv_at hl 1 rfl) ?_
                refine th_get (ci := 14) (C := RX13) (T := TX13) (N := 97) (v := .ref (ad 7)) hx hb hts hinX13 hown hK hP hI 0 (Nat.le_of_ble_eq_true rfl) rfl rfl 10 (Nat.le_of_ble_eq_true rfl) (hts _ (vA_in _ _ (in_31 _ (zs16 (zs4 (zs4 (zs4 (zs1 (zs0))))))))) (fun _ h9 => h9) (hI.fr 0 (Nat.le_of_ble_eq_true rfl) rfl (Nat.le_of_ble_eq_true rfl) 7 rfl) dX13_rules_70 ?_
                refine lv_iload_n hx hb dX13_rules_73 rfl (lv_at hl 0 rfl) ?_
                have n57 : vp_in v47_2 200 := (iv_in (n := 200) i52 (by decide))
                refine th_bald hx hb hK hP hI 7 (Nat.le_of_ble_eq_true rfl) rfl rfl n57 dX13_rules_74 (fun y56 ey56 => ?_)
                have iy56 : -128 ≤ y56.toInt ∧ y56.toInt ≤ 127 := hI.el 7 (Nat.le_of_ble_eq_true rfl) rfl n57 (fun _ => rfl) ey56
                have ey56 := ey56.trans (hKp.ei 7 _ rfl)
                have n58 : vp_in y55 3200 := (iv_in (n := 3200) iy55 (by decide))
                refine th_bast hx hb hK hP (WX_D hD) hS hI 8 (Nat.le_of_ble_eq_true rfl) rfl rfl n58 (okI rfl (iv_nb _)) dX13_rules_75 (fun H locs E59 pw60 hI hP hS => ?_)
                have hKp := hKp.pw pw60 rfl
                obtain ⟨g61, eg61⟩ : ∃ z : Nat → Int32, z = upd g47_8 y55.toNatClampNeg (vp_nar .byte y56) := ⟨_, rfl⟩
                have hg61 : xi (E59 8) = g61 := by rw [pw60.eu, hr47_8, eg61]
                obtain ⟨y62, ey62⟩ : ∃ y : Int32, y = v47_2 + (1 : Int32) := ⟨_, rfl⟩
                obtain ⟨ty62, iy62⟩ := ti_add (e := 1) (f := 200) i52 ln_1 ey62 (by decide)
                have ty62 : y62.toInt = v47_2.toInt + 1 := ty62
                have iy62 : 1 ≤ y62.toInt ∧ y62.toInt ≤ 200 := iy62
                refine lv_iinc (v := y62) (lv' := [(2, .int y62), (0, .ref (ad 0)), (1, .int a0)]) hx hb dX13_rules_76 hl (k := 0) rfl (by rw [ey62]; rfl) (by decide) rfl (fun ls hl => ?_)
                refine lv_goto (tgt := 47) hx hb dX13_rules_79 (by decide) ?_
                exact ih47 g61 y62 E59 _ _ _ (iv_w iy62 (by decide)) (hx47_0.step pw60 (by rw [tn_, tn_, tn_]; omega) ((i8_mod y56).trans (by rw [ey56])) (by rw [tn_, tn_]; omega)) (by omega) (by first | exact ms_su hx47_2 ty62 (by decide) | omega) hI hKp ((pw60.2 0 17 (fun q9 => absurd q9.1 (Nat.ne_of_beq_eq_false rfl))).trans hs47_0_17) ((pw60.2 0 16 (fun q9 => absurd q9.1 (Nat.ne_of_beq_eq_false rfl))).trans hs47_0_16) ((pw60.2 0 0 (fun q9 => absurd q9.1 (Nat.ne_of_beq_eq_false rfl))).trans hs47_0_0) ((pw60.2 0 22 (fun q9 => absurd q9.1 (Nat.ne_of_beq_eq_false rfl))).trans hs47_0_22) ((pw60.ef 10 (Nat.ne_of_beq_eq_false rfl)).trans hr47_10) ((pw60.ef 11 (Nat.ne_of_beq_eq_false rfl)).trans hr47_11) hg61 ((pw60.ef 9 (Nat.ne_of_beq_eq_false rfl)).trans hr47_9) hP hS (lv_sub hl [0, 1, 2] rfl)
          exact hL47 (201) g5 (0 : Int32) E10 _ _ _ (iv_w ln_0 (by decide)) (CpI.rf.kp (fun j9 => congrFun ((show xi (E10 8) = g5 from ((kq11.ef 8 (fun _ => rfl)).trans ((pw8.ef 8 (Nat.ne_of_beq_eq_false rfl)).trans hg5))).trans (show xi (E 8) = g5 from hg5).symm) j9)) (by have z9 := ln_0; omega) (by have h9 := ln_0; first | exact ms_bu h9.1 (by decide) | omega) hI hKp ((kq11 0 17 rfl).trans ((pw8.2 0 17 (fun q9 => absurd q9.2 (Nat.ne_of_beq_eq_false rfl))).trans fy1)) ((kq11 0 16 rfl).trans ((pw8.2 0 16 (fun q9 => absurd q9.2 (Nat.ne_of_beq_eq_false rfl))).trans fy2)) ((kq11 0 0 rfl).trans pw8.1) fy12 ((kq11.ef 10 (fun _ => rfl)).trans ((pw8.ef 10 (Nat.ne_of_beq_eq_false rfl)).trans hg3)) ((kq11.ef 11 (fun _ => rfl)).trans ((pw8.ef 11 (Nat.ne_of_beq_eq_false rfl)).trans hg4)) ((kq11.ef 8 (fun _ => rfl)).trans ((pw8.ef 8 (Nat.ne_of_beq_eq_false rfl)).trans hg5)) ((kq11.ef 9 (fun _ => rfl)).trans ((pw8.ef 9 (Nat.ne_of_beq_eq_false rfl)).trans hg6)) hP hS (lv_sub hl [0, 1, 2] rfl)
        · --40 not
          have t63 : y1.toInt = 16 := ti_eq c27
          have i64 : 16 ≤ y1.toInt ∧ y1.toInt ≤ 16 := iv_eqi t63 iy1 (il_ 16) (by decide)
          refine lv_iconst (v := -1) hx hb dX13_rules_43 (by decide) ?_
          rw [hQ]
          exact W.iret (v := (-1)) hx hb hr (fun t ht hW => ⟨⟨(-1), E10, rfl, ⟨hI, hKp, Or.inl ⟨rfl, by have b1 := k14; have gy1 := congrArg Int32.toInt ey1; have gy2 := congrArg Int32.toInt ey2; all_goals omega, by have h8 := ln_m1; (try rw [(show xi (E10 0) 17 = y1 from vi_e ((kq11 0 17 rfl).trans ((pw8.2 0 17 (fun q9 => absurd q9.2 (Nat.ne_of_beq_eq_false rfl))).trans fy1)))]); (try rw [ey1]); (try rw [ey2]); all_goals omega, by have h8 := ln_m1; (try rw [(show xi (E10 0) 16 = y2 from vi_e ((kq11 0 16 rfl).trans ((pw8.2 0 16 (fun q9 => absurd q9.2 (Nat.ne_of_beq_eq_false rfl))).trans fy2)))]); (try rw [ey1]); (try rw [ey2]); all_goals omega, ⟨(show xi (E10 10) = g3 from ((kq11.ef 10 (fun _ => rfl)).trans ((pw8.ef 10 (Nat.ne_of_beq_eq_false rfl)).trans hg3))).trans (show xi (E 10) = g3 from hg3).symm, (show xi (E10 11) = g4 from ((kq11.ef 11 (fun _ => rfl)).trans ((pw8.ef 11 (Nat.ne_of_beq_eq_false rfl)).trans hg4))).trans (show xi (E 11) = g4 from hg4).symm⟩, hKp.ef 7 (fun _ => rfl), ⟨(show xi (E10 8) = g5 from ((kq11.ef 8 (fun _ => rfl)).trans ((pw8.ef 8 (Nat.ne_of_beq_eq_false rfl)).trans hg5))).trans (show xi (E 8) = g5 from hg5).symm, (show xi (E10 9) = g6 from ((kq11.ef 9 (fun _ => rfl)).trans ((pw8.ef 9 (Nat.ne_of_beq_eq_false rfl)).trans hg6))).trans (show xi (E 9) = g6 from hg6).symm⟩⟩⟩, by show va_P (dC, dI) vwCl (WX 72 ad E10) t.heap; rw [ht]; exact hP⟩, hS.F ht⟩) hS.2.2 dX13_rules_44
    · -- isDay, case 1
      obtain ⟨rfl, f65⟩ := hw
      have t66 : ¬ ((0 : Int) ≤ a0.toInt ∧ a0.toInt ≤ 400) := f65
      refine lv_if_eq (tgt := 43) hx hb dX13_rules_31 (by decide) (fun c67 => ?_) (fun c67 => ?_)
      · --31 taken
        refine lv_iconst (v := -1) hx hb dX13_rules_43 (by decide) ?_
        rw [hQ]
        exact W.iret (v := (-1)) hx hb hr (fun t ht hW => ⟨⟨(-1), E10, rfl, ⟨hI, hKp, Or.inl ⟨rfl, by have b1 := k14; have gy1 := congrArg Int32.toInt ey1; have gy2 := congrArg Int32.toInt ey2; all_goals omega, by have h8 := ln_m1; (try rw [(show xi (E10 0) 17 = y1 from vi_e ((kq11 0 17 rfl).trans ((pw8.2 0 17 (fun q9 => absurd q9.2 (Nat.ne_of_beq_eq_false rfl))).trans fy1)))]); (try rw [ey1]); (try rw [ey2]); all_goals omega, by have h8 := ln_m1; (try rw [(show xi (E10 0) 16 = y2 from vi_e ((kq11 0 16 rfl).trans ((pw8.2 0 16 (fun q9 => absurd q9.2 (Nat.ne_of_beq_eq_false rfl))).trans fy2)))]); (try rw [ey1]); (try rw [ey2]); all_goals omega, ⟨(show xi (E10 10) = g3 from ((kq11.ef 10 (fun _ => rfl)).trans ((pw8.ef 10 (Nat.ne_of_beq_eq_false rfl)).trans hg3))).trans (show xi (E 10) = g3 from hg3).symm, (show xi (E10 11) = g4 from ((kq11.ef 11 (fun _ => rfl)).trans ((pw8.ef 11 (Nat.ne_of_beq_eq_false rfl)).trans hg4))).trans (show xi (E 11) = g4 from hg4).symm⟩, hKp.ef 7 (fun _ => rfl), ⟨(show xi (E10 8) = g5 from ((kq11.ef 8 (fun _ => rfl)).trans ((pw8.ef 8 (Nat.ne_of_beq_eq_false rfl)).trans hg5))).trans (show xi (E 8) = g5 from hg5).symm, (show xi (E10 9) = g6 from ((kq11.ef 9 (fun _ => rfl)).trans ((pw8.ef 9 (Nat.ne_of_beq_eq_false rfl)).trans hg6))).trans (show xi (E 9) = g6 from hg6).symm⟩⟩⟩, by show va_P (dC, dI) vwCl (WX 72 ad E10) t.heap; rw [ht]; exact hP⟩, hS.F ht⟩) hS.2.2 dX13_rules_44
      · --31 not
        exact absurd c67 (by decide)
