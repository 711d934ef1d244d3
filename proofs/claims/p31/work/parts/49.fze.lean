set_option maxRecDepth 100000 in
theorem zh_dX13_decide_0_0 : zc cX13_decide 0 [42, 3, 181, 0, 228, 27, 3, 42, 180, 1, 208, 4, 100, 184, 0, 235] = true := by decide +kernel
set_option maxRecDepth 100000 in
theorem zh_dX13_decide_16_16 : zc cX13_decide 16 [153, 0, 12, 42, 180, 0, 177, 27, 51, 153, 0, 5, 2, 172, 42, 27] = true := by decide +kernel
set_option maxRecDepth 100000 in
theorem zh_dX13_decide_32_32 : zc cX13_decide 32 [3, 42, 180, 0, 232, 182, 1, 225, 61, 5, 27, 104, 42, 180, 0, 174] = true := by decide +kernel
set_option maxRecDepth 100000 in
theorem zh_dX13_decide_48_48 : zc cX13_decide 48 [27, 46, 96, 62, 42, 180, 0, 165, 29, 42, 27, 3, 42, 180, 0, 232] = true := by decide +kernel
set_option maxRecDepth 100000 in
theorem zh_dX13_decide_64_64 : zc cX13_decide 64 [182, 1, 244, 4, 160, 0, 7, 4, 167, 0, 4, 3, 42, 27, 4, 42] = true := by decide +kernel
set_option maxRecDepth 100000 in
theorem zh_dX13_decide_80_80 : zc cX13_decide 80 [180, 0, 232, 182, 1, 244, 4, 160, 0, 7, 5, 167, 0, 4, 3, 96] = true := by decide +kernel
set_option maxRecDepth 100000 in
theorem zh_dX13_decide_96_96 : zc cX13_decide 96 [79, 42, 180, 0, 168, 29, 42, 180, 0, 232, 79, 42, 180, 0, 171, 29] = true := by decide +kernel
set_option maxRecDepth 100000 in
theorem zh_dX13_decide_112_112 : zc cX13_decide 112 [17, 3, 232, 79, 42, 180, 0, 174, 27, 92, 46, 4, 96, 79, 42, 180] = true := by decide +kernel
set_option maxRecDepth 100000 in
theorem zh_dX13_decide_127_128 : zc cX13_decide 128 [0, 177, 27, 4, 84, 42, 180, 0, 165, 29, 46, 172] = true := by decide +kernel
theorem dX13_decide_0 : decode cX13_decide 0 = .ok (.aload_n 0, 1) := zo_42 (zi_at zh_dX13_decide_0_0 0 rfl)
theorem dX13_decide_1 : decode cX13_decide 1 = .ok (.iconst 0, 1) := zo_3 (zi_at zh_dX13_decide_0_0 1 rfl)
theorem dX13_decide_2 : decode cX13_decide 2 = .ok (.putfield 228, 3) := zo_181 (zi_at zh_dX13_decide_0_0 2 rfl) (zi_at zh_dX13_decide_0_0 3 rfl) (zi_at zh_dX13_decide_0_0 4 rfl) rfl
theorem dX13_decide_5 : decode cX13_decide 5 = .ok (.iload_n 1, 1) := zo_27 (zi_at zh_dX13_decide_0_0 5 rfl)
theorem dX13_decide_6 : decode cX13_decide 6 = .ok (.iconst 0, 1) := zo_3 (zi_at zh_dX13_decide_0_0 6 rfl)
theorem dX13_decide_7 : decode cX13_decide 7 = .ok (.aload_n 0, 1) := zo_42 (zi_at zh_dX13_decide_0_0 7 rfl)
theorem dX13_decide_8 : decode cX13_decide 8 = .ok (.getfield 464, 3) := zo_180 (zi_at zh_dX13_decide_0_0 8 rfl) (zi_at zh_dX13_decide_0_0 9 rfl) (zi_at zh_dX13_decide_0_0 10 rfl) rfl
theorem dX13_decide_11 : decode cX13_decide 11 = .ok (.iconst 1, 1) := zo_4 (zi_at zh_dX13_decide_0_0 11 rfl)
theorem dX13_decide_12 : decode cX13_decide 12 = .ok (.isub, 1) := zo_100 (zi_at zh_dX13_decide_0_0 12 rfl)
theorem dX13_decide_13 : decode cX13_decide 13 = .ok (.invokestatic 235, 3) := zo_184 (zi_at zh_dX13_decide_0_0 13 rfl) (zi_at zh_dX13_decide_0_0 14 rfl) (zi_at zh_dX13_decide_0_0 15 rfl) rfl
theorem dX13_decide_16 : decode cX13_decide 16 = .ok (.ifCond .eq 12, 3) := zo_153 (zi_at zh_dX13_decide_16_16 0 rfl) (zi_at zh_dX13_decide_16_16 1 rfl) (zi_at zh_dX13_decide_16_16 2 rfl) rfl
theorem dX13_decide_19 : decode cX13_decide 19 = .ok (.aload_n 0, 1) := zo_42 (zi_at zh_dX13_decide_16_16 3 rfl)
theorem dX13_decide_20 : decode cX13_decide 20 = .ok (.getfield 177, 3) := zo_180 (zi_at zh_dX13_decide_16_16 4 rfl) (zi_at zh_dX13_decide_16_16 5 rfl) (zi_at zh_dX13_decide_16_16 6 rfl) rfl
theorem dX13_decide_23 : decode cX13_decide 23 = .ok (.iload_n 1, 1) := zo_27 (zi_at zh_dX13_decide_16_16 7 rfl)
theorem dX13_decide_24 : decode cX13_decide 24 = .ok (.baload, 1) := zo_51 (zi_at zh_dX13_decide_16_16 8 rfl)
theorem dX13_decide_25 : decode cX13_decide 25 = .ok (.ifCond .eq 5, 3) := zo_153 (zi_at zh_dX13_decide_16_16 9 rfl) (zi_at zh_dX13_decide_16_16 10 rfl) (zi_at zh_dX13_decide_16_16 11 rfl) rfl
theorem dX13_decide_28 : decode cX13_decide 28 = .ok (.iconst (-1), 1) := zo_2 (zi_at zh_dX13_decide_16_16 12 rfl)
theorem dX13_decide_29 : decode cX13_decide 29 = .ok (.ireturn, 1) := zo_172 (zi_at zh_dX13_decide_16_16 13 rfl)
theorem dX13_decide_30 : decode cX13_decide 30 = .ok (.aload_n 0, 1) := zo_42 (zi_at zh_dX13_decide_16_16 14 rfl)
theorem dX13_decide_31 : decode cX13_decide 31 = .ok (.iload_n 1, 1) := zo_27 (zi_at zh_dX13_decide_16_16 15 rfl)
theorem dX13_decide_32 : decode cX13_decide 32 = .ok (.iconst 0, 1) := zo_3 (zi_at zh_dX13_decide_32_32 0 rfl)
theorem dX13_decide_33 : decode cX13_decide 33 = .ok (.aload_n 0, 1) := zo_42 (zi_at zh_dX13_decide_32_32 1 rfl)
theorem dX13_decide_34 : decode cX13_decide 34 = .ok (.getfield 232, 3) := zo_180 (zi_at zh_dX13_decide_32_32 2 rfl) (zi_at zh_dX13_decide_32_32 3 rfl) (zi_at zh_dX13_decide_32_32 4 rfl) rfl
theorem dX13_decide_37 : decode cX13_decide 37 = .ok (.invokevirtual 481, 3) := zo_182 (zi_at zh_dX13_decide_32_32 5 rfl) (zi_at zh_dX13_decide_32_32 6 rfl) (zi_at zh_dX13_decide_32_32 7 rfl) rfl
theorem dX13_decide_40 : decode cX13_decide 40 = .ok (.istore_n 2, 1) := zo_61 (zi_at zh_dX13_decide_32_32 8 rfl)
theorem dX13_decide_41 : decode cX13_decide 41 = .ok (.iconst 2, 1) := zo_5 (zi_at zh_dX13_decide_32_32 9 rfl)
theorem dX13_decide_42 : decode cX13_decide 42 = .ok (.iload_n 1, 1) := zo_27 (zi_at zh_dX13_decide_32_32 10 rfl)
theorem dX13_decide_43 : decode cX13_decide 43 = .ok (.imul, 1) := zo_104 (zi_at zh_dX13_decide_32_32 11 rfl)
theorem dX13_decide_44 : decode cX13_decide 44 = .ok (.aload_n 0, 1) := zo_42 (zi_at zh_dX13_decide_32_32 12 rfl)
theorem dX13_decide_45 : decode cX13_decide 45 = .ok (.getfield 174, 3) := zo_180 (zi_at zh_dX13_decide_32_32 13 rfl) (zi_at zh_dX13_decide_32_32 14 rfl) (zi_at zh_dX13_decide_32_32 15 rfl) rfl
theorem dX13_decide_48 : decode cX13_decide 48 = .ok (.iload_n 1, 1) := zo_27 (zi_at zh_dX13_decide_48_48 0 rfl)
theorem dX13_decide_49 : decode cX13_decide 49 = .ok (.iaload, 1) := zo_46 (zi_at zh_dX13_decide_48_48 1 rfl)
theorem dX13_decide_50 : decode cX13_decide 50 = .ok (.iadd, 1) := zo_96 (zi_at zh_dX13_decide_48_48 2 rfl)
theorem dX13_decide_51 : decode cX13_decide 51 = .ok (.istore_n 3, 1) := zo_62 (zi_at zh_dX13_decide_48_48 3 rfl)
theorem dX13_decide_52 : decode cX13_decide 52 = .ok (.aload_n 0, 1) := zo_42 (zi_at zh_dX13_decide_48_48 4 rfl)
theorem dX13_decide_53 : decode cX13_decide 53 = .ok (.getfield 165, 3) := zo_180 (zi_at zh_dX13_decide_48_48 5 rfl) (zi_at zh_dX13_decide_48_48 6 rfl) (zi_at zh_dX13_decide_48_48 7 rfl) rfl
theorem dX13_decide_56 : decode cX13_decide 56 = .ok (.iload_n 3, 1) := zo_29 (zi_at zh_dX13_decide_48_48 8 rfl)
theorem dX13_decide_57 : decode cX13_decide 57 = .ok (.aload_n 0, 1) := zo_42 (zi_at zh_dX13_decide_48_48 9 rfl)
theorem dX13_decide_58 : decode cX13_decide 58 = .ok (.iload_n 1, 1) := zo_27 (zi_at zh_dX13_decide_48_48 10 rfl)
theorem dX13_decide_59 : decode cX13_decide 59 = .ok (.iconst 0, 1) := zo_3 (zi_at zh_dX13_decide_48_48 11 rfl)
theorem dX13_decide_60 : decode cX13_decide 60 = .ok (.aload_n 0, 1) := zo_42 (zi_at zh_dX13_decide_48_48 12 rfl)
theorem dX13_decide_61 : decode cX13_decide 61 = .ok (.getfield 232, 3) := zo_180 (zi_at zh_dX13_decide_48_48 13 rfl) (zi_at zh_dX13_decide_48_48 14 rfl) (zi_at zh_dX13_decide_48_48 15 rfl) rfl
theorem dX13_decide_64 : decode cX13_decide 64 = .ok (.invokevirtual 500, 3) := zo_182 (zi_at zh_dX13_decide_64_64 0 rfl) (zi_at zh_dX13_decide_64_64 1 rfl) (zi_at zh_dX13_decide_64_64 2 rfl) rfl
theorem dX13_decide_67 : decode cX13_decide 67 = .ok (.iconst 1, 1) := zo_4 (zi_at zh_dX13_decide_64_64 3 rfl)
theorem dX13_decide_68 : decode cX13_decide 68 = .ok (.if_icmp .ne 7, 3) := zo_160 (zi_at zh_dX13_decide_64_64 4 rfl) (zi_at zh_dX13_decide_64_64 5 rfl) (zi_at zh_dX13_decide_64_64 6 rfl) rfl
theorem dX13_decide_71 : decode cX13_decide 71 = .ok (.iconst 1, 1) := zo_4 (zi_at zh_dX13_decide_64_64 7 rfl)
theorem dX13_decide_72 : decode cX13_decide 72 = .ok (.goto 4, 3) := zo_167 (zi_at zh_dX13_decide_64_64 8 rfl) (zi_at zh_dX13_decide_64_64 9 rfl) (zi_at zh_dX13_decide_64_64 10 rfl) rfl
theorem dX13_decide_75 : decode cX13_decide 75 = .ok (.iconst 0, 1) := zo_3 (zi_at zh_dX13_decide_64_64 11 rfl)
theorem dX13_decide_76 : decode cX13_decide 76 = .ok (.aload_n 0, 1) := zo_42 (zi_at zh_dX13_decide_64_64 12 rfl)
theorem dX13_decide_77 : decode cX13_decide 77 = .ok (.iload_n 1, 1) := zo_27 (zi_at zh_dX13_decide_64_64 13 rfl)
theorem dX13_decide_78 : decode cX13_decide 78 = .ok (.iconst 1, 1) := zo_4 (zi_at zh_dX13_decide_64_64 14 rfl)
theorem dX13_decide_79 : decode cX13_decide 79 = .ok (.aload_n 0, 1) := zo_42 (zi_at zh_dX13_decide_64_64 15 rfl)
theorem dX13_decide_80 : decode cX13_decide 80 = .ok (.getfield 232, 3) := zo_180 (zi_at zh_dX13_decide_80_80 0 rfl) (zi_at zh_dX13_decide_80_80 1 rfl) (zi_at zh_dX13_decide_80_80 2 rfl) rfl
theorem dX13_decide_83 : decode cX13_decide 83 = .ok (.invokevirtual 500, 3) := zo_182 (zi_at zh_dX13_decide_80_80 3 rfl) (zi_at zh_dX13_decide_80_80 4 rfl) (zi_at zh_dX13_decide_80_80 5 rfl) rfl
theorem dX13_decide_86 : decode cX13_decide 86 = .ok (.iconst 1, 1) := zo_4 (zi_at zh_dX13_decide_80_80 6 rfl)
theorem dX13_decide_87 : decode cX13_decide 87 = .ok (.if_icmp .ne 7, 3) := zo_160 (zi_at zh_dX13_decide_80_80 7 rfl) (zi_at zh_dX13_decide_80_80 8 rfl) (zi_at zh_dX13_decide_80_80 9 rfl) rfl
theorem dX13_decide_90 : decode cX13_decide 90 = .ok (.iconst 2, 1) := zo_5 (zi_at zh_dX13_decide_80_80 10 rfl)
theorem dX13_decide_91 : decode cX13_decide 91 = .ok (.goto 4, 3) := zo_167 (zi_at zh_dX13_decide_80_80 11 rfl) (zi_at zh_dX13_decide_80_80 12 rfl) (zi_at zh_dX13_decide_80_80 13 rfl) rfl
theorem dX13_decide_94 : decode cX13_decide 94 = .ok (.iconst 0, 1) := zo_3 (zi_at zh_dX13_decide_80_80 14 rfl)
theorem dX13_decide_95 : decode cX13_decide 95 = .ok (.iadd, 1) := zo_96 (zi_at zh_dX13_decide_80_80 15 rfl)
theorem dX13_decide_96 : decode cX13_decide 96 = .ok (.iastore, 1) := zo_79 (zi_at zh_dX13_decide_96_96 0 rfl)
theorem dX13_decide_97 : decode cX13_decide 97 = .ok (.aload_n 0, 1) := zo_42 (zi_at zh_dX13_decide_96_96 1 rfl)
theorem dX13_decide_98 : decode cX13_decide 98 = .ok (.getfield 168, 3) := zo_180 (zi_at zh_dX13_decide_96_96 2 rfl) (zi_at zh_dX13_decide_96_96 3 rfl) (zi_at zh_dX13_decide_96_96 4 rfl) rfl
theorem dX13_decide_101 : decode cX13_decide 101 = .ok (.iload_n 3, 1) := zo_29 (zi_at zh_dX13_decide_96_96 5 rfl)
theorem dX13_decide_102 : decode cX13_decide 102 = .ok (.aload_n 0, 1) := zo_42 (zi_at zh_dX13_decide_96_96 6 rfl)
theorem dX13_decide_103 : decode cX13_decide 103 = .ok (.getfield 232, 3) := zo_180 (zi_at zh_dX13_decide_96_96 7 rfl) (zi_at zh_dX13_decide_96_96 8 rfl) (zi_at zh_dX13_decide_96_96 9 rfl) rfl
theorem dX13_decide_106 : decode cX13_decide 106 = .ok (.iastore, 1) := zo_79 (zi_at zh_dX13_decide_96_96 10 rfl)
theorem dX13_decide_107 : decode cX13_decide 107 = .ok (.aload_n 0, 1) := zo_42 (zi_at zh_dX13_decide_96_96 11 rfl)
theorem dX13_decide_108 : decode cX13_decide 108 = .ok (.getfield 171, 3) := zo_180 (zi_at zh_dX13_decide_96_96 12 rfl) (zi_at zh_dX13_decide_96_96 13 rfl) (zi_at zh_dX13_decide_96_96 14 rfl) rfl
theorem dX13_decide_111 : decode cX13_decide 111 = .ok (.iload_n 3, 1) := zo_29 (zi_at zh_dX13_decide_96_96 15 rfl)
theorem dX13_decide_112 : decode cX13_decide 112 = .ok (.sipush 1000, 3) := zo_17 (zi_at zh_dX13_decide_112_112 0 rfl) (zi_at zh_dX13_decide_112_112 1 rfl) (zi_at zh_dX13_decide_112_112 2 rfl) rfl
theorem dX13_decide_115 : decode cX13_decide 115 = .ok (.iastore, 1) := zo_79 (zi_at zh_dX13_decide_112_112 3 rfl)
theorem dX13_decide_116 : decode cX13_decide 116 = .ok (.aload_n 0, 1) := zo_42 (zi_at zh_dX13_decide_112_112 4 rfl)
theorem dX13_decide_117 : decode cX13_decide 117 = .ok (.getfield 174, 3) := zo_180 (zi_at zh_dX13_decide_112_112 5 rfl) (zi_at zh_dX13_decide_112_112 6 rfl) (zi_at zh_dX13_decide_112_112 7 rfl) rfl
theorem dX13_decide_120 : decode cX13_decide 120 = .ok (.iload_n 1, 1) := zo_27 (zi_at zh_dX13_decide_112_112 8 rfl)
theorem dX13_decide_121 : decode cX13_decide 121 = .ok (.dup2, 1) := zo_92 (zi_at zh_dX13_decide_112_112 9 rfl)
theorem dX13_decide_122 : decode cX13_decide 122 = .ok (.iaload, 1) := zo_46 (zi_at zh_dX13_decide_112_112 10 rfl)
theorem dX13_decide_123 : decode cX13_decide 123 = .ok (.iconst 1, 1) := zo_4 (zi_at zh_dX13_decide_112_112 11 rfl)
theorem dX13_decide_124 : decode cX13_decide 124 = .ok (.iadd, 1) := zo_96 (zi_at zh_dX13_decide_112_112 12 rfl)
theorem dX13_decide_125 : decode cX13_decide 125 = .ok (.iastore, 1) := zo_79 (zi_at zh_dX13_decide_112_112 13 rfl)
theorem dX13_decide_126 : decode cX13_decide 126 = .ok (.aload_n 0, 1) := zo_42 (zi_at zh_dX13_decide_112_112 14 rfl)
theorem dX13_decide_127 : decode cX13_decide 127 = .ok (.getfield 177, 3) := zo_180 (zi_at zh_dX13_decide_112_112 15 rfl) (zi_at zh_dX13_decide_127_128 0 rfl) (zi_at zh_dX13_decide_127_128 1 rfl) rfl
theorem dX13_decide_130 : decode cX13_decide 130 = .ok (.iload_n 1, 1) := zo_27 (zi_at zh_dX13_decide_127_128 2 rfl)
theorem dX13_decide_131 : decode cX13_decide 131 = .ok (.iconst 1, 1) := zo_4 (zi_at zh_dX13_decide_127_128 3 rfl)
theorem dX13_decide_132 : decode cX13_decide 132 = .ok (.bastore, 1) := zo_84 (zi_at zh_dX13_decide_127_128 4 rfl)
theorem dX13_decide_133 : decode cX13_decide 133 = .ok (.aload_n 0, 1) := zo_42 (zi_at zh_dX13_decide_127_128 5 rfl)
theorem dX13_decide_134 : decode cX13_decide 134 = .ok (.getfield 165, 3) := zo_180 (zi_at zh_dX13_decide_127_128 6 rfl) (zi_at zh_dX13_decide_127_128 7 rfl) (zi_at zh_dX13_decide_127_128 8 rfl) rfl
theorem dX13_decide_137 : decode cX13_decide 137 = .ok (.iload_n 3, 1) := zo_29 (zi_at zh_dX13_decide_127_128 9 rfl)
theorem dX13_decide_138 : decode cX13_decide 138 = .ok (.iaload, 1) := zo_46 (zi_at zh_dX13_decide_127_128 10 rfl)
theorem dX13_decide_139 : decode cX13_decide 139 = .ok (.ireturn, 1) := zo_172 (zi_at zh_dX13_decide_127_128 11 rfl)

def v_asksProtestV : List Cond := .code yX13_asksProtest cX13_asksProtest 4 (some .boolean) :: vA
abbrev rm_asksProtestV : Room := { frames := 4, cells := 0, slots := 0, locals := 160 }
def w_asksProtestV : Nat → Nat → Bool := wl [56, 57, 58, 59] [(0, 0)]
set_option maxHeartbeats 4000000 in
set_option maxRecDepth 100000 in
theorem q_asksProtestV (l : Launch) (dC : Nat → ClassId) (dI : Nat → Nat → Nat) (cT : Nat → ClassId) (ad : Nat → Nat) (E : Nat → va_E) (sz : Nat) (a0 : Int32) (a1 : Int32) (a2 : Int32) (hI0 : IX cT shM spM 72 ad E)  : Met l yX13_asksProtest v_asksProtestV rm_asksProtestV (va_Pc [.ref (ad 0), .int a0, .int a1, .int a2] (HW dC dI (TYM cT) 72 ad E sz)) (va_Qi (S := Nat → va_E) (fun r u => IX cT shM spM 72 ad u ∧ Kp w_asksProtestV E u ∧ ((r = 1 ∧ ((0 ≤ a0.toInt ∧ a0.toInt < (xi (E 0) 75).toInt) ∧ (0 ≤ a1.toInt ∧ a1.toInt ≤ 1) ∧ (0 ≤ a2.toInt ∧ a2.toInt ≤ (xi (E 0) 1).toInt) ∧ (xi (E 50) a0.toNatClampNeg).toInt ≤ a2.toInt) ∧ (AskM E u a0.toNatClampNeg a2)) ∨ (r = 0 ∧ (¬ ((0 ≤ a0.toInt ∧ a0.toInt < (xi (E 0) 75).toInt) ∧ (0 ≤ a1.toInt ∧ a1.toInt ≤ 1) ∧ (0 ≤ a2.toInt ∧ a2.toInt ≤ (xi (E 0) 1).toInt) ∧ (xi (E 50) a0.toNatClampNeg).toInt ≤ a2.toInt))))) (HB dC dI 72 ad) (va_A (WX 72 ad E) sz)) 0 0 (va_A (WX 72 ad E) sz) := by
  refine Met.ofW (cc := cX13_asksProtest) (maxL := 4) (ret := (some .boolean)) (by decide) rfl ?_
  intro p e s m args below meth c s₁ B hml hv
  obtain ⟨hargs, hsz, hP, hK, hD0, hEV⟩ := hv
  subst hsz
  have hx := B.exec
  have hb := B.bytes
  have hr := B.returns
  have hts := atoms_spec (ws := v_asksProtestV) B.pre
  have hown : s.vm.findClass RX13 = some m.cls := findClass_of_methodNamed B.named
  have hlocks := B.notSynchronized
  have hinX13 : ∀ w ∈ u_ws RX13 TX13 97, w ∈ v_asksProtestV := fun w h => vA_in _ w (in_X13 w h)
  generalize hAe : va_A (WX 72 ad E) s.heap.size = A at hEV ⊢
  have hA : ∀ q : Nat, s.heap.size ≤ q → A q := fun q h => by rw [← hAe]; exact Or.inr h
  have hD : va_D A (WX 72 ad E) := by rw [← hAe]; exact hD0.self
  have hS : va_S A s.heap s.heap [] := va_S.rf
  have hI := hI0
  have hKp : Kp w_asksProtestV E E := Kp.rf
  have hl := lv_entry ([.ref (ad 0), .int a0, .int a1, .int a2]) (n := 4) (Nat.le_of_ble_eq_true rfl)
  obtain ⟨Q, hQ⟩ : ∃ Q, Q = MQ below (va_Qi (S := Nat → va_E) (fun r u => IX cT shM spM 72 ad u ∧ Kp w_asksProtestV E u ∧ ((r = 1 ∧ ((0 ≤ a0.toInt ∧ a0.toInt < (xi (E 0) 75).toInt) ∧ (0 ≤ a1.toInt ∧ a1.toInt ≤ 1) ∧ (0 ≤ a2.toInt ∧ a2.toInt ≤ (xi (E 0) 1).toInt) ∧ (xi (E 50) a0.toNatClampNeg).toInt ≤ a2.toInt) ∧ (AskM E u a0.toNatClampNeg a2)) ∨ (r = 0 ∧ (¬ ((0 ≤ a0.toInt ∧ a0.toInt < (xi (E 0) 75).toInt) ∧ (0 ≤ a1.toInt ∧ a1.toInt ≤ 1) ∧ (0 ≤ a2.toInt ∧ a2.toInt ≤ (xi (E 0) 1).toInt) ∧ (xi (E 50) a0.toNatClampNeg).toInt ≤ a2.toInt))))) (HB dC dI 72 ad) (A)) args s 0 0 (A) := ⟨_, rfl⟩
  rw [← hQ, show entryFrame m args 4 = _ from (congrArg (fun z => entryFrame m z 4) hargs).trans (lg_entry_eq _ _ _)]
  generalize (lg_sl ([.ref (ad 0), .int a0, .int a1, .int a2]) ++ List.replicate (4 - (lg_sl ([.ref (ad 0), .int a0, .int a1, .int a2])).length) Slot.unset).toArray = ls at hl ⊢
  have hl : lv_has ls 4 [(0, .ref (ad 0)), (1, .int a0), (2, .int a1), (3, .int a2)] := hl
  refine lv_aload_n hx hb dX13_asksProtest_0 rfl (lv_at hl 0 rfl) ?_
  refine lv_iconst (v := 0) hx hb dX13_asksProtest_1 (by decide) ?_
  refine th_put (ci := 14) (C := RX13) (T := TX13) (N := 97) (v := .int 0) (ty := .int) hx hb hts hinX13 tyX13 tyX13_ok nmX13 hown hK hP (WX_D hD) hS hI 0 (Nat.le_of_ble_eq_true rfl) rfl rfl 0 (Nat.le_of_ble_eq_true rfl) (hts _ (vA_in _ _ (in_24 _ (zs4 (zs4 (zs1 (zs1 (zs0)))))))) (fun _ h9 => h9) rfl (by decide +kernel) rfl rfl (okI rfl (iv_w ln_0 (by decide))) dX13_asksProtest_2 (fun H locs E1 pw2 hI hP hS => ?_)
  have hKp := hKp.pw pw2 rfl
  refine lv_iload_n hx hb dX13_asksProtest_5 rfl (lv_at hl 1 rfl) ?_
  refine lv_iconst (v := 0) hx hb dX13_asksProtest_6 (by decide) ?_
  refine lv_aload_n hx hb dX13_asksProtest_7 rfl (lv_at hl 0 rfl) ?_
  have i3 : 0 ≤ (xi (E 0) 75).toInt ∧ (xi (E 0) 75).toInt ≤ 30 := hI0.iv 0 (Nat.le_of_ble_eq_true rfl) rfl (Nat.le_of_ble_eq_true rfl) rfl
  refine th_get (ci := 14) (C := RX13) (T := TX13) (N := 97) (v := .int (xi (E 0) 75)) hx hb hts hinX13 hown hK hP hI 0 (Nat.le_of_ble_eq_true rfl) rfl rfl 75 (Nat.le_of_ble_eq_true rfl) (hts _ (vA_in _ _ (in_25 _ (zs1 (zs0))))) (fun _ h9 => h9) (th_v0 hKp hI0 0 (Nat.le_of_ble_eq_true rfl) rfl (Nat.le_of_ble_eq_true rfl) rfl rfl) dX13_asksProtest_8 ?_
  refine lv_iconst (v := 1) hx hb dX13_asksProtest_11 (by decide) ?_
  refine lv_isub hx hb dX13_asksProtest_12 ?_
  refine lv_topi (fun y4 ey4 => ?_)
  obtain ⟨ty4, iy4⟩ := ti_sub (e := (-1)) (f := 29) i3 ln_1 ey4 (by decide)
  have ty4 : y4.toInt = (xi (E 0) 75).toInt - 1 := ty4
  have iy4 : -1 ≤ y4.toInt ∧ y4.toInt ≤ 29 := iy4
  refine th_pi (va_runS (As := [.int a0, .int 0, .int y4]) (rest := []) ⟨hx, hb, hml, hown, hts⟩ (q_isIn l a0 (0 : Int32) y4) (va_cwS 3 hts (gi_S (in_24 _ (zs16 (zs4 (zs4 (zs4 (zs0)))))) (in_24 _ (zs16 (zs4 (zs4 (zs4 (zs1 (zs0))))))) (in_24 _ (zs4 (zs4 (zs4 (zs1 (zs1 (zs1 (zs0)))))))) (in_24 _ (zs16 (zs4 (zs4 (zs4 (zs1 (zs1 (zs0))))))))) rfl rfl rfl hz_yX13_isIn_3 ⟨Nat.le_of_ble_eq_true rfl, Nat.le_of_ble_eq_true rfl⟩) ⟨fun _ _ _ _ q => q, fun _ _ _ => ⟨rfl, trivial⟩⟩ rfl rfl hl.1 rfl (lv_room (Nat.le_of_ble_eq_true rfl)) dX13_asksProtest_13 ⟨Nat.le_of_ble_eq_true rfl, Nat.le_of_ble_eq_true rfl⟩) hS (fun r5 H1 locs1 hw hk1 hS => ?_)
  have hP := ub_keep hP hk1
  generalize H1 = H at hP hS ⊢
  generalize locs1 = locs at hS ⊢
  rcases hw with hw | hw
  · -- isIn, case 0
    obtain ⟨rfl, f6⟩ := hw
    have t7 : (0 : Int) ≤ a0.toInt := f6.1
    have t8 : a0.toInt ≤ y4.toInt := f6.2
    have i9 : 0 ≤ a0.toInt ∧ a0.toInt ≤ 2147483647 := iv_le_r t7 (il_ 0) (iv_all _) (by decide)
    have i10 : 0 ≤ a0.toInt ∧ a0.toInt ≤ 29 := iv_le_l t8 i9 iy4 (by decide)
    have i11 : 0 ≤ y4.toInt ∧ y4.toInt ≤ 29 := iv_le_r t8 i9 iy4 (by decide)
    refine lv_if_eq (tgt := 46) hx hb dX13_asksProtest_16 (by decide) (fun c12 => ?_) (fun c12 => ?_)
    · --16 taken
      exact absurd c12 (by decide)
    · --16 not
      refine lv_iload_n hx hb dX13_asksProtest_19 rfl (lv_at hl 2 rfl) ?_
      refine lv_iconst (v := 0) hx hb dX13_asksProtest_20 (by decide) ?_
      refine lv_iconst (v := 1) hx hb dX13_asksProtest_21 (by decide) ?_
      refine th_pi (va_runS (As := [.int a1, .int 0, .int 1]) (rest := []) ⟨hx, hb, hml, hown, hts⟩ (q_isIn l a1 (0 : Int32) (1 : Int32)) (va_cwS 3 hts (gi_S (in_24 _ (zs16 (zs4 (zs4 (zs4 (zs0)))))) (in_24 _ (zs16 (zs4 (zs4 (zs4 (zs1 (zs0))))))) (in_24 _ (zs4 (zs4 (zs4 (zs1 (zs1 (zs1 (zs0)))))))) (in_24 _ (zs16 (zs4 (zs4 (zs4 (zs1 (zs1 (zs0))))))))) rfl rfl rfl hz_yX13_isIn_3 ⟨Nat.le_of_ble_eq_true rfl, Nat.le_of_ble_eq_true rfl⟩) ⟨fun _ _ _ _ q => q, fun _ _ _ => ⟨rfl, trivial⟩⟩ rfl rfl hl.1 rfl (lv_room (Nat.le_of_ble_eq_true rfl)) dX13_asksProtest_22 ⟨Nat.le_of_ble_eq_true rfl, Nat.le_of_ble_eq_true rfl⟩) hS (fun r13 H1 locs1 hw hk1 hS => ?_)
      have hP := ub_keep hP hk1
      generalize H1 = H at hP hS ⊢
      generalize locs1 = locs at hS ⊢
      rcases hw with hw | hw
      · -- isIn, case 0
        obtain ⟨rfl, f14⟩ := hw
        have t15 : (0 : Int) ≤ a1.toInt := f14.1
        have t16 : a1.toInt ≤ 1 := f14.2
        have i17 : 0 ≤ a1.toInt ∧ a1.toInt ≤ 2147483647 := iv_le_r t15 (il_ 0) (iv_all _) (by decide)
        have i18 : 0 ≤ a1.toInt ∧ a1.toInt ≤ 1 := iv_le_l t16 i17 (il_ 1) (by decide)
        refine lv_if_eq (tgt := 46) hx hb dX13_asksProtest_25 (by decide) (fun c19 => ?_) (fun c19 => ?_)
        · --25 taken
          exact absurd c19 (by decide)
        · --25 not
          refine lv_aload_n hx hb dX13_asksProtest_28 rfl (lv_at hl 0 rfl) ?_
          refine lv_iload_n hx hb dX13_asksProtest_29 rfl (lv_at hl 3 rfl) ?_
          refine th_ri (va_runV (As := [.int a2]) (rest := []) ⟨hx, hb, hml, hown, hts⟩ (q_isKnown l dC dI cT ad E1 H.size a2 hI) (cwV 1 hts (gi_V (in_24 _ (zs16 (zs4 (zs1 (zs1 (zs1 (zs0))))))) (in_24 _ (zs16 (zs4 (zs4 (zs0))))) (in_24 _ (zs16 (zs4 (zs4 (zs1 (zs0)))))) (in_24 _ (zs4 (zs4 (zs4 (zs1 (zs1 (zs1 (zs0)))))))) (in_24 _ (zs16 (zs4 (zs4 (zs1 (zs1 (zs0)))))))) rfl rfl rfl ⟨rfl, hz_yX13_isKnown_1⟩ ⟨Nat.le_of_ble_eq_true rfl, Nat.le_of_ble_eq_true rfl⟩) ⟨HW_bl, va_recv hK hP (ci := 14) (q0 := 0) rfl (hI.ob 0 (Nat.le_of_ble_eq_true rfl) rfl), (HW_wi hP hK (WX_D hD) hS hA hEV)⟩ rfl rfl hl.1 rfl (lv_room (Nat.le_of_ble_eq_true rfl)) dX13_asksProtest_30 ⟨Nat.le_of_ble_eq_true rfl, Nat.le_of_ble_eq_true rfl⟩) hS hP (fun r20 H locs hw hP hS => ?_)
          rcases hw with hw | hw
          · -- isKnown, case 0
            obtain ⟨rfl, f21⟩ := hw
            have i22 : 0 ≤ (xi (E 0) 1).toInt ∧ (xi (E 0) 1).toInt ≤ 400 := (show 0 ≤ (xi (E 0) 1).toInt ∧ (xi (E 0) 1).toInt ≤ 400 from hI0.iv 0 (Nat.le_of_ble_eq_true rfl) rfl (Nat.le_of_ble_eq_true rfl) rfl)
            try rw [hKp.ei 0 1 rfl] at f21
            have t23 : (0 : Int) ≤ a2.toInt := f21.1
            have t24 : a2.toInt ≤ (xi (E 0) 1).toInt := f21.2
            have i25 : 0 ≤ a2.toInt ∧ a2.toInt ≤ 2147483647 := iv_le_r t23 (il_ 0) (iv_all _) (by decide)
            have i26 : 0 ≤ a2.toInt ∧ a2.toInt ≤ 400 := iv_le_l t24 i25 i22 (by decide)
            refine lv_if_eq (tgt := 46) hx hb dX13_asksProtest_33 (by decide) (fun c27 => ?_) (fun c27 => ?_)
            · --33 taken
              exact absurd c27 (by decide)
            · --33 not
              refine lv_aload_n hx hb dX13_asksProtest_36 rfl (lv_at hl 0 rfl) ?_
              refine th_get (ci := 14) (C := RX13) (T := TX13) (N := 97) (v := .ref (ad 50)) hx hb hts hinX13 hown hK hP hI 0 (Nat.le_of_ble_eq_true rfl) rfl rfl 68 (Nat.le_of_ble_eq_true rfl) (hts _ (vA_in _ _ (in_25 _ (zs1 (zs1 (zs0)))))) (fun _ h9 => h9) (hI.fr 0 (Nat.le_of_ble_eq_true rfl) rfl (Nat.le_of_ble_eq_true rfl) 50 rfl) dX13_asksProtest_37 ?_
              refine lv_iload_n hx hb dX13_asksProtest_40 rfl (lv_at hl 1 rfl) ?_
              have n29 : vp_in a0 30 := (iv_in (n := 30) i10 (by decide))
              refine th_iald hx hb hK hP hI 50 (Nat.le_of_ble_eq_true rfl) rfl rfl n29 dX13_asksProtest_41 (fun y28 ey28 => ?_)
              have iy28 : 0 ≤ y28.toInt ∧ y28.toInt ≤ 400 := hI.el 50 (Nat.le_of_ble_eq_true rfl) rfl n29 (fun _ => rfl) ey28
              have ey28 := ey28.trans (hKp.ei 50 _ rfl)
              refine lv_iload_n hx hb dX13_asksProtest_42 rfl (lv_at hl 3 rfl) ?_
              refine lv_icmp_le (tgt := 48) hx hb dX13_asksProtest_43 (by decide) (fun c30 => ?_) (fun c30 => ?_)
              · --43 taken
                have t31 : y28.toInt ≤ a2.toInt := ti_le c30
                refine lv_aload_n hx hb dX13_asksProtest_48 rfl (lv_at hl 0 rfl) ?_
                refine lv_iconst (v := 0) hx hb dX13_asksProtest_49 (by decide) ?_
                refine lv_aload_n hx hb dX13_asksProtest_50 rfl (lv_at hl 0 rfl) ?_
                refine th_get (ci := 14) (C := RX13) (T := TX13) (N := 97) (v := .ref (ad 46)) hx hb hts hinX13 hown hK hP hI 0 (Nat.le_of_ble_eq_true rfl) rfl rfl 64 (Nat.le_of_ble_eq_true rfl) (hts _ (vA_in _ _ (in_25 _ (zs1 (zs1 (zs1 (zs0))))))) (fun _ h9 => h9) (hI.fr 0 (Nat.le_of_ble_eq_true rfl) rfl (Nat.le_of_ble_eq_true rfl) 46 rfl) dX13_asksProtest_51 ?_
                refine lv_iload_n hx hb dX13_asksProtest_54 rfl (lv_at hl 1 rfl) ?_
                have n33 : vp_in a0 30 := (iv_in (n := 30) i10 (by decide))
                refine th_iald hx hb hK hP hI 46 (Nat.le_of_ble_eq_true rfl) rfl rfl n33 dX13_asksProtest_55 (fun y32 ey32 => ?_)
                have iy32 : 0 ≤ y32.toInt ∧ y32.toInt ≤ 19 := hI.el 46 (Nat.le_of_ble_eq_true rfl) rfl n33 (fun _ => rfl) ey32
                have ey32 := ey32.trans (hKp.ei 46 _ rfl)
                refine lv_aload_n hx hb dX13_asksProtest_56 rfl (lv_at hl 0 rfl) ?_
                refine th_get (ci := 14) (C := RX13) (T := TX13) (N := 97) (v := .ref (ad 47)) hx hb hts hinX13 hown hK hP hI 0 (Nat.le_of_ble_eq_true rfl) rfl rfl 65 (Nat.le_of_ble_eq_true rfl) (hts _ (vA_in _ _ (in_25 _ (zs4 (zs0))))) (fun _ h9 => h9) (hI.fr 0 (Nat.le_of_ble_eq_true rfl) rfl (Nat.le_of_ble_eq_true rfl) 47 rfl) dX13_asksProtest_57 ?_
                refine lv_iload_n hx hb dX13_asksProtest_60 rfl (lv_at hl 1 rfl) ?_
                have n35 : vp_in a0 30 := (iv_in (n := 30) i10 (by decide))
                refine th_iald hx hb hK hP hI 47 (Nat.le_of_ble_eq_true rfl) rfl rfl n35 dX13_asksProtest_61 (fun y34 ey34 => ?_)
                have iy34 : 0 ≤ y34.toInt ∧ y34.toInt ≤ 15 := hI.el 47 (Nat.le_of_ble_eq_true rfl) rfl n35 (fun _ => rfl) ey34
                have ey34 := ey34.trans (hKp.ei 47 _ rfl)
                refine lv_aload_n hx hb dX13_asksProtest_62 rfl (lv_at hl 0 rfl) ?_
                refine th_get (ci := 14) (C := RX13) (T := TX13) (N := 97) (v := .ref (ad 49)) hx hb hts hinX13 hown hK hP hI 0 (Nat.le_of_ble_eq_true rfl) rfl rfl 67 (Nat.le_of_ble_eq_true rfl) (hts _ (vA_in _ _ (in_25 _ (zs4 (zs1 (zs0)))))) (fun _ h9 => h9) (hI.fr 0 (Nat.le_of_ble_eq_true rfl) rfl (Nat.le_of_ble_eq_true rfl) 49 rfl) dX13_asksProtest_63 ?_
                refine lv_iload_n hx hb dX13_asksProtest_66 rfl (lv_at hl 1 rfl) ?_
                have n37 : vp_in a0 30 := (iv_in (n := 30) i10 (by decide))
                refine th_iald hx hb hK hP hI 49 (Nat.le_of_ble_eq_true rfl) rfl rfl n37 dX13_asksProtest_67 (fun y36 ey36 => ?_)
                have iy36 : 0 ≤ y36.toInt ∧ y36.toInt ≤ 100000 := hI.el 49 (Nat.le_of_ble_eq_true rfl) rfl n37 (fun _ => rfl) ey36
                have ey36 := ey36.trans (hKp.ei 49 _ rfl)
                refine lv_iload_n hx hb dX13_asksProtest_68 rfl (lv_at hl 3 rfl) ?_
                have k38 : KdM E E1 := KdM.of hKp rfl rfl rfl
                refine th_v (va_runV (As := [.int 0, .int y32, .int y34, .int y36, .int a2]) (rest := []) ⟨hx, hb, hml, hown, hts⟩ (q_findStatesV l dC dI cT ad E1 H.size (0 : Int32) y32 y34 y36 a2 hI (iv_w ln_0 (by decide)) iy32 iy36) (cwV 5 hts (gi_V (in_25 _ (zs4 (zs1 (zs1 (zs1 (zs0)))))) (in_25 _ (zs4 (zs4 (zs0)))) (in_25 _ (zs4 (zs4 (zs1 (zs0))))) (in_24 _ (zs4 (zs4 (zs4 (zs1 (zs1 (zs1 (zs0)))))))) (in_25 _ (zs4 (zs4 (zs1 (zs1 (zs0))))))) rfl rfl rfl ⟨rfl, hz_yX13_findStates_5⟩ ⟨Nat.le_of_ble_eq_true rfl, Nat.le_of_ble_eq_true rfl⟩) ⟨HW_bl, va_recv hK hP (ci := 14) (q0 := 0) rfl (hI.ob 0 (Nat.le_of_ble_eq_true rfl) rfl), (HW_wi hP hK (WX_D hD) hS hA hEV)⟩ rfl rfl hl.1 rfl (lv_room (Nat.le_of_ble_eq_true rfl)) dX13_asksProtest_69 ⟨Nat.le_of_ble_eq_true rfl, Nat.le_of_ble_eq_true rfl⟩) (WX_D hD) hS hA (fun E40 H locs hw hP hS => ?_)
                obtain ⟨hI, kq41, hw⟩ := hw
                have hKb := hKp
                have hKp := hKp.tr kq41 (wl_sub rfl rfl)
                have f42 := hw
                have k43 : 0 ≤ (xi (E40 59) 0).toInt ∧ (xi (E40 59) 0).toInt ≤ 128 := hI.iv 59 (Nat.le_of_ble_eq_true rfl) rfl (Nat.le_of_ble_eq_true rfl) rfl
                refine lv_aload_n hx hb dX13_asksProtest_72 rfl (lv_at hl 0 rfl) ?_
                refine lv_iconst (v := 1) hx hb dX13_asksProtest_73 (by decide) ?_
                refine lv_aload_n hx hb dX13_asksProtest_74 rfl (lv_at hl 0 rfl) ?_
                refine th_get (ci := 14) (C := RX13) (T := TX13) (N := 97) (v := .ref (ad 46)) hx hb hts hinX13 hown hK hP hI 0 (Nat.le_of_ble_eq_true rfl) rfl rfl 64 (Nat.le_of_ble_eq_true rfl) (hts _ (vA_in _ _ (in_25 _ (zs1 (zs1 (zs1 (zs0))))))) (fun _ h9 => h9) (hI.fr 0 (Nat.le_of_ble_eq_true rfl) rfl (Nat.le_of_ble_eq_true rfl) 46 rfl) dX13_asksProtest_75 ?_
                refine lv_iload_n hx hb dX13_asksProtest_78 rfl (lv_at hl 1 rfl) ?_
                have n45 : vp_in a0 30 := (iv_in (n := 30) i10 (by decide))
                refine th_iald hx hb hK hP hI 46 (Nat.le_of_ble_eq_true rfl) rfl rfl n45 dX13_asksProtest_79 (fun y44 ey44 => ?_)
                have iy44 : 0 ≤ y44.toInt ∧ y44.toInt ≤ 19 := hI.el 46 (Nat.le_of_ble_eq_true rfl) rfl n45 (fun _ => rfl) ey44
                have ey44 := ey44.trans (hKp.ei 46 _ rfl)
                refine lv_aload_n hx hb dX13_asksProtest_80 rfl (lv_at hl 0 rfl) ?_
                refine th_get (ci := 14) (C := RX13) (T := TX13) (N := 97) (v := .ref (ad 48)) hx hb hts hinX13 hown hK hP hI 0 (Nat.le_of_ble_eq_true rfl) rfl rfl 66 (Nat.le_of_ble_eq_true rfl) (hts _ (vA_in _ _ (in_25 _ (zs4 (zs1 (zs1 (zs0))))))) (fun _ h9 => h9) (hI.fr 0 (Nat.le_of_ble_eq_true rfl) rfl (Nat.le_of_ble_eq_true rfl) 48 rfl) dX13_asksProtest_81 ?_
                refine lv_iload_n hx hb dX13_asksProtest_84 rfl (lv_at hl 1 rfl) ?_
                have n47 : vp_in a0 30 := (iv_in (n := 30) i10 (by decide))
                refine th_iald hx hb hK hP hI 48 (Nat.le_of_ble_eq_true rfl) rfl rfl n47 dX13_asksProtest_85 (fun y46 ey46 => ?_)
                have iy46 : 0 ≤ y46.toInt ∧ y46.toInt ≤ 15 := hI.el 48 (Nat.le_of_ble_eq_true rfl) rfl n47 (fun _ => rfl) ey46
                have ey46 := ey46.trans (hKp.ei 48 _ rfl)
                refine lv_aload_n hx hb dX13_asksProtest_86 rfl (lv_at hl 0 rfl) ?_
                refine th_get (ci := 14) (C := RX13) (T := TX13) (N := 97) (v := .ref (ad 49)) hx hb hts hinX13 hown hK hP hI 0 (Nat.le_of_ble_eq_true rfl) rfl rfl 67 (Nat.le_of_ble_eq_true rfl) (hts _ (vA_in _ _ (in_25 _ (zs4 (zs1 (zs0)))))) (fun _ h9 => h9) (hI.fr 0 (Nat.le_of_ble_eq_true rfl) rfl (Nat.le_of_ble_eq_true rfl) 49 rfl) dX13_asksProtest_87 ?_
                refine lv_iload_n hx hb dX13_asksProtest_90 rfl (lv_at hl 1 rfl) ?_
                have n49 : vp_in a0 30 := (iv_in (n := 30) i10 (by decide))
                refine th_iald hx hb hK hP hI 49 (Nat.le_of_ble_eq_true rfl) rfl rfl n49 dX13_asksProtest_91 (fun y48 ey48 => ?_)
                have iy48 : 0 ≤ y48.toInt ∧ y48.toInt ≤ 100000 := hI.el 49 (Nat.le_of_ble_eq_true rfl) rfl n49 (fun _ => rfl) ey48
                have ey48 := ey48.trans (hKp.ei 49 _ rfl)
                refine lv_iload_n hx hb dX13_asksProtest_92 rfl (lv_at hl 3 rfl) ?_
                have k50 : KdM E E40 := KdM.of hKp rfl rfl rfl
                refine th_v (va_runV (As := [.int 1, .int y44, .int y46, .int y48, .int a2]) (rest := []) ⟨hx, hb, hml, hown, hts⟩ (q_findStatesV l dC dI cT ad E40 H.size (1 : Int32) y44 y46 y48 a2 hI (iv_w ln_1 (by decide)) iy44 iy48) (cwV 5 hts (gi_V (in_25 _ (zs4 (zs1 (zs1 (zs1 (zs0)))))) (in_25 _ (zs4 (zs4 (zs0)))) (in_25 _ (zs4 (zs4 (zs1 (zs0))))) (in_24 _ (zs4 (zs4 (zs4 (zs1 (zs1 (zs1 (zs0)))))))) (in_25 _ (zs4 (zs4 (zs1 (zs1 (zs0))))))) rfl rfl rfl ⟨rfl, hz_yX13_findStates_5⟩ ⟨Nat.le_of_ble_eq_true rfl, Nat.le_of_ble_eq_true rfl⟩) ⟨HW_bl, va_recv hK hP (ci := 14) (q0 := 0) rfl (hI.ob 0 (Nat.le_of_ble_eq_true rfl) rfl), (HW_wi hP hK (WX_D hD) hS hA hEV)⟩ rfl rfl hl.1 rfl (lv_room (Nat.le_of_ble_eq_true rfl)) dX13_asksProtest_93 ⟨Nat.le_of_ble_eq_true rfl, Nat.le_of_ble_eq_true rfl⟩) (WX_D hD) hS hA (fun E52 H locs hw hP hS => ?_)
                obtain ⟨hI, kq53, hw⟩ := hw
                have hKb := hKp
                have hKp := hKp.tr kq53 (wl_sub rfl rfl)
                have f54 := hw
                refine lv_iconst (v := 1) hx hb dX13_asksProtest_96 (by decide) ?_
                rw [hQ]
                exact W.zret (v := 1) hx hb hr rfl (fun t ht hW => ⟨⟨1, E52, rfl, ⟨hI, hKp, Or.inl ⟨rfl, by have gy28 := congrArg Int32.toInt ey28; have gy32 := congrArg Int32.toInt ey32; have gy34 := congrArg Int32.toInt ey34; have gy36 := congrArg Int32.toInt ey36; have gy44 := congrArg Int32.toInt ey44; have gy46 := congrArg Int32.toInt ey46; have gy48 := congrArg Int32.toInt ey48; all_goals omega, (AskM.of f42 f54 k38 k50 (by first | rfl | (unfold nWM; rw [k38.2.2])) (by first | rfl | (unfold nWM; rw [k50.2.2])) ey32 ey34 ey36 ey44 ey46 ey48 k43.2)⟩⟩, by show va_P (dC, dI) vwCl (WX 72 ad E52) t.heap; rw [ht]; exact hP⟩, hS.F ht⟩) hS.2.2 dX13_asksProtest_97
              · --43 not
                have t55 : a2.toInt < y28.toInt := ti_nle c30
                have i56 : 0 ≤ a2.toInt ∧ a2.toInt ≤ 399 := iv_lt_l t55 i26 iy28 (by decide)
                have i57 : 1 ≤ y28.toInt ∧ y28.toInt ≤ 400 := iv_lt_r t55 i26 iy28 (by decide)
                refine lv_iconst (v := 0) hx hb dX13_asksProtest_46 (by decide) ?_
                rw [hQ]
                exact W.zret (v := 0) hx hb hr rfl (fun t ht hW => ⟨⟨0, E1, rfl, ⟨hI, hKp, Or.inr (⟨rfl, by have gy28 := congrArg Int32.toInt ey28; all_goals omega⟩)⟩, by show va_P (dC, dI) vwCl (WX 72 ad E1) t.heap; rw [ht]; exact hP⟩, hS.F ht⟩) hS.2.2 dX13_asksProtest_47
          · -- isKnown, case 1
            obtain ⟨rfl, f58⟩ := hw
            have i59 : 0 ≤ (xi (E 0) 1).toInt ∧ (xi (E 0) 1).toInt ≤ 400 := (show 0 ≤ (xi (E 0) 1).toInt ∧ (xi (E 0) 1).toInt ≤ 400 from hI0.iv 0 (Nat.le_of_ble_eq_true rfl) rfl (Nat.le_of_ble_eq_true rfl) rfl)
            try rw [hKp.ei 0 1 rfl] at f58
            have t60 : ¬ ((0 : Int) ≤ a2.toInt ∧ a2.toInt ≤ (xi (E 0) 1).toInt) := f58
            refine lv_if_eq (tgt := 46) hx hb dX13_asksProtest_33 (by decide) (fun c61 => ?_) (fun c61 => ?_)
            · --33 taken
              refine lv_iconst (v := 0) hx hb dX13_asksProtest_46 (by decide) ?_
              rw [hQ]
              exact W.zret (v := 0) hx hb hr rfl (fun t ht hW => ⟨⟨0, E1, rfl, ⟨hI, hKp, Or.inr (⟨rfl, by all_goals omega⟩)⟩, by show va_P (dC, dI) vwCl (WX 72 ad E1) t.heap; rw [ht]; exact hP⟩, hS.F ht⟩) hS.2.2 dX13_asksProtest_47
            · --33 not
              exact absurd c61 (by decide)
      · -- isIn, case 1
        obtain ⟨rfl, f62⟩ := hw
        have t63 : ¬ ((0 : Int) ≤ a1.toInt ∧ a1.toInt ≤ 1) := f62
        refine lv_if_eq (tgt := 46) hx hb dX13_asksProtest_25 (by decide) (fun c64 => ?_) (fun c64 => ?_)
        · --25 taken
          refine lv_iconst (v := 0) hx hb dX13_asksProtest_46 (by decide) ?_
          rw [hQ]
          exact W.zret (v := 0) hx hb hr rfl (fun t ht hW => ⟨⟨0, E1, rfl, ⟨hI, hKp, Or.inr (⟨rfl, by all_goals omega⟩)⟩, by show va_P (dC, dI) vwCl (WX 72 ad E1) t.heap; rw [ht]; exact hP⟩, hS.F ht⟩) hS.2.2 dX13_asksProtest_47
        · --25 not
          exact absurd c64 (by decide)
  · -- isIn, case 1
    obtain ⟨rfl, f65⟩ := hw
    have t66 : ¬ ((0 : Int) ≤ a0.toInt ∧ a0.toInt ≤ y4.toInt) := f65
    refine lv_if_eq (tgt := 46) hx hb dX13_asksProtest_16 (by decide) (fun c67 => ?_) (fun c67 => ?_)
    · --16 taken
      refine lv_iconst (v := 0) hx hb dX13_asksProtest_46 (by decide) ?_
      rw [hQ]
      exact W.zret (v := 0) hx hb hr rfl (fun t ht hW => ⟨⟨0, E1, rfl, ⟨hI, hKp, Or.inr (⟨rfl, by all_goals omega⟩)⟩, by show va_P (dC, dI) vwCl (WX 72 ad E1) t.heap; rw [ht]; exact hP⟩, hS.F ht⟩) hS.2.2 dX13_asksProtest_47
    · --16 not
      exact absurd c67 (by decide)
def v_decideV : List Cond := .code yX13_decide cX13_decide 4 (some .int) :: vA
abbrev rm_decideV : Room := { frames := 72, cells := 0, slots := 0, locals := 2880 }
def w_decideV : Nat → Nat → Bool := wl [12, 51, 52, 53, 54, 55, 56, 57, 58, 59] [(0, 0), (0, 18), (0, 19), (0, 20), (0, 21), (0, 22), (0, 23), (0, 24), (0, 25), (0, 26)]
set_option maxHeartbeats 4000000 in
set_option maxRecDepth 100000 in
theorem q_decideV (l : Launch) (dC : Nat → ClassId) (dI : Nat → Nat → Nat) (cT : Nat → ClassId) (ad : Nat → Nat) (E : Nat → va_E) (sz : Nat) (a0 : Int32) (hI0 : IX cT shM spM 72 ad E) (hh0 : DIr (xi (E 55)) (xi (E 54))) (hh1 : TXM E) : Met l yX13_decide v_decideV rm_decideV (va_Pc [.ref (ad 0), .int a0] (HW dC dI (TYM cT) 72 ad E sz)) (va_Qi (S := Nat → va_E) (fun r u => IX cT shM spM 72 ad u ∧ Kp w_decideV E u ∧ (((0 ≤ r.toInt ∧ r.toInt ≤ 3) ∧ (((0 ≤ a0.toInt ∧ a0.toInt < (xi (E 0) 75).toInt) ∧ (xi (E 55) a0.toNatClampNeg).toInt = 0) ∧ ((xi (E 50) a0.toNatClampNeg).toInt ≤ (xi (E 0) 1).toInt → (r.toInt % 2 = 1 ↔ MSure E a0.toNatClampNeg 0 (xi (E 0) 1)) ∧ (r.toInt / 2 = 1 ↔ MSure E a0.toNatClampNeg 1 (xi (E 0) 1)))) ∧ (xi (u 55) = upd (xi (E 55)) a0.toNatClampNeg 1 ∧ xi (u 54) = upd (xi (E 54)) a0.toNatClampNeg (xi (E 54) a0.toNatClampNeg + 1) ∧ xi (u 51) = upd (xi (E 51)) (2 * a0.toInt + (xi (E 54) a0.toNatClampNeg).toInt).toNat r ∧ xi (u 52) = upd (xi (E 52)) (2 * a0.toInt + (xi (E 54) a0.toNatClampNeg).toInt).toNat (xi (E 0) 1) ∧ xi (u 53) = upd (xi (E 53)) (2 * a0.toInt + (xi (E 54) a0.toNatClampNeg).toInt).toNat 1000) ∧ (DIr (xi (u 55)) (xi (u 54)))) ∨ (r = -1 ∧ (¬ ((0 ≤ a0.toInt ∧ a0.toInt < (xi (E 0) 75).toInt) ∧ (xi (E 55) a0.toNatClampNeg).toInt = 0)) ∧ (xi (u 55) = xi (E 55) ∧ xi (u 54) = xi (E 54) ∧ xi (u 51) = xi (E 51) ∧ xi (u 52) = xi (E 52) ∧ xi (u 53) = xi (E 53)) ∧ (DIr (xi (u 55)) (xi (u 54)))))) (HB dC dI 72 ad) (va_A (WX 72 ad E) sz)) 0 0 (va_A (WX 72 ad E) sz) := by
  refine Met.ofW (cc := cX13_decide) (maxL := 4) (ret := (some .int)) (by decide) rfl ?_
  intro p e s m args below meth c s₁ B hml hv
  obtain ⟨hargs, hsz, hP, hK, hD0, hEV⟩ := hv
  subst hsz
  have hx := B.exec
  have hb := B.bytes
  have hr := B.returns
  have hts := atoms_spec (ws := v_decideV) B.pre
  have hown : s.vm.findClass RX13 = some m.cls := findClass_of_methodNamed B.named
  have hlocks := B.notSynchronized
  have hinX13 : ∀ w ∈ u_ws RX13 TX13 97, w ∈ v_decideV := fun w h => vA_in _ w (in_X13 w h)
  generalize hAe : va_A (WX 72 ad E) s.heap.size = A at hEV ⊢
  have hA : ∀ q : Nat, s.heap.size ≤ q → A q := fun q h => by rw [← hAe]; exact Or.inr h
  have hD : va_D A (WX 72 ad E) := by rw [← hAe]; exact hD0.self
  have hS : va_S A s.heap s.heap [] := va_S.rf
  have hI := hI0
  have hKp : Kp w_decideV E E := Kp.rf
  have hl := lv_entry ([.ref (ad 0), .int a0]) (n := 4) (Nat.le_of_ble_eq_true rfl)
  obtain ⟨Q, hQ⟩ : ∃ Q, Q = MQ below (va_Qi (S := Nat → va_E) (fun r u => IX cT shM spM 72 ad u ∧ Kp w_decideV E u ∧ (((0 ≤ r.toInt ∧ r.toInt ≤ 3) ∧ (((0 ≤ a0.toInt ∧ a0.toInt < (xi (E 0) 75).toInt) ∧ (xi (E 55) a0.toNatClampNeg).toInt = 0) ∧ ((xi (E 50) a0.toNatClampNeg).toInt ≤ (xi (E 0) 1).toInt → (r.toInt % 2 = 1 ↔ MSure E a0.toNatClampNeg 0 (xi (E 0) 1)) ∧ (r.toInt / 2 = 1 ↔ MSure E a0.toNatClampNeg 1 (xi (E 0) 1)))) ∧ (xi (u 55) = upd (xi (E 55)) a0.toNatClampNeg 1 ∧ xi (u 54) = upd (xi (E 54)) a0.toNatClampNeg (xi (E 54) a0.toNatClampNeg + 1) ∧ xi (u 51) = upd (xi (E 51)) (2 * a0.toInt + (xi (E 54) a0.toNatClampNeg).toInt).toNat r ∧ xi (u 52) = upd (xi (E 52)) (2 * a0.toInt + (xi (E 54) a0.toNatClampNeg).toInt).toNat (xi (E 0) 1) ∧ xi (u 53) = upd (xi (E 53)) (2 * a0.toInt + (xi (E 54) a0.toNatClampNeg).toInt).toNat 1000) ∧ (DIr (xi (u 55)) (xi (u 54)))) ∨ (r = -1 ∧ (¬ ((0 ≤ a0.toInt ∧ a0.toInt < (xi (E 0) 75).toInt) ∧ (xi (E 55) a0.toNatClampNeg).toInt = 0)) ∧ (xi (u 55) = xi (E 55) ∧ xi (u 54) = xi (E 54) ∧ xi (u 51) = xi (E 51) ∧ xi (u 52) = xi (E 52) ∧ xi (u 53) = xi (E 53)) ∧ (DIr (xi (u 55)) (xi (u 54)))))) (HB dC dI 72 ad) (A)) args s 0 0 (A) := ⟨_, rfl⟩
  rw [← hQ, show entryFrame m args 4 = _ from (congrArg (fun z => entryFrame m z 4) hargs).trans (lg_entry_eq _ _ _)]
  generalize (lg_sl ([.ref (ad 0), .int a0]) ++ List.replicate (4 - (lg_sl ([.ref (ad 0), .int a0])).length) Slot.unset).toArray = ls at hl ⊢
  have hl : lv_has ls 4 [(0, .ref (ad 0)), (1, .int a0)] := hl
  obtain ⟨g1, hg1⟩ : ∃ g, xi (E 55) = g := ⟨_, rfl⟩
  obtain ⟨g2, hg2⟩ : ∃ g, xi (E 54) = g := ⟨_, rfl⟩
  obtain ⟨g3, hg3⟩ : ∃ g, xi (E 51) = g := ⟨_, rfl⟩
  obtain ⟨g4, hg4⟩ : ∃ g, xi (E 52) = g := ⟨_, rfl⟩
  obtain ⟨g5, hg5⟩ : ∃ g, xi (E 53) = g := ⟨_, rfl⟩
  have hDI : DIr g1 g2 := by rw [← hg1, ← hg2]; exact hh0
  refine lv_aload_n hx hb dX13_decide_0 rfl (lv_at hl 0 rfl) ?_
  refine lv_iconst (v := 0) hx hb dX13_decide_1 (by decide) ?_
  refine th_put (ci := 14) (C := RX13) (T := TX13) (N := 97) (v := .int 0) (ty := .int) hx hb hts hinX13 tyX13 tyX13_ok nmX13 hown hK hP (WX_D hD) hS hI 0 (Nat.le_of_ble_eq_true rfl) rfl rfl 0 (Nat.le_of_ble_eq_true rfl) (hts _ (vA_in _ _ (in_24 _ (zs4 (zs4 (zs1 (zs1 (zs0)))))))) (fun _ h9 => h9) rfl (by decide +kernel) rfl rfl (okI rfl (iv_w ln_0 (by decide))) dX13_decide_2 (fun H locs E6 pw7 hI hP hS => ?_)
  have hKp := hKp.pw pw7 rfl
  refine lv_iload_n hx hb dX13_decide_5 rfl (lv_at hl 1 rfl) ?_
  refine lv_iconst (v := 0) hx hb dX13_decide_6 (by decide) ?_
  refine lv_aload_n hx hb dX13_decide_7 rfl (lv_at hl 0 rfl) ?_
  have i8 : 0 ≤ (xi (E 0) 75).toInt ∧ (xi (E 0) 75).toInt ≤ 30 := hI0.iv 0 (Nat.le_of_ble_eq_true rfl) rfl (Nat.le_of_ble_eq_true rfl) rfl
  refine th_get (ci := 14) (C := RX13) (T := TX13) (N := 97) (v := .int (xi (E 0) 75)) hx hb hts hinX13 hown hK hP hI 0 (Nat.le_of_ble_eq_true rfl) rfl rfl 75 (Nat.le_of_ble_eq_true rfl) (hts _ (vA_in _ _ (in_25 _ (zs1 (zs0))))) (fun _ h9 => h9) (th_v0 hKp hI0 0 (Nat.le_of_ble_eq_true rfl) rfl (Nat.le_of_ble_eq_true rfl) rfl rfl) dX13_decide_8 ?_
  refine lv_iconst (v := 1) hx hb dX13_decide_11 (by decide) ?_
  refine lv_isub hx hb dX13_decide_12 ?_
  refine lv_topi (fun y9 ey9 => ?_)
  obtain ⟨ty9, iy9⟩ := ti_sub (e := (-1)) (f := 29) i8 ln_1 ey9 (by decide)
  have ty9 : y9.toInt = (xi (E 0) 75).toInt - 1 := ty9
  have iy9 : -1 ≤ y9.toInt ∧ y9.toInt ≤ 29 := iy9
  refine th_pi (va_runS (As := [.int a0, .int 0, .int y9]) (rest := []) ⟨hx, hb, hml, hown, hts⟩ (q_isIn l a0 (0 : Int32) y9) (va_cwS 3 hts (gi_S (in_24 _ (zs16 (zs4 (zs4 (zs4 (zs0)))))) (in_24 _ (zs16 (zs4 (zs4 (zs4 (zs1 (zs0))))))) (in_24 _ (zs4 (zs4 (zs4 (zs1 (zs1 (zs1 (zs0)))))))) (in_24 _ (zs16 (zs4 (zs4 (zs4 (zs1 (zs1 (zs0))))))))) rfl rfl rfl hz_yX13_isIn_3 ⟨Nat.le_of_ble_eq_true rfl, Nat.le_of_ble_eq_true rfl⟩) ⟨fun _ _ _ _ q => q, fun _ _ _ => ⟨rfl, trivial⟩⟩ rfl rfl hl.1 rfl (lv_room (Nat.le_of_ble_eq_true rfl)) dX13_decide_13 ⟨Nat.le_of_ble_eq_true rfl, Nat.le_of_ble_eq_true rfl⟩) hS (fun r10 H1 locs1 hw hk1 hS => ?_)
  have hP := ub_keep hP hk1
  generalize H1 = H at hP hS ⊢
  generalize locs1 = locs at hS ⊢
  rcases hw with hw | hw
  · -- isIn, case 0
    obtain ⟨rfl, f11⟩ := hw
    have t12 : (0 : Int) ≤ a0.toInt := f11.1
    have t13 : a0.toInt ≤ y9.toInt := f11.2
    have i14 : 0 ≤ a0.toInt ∧ a0.toInt ≤ 2147483647 := iv_le_r t12 (il_ 0) (iv_all _) (by decide)
    have i15 : 0 ≤ a0.toInt ∧ a0.toInt ≤ 29 := iv_le_l t13 i14 iy9 (by decide)
    have i16 : 0 ≤ y9.toInt ∧ y9.toInt ≤ 29 := iv_le_r t13 i14 iy9 (by decide)
    refine lv_if_eq (tgt := 28) hx hb dX13_decide_16 (by decide) (fun c17 => ?_) (fun c17 => ?_)
    · --16 taken
      exact absurd c17 (by decide)
    · --16 not
      refine lv_aload_n hx hb dX13_decide_19 rfl (lv_at hl 0 rfl) ?_
      refine th_get (ci := 14) (C := RX13) (T := TX13) (N := 97) (v := .ref (ad 55)) hx hb hts hinX13 hown hK hP hI 0 (Nat.le_of_ble_eq_true rfl) rfl rfl 73 (Nat.le_of_ble_eq_true rfl) (hts _ (vA_in _ _ (in_30 _ (zs16 (zs4 (zs4 (zs0))))))) (fun _ h9 => h9) (hI.fr 0 (Nat.le_of_ble_eq_true rfl) rfl (Nat.le_of_ble_eq_true rfl) 55 rfl) dX13_decide_20 ?_
      refine lv_iload_n hx hb dX13_decide_23 rfl (lv_at hl 1 rfl) ?_
      have n19 : vp_in a0 30 := (iv_in (n := 30) i15 (by decide))
      refine th_zald hx hb hK hP hI 55 (Nat.le_of_ble_eq_true rfl) rfl rfl n19 dX13_decide_24 (fun y18 ey18 => ?_)
      have iy18 : 0 ≤ y18.toInt ∧ y18.toInt ≤ 1 := hI.el 55 (Nat.le_of_ble_eq_true rfl) rfl n19 (fun _ => rfl) ey18
      have ey18 := ey18.trans (congrFun ((pw7.ef 55 (Nat.ne_of_beq_eq_false rfl)).trans hg1) _)
      refine lv_if_eq (tgt := 30) hx hb dX13_decide_25 (by decide) (fun c20 => ?_) (fun c20 => ?_)
      · --25 taken
        have t21 : y18.toInt = 0 := ti_eq c20
        have i22 : 0 ≤ y18.toInt ∧ y18.toInt ≤ 0 := iv_eqi t21 iy18 (il_ 0) (by decide)
        refine lv_aload_n hx hb dX13_decide_30 rfl (lv_at hl 0 rfl) ?_
        refine lv_iload_n hx hb dX13_decide_31 rfl (lv_at hl 1 rfl) ?_
        refine lv_iconst (v := 0) hx hb dX13_decide_32 (by decide) ?_
        refine lv_aload_n hx hb dX13_decide_33 rfl (lv_at hl 0 rfl) ?_
        have i23 : 0 ≤ (xi (E 0) 1).toInt ∧ (xi (E 0) 1).toInt ≤ 400 := hI0.iv 0 (Nat.le_of_ble_eq_true rfl) rfl (Nat.le_of_ble_eq_true rfl) rfl
        refine th_get (ci := 14) (C := RX13) (T := TX13) (N := 97) (v := .int (xi (E 0) 1)) hx hb hts hinX13 hown hK hP hI 0 (Nat.le_of_ble_eq_true rfl) rfl rfl 1 (Nat.le_of_ble_eq_true rfl) (hts _ (vA_in _ _ (in_24 _ (zs16 (zs4 (zs4 (zs1 (zs1 (zs1 (zs0)))))))))) (fun _ h9 => h9) (th_v0 hKp hI0 0 (Nat.le_of_ble_eq_true rfl) rfl (Nat.le_of_ble_eq_true rfl) rfl rfl) dX13_decide_34 ?_
        have k24 : KdM E E6 := KdM.of hKp rfl rfl rfl
        refine th_i (va_runV (As := [.int a0, .int 0, .int (xi (E 0) 1)]) (rest := []) ⟨hx, hb, hml, hown, hts⟩ (q_asksProtestV l dC dI cT ad E6 H.size a0 (0 : Int32) (xi (E 0) 1) hI) (cwV 3 hts (gi_V (in_30 _ (zs16 (zs4 (zs4 (zs1 (zs0)))))) (in_30 _ (zs16 (zs4 (zs4 (zs1 (zs1 (zs0))))))) (in_30 _ (zs16 (zs4 (zs4 (zs1 (zs1 (zs1 (zs0)))))))) (in_24 _ (zs4 (zs4 (zs4 (zs1 (zs1 (zs1 (zs0)))))))) (in_25 _ zs0)) rfl rfl rfl ⟨rfl, hz_yX13_asksProtest_3⟩ ⟨Nat.le_of_ble_eq_true rfl, Nat.le_of_ble_eq_true rfl⟩) ⟨HW_bl, va_recv hK hP (ci := 14) (q0 := 0) rfl (hI.ob 0 (Nat.le_of_ble_eq_true rfl) rfl), (HW_wi hP hK (WX_D hD) hS hA hEV)⟩ rfl rfl hl.1 rfl (lv_room (Nat.le_of_ble_eq_true rfl)) dX13_decide_37 ⟨Nat.le_of_ble_eq_true rfl, Nat.le_of_ble_eq_true rfl⟩) (WX_D hD) hS hA (fun r25 E26 H locs hw hP hS => ?_)
        obtain ⟨hI, kq27, hw⟩ := hw
        have hKb := hKp
        have hKp := hKp.tr kq27 (wl_sub rfl rfl)
        rcases hw with hw | hw
        · -- asksProtestV, case 0
          obtain ⟨rfl, f28, f29⟩ := hw
          try rw [hKb.ei 0 75 rfl] at f28
          try rw [hKb.ei 0 1 rfl] at f28
          have k30 := f29.cg k24
          refine lv_istore_n (lv' := [(2, .int 1), (0, .ref (ad 0)), (1, .int a0)]) hx hb dX13_decide_40 rfl hl (by decide) rfl (fun ls hl => ?_)
          refine lv_iconst (v := 2) hx hb dX13_decide_41 (by decide) ?_
          refine lv_iload_n hx hb dX13_decide_42 rfl (lv_at hl 2 rfl) ?_
          refine lv_imul hx hb dX13_decide_43 ?_
          refine lv_topi (fun y31 ey31 => ?_)
          obtain ⟨ty31, iy31⟩ := ti_mul (e := 0) (f := 58) ln_2 i15 ey31 (by decide)
          have ty31 : y31.toInt = 2 * a0.toInt := ty31
          have iy31 : 0 ≤ y31.toInt ∧ y31.toInt ≤ 58 := iy31
          refine lv_aload_n hx hb dX13_decide_44 rfl (lv_at hl 1 rfl) ?_
          refine th_get (ci := 14) (C := RX13) (T := TX13) (N := 97) (v := .ref (ad 54)) hx hb hts hinX13 hown hK hP hI 0 (Nat.le_of_ble_eq_true rfl) rfl rfl 72 (Nat.le_of_ble_eq_true rfl) (hts _ (vA_in _ _ (in_28 _ (zs4 (zs1 (zs0)))))) (fun _ h9 => h9) (hI.fr 0 (Nat.le_of_ble_eq_true rfl) rfl (Nat.le_of_ble_eq_true rfl) 54 rfl) dX13_decide_45 ?_
          refine lv_iload_n hx hb dX13_decide_48 rfl (lv_at hl 2 rfl) ?_
          have n33 : vp_in a0 30 := (iv_in (n := 30) i15 (by decide))
          refine th_iald hx hb hK hP hI 54 (Nat.le_of_ble_eq_true rfl) rfl rfl n33 dX13_decide_49 (fun y32 ey32 => ?_)
          have iy32 : 0 ≤ y32.toInt ∧ y32.toInt ≤ 2 := hI.el 54 (Nat.le_of_ble_eq_true rfl) rfl n33 (fun _ => rfl) ey32
          have ey32 := ey32.trans (congrFun ((kq27.ef 54 (fun _ => rfl)).trans ((pw7.ef 54 (Nat.ne_of_beq_eq_false rfl)).trans hg2)) _)
          refine lv_iadd hx hb dX13_decide_50 ?_
          refine lv_topi (fun y34 ey34 => ?_)
          obtain ⟨ty34, iy34⟩ := ti_add (e := 0) (f := 60) iy31 iy32 ey34 (by decide)
          have ty34 : y34.toInt = y31.toInt + y32.toInt := ty34
          have iy34 : 0 ≤ y34.toInt ∧ y34.toInt ≤ 60 := iy34
          have d1 : y32.toInt ≤ 1 := by rw [ey32]; exact hDI _ (by rw [← ey18]; exact c20)
          have i35 : 0 ≤ y34.toInt ∧ y34.toInt ≤ 59 := by omega
          refine lv_istore_n (lv' := [(3, .int y34), (2, .int 1), (0, .ref (ad 0)), (1, .int a0)]) hx hb dX13_decide_51 rfl hl (by decide) rfl (fun ls hl => ?_)
          refine lv_aload_n hx hb dX13_decide_52 rfl (lv_at hl 2 rfl) ?_
          refine th_get (ci := 14) (C := RX13) (T := TX13) (N := 97) (v := .ref (ad 51)) hx hb hts hinX13 hown hK hP hI 0 (Nat.le_of_ble_eq_true rfl) rfl rfl 69 (Nat.le_of_ble_eq_true rfl) (hts _ (vA_in _ _ (in_28 _ (zs4 (zs1 (zs1 (zs0))))))) (fun _ h9 => h9) (hI.fr 0 (Nat.le_of_ble_eq_true rfl) rfl (Nat.le_of_ble_eq_true rfl) 51 rfl) dX13_decide_53 ?_
          refine lv_iload_n hx hb dX13_decide_56 rfl (lv_at hl 0 rfl) ?_
          refine lv_aload_n hx hb dX13_decide_57 rfl (lv_at hl 2 rfl) ?_
          refine lv_iload_n hx hb dX13_decide_58 rfl (lv_at hl 3 rfl) ?_
          refine lv_iconst (v := 0) hx hb dX13_decide_59 (by decide) ?_
          refine lv_aload_n hx hb dX13_decide_60 rfl (lv_at hl 2 rfl) ?_
          refine th_get (ci := 14) (C := RX13) (T := TX13) (N := 97) (v := .int (xi (E 0) 1)) hx hb hts hinX13 hown hK hP hI 0 (Nat.le_of_ble_eq_true rfl) rfl rfl 1 (Nat.le_of_ble_eq_true rfl) (hts _ (vA_in _ _ (in_24 _ (zs16 (zs4 (zs4 (zs1 (zs1 (zs1 (zs0)))))))))) (fun _ h9 => h9) (th_v0 hKp hI0 0 (Nat.le_of_ble_eq_true rfl) rfl (Nat.le_of_ble_eq_true rfl) rfl rfl) dX13_decide_61 ?_
          have k36 : KdM E E26 := KdM.of hKp rfl rfl rfl
          have z0 := ln_0
          refine th_i (va_runV (As := [.int a0, .int 0, .int (xi (E 0) 1)]) (rest := [.int y34, .ref (ad 51)]) ⟨hx, hb, hml, hown, hts⟩ (q_findingOfV l dC dI cT ad E26 H.size a0 (0 : Int32) (xi (E 0) 1) hI i15 (by exact hh1.cg (fun j9 => hKp.ei 8 j9 rfl) (fun j9 => hKp.ei 9 j9 rfl) (hKp.ei 0 17 rfl))) (cwV 3 hts (gi_V (in_30 _ (zs16 (zs4 (zs4 (zs4 (zs0)))))) (in_30 _ (zs16 (zs4 (zs4 (zs4 (zs1 (zs0))))))) (in_30 _ (zs16 (zs4 (zs4 (zs4 (zs1 (zs1 (zs0)))))))) (in_24 _ (zs4 (zs4 (zs4 (zs1 (zs1 (zs1 (zs0)))))))) (in_30 _ (zs16 (zs4 (zs4 (zs4 (zs1 (zs1 (zs1 (zs0)))))))))) rfl rfl rfl ⟨rfl, hz_yX13_findingOf_3⟩ ⟨Nat.le_of_ble_eq_true rfl, Nat.le_of_ble_eq_true rfl⟩) ⟨HW_bl, va_recv hK hP (ci := 14) (q0 := 0) rfl (hI.ob 0 (Nat.le_of_ble_eq_true rfl) rfl), (HW_wi hP hK (WX_D hD) hS hA hEV)⟩ rfl rfl hl.1 rfl (lv_room (Nat.le_of_ble_eq_true rfl)) dX13_decide_64 ⟨Nat.le_of_ble_eq_true rfl, Nat.le_of_ble_eq_true rfl⟩) (WX_D hD) hS hA (fun r37 E38 H locs hw hP hS => ?_)
          obtain ⟨hI, kq39, hw⟩ := hw
          have hKb := hKp
          have hKp := hKp.tr kq39 (wl_sub rfl rfl)
          have f40 := hw
          have k41 : r37.toInt = 1 ↔ MSure E a0.toNatClampNeg 0 (xi (E 0) 1) := msure_of k30 k36 f40
          refine lv_iconst (v := 1) hx hb dX13_decide_67 (by decide) ?_
          refine lv_icmp_ne (tgt := 75) hx hb dX13_decide_68 (by decide) (fun c42 => ?_) (fun c42 => ?_)
          · --68 taken
            have t43 : ¬ r37.toInt = 1 := ti_ne c42
            refine lv_iconst (v := 0) hx hb dX13_decide_75 (by decide) ?_
            refine lv_aload_n hx hb dX13_decide_76 rfl (lv_at hl 2 rfl) ?_
            refine lv_iload_n hx hb dX13_decide_77 rfl (lv_at hl 3 rfl) ?_
            refine lv_iconst (v := 1) hx hb dX13_decide_78 (by decide) ?_
            refine lv_aload_n hx hb dX13_decide_79 rfl (lv_at hl 2 rfl) ?_
            refine th_get (ci := 14) (C := RX13) (T := TX13) (N := 97) (v := .int (xi (E 0) 1)) hx hb hts hinX13 hown hK hP hI 0 (Nat.le_of_ble_eq_true rfl) rfl rfl 1 (Nat.le_of_ble_eq_true rfl) (hts _ (vA_in _ _ (in_24 _ (zs16 (zs4 (zs4 (zs1 (zs1 (zs1 (zs0)))))))))) (fun _ h9 => h9) (th_v0 hKp hI0 0 (Nat.le_of_ble_eq_true rfl) rfl (Nat.le_of_ble_eq_true rfl) rfl rfl) dX13_decide_80 ?_
            have k44 : KdM E E38 := KdM.of hKp rfl rfl rfl
            have z1 := ln_1
            refine th_i (va_runV (As := [.int a0, .int 1, .int (xi (E 0) 1)]) (rest := [.int 0, .int y34, .ref (ad 51)]) ⟨hx, hb, hml, hown, hts⟩ (q_findingOfV l dC dI cT ad E38 H.size a0 (1 : Int32) (xi (E 0) 1) hI i15 (by exact hh1.cg (fun j9 => hKp.ei 8 j9 rfl) (fun j9 => hKp.ei 9 j9 rfl) (hKp.ei 0 17 rfl))) (cwV 3 hts (gi_V (in_30 _ (zs16 (zs4 (zs4 (zs4 (zs0)))))) (in_30 _ (zs16 (zs4 (zs4 (zs4 (zs1 (zs0))))))) (in_30 _ (zs16 (zs4 (zs4 (zs4 (zs1 (zs1 (zs0)))))))) (in_24 _ (zs4 (zs4 (zs4 (zs1 (zs1 (zs1 (zs0)))))))) (in_30 _ (zs16 (zs4 (zs4 (zs4 (zs1 (zs1 (zs1 (zs0)))))))))) rfl rfl rfl ⟨rfl, hz_yX13_findingOf_3⟩ ⟨Nat.le_of_ble_eq_true rfl, Nat.le_of_ble_eq_true rfl⟩) ⟨HW_bl, va_recv hK hP (ci := 14) (q0 := 0) rfl (hI.ob 0 (Nat.le_of_ble_eq_true rfl) rfl), (HW_wi hP hK (WX_D hD) hS hA hEV)⟩ rfl rfl hl.1 rfl (lv_room (Nat.le_of_ble_eq_true rfl)) dX13_decide_83 ⟨Nat.le_of_ble_eq_true rfl, Nat.le_of_ble_eq_true rfl⟩) (WX_D hD) hS hA (fun r45 E46 H locs hw hP hS => ?_)
            obtain ⟨hI, kq47, hw⟩ := hw
            have hKb := hKp
            have hKp := hKp.tr kq47 (wl_sub rfl rfl)
            have f48 := hw
            have k49 : AskM E E38 a0.toNatClampNeg (xi (E 0) 1) := k30.kp (fun o9 ho9 j9 => by simp only [List.mem_cons, List.not_mem_nil, or_false] at ho9; rcases ho9 with rfl | rfl | rfl | rfl <;> exact kq39.ei _ j9 rfl)
            have k50 : r45.toInt = 1 ↔ MSure E a0.toNatClampNeg 1 (xi (E 0) 1) := msure_of k49 k44 f48
            refine lv_iconst (v := 1) hx hb dX13_decide_86 (by decide) ?_
            refine lv_icmp_ne (tgt := 94) hx hb dX13_decide_87 (by decide) (fun c51 => ?_) (fun c51 => ?_)
            · --87 taken
              have t52 : ¬ r45.toInt = 1 := ti_ne c51
              refine lv_iconst (v := 0) hx hb dX13_decide_94 (by decide) ?_
              refine lv_iadd hx hb dX13_decide_95 ?_
              refine lv_topi (fun y53 ey53 => ?_)
              obtain rfl : (0 : Int32) = y53 := (ey53.trans (by decide)).symm
              have n54 : vp_in y34 60 := (iv_in (n := 60) i35 (by decide))
              refine th_iast hx hb hK hP (WX_D hD) hS hI 51 (Nat.le_of_ble_eq_true rfl) rfl rfl n54 (okI rfl (iv_w ln_0 (by decide))) dX13_decide_96 (fun H locs E55 pw56 hI hP hS => ?_)
              have hKp := hKp.pw pw56 rfl
              obtain ⟨g57, eg57⟩ : ∃ z : Nat → Int32, z = upd g3 y34.toNatClampNeg (0 : Int32) := ⟨_, rfl⟩
              have hg57 : xi (E55 51) = g57 := by rw [pw56.eu, ((kq47.ef 51 (fun _ => rfl)).trans ((kq39.ef 51 (fun _ => rfl)).trans ((kq27.ef 51 (fun _ => rfl)).trans ((pw7.ef 51 (Nat.ne_of_beq_eq_false rfl)).trans hg3)))), eg57]
              refine lv_aload_n hx hb dX13_decide_97 rfl (lv_at hl 2 rfl) ?_
              refine th_get (ci := 14) (C := RX13) (T := TX13) (N := 97) (v := .ref (ad 52)) hx hb hts hinX13 hown hK hP hI 0 (Nat.le_of_ble_eq_true rfl) rfl rfl 70 (Nat.le_of_ble_eq_true rfl) (hts _ (vA_in _ _ (in_28 _ (zs4 (zs1 (zs1 (zs1 (zs0)))))))) (fun _ h9 => h9) (hI.fr 0 (Nat.le_of_ble_eq_true rfl) rfl (Nat.le_of_ble_eq_true rfl) 52 rfl) dX13_decide_98 ?_
              refine lv_iload_n hx hb dX13_decide_101 rfl (lv_at hl 0 rfl) ?_
              refine lv_aload_n hx hb dX13_decide_102 rfl (lv_at hl 2 rfl) ?_
              refine th_get (ci := 14) (C := RX13) (T := TX13) (N := 97) (v := .int (xi (E 0) 1)) hx hb hts hinX13 hown hK hP hI 0 (Nat.le_of_ble_eq_true rfl) rfl rfl 1 (Nat.le_of_ble_eq_true rfl) (hts _ (vA_in _ _ (in_24 _ (zs16 (zs4 (zs4 (zs1 (zs1 (zs1 (zs0)))))))))) (fun _ h9 => h9) (th_v0 hKp hI0 0 (Nat.le_of_ble_eq_true rfl) rfl (Nat.le_of_ble_eq_true rfl) rfl rfl) dX13_decide_103 ?_
              have n58 : vp_in y34 60 := (iv_in (n := 60) i35 (by decide))
              refine th_iast hx hb hK hP (WX_D hD) hS hI 52 (Nat.le_of_ble_eq_true rfl) rfl rfl n58 (okI rfl i23) dX13_decide_106 (fun H locs E59 pw60 hI hP hS => ?_)
              have hKp := hKp.pw pw60 rfl
              obtain ⟨g61, eg61⟩ : ∃ z : Nat → Int32, z = upd g4 y34.toNatClampNeg (xi (E 0) 1) := ⟨_, rfl⟩
              have hg61 : xi (E59 52) = g61 := by rw [pw60.eu, ((pw56.ef 52 (Nat.ne_of_beq_eq_false rfl)).trans ((kq47.ef 52 (fun _ => rfl)).trans ((kq39.ef 52 (fun _ => rfl)).trans ((kq27.ef 52 (fun _ => rfl)).trans ((pw7.ef 52 (Nat.ne_of_beq_eq_false rfl)).trans hg4))))), eg61]
              refine lv_aload_n hx hb dX13_decide_107 rfl (lv_at hl 2 rfl) ?_
              refine th_get (ci := 14) (C := RX13) (T := TX13) (N := 97) (v := .ref (ad 53)) hx hb hts hinX13 hown hK hP hI 0 (Nat.le_of_ble_eq_true rfl) rfl rfl 71 (Nat.le_of_ble_eq_true rfl) (hts _ (vA_in _ _ (in_28 _ (zs4 (zs4 (zs0)))))) (fun _ h9 => h9) (hI.fr 0 (Nat.le_of_ble_eq_true rfl) rfl (Nat.le_of_ble_eq_true rfl) 53 rfl) dX13_decide_108 ?_
              refine lv_iload_n hx hb dX13_decide_111 rfl (lv_at hl 0 rfl) ?_
              refine lv_sipush (v := 1000) hx hb dX13_decide_112 (by decide) ?_
              have n62 : vp_in y34 60 := (iv_in (n := 60) i35 (by decide))
              refine th_iast hx hb hK hP (WX_D hD) hS hI 53 (Nat.le_of_ble_eq_true rfl) rfl rfl n62 (okI rfl (iv_w ln_1000 (by decide))) dX13_decide_115 (fun H locs E63 pw64 hI hP hS => ?_)
              have hKp := hKp.pw pw64 rfl
              obtain ⟨g65, eg65⟩ : ∃ z : Nat → Int32, z = upd g5 y34.toNatClampNeg (1000 : Int32) := ⟨_, rfl⟩
              have hg65 : xi (E63 53) = g65 := by rw [pw64.eu, ((pw60.ef 53 (Nat.ne_of_beq_eq_false rfl)).trans ((pw56.ef 53 (Nat.ne_of_beq_eq_false rfl)).trans ((kq47.ef 53 (fun _ => rfl)).trans ((kq39.ef 53 (fun _ => rfl)).trans ((kq27.ef 53 (fun _ => rfl)).trans ((pw7.ef 53 (Nat.ne_of_beq_eq_false rfl)).trans hg5)))))), eg65]
              refine lv_aload_n hx hb dX13_decide_116 rfl (lv_at hl 2 rfl) ?_
              refine th_get (ci := 14) (C := RX13) (T := TX13) (N := 97) (v := .ref (ad 54)) hx hb hts hinX13 hown hK hP hI 0 (Nat.le_of_ble_eq_true rfl) rfl rfl 72 (Nat.le_of_ble_eq_true rfl) (hts _ (vA_in _ _ (in_28 _ (zs4 (zs1 (zs0)))))) (fun _ h9 => h9) (hI.fr 0 (Nat.le_of_ble_eq_true rfl) rfl (Nat.le_of_ble_eq_true rfl) 54 rfl) dX13_decide_117 ?_
              refine lv_iload_n hx hb dX13_decide_120 rfl (lv_at hl 3 rfl) ?_
              refine lv_dup2_11 hx hb dX13_decide_121 rfl rfl ?_
              have n67 : vp_in a0 30 := (iv_in (n := 30) i15 (by decide))
              refine th_iald hx hb hK hP hI 54 (Nat.le_of_ble_eq_true rfl) rfl rfl n67 dX13_decide_122 (fun y66 ey66 => ?_)
              have iy66 : 0 ≤ y66.toInt ∧ y66.toInt ≤ 2 := hI.el 54 (Nat.le_of_ble_eq_true rfl) rfl n67 (fun _ => rfl) ey66
              have ey66 := ey66.trans (congrFun ((pw64.ef 54 (Nat.ne_of_beq_eq_false rfl)).trans ((pw60.ef 54 (Nat.ne_of_beq_eq_false rfl)).trans ((pw56.ef 54 (Nat.ne_of_beq_eq_false rfl)).trans ((kq47.ef 54 (fun _ => rfl)).trans ((kq39.ef 54 (fun _ => rfl)).trans ((kq27.ef 54 (fun _ => rfl)).trans ((pw7.ef 54 (Nat.ne_of_beq_eq_false rfl)).trans hg2))))))) _)
              have d2 : y66.toInt ≤ 1 := by rw [ey66, ← ey32]; exact d1
              refine lv_iconst (v := 1) hx hb dX13_decide_123 (by decide) ?_
              refine lv_iadd hx hb dX13_decide_124 ?_
              refine lv_topi (fun y68 ey68 => ?_)
              obtain ⟨ty68, iy68⟩ := ti_add (e := 1) (f := 3) iy66 ln_1 ey68 (by decide)
              have ty68 : y68.toInt = y66.toInt + 1 := ty68
              have iy68 : 1 ≤ y68.toInt ∧ y68.toInt ≤ 3 := iy68
              have n69 : vp_in a0 30 := (iv_in (n := 30) i15 (by decide))
              have i72 : 1 ≤ y68.toInt ∧ y68.toInt ≤ 2 := by omega
              refine th_iast hx hb hK hP (WX_D hD) hS hI 54 (Nat.le_of_ble_eq_true rfl) rfl rfl n69 (okI rfl (iv_w i72 (by decide))) dX13_decide_125 (fun H locs E70 pw71 hI hP hS => ?_)
              have hKp := hKp.pw pw71 rfl
              obtain ⟨g73, eg73⟩ : ∃ z : Nat → Int32, z = upd g2 a0.toNatClampNeg y68 := ⟨_, rfl⟩
              have hg73 : xi (E70 54) = g73 := by rw [pw71.eu, ((pw64.ef 54 (Nat.ne_of_beq_eq_false rfl)).trans ((pw60.ef 54 (Nat.ne_of_beq_eq_false rfl)).trans ((pw56.ef 54 (Nat.ne_of_beq_eq_false rfl)).trans ((kq47.ef 54 (fun _ => rfl)).trans ((kq39.ef 54 (fun _ => rfl)).trans ((kq27.ef 54 (fun _ => rfl)).trans ((pw7.ef 54 (Nat.ne_of_beq_eq_false rfl)).trans hg2))))))), eg73]
              refine lv_aload_n hx hb dX13_decide_126 rfl (lv_at hl 2 rfl) ?_
              refine th_get (ci := 14) (C := RX13) (T := TX13) (N := 97) (v := .ref (ad 55)) hx hb hts hinX13 hown hK hP hI 0 (Nat.le_of_ble_eq_true rfl) rfl rfl 73 (Nat.le_of_ble_eq_true rfl) (hts _ (vA_in _ _ (in_30 _ (zs16 (zs4 (zs4 (zs0))))))) (fun _ h9 => h9) (hI.fr 0 (Nat.le_of_ble_eq_true rfl) rfl (Nat.le_of_ble_eq_true rfl) 55 rfl) dX13_decide_127 ?_
              refine lv_iload_n hx hb dX13_decide_130 rfl (lv_at hl 3 rfl) ?_
              refine lv_iconst (v := 1) hx hb dX13_decide_131 (by decide) ?_
              have n74 : vp_in a0 30 := (iv_in (n := 30) i15 (by decide))
              refine th_zast hx hb hK hP (WX_D hD) hS hI 55 (Nat.le_of_ble_eq_true rfl) rfl rfl n74 (iv_w ln_1 (by decide)) (okI rfl (iv_w ln_1 (by decide))) dX13_decide_132 (fun H locs E75 pw76 hI hP hS => ?_)
              have hKp := hKp.pw pw76 rfl
              obtain ⟨g77, eg77⟩ : ∃ z : Nat → Int32, z = upd g1 a0.toNatClampNeg (1 : Int32) := ⟨_, rfl⟩
              have hg77 : xi (E75 55) = g77 := by rw [pw76.eu, ((pw71.ef 55 (Nat.ne_of_beq_eq_false rfl)).trans ((pw64.ef 55 (Nat.ne_of_beq_eq_false rfl)).trans ((pw60.ef 55 (Nat.ne_of_beq_eq_false rfl)).trans ((pw56.ef 55 (Nat.ne_of_beq_eq_false rfl)).trans ((kq47.ef 55 (fun _ => rfl)).trans ((kq39.ef 55 (fun _ => rfl)).trans ((kq27.ef 55 (fun _ => rfl)).trans ((pw7.ef 55 (Nat.ne_of_beq_eq_false rfl)).trans hg1)))))))), eg77]
              refine lv_aload_n hx hb dX13_decide_133 rfl (lv_at hl 2 rfl) ?_
              refine th_get (ci := 14) (C := RX13) (T := TX13) (N := 97) (v := .ref (ad 51)) hx hb hts hinX13 hown hK hP hI 0 (Nat.le_of_ble_eq_true rfl) rfl rfl 69 (Nat.le_of_ble_eq_true rfl) (hts _ (vA_in _ _ (in_28 _ (zs4 (zs1 (zs1 (zs0))))))) (fun _ h9 => h9) (hI.fr 0 (Nat.le_of_ble_eq_true rfl) rfl (Nat.le_of_ble_eq_true rfl) 51 rfl) dX13_decide_134 ?_
              refine lv_iload_n hx hb dX13_decide_137 rfl (lv_at hl 0 rfl) ?_
              have n79 : vp_in y34 60 := (iv_in (n := 60) i35 (by decide))
              refine th_iald hx hb hK hP hI 51 (Nat.le_of_ble_eq_true rfl) rfl rfl n79 dX13_decide_138 (fun y78 ey78 => ?_)
              have iy78 : 0 ≤ y78.toInt ∧ y78.toInt ≤ 3 := hI.el 51 (Nat.le_of_ble_eq_true rfl) rfl n79 (fun _ => rfl) ey78
              have ey78 := ey78.trans (congrFun ((pw76.ef 51 (Nat.ne_of_beq_eq_false rfl)).trans ((pw71.ef 51 (Nat.ne_of_beq_eq_false rfl)).trans ((pw64.ef 51 (Nat.ne_of_beq_eq_false rfl)).trans ((pw60.ef 51 (Nat.ne_of_beq_eq_false rfl)).trans hg57)))) _)
              rw [hQ]
              exact W.iret (v := y78) hx hb hr (fun t ht hW => ⟨⟨y78, E75, rfl, ⟨hI, hKp, Or.inl ⟨iy78, ⟨by rw [(show xi (E 55) = g1 from hg1)]; have gy18 := congrArg Int32.toInt ey18; all_goals omega, (fun q9 => dec_b k41 k50 (by rw [if_neg (by omega), if_neg (by omega)]; have h9 : y78 = (0 : Int32) := (by rw [ey78]; first | exact pk_us | (rw [eg57]; exact pk_us)); have t9 := congrArg Int32.toInt h9; have z9 := ln_0; omega))⟩, ⟨(show xi (E75 55) = g77 from hg77).trans (by rw [eg77, (show xi (E 55) = g1 from hg1)]), (show xi (E75 54) = g73 from ((pw76.ef 54 (Nat.ne_of_beq_eq_false rfl)).trans hg73)).trans (by rw [eg73, (show xi (E 54) = g2 from hg2)]; congr 1; rw [← ey66]; exact ey68), (show xi (E75 51) = g57 from ((pw76.ef 51 (Nat.ne_of_beq_eq_false rfl)).trans ((pw71.ef 51 (Nat.ne_of_beq_eq_false rfl)).trans ((pw64.ef 51 (Nat.ne_of_beq_eq_false rfl)).trans ((pw60.ef 51 (Nat.ne_of_beq_eq_false rfl)).trans hg57))))).trans (by rw [show g57 = upd g3 y34.toNatClampNeg y78 from by rw [ey78, eg57, pk_us], (show xi (E 51) = g3 from hg3), ← (show y34.toNatClampNeg = (2 * a0.toInt + (xi (E 54) a0.toNatClampNeg).toInt).toNat by rw [(show xi (E 54) = g2 from hg2), ← ey32, tn_]; omega)]), (show xi (E75 52) = g61 from ((pw76.ef 52 (Nat.ne_of_beq_eq_false rfl)).trans ((pw71.ef 52 (Nat.ne_of_beq_eq_false rfl)).trans ((pw64.ef 52 (Nat.ne_of_beq_eq_false rfl)).trans hg61)))).trans (by rw [eg61, (show xi (E 52) = g4 from hg4), ← (show y34.toNatClampNeg = (2 * a0.toInt + (xi (E 54) a0.toNatClampNeg).toInt).toNat by rw [(show xi (E 54) = g2 from hg2), ← ey32, tn_]; omega)]), (show xi (E75 53) = g65 from ((pw76.ef 53 (Nat.ne_of_beq_eq_false rfl)).trans ((pw71.ef 53 (Nat.ne_of_beq_eq_false rfl)).trans hg65))).trans (by rw [eg65, (show xi (E 53) = g5 from hg5), ← (show y34.toNatClampNeg = (2 * a0.toInt + (xi (E 54) a0.toNatClampNeg).toInt).toNat by rw [(show xi (E 54) = g2 from hg2), ← ey32, tn_]; omega)])⟩, by rw [(show xi (E75 55) = g77 from hg77), (show xi (E75 54) = g73 from ((pw76.ef 54 (Nat.ne_of_beq_eq_false rfl)).trans hg73))]; rw [eg77, eg73]; exact DIr_upd hDI⟩⟩, by show va_P (dC, dI) vwCl (WX 72 ad E75) t.heap; rw [ht]; exact hP⟩, hS.F ht⟩) hS.2.2 dX13_decide_139
            · --87 not
              have t80 : r45.toInt = 1 := ti_eq c51
              have i81 : 1 ≤ r45.toInt ∧ r45.toInt ≤ 1 := iv_eqi t80 (iv_all _) (il_ 1) (by decide)
              refine lv_iconst (v := 2) hx hb dX13_decide_90 (by decide) ?_
              refine lv_goto (tgt := 95) hx hb dX13_decide_91 (by decide) ?_
              refine lv_iadd hx hb dX13_decide_95 ?_
              refine lv_topi (fun y82 ey82 => ?_)
              obtain rfl : (2 : Int32) = y82 := (ey82.trans (by decide)).symm
              have n83 : vp_in y34 60 := (iv_in (n := 60) i35 (by decide))
              refine th_iast hx hb hK hP (WX_D hD) hS hI 51 (Nat.le_of_ble_eq_true rfl) rfl rfl n83 (okI rfl (iv_w ln_2 (by decide))) dX13_decide_96 (fun H locs E84 pw85 hI hP hS => ?_)
              have hKp := hKp.pw pw85 rfl
              obtain ⟨g86, eg86⟩ : ∃ z : Nat → Int32, z = upd g3 y34.toNatClampNeg (2 : Int32) := ⟨_, rfl⟩
              have hg86 : xi (E84 51) = g86 := by rw [pw85.eu, ((kq47.ef 51 (fun _ => rfl)).trans ((kq39.ef 51 (fun _ => rfl)).trans ((kq27.ef 51 (fun _ => rfl)).trans ((pw7.ef 51 (Nat.ne_of_beq_eq_false rfl)).trans hg3)))), eg86]
              refine lv_aload_n hx hb dX13_decide_97 rfl (lv_at hl 2 rfl) ?_
              refine th_get (ci := 14) (C := RX13) (T := TX13) (N := 97) (v := .ref (ad 52)) hx hb hts hinX13 hown hK hP hI 0 (Nat.le_of_ble_eq_true rfl) rfl rfl 70 (Nat.le_of_ble_eq_true rfl) (hts _ (vA_in _ _ (in_28 _ (zs4 (zs1 (zs1 (zs1 (zs0)))))))) (fun _ h9 => h9) (hI.fr 0 (Nat.le_of_ble_eq_true rfl) rfl (Nat.le_of_ble_eq_true rfl) 52 rfl) dX13_decide_98 ?_
              refine lv_iload_n hx hb dX13_decide_101 rfl (lv_at hl 0 rfl) ?_
              refine lv_aload_n hx hb dX13_decide_102 rfl (lv_at hl 2 rfl) ?_
              refine th_get (ci := 14) (C := RX13) (T := TX13) (N := 97) (v := .int (xi (E 0) 1)) hx hb hts hinX13 hown hK hP hI 0 (Nat.le_of_ble_eq_true rfl) rfl rfl 1 (Nat.le_of_ble_eq_true rfl) (hts _ (vA_in _ _ (in_24 _ (zs16 (zs4 (zs4 (zs1 (zs1 (zs1 (zs0)))))))))) (fun _ h9 => h9) (th_v0 hKp hI0 0 (Nat.le_of_ble_eq_true rfl) rfl (Nat.le_of_ble_eq_true rfl) rfl rfl) dX13_decide_103 ?_
              have n87 : vp_in y34 60 := (iv_in (n := 60) i35 (by decide))
              refine th_iast hx hb hK hP (WX_D hD) hS hI 52 (Nat.le_of_ble_eq_true rfl) rfl rfl n87 (okI rfl i23) dX13_decide_106 (fun H locs E88 pw89 hI hP hS => ?_)
              have hKp := hKp.pw pw89 rfl
              obtain ⟨g90, eg90⟩ : ∃ z : Nat → Int32, z = upd g4 y34.toNatClampNeg (xi (E 0) 1) := ⟨_, rfl⟩
              have hg90 : xi (E88 52) = g90 := by rw [pw89.eu, ((pw85.ef 52 (Nat.ne_of_beq_eq_false rfl)).trans ((kq47.ef 52 (fun _ => rfl)).trans ((kq39.ef 52 (fun _ => rfl)).trans ((kq27.ef 52 (fun _ => rfl)).trans ((pw7.ef 52 (Nat.ne_of_beq_eq_false rfl)).trans hg4))))), eg90]
              refine lv_aload_n hx hb dX13_decide_107 rfl (lv_at hl 2 rfl) ?_
              refine th_get (ci := 14) (C := RX13) (T := TX13) (N := 97) (v := .ref (ad 53)) hx hb hts hinX13 hown hK hP hI 0 (Nat.le_of_ble_eq_true rfl) rfl rfl 71 (Nat.le_of_ble_eq_true rfl) (hts _ (vA_in _ _ (in_28 _ (zs4 (zs4 (zs0)))))) (fun _ h9 => h9) (hI.fr 0 (Nat.le_of_ble_eq_true rfl) rfl (Nat.le_of_ble_eq_true rfl) 53 rfl) dX13_decide_108 ?_
              refine lv_iload_n hx hb dX13_decide_111 rfl (lv_at hl 0 rfl) ?_
              refine lv_sipush (v := 1000) hx hb dX13_decide_112 (by decide) ?_
              have n91 : vp_in y34 60 := (iv_in (n := 60) i35 (by decide))
              refine th_iast hx hb hK hP (WX_D hD) hS hI 53 (Nat.le_of_ble_eq_true rfl) rfl rfl n91 (okI rfl (iv_w ln_1000 (by decide))) dX13_decide_115 (fun H locs E92 pw93 hI hP hS => ?_)
              have hKp := hKp.pw pw93 rfl
              obtain ⟨g94, eg94⟩ : ∃ z : Nat → Int32, z = upd g5 y34.toNatClampNeg (1000 : Int32) := ⟨_, rfl⟩
              have hg94 : xi (E92 53) = g94 := by rw [pw93.eu, ((pw89.ef 53 (Nat.ne_of_beq_eq_false rfl)).trans ((pw85.ef 53 (Nat.ne_of_beq_eq_false rfl)).trans ((kq47.ef 53 (fun _ => rfl)).trans ((kq39.ef 53 (fun _ => rfl)).trans ((kq27.ef 53 (fun _ => rfl)).trans ((pw7.ef 53 (Nat.ne_of_beq_eq_false rfl)).trans hg5)))))), eg94]
              refine lv_aload_n hx hb dX13_decide_116 rfl (lv_at hl 2 rfl) ?_
              refine th_get (ci := 14) (C := RX13) (T := TX13) (N := 97) (v := .ref (ad 54)) hx hb hts hinX13 hown hK hP hI 0 (Nat.le_of_ble_eq_true rfl) rfl rfl 72 (Nat.le_of_ble_eq_true rfl) (hts _ (vA_in _ _ (in_28 _ (zs4 (zs1 (zs0)))))) (fun _ h9 => h9) (hI.fr 0 (Nat.le_of_ble_eq_true rfl) rfl (Nat.le_of_ble_eq_true rfl) 54 rfl) dX13_decide_117 ?_
              refine lv_iload_n hx hb dX13_decide_120 rfl (lv_at hl 3 rfl) ?_
              refine lv_dup2_11 hx hb dX13_decide_121 rfl rfl ?_
              have n96 : vp_in a0 30 := (iv_in (n := 30) i15 (by decide))
              refine th_iald hx hb hK hP hI 54 (Nat.le_of_ble_eq_true rfl) rfl rfl n96 dX13_decide_122 (fun y95 ey95 => ?_)
              have iy95 : 0 ≤ y95.toInt ∧ y95.toInt ≤ 2 := hI.el 54 (Nat.le_of_ble_eq_true rfl) rfl n96 (fun _ => rfl) ey95
              have ey95 := ey95.trans (congrFun ((pw93.ef 54 (Nat.ne_of_beq_eq_false rfl)).trans ((pw89.ef 54 (Nat.ne_of_beq_eq_false rfl)).trans ((pw85.ef 54 (Nat.ne_of_beq_eq_false rfl)).trans ((kq47.ef 54 (fun _ => rfl)).trans ((kq39.ef 54 (fun _ => rfl)).trans ((kq27.ef 54 (fun _ => rfl)).trans ((pw7.ef 54 (Nat.ne_of_beq_eq_false rfl)).trans hg2))))))) _)
              have d2 : y95.toInt ≤ 1 := by rw [ey95, ← ey32]; exact d1
              refine lv_iconst (v := 1) hx hb dX13_decide_123 (by decide) ?_
              refine lv_iadd hx hb dX13_decide_124 ?_
              refine lv_topi (fun y97 ey97 => ?_)
              obtain ⟨ty97, iy97⟩ := ti_add (e := 1) (f := 3) iy95 ln_1 ey97 (by decide)
              have ty97 : y97.toInt = y95.toInt + 1 := ty97
              have iy97 : 1 ≤ y97.toInt ∧ y97.toInt ≤ 3 := iy97
              have n98 : vp_in a0 30 := (iv_in (n := 30) i15 (by decide))
              have i101 : 1 ≤ y97.toInt ∧ y97.toInt ≤ 2 := by omega
              refine th_iast hx hb hK hP (WX_D hD) hS hI 54 (Nat.le_of_ble_eq_true rfl) rfl rfl n98 (okI rfl (iv_w i101 (by decide))) dX13_decide_125 (fun H locs E99 pw100 hI hP hS => ?_)
              have hKp := hKp.pw pw100 rfl
              obtain ⟨g102, eg102⟩ : ∃ z : Nat → Int32, z = upd g2 a0.toNatClampNeg y97 := ⟨_, rfl⟩
              have hg102 : xi (E99 54) = g102 := by rw [pw100.eu, ((pw93.ef 54 (Nat.ne_of_beq_eq_false rfl)).trans ((pw89.ef 54 (Nat.ne_of_beq_eq_false rfl)).trans ((pw85.ef 54 (Nat.ne_of_beq_eq_false rfl)).trans ((kq47.ef 54 (fun _ => rfl)).trans ((kq39.ef 54 (fun _ => rfl)).trans ((kq27.ef 54 (fun _ => rfl)).trans ((pw7.ef 54 (Nat.ne_of_beq_eq_false rfl)).trans hg2))))))), eg102]
              refine lv_aload_n hx hb dX13_decide_126 rfl (lv_at hl 2 rfl) ?_
              refine th_get (ci := 14) (C := RX13) (T := TX13) (N := 97) (v := .ref (ad 55)) hx hb hts hinX13 hown hK hP hI 0 (Nat.le_of_ble_eq_true rfl) rfl rfl 73 (Nat.le_of_ble_eq_true rfl) (hts _ (vA_in _ _ (in_30 _ (zs16 (zs4 (zs4 (zs0))))))) (fun _ h9 => h9) (hI.fr 0 (Nat.le_of_ble_eq_true rfl) rfl (Nat.le_of_ble_eq_true rfl) 55 rfl) dX13_decide_127 ?_
              refine lv_iload_n hx hb dX13_decide_130 rfl (lv_at hl 3 rfl) ?_
              refine lv_iconst (v := 1) hx hb dX13_decide_131 (by decide) ?_
              have n103 : vp_in a0 30 := (iv_in (n := 30) i15 (by decide))
              refine th_zast hx hb hK hP (WX_D hD) hS hI 55 (Nat.le_of_ble_eq_true rfl) rfl rfl n103 (iv_w ln_1 (by decide)) (okI rfl (iv_w ln_1 (by decide))) dX13_decide_132 (fun H locs E104 pw105 hI hP hS => ?_)
              have hKp := hKp.pw pw105 rfl
              obtain ⟨g106, eg106⟩ : ∃ z : Nat → Int32, z = upd g1 a0.toNatClampNeg (1 : Int32) := ⟨_, rfl⟩
              have hg106 : xi (E104 55) = g106 := by rw [pw105.eu, ((pw100.ef 55 (Nat.ne_of_beq_eq_false rfl)).trans ((pw93.ef 55 (Nat.ne_of_beq_eq_false rfl)).trans ((pw89.ef 55 (Nat.ne_of_beq_eq_false rfl)).trans ((pw85.ef 55 (Nat.ne_of_beq_eq_false rfl)).trans ((kq47.ef 55 (fun _ => rfl)).trans ((kq39.ef 55 (fun _ => rfl)).trans ((kq27.ef 55 (fun _ => rfl)).trans ((pw7.ef 55 (Nat.ne_of_beq_eq_false rfl)).trans hg1)))))))), eg106]
              refine lv_aload_n hx hb dX13_decide_133 rfl (lv_at hl 2 rfl) ?_
              refine th_get (ci := 14) (C := RX13) (T := TX13) (N := 97) (v := .ref (ad 51)) hx hb hts hinX13 hown hK hP hI 0 (Nat.le_of_ble_eq_true rfl) rfl rfl 69 (Nat.le_of_ble_eq_true rfl) (hts _ (vA_in _ _ (in_28 _ (zs4 (zs1 (zs1 (zs0))))))) (fun _ h9 => h9) (hI.fr 0 (Nat.le_of_ble_eq_true rfl) rfl (Nat.le_of_ble_eq_true rfl) 51 rfl) dX13_decide_134 ?_
              refine lv_iload_n hx hb dX13_decide_137 rfl (lv_at hl 0 rfl) ?_
              have n108 : vp_in y34 60 := (iv_in (n := 60) i35 (by decide))
              refine th_iald hx hb hK hP hI 51 (Nat.le_of_ble_eq_true rfl) rfl rfl n108 dX13_decide_138 (fun y107 ey107 => ?_)
              have iy107 : 0 ≤ y107.toInt ∧ y107.toInt ≤ 3 := hI.el 51 (Nat.le_of_ble_eq_true rfl) rfl n108 (fun _ => rfl) ey107
              have ey107 := ey107.trans (congrFun ((pw105.ef 51 (Nat.ne_of_beq_eq_false rfl)).trans ((pw100.ef 51 (Nat.ne_of_beq_eq_false rfl)).trans ((pw93.ef 51 (Nat.ne_of_beq_eq_false rfl)).trans ((pw89.ef 51 (Nat.ne_of_beq_eq_false rfl)).trans hg86)))) _)
              rw [hQ]
              exact W.iret (v := y107) hx hb hr (fun t ht hW => ⟨⟨y107, E104, rfl, ⟨hI, hKp, Or.inl ⟨iy107, ⟨by rw [(show xi (E 55) = g1 from hg1)]; have gy18 := congrArg Int32.toInt ey18; all_goals omega, (fun q9 => dec_b k41 k50 (by rw [if_neg (by omega), if_pos (by omega)]; have h9 : y107 = (2 : Int32) := (by rw [ey107]; first | exact pk_us | (rw [eg86]; exact pk_us)); have t9 := congrArg Int32.toInt h9; have z9 := ln_2; omega))⟩, ⟨(show xi (E104 55) = g106 from hg106).trans (by rw [eg106, (show xi (E 55) = g1 from hg1)]), (show xi (E104 54) = g102 from ((pw105.ef 54 (Nat.ne_of_beq_eq_false rfl)).trans hg102)).trans (by rw [eg102, (show xi (E 54) = g2 from hg2)]; congr 1; rw [← ey95]; exact ey97), (show xi (E104 51) = g86 from ((pw105.ef 51 (Nat.ne_of_beq_eq_false rfl)).trans ((pw100.ef 51 (Nat.ne_of_beq_eq_false rfl)).trans ((pw93.ef 51 (Nat.ne_of_beq_eq_false rfl)).trans ((pw89.ef 51 (Nat.ne_of_beq_eq_false rfl)).trans hg86))))).trans (by rw [show g86 = upd g3 y34.toNatClampNeg y107 from by rw [ey107, eg86, pk_us], (show xi (E 51) = g3 from hg3), ← (show y34.toNatClampNeg = (2 * a0.toInt + (xi (E 54) a0.toNatClampNeg).toInt).toNat by rw [(show xi (E 54) = g2 from hg2), ← ey32, tn_]; omega)]), (show xi (E104 52) = g90 from ((pw105.ef 52 (Nat.ne_of_beq_eq_false rfl)).trans ((pw100.ef 52 (Nat.ne_of_beq_eq_false rfl)).trans ((pw93.ef 52 (Nat.ne_of_beq_eq_false rfl)).trans hg90)))).trans (by rw [eg90, (show xi (E 52) = g4 from hg4), ← (show y34.toNatClampNeg = (2 * a0.toInt + (xi (E 54) a0.toNatClampNeg).toInt).toNat by rw [(show xi (E 54) = g2 from hg2), ← ey32, tn_]; omega)]), (show xi (E104 53) = g94 from ((pw105.ef 53 (Nat.ne_of_beq_eq_false rfl)).trans ((pw100.ef 53 (Nat.ne_of_beq_eq_false rfl)).trans hg94))).trans (by rw [eg94, (show xi (E 53) = g5 from hg5), ← (show y34.toNatClampNeg = (2 * a0.toInt + (xi (E 54) a0.toNatClampNeg).toInt).toNat by rw [(show xi (E 54) = g2 from hg2), ← ey32, tn_]; omega)])⟩, by rw [(show xi (E104 55) = g106 from hg106), (show xi (E104 54) = g102 from ((pw105.ef 54 (Nat.ne_of_beq_eq_false rfl)).trans hg102))]; rw [eg106, eg102]; exact DIr_upd hDI⟩⟩, by show va_P (dC, dI) vwCl (WX 72 ad E104) t.heap; rw [ht]; exact hP⟩, hS.F ht⟩) hS.2.2 dX13_decide_139
          · --68 not
            have t109 : r37.toInt = 1 := ti_eq c42
            have i110 : 1 ≤ r37.toInt ∧ r37.toInt ≤ 1 := iv_eqi t109 (iv_all _) (il_ 1) (by decide)
            refine lv_iconst (v := 1) hx hb dX13_decide_71 (by decide) ?_
            refine lv_goto (tgt := 76) hx hb dX13_decide_72 (by decide) ?_
            refine lv_aload_n hx hb dX13_decide_76 rfl (lv_at hl 2 rfl) ?_
            refine lv_iload_n hx hb dX13_decide_77 rfl (lv_at hl 3 rfl) ?_
            refine lv_iconst (v := 1) hx hb dX13_decide_78 (by decide) ?_
            refine lv_aload_n hx hb dX13_decide_79 rfl (lv_at hl 2 rfl) ?_
            refine th_get (ci := 14) (C := RX13) (T := TX13) (N := 97) (v := .int (xi (E 0) 1)) hx hb hts hinX13 hown hK hP hI 0 (Nat.le_of_ble_eq_true rfl) rfl rfl 1 (Nat.le_of_ble_eq_true rfl) (hts _ (vA_in _ _ (in_24 _ (zs16 (zs4 (zs4 (zs1 (zs1 (zs1 (zs0)))))))))) (fun _ h9 => h9) (th_v0 hKp hI0 0 (Nat.le_of_ble_eq_true rfl) rfl (Nat.le_of_ble_eq_true rfl) rfl rfl) dX13_decide_80 ?_
            have k111 : KdM E E38 := KdM.of hKp rfl rfl rfl
            have z1 := ln_1
            refine th_i (va_runV (As := [.int a0, .int 1, .int (xi (E 0) 1)]) (rest := [.int 1, .int y34, .ref (ad 51)]) ⟨hx, hb, hml, hown, hts⟩ (q_findingOfV l dC dI cT ad E38 H.size a0 (1 : Int32) (xi (E 0) 1) hI i15 (by exact hh1.cg (fun j9 => hKp.ei 8 j9 rfl) (fun j9 => hKp.ei 9 j9 rfl) (hKp.ei 0 17 rfl))) (cwV 3 hts (gi_V (in_30 _ (zs16 (zs4 (zs4 (zs4 (zs0)))))) (in_30 _ (zs16 (zs4 (zs4 (zs4 (zs1 (zs0))))))) (in_30 _ (zs16 (zs4 (zs4 (zs4 (zs1 (zs1 (zs0)))))))) (in_24 _ (zs4 (zs4 (zs4 (zs1 (zs1 (zs1 (zs0)))))))) (in_30 _ (zs16 (zs4 (zs4 (zs4 (zs1 (zs1 (zs1 (zs0)))))))))) rfl rfl rfl ⟨rfl, hz_yX13_findingOf_3⟩ ⟨Nat.le_of_ble_eq_true rfl, Nat.le_of_ble_eq_true rfl⟩) ⟨HW_bl, va_recv hK hP (ci := 14) (q0 := 0) rfl (hI.ob 0 (Nat.le_of_ble_eq_true rfl) rfl), (HW_wi hP hK (WX_D hD) hS hA hEV)⟩ rfl rfl hl.1 rfl (lv_room (Nat.le_of_ble_eq_true rfl)) dX13_decide_83 ⟨Nat.le_of_ble_eq_true rfl, Nat.le_of_ble_eq_true rfl⟩) (WX_D hD) hS hA (fun r112 E113 H locs hw hP hS => ?_)
            obtain ⟨hI, kq114, hw⟩ := hw
            have hKb := hKp
            have hKp := hKp.tr kq114 (wl_sub rfl rfl)
            have f115 := hw
            have k116 : AskM E E38 a0.toNatClampNeg (xi (E 0) 1) := k30.kp (fun o9 ho9 j9 => by simp only [List.mem_cons, List.not_mem_nil, or_false] at ho9; rcases ho9 with rfl | rfl | rfl | rfl <;> exact kq39.ei _ j9 rfl)
            have k117 : r112.toInt = 1 ↔ MSure E a0.toNatClampNeg 1 (xi (E 0) 1) := msure_of k116 k111 f115
            refine lv_iconst (v := 1) hx hb dX13_decide_86 (by decide) ?_
            refine lv_icmp_ne (tgt := 94) hx hb dX13_decide_87 (by decide) (fun c118 => ?_) (fun c118 => ?_)
            · --87 taken
              have t119 : ¬ r112.toInt = 1 := ti_ne c118
              refine lv_iconst (v := 0) hx hb dX13_decide_94 (by decide) ?_
              refine lv_iadd hx hb dX13_decide_95 ?_
              refine lv_topi (fun y120 ey120 => ?_)
              obtain rfl : (1 : Int32) = y120 := (ey120.trans (by decide)).symm
              have n121 : vp_in y34 60 := (iv_in (n := 60) i35 (by decide))
              refine th_iast hx hb hK hP (WX_D hD) hS hI 51 (Nat.le_of_ble_eq_true rfl) rfl rfl n121 (okI rfl (iv_w ln_1 (by decide))) dX13_decide_96 (fun H locs E122 pw123 hI hP hS => ?_)
              have hKp := hKp.pw pw123 rfl
              obtain ⟨g124, eg124⟩ : ∃ z : Nat → Int32, z = upd g3 y34.toNatClampNeg (1 : Int32) := ⟨_, rfl⟩
              have hg124 : xi (E122 51) = g124 := by rw [pw123.eu, ((kq114.ef 51 (fun _ => rfl)).trans ((kq39.ef 51 (fun _ => rfl)).trans ((kq27.ef 51 (fun _ => rfl)).trans ((pw7.ef 51 (Nat.ne_of_beq_eq_false rfl)).trans hg3)))), eg124]
              refine lv_aload_n hx hb dX13_decide_97 rfl (lv_at hl 2 rfl) ?_
              refine th_get (ci := 14) (C := RX13) (T := TX13) (N := 97) (v := .ref (ad 52)) hx hb hts hinX13 hown hK hP hI 0 (Nat.le_of_ble_eq_true rfl) rfl rfl 70 (Nat.le_of_ble_eq_true rfl) (hts _ (vA_in _ _ (in_28 _ (zs4 (zs1 (zs1 (zs1 (zs0)))))))) (fun _ h9 => h9) (hI.fr 0 (Nat.le_of_ble_eq_true rfl) rfl (Nat.le_of_ble_eq_true rfl) 52 rfl) dX13_decide_98 ?_
              refine lv_iload_n hx hb dX13_decide_101 rfl (lv_at hl 0 rfl) ?_
              refine lv_aload_n hx hb dX13_decide_102 rfl (lv_at hl 2 rfl) ?_
              refine th_get (ci := 14) (C := RX13) (T := TX13) (N := 97) (v := .int (xi (E 0) 1)) hx hb hts hinX13 hown hK hP hI 0 (Nat.le_of_ble_eq_true rfl) rfl rfl 1 (Nat.le_of_ble_eq_true rfl) (hts _ (vA_in _ _ (in_24 _ (zs16 (zs4 (zs4 (zs1 (zs1 (zs1 (zs0)))))))))) (fun _ h9 => h9) (th_v0 hKp hI0 0 (Nat.le_of_ble_eq_true rfl) rfl (Nat.le_of_ble_eq_true rfl) rfl rfl) dX13_decide_103 ?_
              have n125 : vp_in y34 60 := (iv_in (n := 60) i35 (by decide))
              refine th_iast hx hb hK hP (WX_D hD) hS hI 52 (Nat.le_of_ble_eq_true rfl) rfl rfl n125 (okI rfl i23) dX13_decide_106 (fun H locs E126 pw127 hI hP hS => ?_)
              have hKp := hKp.pw pw127 rfl
              obtain ⟨g128, eg128⟩ : ∃ z : Nat → Int32, z = upd g4 y34.toNatClampNeg (xi (E 0) 1) := ⟨_, rfl⟩
              have hg128 : xi (E126 52) = g128 := by rw [pw127.eu, ((pw123.ef 52 (Nat.ne_of_beq_eq_false rfl)).trans ((kq114.ef 52 (fun _ => rfl)).trans ((kq39.ef 52 (fun _ => rfl)).trans ((kq27.ef 52 (fun _ => rfl)).trans ((pw7.ef 52 (Nat.ne_of_beq_eq_false rfl)).trans hg4))))), eg128]
              refine lv_aload_n hx hb dX13_decide_107 rfl (lv_at hl 2 rfl) ?_
              refine th_get (ci := 14) (C := RX13) (T := TX13) (N := 97) (v := .ref (ad 53)) hx hb hts hinX13 hown hK hP hI 0 (Nat.le_of_ble_eq_true rfl) rfl rfl 71 (Nat.le_of_ble_eq_true rfl) (hts _ (vA_in _ _ (in_28 _ (zs4 (zs4 (zs0)))))) (fun _ h9 => h9) (hI.fr 0 (Nat.le_of_ble_eq_true rfl) rfl (Nat.le_of_ble_eq_true rfl) 53 rfl) dX13_decide_108 ?_
              refine lv_iload_n hx hb dX13_decide_111 rfl (lv_at hl 0 rfl) ?_
              refine lv_sipush (v := 1000) hx hb dX13_decide_112 (by decide) ?_
              have n129 : vp_in y34 60 := (iv_in (n := 60) i35 (by decide))
              refine th_iast hx hb hK hP (WX_D hD) hS hI 53 (Nat.le_of_ble_eq_true rfl) rfl rfl n129 (okI rfl (iv_w ln_1000 (by decide))) dX13_decide_115 (fun H locs E130 pw131 hI hP hS => ?_)
              have hKp := hKp.pw pw131 rfl
              obtain ⟨g132, eg132⟩ : ∃ z : Nat → Int32, z = upd g5 y34.toNatClampNeg (1000 : Int32) := ⟨_, rfl⟩
              have hg132 : xi (E130 53) = g132 := by rw [pw131.eu, ((pw127.ef 53 (Nat.ne_of_beq_eq_false rfl)).trans ((pw123.ef 53 (Nat.ne_of_beq_eq_false rfl)).trans ((kq114.ef 53 (fun _ => rfl)).trans ((kq39.ef 53 (fun _ => rfl)).trans ((kq27.ef 53 (fun _ => rfl)).trans ((pw7.ef 53 (Nat.ne_of_beq_eq_false rfl)).trans hg5)))))), eg132]
              refine lv_aload_n hx hb dX13_decide_116 rfl (lv_at hl 2 rfl) ?_
              refine th_get (ci := 14) (C := RX13) (T := TX13) (N := 97) (v := .ref (ad 54)) hx hb hts hinX13 hown hK hP hI 0 (Nat.le_of_ble_eq_true rfl) rfl rfl 72 (Nat.le_of_ble_eq_true rfl) (hts _ (vA_in _ _ (in_28 _ (zs4 (zs1 (zs0)))))) (fun _ h9 => h9) (hI.fr 0 (Nat.le_of_ble_eq_true rfl) rfl (Nat.le_of_ble_eq_true rfl) 54 rfl) dX13_decide_117 ?_
              refine lv_iload_n hx hb dX13_decide_120 rfl (lv_at hl 3 rfl) ?_
              refine lv_dup2_11 hx hb dX13_decide_121 rfl rfl ?_
              have n134 : vp_in a0 30 := (iv_in (n := 30) i15 (by decide))
              refine th_iald hx hb hK hP hI 54 (Nat.le_of_ble_eq_true rfl) rfl rfl n134 dX13_decide_122 (fun y133 ey133 => ?_)
              have iy133 : 0 ≤ y133.toInt ∧ y133.toInt ≤ 2 := hI.el 54 (Nat.le_of_ble_eq_true rfl) rfl n134 (fun _ => rfl) ey133
              have ey133 := ey133.trans (congrFun ((pw131.ef 54 (Nat.ne_of_beq_eq_false rfl)).trans ((pw127.ef 54 (Nat.ne_of_beq_eq_false rfl)).trans ((pw123.ef 54 (Nat.ne_of_beq_eq_false rfl)).trans ((kq114.ef 54 (fun _ => rfl)).trans ((kq39.ef 54 (fun _ => rfl)).trans ((kq27.ef 54 (fun _ => rfl)).trans ((pw7.ef 54 (Nat.ne_of_beq_eq_false rfl)).trans hg2))))))) _)
              have d2 : y133.toInt ≤ 1 := by rw [ey133, ← ey32]; exact d1
              refine lv_iconst (v := 1) hx hb dX13_decide_123 (by decide) ?_
              refine lv_iadd hx hb dX13_decide_124 ?_
              refine lv_topi (fun y135 ey135 => ?_)
              obtain ⟨ty135, iy135⟩ := ti_add (e := 1) (f := 3) iy133 ln_1 ey135 (by decide)
              have ty135 : y135.toInt = y133.toInt + 1 := ty135
              have iy135 : 1 ≤ y135.toInt ∧ y135.toInt ≤ 3 := iy135
              have n136 : vp_in a0 30 := (iv_in (n := 30) i15 (by decide))
              have i139 : 1 ≤ y135.toInt ∧ y135.toInt ≤ 2 := by omega
              refine th_iast hx hb hK hP (WX_D hD) hS hI 54 (Nat.le_of_ble_eq_true rfl) rfl rfl n136 (okI rfl (iv_w i139 (by decide))) dX13_decide_125 (fun H locs E137 pw138 hI hP hS => ?_)
              have hKp := hKp.pw pw138 rfl
              obtain ⟨g140, eg140⟩ : ∃ z : Nat → Int32, z = upd g2 a0.toNatClampNeg y135 := ⟨_, rfl⟩
              have hg140 : xi (E137 54) = g140 := by rw [pw138.eu, ((pw131.ef 54 (Nat.ne_of_beq_eq_false rfl)).trans ((pw127.ef 54 (Nat.ne_of_beq_eq_false rfl)).trans ((pw123.ef 54 (Nat.ne_of_beq_eq_false rfl)).trans ((kq114.ef 54 (fun _ => rfl)).trans ((kq39.ef 54 (fun _ => rfl)).trans ((kq27.ef 54 (fun _ => rfl)).trans ((pw7.ef 54 (Nat.ne_of_beq_eq_false rfl)).trans hg2))))))), eg140]
              refine lv_aload_n hx hb dX13_decide_126 rfl (lv_at hl 2 rfl) ?_
              refine th_get (ci := 14) (C := RX13) (T := TX13) (N := 97) (v := .ref (ad 55)) hx hb hts hinX13 hown hK hP hI 0 (Nat.le_of_ble_eq_true rfl) rfl rfl 73 (Nat.le_of_ble_eq_true rfl) (hts _ (vA_in _ _ (in_30 _ (zs16 (zs4 (zs4 (zs0))))))) (fun _ h9 => h9) (hI.fr 0 (Nat.le_of_ble_eq_true rfl) rfl (Nat.le_of_ble_eq_true rfl) 55 rfl) dX13_decide_127 ?_
              refine lv_iload_n hx hb dX13_decide_130 rfl (lv_at hl 3 rfl) ?_
              refine lv_iconst (v := 1) hx hb dX13_decide_131 (by decide) ?_
              have n141 : vp_in a0 30 := (iv_in (n := 30) i15 (by decide))
              refine th_zast hx hb hK hP (WX_D hD) hS hI 55 (Nat.le_of_ble_eq_true rfl) rfl rfl n141 (iv_w ln_1 (by decide)) (okI rfl (iv_w ln_1 (by decide))) dX13_decide_132 (fun H locs E142 pw143 hI hP hS => ?_)
              have hKp := hKp.pw pw143 rfl
              obtain ⟨g144, eg144⟩ : ∃ z : Nat → Int32, z = upd g1 a0.toNatClampNeg (1 : Int32) := ⟨_, rfl⟩
              have hg144 : xi (E142 55) = g144 := by rw [pw143.eu, ((pw138.ef 55 (Nat.ne_of_beq_eq_false rfl)).trans ((pw131.ef 55 (Nat.ne_of_beq_eq_false rfl)).trans ((pw127.ef 55 (Nat.ne_of_beq_eq_false rfl)).trans ((pw123.ef 55 (Nat.ne_of_beq_eq_false rfl)).trans ((kq114.ef 55 (fun _ => rfl)).trans ((kq39.ef 55 (fun _ => rfl)).trans ((kq27.ef 55 (fun _ => rfl)).trans ((pw7.ef 55 (Nat.ne_of_beq_eq_false rfl)).trans hg1)))))))), eg144]
              refine lv_aload_n hx hb dX13_decide_133 rfl (lv_at hl 2 rfl) ?_
              refine th_get (ci := 14) (C := RX13) (T := TX13) (N := 97) (v := .ref (ad 51)) hx hb hts hinX13 hown hK hP hI 0 (Nat.le_of_ble_eq_true rfl) rfl rfl 69 (Nat.le_of_ble_eq_true rfl) (hts _ (vA_in _ _ (in_28 _ (zs4 (zs1 (zs1 (zs0))))))) (fun _ h9 => h9) (hI.fr 0 (Nat.le_of_ble_eq_true rfl) rfl (Nat.le_of_ble_eq_true rfl) 51 rfl) dX13_decide_134 ?_
              refine lv_iload_n hx hb dX13_decide_137 rfl (lv_at hl 0 rfl) ?_
              have n146 : vp_in y34 60 := (iv_in (n := 60) i35 (by decide))
              refine th_iald hx hb hK hP hI 51 (Nat.le_of_ble_eq_true rfl) rfl rfl n146 dX13_decide_138 (fun y145 ey145 => ?_)
              have iy145 : 0 ≤ y145.toInt ∧ y145.toInt ≤ 3 := hI.el 51 (Nat.le_of_ble_eq_true rfl) rfl n146 (fun _ => rfl) ey145
              have ey145 := ey145.trans (congrFun ((pw143.ef 51 (Nat.ne_of_beq_eq_false rfl)).trans ((pw138.ef 51 (Nat.ne_of_beq_eq_false rfl)).trans ((pw131.ef 51 (Nat.ne_of_beq_eq_false rfl)).trans ((pw127.ef 51 (Nat.ne_of_beq_eq_false rfl)).trans hg124)))) _)
              rw [hQ]
              exact W.iret (v := y145) hx hb hr (fun t ht hW => ⟨⟨y145, E142, rfl, ⟨hI, hKp, Or.inl ⟨iy145, ⟨by rw [(show xi (E 55) = g1 from hg1)]; have gy18 := congrArg Int32.toInt ey18; all_goals omega, (fun q9 => dec_b k41 k117 (by rw [if_pos (by omega), if_neg (by omega)]; have h9 : y145 = (1 : Int32) := (by rw [ey145]; first | exact pk_us | (rw [eg124]; exact pk_us)); have t9 := congrArg Int32.toInt h9; have z9 := ln_1; omega))⟩, ⟨(show xi (E142 55) = g144 from hg144).trans (by rw [eg144, (show xi (E 55) = g1 from hg1)]), (show xi (E142 54) = g140 from ((pw143.ef 54 (Nat.ne_of_beq_eq_false rfl)).trans hg140)).trans (by rw [eg140, (show xi (E 54) = g2 from hg2)]; congr 1; rw [← ey133]; exact ey135), (show xi (E142 51) = g124 from ((pw143.ef 51 (Nat.ne_of_beq_eq_false rfl)).trans ((pw138.ef 51 (Nat.ne_of_beq_eq_false rfl)).trans ((pw131.ef 51 (Nat.ne_of_beq_eq_false rfl)).trans ((pw127.ef 51 (Nat.ne_of_beq_eq_false rfl)).trans hg124))))).trans (by rw [show g124 = upd g3 y34.toNatClampNeg y145 from by rw [ey145, eg124, pk_us], (show xi (E 51) = g3 from hg3), ← (show y34.toNatClampNeg = (2 * a0.toInt + (xi (E 54) a0.toNatClampNeg).toInt).toNat by rw [(show xi (E 54) = g2 from hg2), ← ey32, tn_]; omega)]), (show xi (E142 52) = g128 from ((pw143.ef 52 (Nat.ne_of_beq_eq_false rfl)).trans ((pw138.ef 52 (Nat.ne_of_beq_eq_false rfl)).trans ((pw131.ef 52 (Nat.ne_of_beq_eq_false rfl)).trans hg128)))).trans (by rw [eg128, (show xi (E 52) = g4 from hg4), ← (show y34.toNatClampNeg = (2 * a0.toInt + (xi (E 54) a0.toNatClampNeg).toInt).toNat by rw [(show xi (E 54) = g2 from hg2), ← ey32, tn_]; omega)]), (show xi (E142 53) = g132 from ((pw143.ef 53 (Nat.ne_of_beq_eq_false rfl)).trans ((pw138.ef 53 (Nat.ne_of_beq_eq_false rfl)).trans hg132))).trans (by rw [eg132, (show xi (E 53) = g5 from hg5), ← (show y34.toNatClampNeg = (2 * a0.toInt + (xi (E 54) a0.toNatClampNeg).toInt).toNat by rw [(show xi (E 54) = g2 from hg2), ← ey32, tn_]; omega)])⟩, by rw [(show xi (E142 55) = g144 from hg144), (show xi (E142 54) = g140 from ((pw143.ef 54 (Nat.ne_of_beq_eq_false rfl)).trans hg140))]; rw [eg144, eg140]; exact DIr_upd hDI⟩⟩, by show va_P (dC, dI) vwCl (WX 72 ad E142) t.heap; rw [ht]; exact hP⟩, hS.F ht⟩) hS.2.2 dX13_decide_139
            · --87 not
              have t147 : r112.toInt = 1 := ti_eq c118
              have i148 : 1 ≤ r112.toInt ∧ r112.toInt ≤ 1 := iv_eqi t147 (iv_all _) (il_ 1) (by decide)
              refine lv_iconst (v := 2) hx hb dX13_decide_90 (by decide) ?_
              refine lv_goto (tgt := 95) hx hb dX13_decide_91 (by decide) ?_
              refine lv_iadd hx hb dX13_decide_95 ?_
              refine lv_topi (fun y149 ey149 => ?_)
              obtain rfl : (3 : Int32) = y149 := (ey149.trans (by decide)).symm
              have n150 : vp_in y34 60 := (iv_in (n := 60) i35 (by decide))
              refine th_iast hx hb hK hP (WX_D hD) hS hI 51 (Nat.le_of_ble_eq_true rfl) rfl rfl n150 (okI rfl (iv_w ln_3 (by decide))) dX13_decide_96 (fun H locs E151 pw152 hI hP hS => ?_)
              have hKp := hKp.pw pw152 rfl
              obtain ⟨g153, eg153⟩ : ∃ z : Nat → Int32, z = upd g3 y34.toNatClampNeg (3 : Int32) := ⟨_, rfl⟩
              have hg153 : xi (E151 51) = g153 := by rw [pw152.eu, ((kq114.ef 51 (fun _ => rfl)).trans ((kq39.ef 51 (fun _ => rfl)).trans ((kq27.ef 51 (fun _ => rfl)).trans ((pw7.ef 51 (Nat.ne_of_beq_eq_false rfl)).trans hg3)))), eg153]
              refine lv_aload_n hx hb dX13_decide_97 rfl (lv_at hl 2 rfl) ?_
              refine th_get (ci := 14) (C := RX13) (T := TX13) (N := 97) (v := .ref (ad 52)) hx hb hts hinX13 hown hK hP hI 0 (Nat.le_of_ble_eq_true rfl) rfl rfl 70 (Nat.le_of_ble_eq_true rfl) (hts _ (vA_in _ _ (in_28 _ (zs4 (zs1 (zs1 (zs1 (zs0)))))))) (fun _ h9 => h9) (hI.fr 0 (Nat.le_of_ble_eq_true rfl) rfl (Nat.le_of_ble_eq_true rfl) 52 rfl) dX13_decide_98 ?_
              refine lv_iload_n hx hb dX13_decide_101 rfl (lv_at hl 0 rfl) ?_
              refine lv_aload_n hx hb dX13_decide_102 rfl (lv_at hl 2 rfl) ?_
              refine th_get (ci := 14) (C := RX13) (T := TX13) (N := 97) (v := .int (xi (E 0) 1)) hx hb hts hinX13 hown hK hP hI 0 (Nat.le_of_ble_eq_true rfl) rfl rfl 1 (Nat.le_of_ble_eq_true rfl) (hts _ (vA_in _ _ (in_24 _ (zs16 (zs4 (zs4 (zs1 (zs1 (zs1 (zs0)))))))))) (fun _ h9 => h9) (th_v0 hKp hI0 0 (Nat.le_of_ble_eq_true rfl) rfl (Nat.le_of_ble_eq_true rfl) rfl rfl) dX13_decide_103 ?_
              have n154 : vp_in y34 60 := (iv_in (n := 60) i35 (by decide))
              refine th_iast hx hb hK hP (WX_D hD) hS hI 52 (Nat.le_of_ble_eq_true rfl) rfl rfl n154 (okI rfl i23) dX13_decide_106 (fun H locs E155 pw156 hI hP hS => ?_)
              have hKp := hKp.pw pw156 rfl
              obtain ⟨g157, eg157⟩ : ∃ z : Nat → Int32, z = upd g4 y34.toNatClampNeg (xi (E 0) 1) := ⟨_, rfl⟩
              have hg157 : xi (E155 52) = g157 := by rw [pw156.eu, ((pw152.ef 52 (Nat.ne_of_beq_eq_false rfl)).trans ((kq114.ef 52 (fun _ => rfl)).trans ((kq39.ef 52 (fun _ => rfl)).trans ((kq27.ef 52 (fun _ => rfl)).trans ((pw7.ef 52 (Nat.ne_of_beq_eq_false rfl)).trans hg4))))), eg157]
              refine lv_aload_n hx hb dX13_decide_107 rfl (lv_at hl 2 rfl) ?_
              refine th_get (ci := 14) (C := RX13) (T := TX13) (N := 97) (v := .ref (ad 53)) hx hb hts hinX13 hown hK hP hI 0 (Nat.le_of_ble_eq_true rfl) rfl rfl 71 (Nat.le_of_ble_eq_true rfl) (hts _ (vA_in _ _ (in_28 _ (zs4 (zs4 (zs0)))))) (fun _ h9 => h9) (hI.fr 0 (Nat.le_of_ble_eq_true rfl) rfl (Nat.le_of_ble_eq_true rfl) 53 rfl) dX13_decide_108 ?_
              refine lv_iload_n hx hb dX13_decide_111 rfl (lv_at hl 0 rfl) ?_
              refine lv_sipush (v := 1000) hx hb dX13_decide_112 (by decide) ?_
              have n158 : vp_in y34 60 := (iv_in (n := 60) i35 (by decide))
              refine th_iast hx hb hK hP (WX_D hD) hS hI 53 (Nat.le_of_ble_eq_true rfl) rfl rfl n158 (okI rfl (iv_w ln_1000 (by decide))) dX13_decide_115 (fun H locs E159 pw160 hI hP hS => ?_)
              have hKp := hKp.pw pw160 rfl
              obtain ⟨g161, eg161⟩ : ∃ z : Nat → Int32, z = upd g5 y34.toNatClampNeg (1000 : Int32) := ⟨_, rfl⟩
              have hg161 : xi (E159 53) = g161 := by rw [pw160.eu, ((pw156.ef 53 (Nat.ne_of_beq_eq_false rfl)).trans ((pw152.ef 53 (Nat.ne_of_beq_eq_false rfl)).trans ((kq114.ef 53 (fun _ => rfl)).trans ((kq39.ef 53 (fun _ => rfl)).trans ((kq27.ef 53 (fun _ => rfl)).trans ((pw7.ef 53 (Nat.ne_of_beq_eq_false rfl)).trans hg5)))))), eg161]
              refine lv_aload_n hx hb dX13_decide_116 rfl (lv_at hl 2 rfl) ?_
              refine th_get (ci := 14) (C := RX13) (T := TX13) (N := 97) (v := .ref (ad 54)) hx hb hts hinX13 hown hK hP hI 0 (Nat.le_of_ble_eq_true rfl) rfl rfl 72 (Nat.le_of_ble_eq_true rfl) (hts _ (vA_in _ _ (in_28 _ (zs4 (zs1 (zs0)))))) (fun _ h9 => h9) (hI.fr 0 (Nat.le_of_ble_eq_true rfl) rfl (Nat.le_of_ble_eq_true rfl) 54 rfl) dX13_decide_117 ?_
              refine lv_iload_n hx hb dX13_decide_120 rfl (lv_at hl 3 rfl) ?_
              refine lv_dup2_11 hx hb dX13_decide_121 rfl rfl ?_
              have n163 : vp_in a0 30 := (iv_in (n := 30) i15 (by decide))
              refine th_iald hx hb hK hP hI 54 (Nat.le_of_ble_eq_true rfl) rfl rfl n163 dX13_decide_122 (fun y162 ey162 => ?_)
              have iy162 : 0 ≤ y162.toInt ∧ y162.toInt ≤ 2 := hI.el 54 (Nat.le_of_ble_eq_true rfl) rfl n163 (fun _ => rfl) ey162
              have ey162 := ey162.trans (congrFun ((pw160.ef 54 (Nat.ne_of_beq_eq_false rfl)).trans ((pw156.ef 54 (Nat.ne_of_beq_eq_false rfl)).trans ((pw152.ef 54 (Nat.ne_of_beq_eq_false rfl)).trans ((kq114.ef 54 (fun _ => rfl)).trans ((kq39.ef 54 (fun _ => rfl)).trans ((kq27.ef 54 (fun _ => rfl)).trans ((pw7.ef 54 (Nat.ne_of_beq_eq_false rfl)).trans hg2))))))) _)
              have d2 : y162.toInt ≤ 1 := by rw [ey162, ← ey32]; exact d1
              refine lv_iconst (v := 1) hx hb dX13_decide_123 (by decide) ?_
              refine lv_iadd hx hb dX13_decide_124 ?_
              refine lv_topi (fun y164 ey164 => ?_)
              obtain ⟨ty164, iy164⟩ := ti_add (e := 1) (f := 3) iy162 ln_1 ey164 (by decide)
              have ty164 : y164.toInt = y162.toInt + 1 := ty164
              have iy164 : 1 ≤ y164.toInt ∧ y164.toInt ≤ 3 := iy164
              have n165 : vp_in a0 30 := (iv_in (n := 30) i15 (by decide))
              have i168 : 1 ≤ y164.toInt ∧ y164.toInt ≤ 2 := by omega
              refine th_iast hx hb hK hP (WX_D hD) hS hI 54 (Nat.le_of_ble_eq_true rfl) rfl rfl n165 (okI rfl (iv_w i168 (by decide))) dX13_decide_125 (fun H locs E166 pw167 hI hP hS => ?_)
              have hKp := hKp.pw pw167 rfl
              obtain ⟨g169, eg169⟩ : ∃ z : Nat → Int32, z = upd g2 a0.toNatClampNeg y164 := ⟨_, rfl⟩
              have hg169 : xi (E166 54) = g169 := by rw [pw167.eu, ((pw160.ef 54 (Nat.ne_of_beq_eq_false rfl)).trans ((pw156.ef 54 (Nat.ne_of_beq_eq_false rfl)).trans ((pw152.ef 54 (Nat.ne_of_beq_eq_false rfl)).trans ((kq114.ef 54 (fun _ => rfl)).trans ((kq39.ef 54 (fun _ => rfl)).trans ((kq27.ef 54 (fun _ => rfl)).trans ((pw7.ef 54 (Nat.ne_of_beq_eq_false rfl)).trans hg2))))))), eg169]
              refine lv_aload_n hx hb dX13_decide_126 rfl (lv_at hl 2 rfl) ?_
              refine th_get (ci := 14) (C := RX13) (T := TX13) (N := 97) (v := .ref (ad 55)) hx hb hts hinX13 hown hK hP hI 0 (Nat.le_of_ble_eq_true rfl) rfl rfl 73 (Nat.le_of_ble_eq_true rfl) (hts _ (vA_in _ _ (in_30 _ (zs16 (zs4 (zs4 (zs0))))))) (fun _ h9 => h9) (hI.fr 0 (Nat.le_of_ble_eq_true rfl) rfl (Nat.le_of_ble_eq_true rfl) 55 rfl) dX13_decide_127 ?_
              refine lv_iload_n hx hb dX13_decide_130 rfl (lv_at hl 3 rfl) ?_
              refine lv_iconst (v := 1) hx hb dX13_decide_131 (by decide) ?_
              have n170 : vp_in a0 30 := (iv_in (n := 30) i15 (by decide))
              refine th_zast hx hb hK hP (WX_D hD) hS hI 55 (Nat.le_of_ble_eq_true rfl) rfl rfl n170 (iv_w ln_1 (by decide)) (okI rfl (iv_w ln_1 (by decide))) dX13_decide_132 (fun H locs E171 pw172 hI hP hS => ?_)
              have hKp := hKp.pw pw172 rfl
              obtain ⟨g173, eg173⟩ : ∃ z : Nat → Int32, z = upd g1 a0.toNatClampNeg (1 : Int32) := ⟨_, rfl⟩
              have hg173 : xi (E171 55) = g173 := by rw [pw172.eu, ((pw167.ef 55 (Nat.ne_of_beq_eq_false rfl)).trans ((pw160.ef 55 (Nat.ne_of_beq_eq_false rfl)).trans ((pw156.ef 55 (Nat.ne_of_beq_eq_false rfl)).trans ((pw152.ef 55 (Nat.ne_of_beq_eq_false rfl)).trans ((kq114.ef 55 (fun _ => rfl)).trans ((kq39.ef 55 (fun _ => rfl)).trans ((kq27.ef 55 (fun _ => rfl)).trans ((pw7.ef 55 (Nat.ne_of_beq_eq_false rfl)).trans hg1)))))))), eg173]
              refine lv_aload_n hx hb dX13_decide_133 rfl (lv_at hl 2 rfl) ?_
              refine th_get (ci := 14) (C := RX13) (T := TX13) (N := 97) (v := .ref (ad 51)) hx hb hts hinX13 hown hK hP hI 0 (Nat.le_of_ble_eq_true rfl) rfl rfl 69 (Nat.le_of_ble_eq_true rfl) (hts _ (vA_in _ _ (in_28 _ (zs4 (zs1 (zs1 (zs0))))))) (fun _ h9 => h9) (hI.fr 0 (Nat.le_of_ble_eq_true rfl) rfl (Nat.le_of_ble_eq_true rfl) 51 rfl) dX13_decide_134 ?_
              refine lv_iload_n hx hb dX13_decide_137 rfl (lv_at hl 0 rfl) ?_
              have n175 : vp_in y34 60 := (iv_in (n := 60) i35 (by decide))
              refine th_iald hx hb hK hP hI 51 (Nat.le_of_ble_eq_true rfl) rfl rfl n175 dX13_decide_138 (fun y174 ey174 => ?_)
              have iy174 : 0 ≤ y174.toInt ∧ y174.toInt ≤ 3 := hI.el 51 (Nat.le_of_ble_eq_true rfl) rfl n175 (fun _ => rfl) ey174
              have ey174 := ey174.trans (congrFun ((pw172.ef 51 (Nat.ne_of_beq_eq_false rfl)).trans ((pw167.ef 51 (Nat.ne_of_beq_eq_false rfl)).trans ((pw160.ef 51 (Nat.ne_of_beq_eq_false rfl)).trans ((pw156.ef 51 (Nat.ne_of_beq_eq_false rfl)).trans hg153)))) _)
              rw [hQ]
              exact W.iret (v := y174) hx hb hr (fun t ht hW => ⟨⟨y174, E171, rfl, ⟨hI, hKp, Or.inl ⟨iy174, ⟨by rw [(show xi (E 55) = g1 from hg1)]; have gy18 := congrArg Int32.toInt ey18; all_goals omega, (fun q9 => dec_b k41 k117 (by rw [if_pos (by omega), if_pos (by omega)]; have h9 : y174 = (3 : Int32) := (by rw [ey174]; first | exact pk_us | (rw [eg153]; exact pk_us)); have t9 := congrArg Int32.toInt h9; have z9 := ln_3; omega))⟩, ⟨(show xi (E171 55) = g173 from hg173).trans (by rw [eg173, (show xi (E 55) = g1 from hg1)]), (show xi (E171 54) = g169 from ((pw172.ef 54 (Nat.ne_of_beq_eq_false rfl)).trans hg169)).trans (by rw [eg169, (show xi (E 54) = g2 from hg2)]; congr 1; rw [← ey162]; exact ey164), (show xi (E171 51) = g153 from ((pw172.ef 51 (Nat.ne_of_beq_eq_false rfl)).trans ((pw167.ef 51 (Nat.ne_of_beq_eq_false rfl)).trans ((pw160.ef 51 (Nat.ne_of_beq_eq_false rfl)).trans ((pw156.ef 51 (Nat.ne_of_beq_eq_false rfl)).trans hg153))))).trans (by rw [show g153 = upd g3 y34.toNatClampNeg y174 from by rw [ey174, eg153, pk_us], (show xi (E 51) = g3 from hg3), ← (show y34.toNatClampNeg = (2 * a0.toInt + (xi (E 54) a0.toNatClampNeg).toInt).toNat by rw [(show xi (E 54) = g2 from hg2), ← ey32, tn_]; omega)]), (show xi (E171 52) = g157 from ((pw172.ef 52 (Nat.ne_of_beq_eq_false rfl)).trans ((pw167.ef 52 (Nat.ne_of_beq_eq_false rfl)).trans ((pw160.ef 52 (Nat.ne_of_beq_eq_false rfl)).trans hg157)))).trans (by rw [eg157, (show xi (E 52) = g4 from hg4), ← (show y34.toNatClampNeg = (2 * a0.toInt + (xi (E 54) a0.toNatClampNeg).toInt).toNat by rw [(show xi (E 54) = g2 from hg2), ← ey32, tn_]; omega)]), (show xi (E171 53) = g161 from ((pw172.ef 53 (Nat.ne_of_beq_eq_false rfl)).trans ((pw167.ef 53 (Nat.ne_of_beq_eq_false rfl)).trans hg161))).trans (by rw [eg161, (show xi (E 53) = g5 from hg5), ← (show y34.toNatClampNeg = (2 * a0.toInt + (xi (E 54) a0.toNatClampNeg).toInt).toNat by rw [(show xi (E 54) = g2 from hg2), ← ey32, tn_]; omega)])⟩, by rw [(show xi (E171 55) = g173 from hg173), (show xi (E171 54) = g169 from ((pw172.ef 54 (Nat.ne_of_beq_eq_false rfl)).trans hg169))]; rw [eg173, eg169]; exact DIr_upd hDI⟩⟩, by show va_P (dC, dI) vwCl (WX 72 ad E171) t.heap; rw [ht]; exact hP⟩, hS.F ht⟩) hS.2.2 dX13_decide_139
        · -- asksProtestV, case 1
          obtain ⟨rfl, f176⟩ := hw
          try rw [hKb.ei 0 75 rfl] at f176
          try rw [hKb.ei 0 1 rfl] at f176
          try rw [k24.1 50 (by decide)] at f176
          refine lv_istore_n (lv' := [(2, .int 0), (0, .ref (ad 0)), (1, .int a0)]) hx hb dX13_decide_40 rfl hl (by decide) rfl (fun ls hl => ?_)
          refine lv_iconst (v := 2) hx hb dX13_decide_41 (by decide) ?_
          refine lv_iload_n hx hb dX13_decide_42 rfl (lv_at hl 2 rfl) ?_
          refine lv_imul hx hb dX13_decide_43 ?_
          refine lv_topi (fun y177 ey177 => ?_)
          obtain ⟨ty177, iy177⟩ := ti_mul (e := 0) (f := 58) ln_2 i15 ey177 (by decide)
          have ty177 : y177.toInt = 2 * a0.toInt := ty177
          have iy177 : 0 ≤ y177.toInt ∧ y177.toInt ≤ 58 := iy177
          refine lv_aload_n hx hb dX13_decide_44 rfl (lv_at hl 1 rfl) ?_
          refine th_get (ci := 14) (C := RX13) (T := TX13) (N := 97) (v := .ref (ad 54)) hx hb hts hinX13 hown hK hP hI 0 (Nat.le_of_ble_eq_true rfl) rfl rfl 72 (Nat.le_of_ble_eq_true rfl) (hts _ (vA_in _ _ (in_28 _ (zs4 (zs1 (zs0)))))) (fun _ h9 => h9) (hI.fr 0 (Nat.le_of_ble_eq_true rfl) rfl (Nat.le_of_ble_eq_true rfl) 54 rfl) dX13_decide_45 ?_
          refine lv_iload_n hx hb dX13_decide_48 rfl (lv_at hl 2 rfl) ?_
          have n179 : vp_in a0 30 := (iv_in (n := 30) i15 (by decide))
          refine th_iald hx hb hK hP hI 54 (Nat.le_of_ble_eq_true rfl) rfl rfl n179 dX13_decide_49 (fun y178 ey178 => ?_)
          have iy178 : 0 ≤ y178.toInt ∧ y178.toInt ≤ 2 := hI.el 54 (Nat.le_of_ble_eq_true rfl) rfl n179 (fun _ => rfl) ey178
          have ey178 := ey178.trans (congrFun ((kq27.ef 54 (fun _ => rfl)).trans ((pw7.ef 54 (Nat.ne_of_beq_eq_false rfl)).trans hg2)) _)
          refine lv_iadd hx hb dX13_decide_50 ?_
          refine lv_topi (fun y180 ey180 => ?_)
          obtain ⟨ty180, iy180⟩ := ti_add (e := 0) (f := 60) iy177 iy178 ey180 (by decide)
          have ty180 : y180.toInt = y177.toInt + y178.toInt := ty180
          have iy180 : 0 ≤ y180.toInt ∧ y180.toInt ≤ 60 := iy180
          have d1 : y178.toInt ≤ 1 := by rw [ey178]; exact hDI _ (by rw [← ey18]; exact c20)
          have i181 : 0 ≤ y180.toInt ∧ y180.toInt ≤ 59 := by omega
          refine lv_istore_n (lv' := [(3, .int y180), (2, .int 0), (0, .ref (ad 0)), (1, .int a0)]) hx hb dX13_decide_51 rfl hl (by decide) rfl (fun ls hl => ?_)
          refine lv_aload_n hx hb dX13_decide_52 rfl (lv_at hl 2 rfl) ?_
          refine th_get (ci := 14) (C := RX13) (T := TX13) (N := 97) (v := .ref (ad 51)) hx hb hts hinX13 hown hK hP hI 0 (Nat.le_of_ble_eq_true rfl) rfl rfl 69 (Nat.le_of_ble_eq_true rfl) (hts _ (vA_in _ _ (in_28 _ (zs4 (zs1 (zs1 (zs0))))))) (fun _ h9 => h9) (hI.fr 0 (Nat.le_of_ble_eq_true rfl) rfl (Nat.le_of_ble_eq_true rfl) 51 rfl) dX13_decide_53 ?_
          refine lv_iload_n hx hb dX13_decide_56 rfl (lv_at hl 0 rfl) ?_
          refine lv_aload_n hx hb dX13_decide_57 rfl (lv_at hl 2 rfl) ?_
          refine lv_iload_n hx hb dX13_decide_58 rfl (lv_at hl 3 rfl) ?_
          refine lv_iconst (v := 0) hx hb dX13_decide_59 (by decide) ?_
          refine lv_aload_n hx hb dX13_decide_60 rfl (lv_at hl 2 rfl) ?_
          refine th_get (ci := 14) (C := RX13) (T := TX13) (N := 97) (v := .int (xi (E 0) 1)) hx hb hts hinX13 hown hK hP hI 0 (Nat.le_of_ble_eq_true rfl) rfl rfl 1 (Nat.le_of_ble_eq_true rfl) (hts _ (vA_in _ _ (in_24 _ (zs16 (zs4 (zs4 (zs1 (zs1 (zs1 (zs0)))))))))) (fun _ h9 => h9) (th_v0 hKp hI0 0 (Nat.le_of_ble_eq_true rfl) rfl (Nat.le_of_ble_eq_true rfl) rfl rfl) dX13_decide_61 ?_
          have k182 : KdM E E26 := KdM.of hKp rfl rfl rfl
          have z0 := ln_0
          refine th_i (va_runV (As := [.int a0, .int 0, .int (xi (E 0) 1)]) (rest := [.int y180, .ref (ad 51)]) ⟨hx, hb, hml, hown, hts⟩ (q_findingOfV l dC dI cT ad E26 H.size a0 (0 : Int32) (xi (E 0) 1) hI i15 (by exact hh1.cg (fun j9 => hKp.ei 8 j9 rfl) (fun j9 => hKp.ei 9 j9 rfl) (hKp.ei 0 17 rfl))) (cwV 3 hts (gi_V (in_30 _ (zs16 (zs4 (zs4 (zs4 (zs0)))))) (in_30 _ (zs16 (zs4 (zs4 (zs4 (zs1 (zs0))))))) (in_30 _ (zs16 (zs4 (zs4 (zs4 (zs1 (zs1 (zs0)))))))) (in_24 _ (zs4 (zs4 (zs4 (zs1 (zs1 (zs1 (zs0)))))))) (in_30 _ (zs16 (zs4 (zs4 (zs4 (zs1 (zs1 (zs1 (zs0)))))))))) rfl rfl rfl ⟨rfl, hz_yX13_findingOf_3⟩ ⟨Nat.le_of_ble_eq_true rfl, Nat.le_of_ble_eq_true rfl⟩) ⟨HW_bl, va_recv hK hP (ci := 14) (q0 := 0) rfl (hI.ob 0 (Nat.le_of_ble_eq_true rfl) rfl), (HW_wi hP hK (WX_D hD) hS hA hEV)⟩ rfl rfl hl.1 rfl (lv_room (Nat.le_of_ble_eq_true rfl)) dX13_decide_64 ⟨Nat.le_of_ble_eq_true rfl, Nat.le_of_ble_eq_true rfl⟩) (WX_D hD) hS hA (fun r183 E184 H locs hw hP hS => ?_)
          obtain ⟨hI, kq185, hw⟩ := hw
          have hKb := hKp
          have hKp := hKp.tr kq185 (wl_sub rfl rfl)
          have f186 := hw
          refine lv_iconst (v := 1) hx hb dX13_decide_67 (by decide) ?_
          refine lv_icmp_ne (tgt := 75) hx hb dX13_decide_68 (by decide) (fun c187 => ?_) (fun c187 => ?_)
          · --68 taken
            have t188 : ¬ r183.toInt = 1 := ti_ne c187
            refine lv_iconst (v := 0) hx hb dX13_decide_75 (by decide) ?_
            refine lv_aload_n hx hb dX13_decide_76 rfl (lv_at hl 2 rfl) ?_
            refine lv_iload_n hx hb dX13_decide_77 rfl (lv_at hl 3 rfl) ?_
            refine lv_iconst (v := 1) hx hb dX13_decide_78 (by decide) ?_
            refine lv_aload_n hx hb dX13_decide_79 rfl (lv_at hl 2 rfl) ?_
            refine th_get (ci := 14) (C := RX13) (T := TX13) (N := 97) (v := .int (xi (E 0) 1)) hx hb hts hinX13 hown hK hP hI 0 (Nat.le_of_ble_eq_true rfl) rfl rfl 1 (Nat.le_of_ble_eq_true rfl) (hts _ (vA_in _ _ (in_24 _ (zs16 (zs4 (zs4 (zs1 (zs1 (zs1 (zs0)))))))))) (fun _ h9 => h9) (th_v0 hKp hI0 0 (Nat.le_of_ble_eq_true rfl) rfl (Nat.le_of_ble_eq_true rfl) rfl rfl) dX13_decide_80 ?_
            have k189 : KdM E E184 := KdM.of hKp rfl rfl rfl
            have z1 := ln_1
            refine th_i (va_runV (As := [.int a0, .int 1, .int (xi (E 0) 1)]) (rest := [.int 0, .int y180, .ref (ad 51)]) ⟨hx, hb, hml, hown, hts⟩ (q_findingOfV l dC dI cT ad E184 H.size a0 (1 : Int32) (xi (E 0) 1) hI i15 (by exact hh1.cg (fun j9 => hKp.ei 8 j9 rfl) (fun j9 => hKp.ei 9 j9 rfl) (hKp.ei 0 17 rfl))) (cwV 3 hts (gi_V (in_30 _ (zs16 (zs4 (zs4 (zs4 (zs0)))))) (in_30 _ (zs16 (zs4 (zs4 (zs4 (zs1 (zs0))))))) (in_30 _ (zs16 (zs4 (zs4 (zs4 (zs1 (zs1 (zs0)))))))) (in_24 _ (zs4 (zs4 (zs4 (zs1 (zs1 (zs1 (zs0)))))))) (in_30 _ (zs16 (zs4 (zs4 (zs4 (zs1 (zs1 (zs1 (zs0)))))))))) rfl rfl rfl ⟨rfl, hz_yX13_findingOf_3⟩ ⟨Nat.le_of_ble_eq_true rfl, Nat.le_of_ble_eq_true rfl⟩) ⟨HW_bl, va_recv hK hP (ci := 14) (q0 := 0) rfl (hI.ob 0 (Nat.le_of_ble_eq_true rfl) rfl), (HW_wi hP hK (WX_D hD) hS hA hEV)⟩ rfl rfl hl.1 rfl (lv_room (Nat.le_of_ble_eq_true rfl)) dX13_decide_83 ⟨Nat.le_of_ble_eq_true rfl, Nat.le_of_ble_eq_true rfl⟩) (WX_D hD) hS hA (fun r190 E191 H locs hw hP hS => ?_)
            obtain ⟨hI, kq192, hw⟩ := hw
            have hKb := hKp
            have hKp := hKp.tr kq192 (wl_sub rfl rfl)
            have f193 := hw
            refine lv_iconst (v := 1) hx hb dX13_decide_86 (by decide) ?_
            refine lv_icmp_ne (tgt := 94) hx hb dX13_decide_87 (by decide) (fun c194 => ?_) (fun c194 => ?_)
            · --87 taken
              have t195 : ¬ r190.toInt = 1 := ti_ne c194
              refine lv_iconst (v := 0) hx hb dX13_decide_94 (by decide) ?_
              refine lv_iadd hx hb dX13_decide_95 ?_
              refine lv_topi (fun y196 ey196 => ?_)
              obtain rfl : (0 : Int32) = y196 := (ey196.trans (by decide)).symm
              have n197 : vp_in y180 60 := (iv_in (n := 60) i181 (by decide))
              refine th_iast hx hb hK hP (WX_D hD) hS hI 51 (Nat.le_of_ble_eq_true rfl) rfl rfl n197 (okI rfl (iv_w ln_0 (by decide))) dX13_decide_96 (fun H locs E198 pw199 hI hP hS => ?_)
              have hKp := hKp.pw pw199 rfl
              obtain ⟨g200, eg200⟩ : ∃ z : Nat → Int32, z = upd g3 y180.toNatClampNeg (0 : Int32) := ⟨_, rfl⟩
              have hg200 : xi (E198 51) = g200 := by rw [pw199.eu, ((kq192.ef 51 (fun _ => rfl)).trans ((kq185.ef 51 (fun _ => rfl)).trans ((kq27.ef 51 (fun _ => rfl)).trans ((pw7.ef 51 (Nat.ne_of_beq_eq_false rfl)).trans hg3)))), eg200]
              refine lv_aload_n hx hb dX13_decide_97 rfl (lv_at hl 2 rfl) ?_
              refine th_get (ci := 14) (C := RX13) (T := TX13) (N := 97) (v := .ref (ad 52)) hx hb hts hinX13 hown hK hP hI 0 (Nat.le_of_ble_eq_true rfl) rfl rfl 70 (Nat.le_of_ble_eq_true rfl) (hts _ (vA_in _ _ (in_28 _ (zs4 (zs1 (zs1 (zs1 (zs0)))))))) (fun _ h9 => h9) (hI.fr 0 (Nat.le_of_ble_eq_true rfl) rfl (Nat.le_of_ble_eq_true rfl) 52 rfl) dX13_decide_98 ?_
              refine lv_iload_n hx hb dX13_decide_101 rfl (lv_at hl 0 rfl) ?_
              refine lv_aload_n hx hb dX13_decide_102 rfl (lv_at hl 2 rfl) ?_
              refine th_get (ci := 14) (C := RX13) (T := TX13) (N := 97) (v := .int (xi (E 0) 1)) hx hb hts hinX13 hown hK hP hI 0 (Nat.le_of_ble_eq_true rfl) rfl rfl 1 (Nat.le_of_ble_eq_true rfl) (hts _ (vA_in _ _ (in_24 _ (zs16 (zs4 (zs4 (zs1 (zs1 (zs1 (zs0)))))))))) (fun _ h9 => h9) (th_v0 hKp hI0 0 (Nat.le_of_ble_eq_true rfl) rfl (Nat.le_of_ble_eq_true rfl) rfl rfl) dX13_decide_103 ?_
              have n201 : vp_in y180 60 := (iv_in (n := 60) i181 (by decide))
              refine th_iast hx hb hK hP (WX_D hD) hS hI 52 (Nat.le_of_ble_eq_true rfl) rfl rfl n201 (okI rfl i23) dX13_decide_106 (fun H locs E202 pw203 hI hP hS => ?_)
              have hKp := hKp.pw pw203 rfl
              obtain ⟨g204, eg204⟩ : ∃ z : Nat → Int32, z = upd g4 y180.toNatClampNeg (xi (E 0) 1) := ⟨_, rfl⟩
              have hg204 : xi (E202 52) = g204 := by rw [pw203.eu, ((pw199.ef 52 (Nat.ne_of_beq_eq_false rfl)).trans ((kq192.ef 52 (fun _ => rfl)).trans ((kq185.ef 52 (fun _ => rfl)).trans ((kq27.ef 52 (fun _ => rfl)).trans ((pw7.ef 52 (Nat.ne_of_beq_eq_false rfl)).trans hg4))))), eg204]
              refine lv_aload_n hx hb dX13_decide_107 rfl (lv_at hl 2 rfl) ?_
              refine th_get (ci := 14) (C := RX13) (T := TX13) (N := 97) (v := .ref (ad 53)) hx hb hts hinX13 hown hK hP hI 0 (Nat.le_of_ble_eq_true rfl) rfl rfl 71 (Nat.le_of_ble_eq_true rfl) (hts _ (vA_in _ _ (in_28 _ (zs4 (zs4 (zs0)))))) (fun _ h9 => h9) (hI.fr 0 (Nat.le_of_ble_eq_true rfl) rfl (Nat.le_of_ble_eq_true rfl) 53 rfl) dX13_decide_108 ?_
              refine lv_iload_n hx hb dX13_decide_111 rfl (lv_at hl 0 rfl) ?_
              refine lv_sipush (v := 1000) hx hb dX13_decide_112 (by decide) ?_
              have n205 : vp_in y180 60 := (iv_in (n := 60) i181 (by decide))
              refine th_iast hx hb hK hP (WX_D hD) hS hI 53 (Nat.le_of_ble_eq_true rfl) rfl rfl n205 (okI rfl (iv_w ln_1000 (by decide))) dX13_decide_115 (fun H locs E206 pw207 hI hP hS => ?_)
              have hKp := hKp.pw pw207 rfl
              obtain ⟨g208, eg208⟩ : ∃ z : Nat → Int32, z = upd g5 y180.toNatClampNeg (1000 : Int32) := ⟨_, rfl⟩
              have hg208 : xi (E206 53) = g208 := by rw [pw207.eu, ((pw203.ef 53 (Nat.ne_of_beq_eq_false rfl)).trans ((pw199.ef 53 (Nat.ne_of_beq_eq_false rfl)).trans ((kq192.ef 53 (fun _ => rfl)).trans ((kq185.ef 53 (fun _ => rfl)).trans ((kq27.ef 53 (fun _ => rfl)).trans ((pw7.ef 53 (Nat.ne_of_beq_eq_false rfl)).trans hg5)))))), eg208]
              refine lv_aload_n hx hb dX13_decide_116 rfl (lv_at hl 2 rfl) ?_
              refine th_get (ci := 14) (C := RX13) (T := TX13) (N := 97) (v := .ref (ad 54)) hx hb hts hinX13 hown hK hP hI 0 (Nat.le_of_ble_eq_true rfl) rfl rfl 72 (Nat.le_of_ble_eq_true rfl) (hts _ (vA_in _ _ (in_28 _ (zs4 (zs1 (zs0)))))) (fun _ h9 => h9) (hI.fr 0 (Nat.le_of_ble_eq_true rfl) rfl (Nat.le_of_ble_eq_true rfl) 54 rfl) dX13_decide_117 ?_
              refine lv_iload_n hx hb dX13_decide_120 rfl (lv_at hl 3 rfl) ?_
              refine lv_dup2_11 hx hb dX13_decide_121 rfl rfl ?_
              have n210 : vp_in a0 30 := (iv_in (n := 30) i15 (by decide))
              refine th_iald hx hb hK hP hI 54 (Nat.le_of_ble_eq_true rfl) rfl rfl n210 dX13_decide_122 (fun y209 ey209 => ?_)
              have iy209 : 0 ≤ y209.toInt ∧ y209.toInt ≤ 2 := hI.el 54 (Nat.le_of_ble_eq_true rfl) rfl n210 (fun _ => rfl) ey209
              have ey209 := ey209.trans (congrFun ((pw207.ef 54 (Nat.ne_of_beq_eq_false rfl)).trans ((pw203.ef 54 (Nat.ne_of_beq_eq_false rfl)).trans ((pw199.ef 54 (Nat.ne_of_beq_eq_false rfl)).trans ((kq192.ef 54 (fun _ => rfl)).trans ((kq185.ef 54 (fun _ => rfl)).trans ((kq27.ef 54 (fun _ => rfl)).trans ((pw7.ef 54 (Nat.ne_of_beq_eq_false rfl)).trans hg2))))))) _)
              have d2 : y209.toInt ≤ 1 := by rw [ey209, ← ey178]; exact d1
              refine lv_iconst (v := 1) hx hb dX13_decide_123 (by decide) ?_
              refine lv_iadd hx hb dX13_decide_124 ?_
              refine lv_topi (fun y211 ey211 => ?_)
              obtain ⟨ty211, iy211⟩ := ti_add (e := 1) (f := 3) iy209 ln_1 ey211 (by decide)
              have ty211 : y211.toInt = y209.toInt + 1 := ty211
              have iy211 : 1 ≤ y211.toInt ∧ y211.toInt ≤ 3 := iy211
              have n212 : vp_in a0 30 := (iv_in (n := 30) i15 (by decide))
              have i215 : 1 ≤ y211.toInt ∧ y211.toInt ≤ 2 := by omega
              refine th_iast hx hb hK hP (WX_D hD) hS hI 54 (Nat.le_of_ble_eq_true rfl) rfl rfl n212 (okI rfl (iv_w i215 (by decide))) dX13_decide_125 (fun H locs E213 pw214 hI hP hS => ?_)
              have hKp := hKp.pw pw214 rfl
              obtain ⟨g216, eg216⟩ : ∃ z : Nat → Int32, z = upd g2 a0.toNatClampNeg y211 := ⟨_, rfl⟩
              have hg216 : xi (E213 54) = g216 := by rw [pw214.eu, ((pw207.ef 54 (Nat.ne_of_beq_eq_false rfl)).trans ((pw203.ef 54 (Nat.ne_of_beq_eq_false rfl)).trans ((pw199.ef 54 (Nat.ne_of_beq_eq_false rfl)).trans ((kq192.ef 54 (fun _ => rfl)).trans ((kq185.ef 54 (fun _ => rfl)).trans ((kq27.ef 54 (fun _ => rfl)).trans ((pw7.ef 54 (Nat.ne_of_beq_eq_false rfl)).trans hg2))))))), eg216]
              refine lv_aload_n hx hb dX13_decide_126 rfl (lv_at hl 2 rfl) ?_
              refine th_get (ci := 14) (C := RX13) (T := TX13) (N := 97) (v := .ref (ad 55)) hx hb hts hinX13 hown hK hP hI 0 (Nat.le_of_ble_eq_true rfl) rfl rfl 73 (Nat.le_of_ble_eq_true rfl) (hts _ (vA_in _ _ (in_30 _ (zs16 (zs4 (zs4 (zs0))))))) (fun _ h9 => h9) (hI.fr 0 (Nat.le_of_ble_eq_true rfl) rfl (Nat.le_of_ble_eq_true rfl) 55 rfl) dX13_decide_127 ?_
              refine lv_iload_n hx hb dX13_decide_130 rfl (lv_at hl 3 rfl) ?_
              refine lv_iconst (v := 1) hx hb dX13_decide_131 (by decide) ?_
              have n217 : vp_in a0 30 := (iv_in (n := 30) i15 (by decide))
              refine th_zast hx hb hK hP (WX_D hD) hS hI 55 (Nat.le_of_ble_eq_true rfl) rfl rfl n217 (iv_w ln_1 (by decide)) (okI rfl (iv_w ln_1 (by decide))) dX13_decide_132 (fun H locs E218 pw219 hI hP hS => ?_)
              have hKp := hKp.pw pw219 rfl
              obtain ⟨g220, eg220⟩ : ∃ z : Nat → Int32, z = upd g1 a0.toNatClampNeg (1 : Int32) := ⟨_, rfl⟩
              have hg220 : xi (E218 55) = g220 := by rw [pw219.eu, ((pw214.ef 55 (Nat.ne_of_beq_eq_false rfl)).trans ((pw207.ef 55 (Nat.ne_of_beq_eq_false rfl)).trans ((pw203.ef 55 (Nat.ne_of_beq_eq_false rfl)).trans ((pw199.ef 55 (Nat.ne_of_beq_eq_false rfl)).trans ((kq192.ef 55 (fun _ => rfl)).trans ((kq185.ef 55 (fun _ => rfl)).trans ((kq27.ef 55 (fun _ => rfl)).trans ((pw7.ef 55 (Nat.ne_of_beq_eq_false rfl)).trans hg1)))))))), eg220]
              refine lv_aload_n hx hb dX13_decide_133 rfl (lv_at hl 2 rfl) ?_
              refine th_get (ci := 14) (C := RX13) (T := TX13) (N := 97) (v := .ref (ad 51)) hx hb hts hinX13 hown hK hP hI 0 (Nat.le_of_ble_eq_true rfl) rfl rfl 69 (Nat.le_of_ble_eq_true rfl) (hts _ (vA_in _ _ (in_28 _ (zs4 (zs1 (zs1 (zs0))))))) (fun _ h9 => h9) (hI.fr 0 (Nat.le_of_ble_eq_true rfl) rfl (Nat.le_of_ble_eq_true rfl) 51 rfl) dX13_decide_134 ?_
              refine lv_iload_n hx hb dX13_decide_137 rfl (lv_at hl 0 rfl) ?_
              have n222 : vp_in y180 60 := (iv_in (n := 60) i181 (by decide))
              refine th_iald hx hb hK hP hI 51 (Nat.le_of_ble_eq_true rfl) rfl rfl n222 dX13_decide_138 (fun y221 ey221 => ?_)
              have iy221 : 0 ≤ y221.toInt ∧ y221.toInt ≤ 3 := hI.el 51 (Nat.le_of_ble_eq_true rfl) rfl n222 (fun _ => rfl) ey221
              have ey221 := ey221.trans (congrFun ((pw219.ef 51 (Nat.ne_of_beq_eq_false rfl)).trans ((pw214.ef 51 (Nat.ne_of_beq_eq_false rfl)).trans ((pw207.ef 51 (Nat.ne_of_beq_eq_false rfl)).trans ((pw203.ef 51 (Nat.ne_of_beq_eq_false rfl)).trans hg200)))) _)
              rw [hQ]
              exact W.iret (v := y221) hx hb hr (fun t ht hW => ⟨⟨y221, E218, rfl, ⟨hI, hKp, Or.inl ⟨iy221, ⟨by rw [(show xi (E 55) = g1 from hg1)]; have gy18 := congrArg Int32.toInt ey18; all_goals omega, (fun q9 => by exfalso; have z0 := ln_0; omega)⟩, ⟨(show xi (E218 55) = g220 from hg220).trans (by rw [eg220, (show xi (E 55) = g1 from hg1)]), (show xi (E218 54) = g216 from ((pw219.ef 54 (Nat.ne_of_beq_eq_false rfl)).trans hg216)).trans (by rw [eg216, (show xi (E 54) = g2 from hg2)]; congr 1; rw [← ey209]; exact ey211), (show xi (E218 51) = g200 from ((pw219.ef 51 (Nat.ne_of_beq_eq_false rfl)).trans ((pw214.ef 51 (Nat.ne_of_beq_eq_false rfl)).trans ((pw207.ef 51 (Nat.ne_of_beq_eq_false rfl)).trans ((pw203.ef 51 (Nat.ne_of_beq_eq_false rfl)).trans hg200))))).trans (by rw [show g200 = upd g3 y180.toNatClampNeg y221 from by rw [ey221, eg200, pk_us], (show xi (E 51) = g3 from hg3), ← (show y180.toNatClampNeg = (2 * a0.toInt + (xi (E 54) a0.toNatClampNeg).toInt).toNat by rw [(show xi (E 54) = g2 from hg2), ← ey178, tn_]; omega)]), (show xi (E218 52) = g204 from ((pw219.ef 52 (Nat.ne_of_beq_eq_false rfl)).trans ((pw214.ef 52 (Nat.ne_of_beq_eq_false rfl)).trans ((pw207.ef 52 (Nat.ne_of_beq_eq_false rfl)).trans hg204)))).trans (by rw [eg204, (show xi (E 52) = g4 from hg4), ← (show y180.toNatClampNeg = (2 * a0.toInt + (xi (E 54) a0.toNatClampNeg).toInt).toNat by rw [(show xi (E 54) = g2 from hg2), ← ey178, tn_]; omega)]), (show xi (E218 53) = g208 from ((pw219.ef 53 (Nat.ne_of_beq_eq_false rfl)).trans ((pw214.ef 53 (Nat.ne_of_beq_eq_false rfl)).trans hg208))).trans (by rw [eg208, (show xi (E 53) = g5 from hg5), ← (show y180.toNatClampNeg = (2 * a0.toInt + (xi (E 54) a0.toNatClampNeg).toInt).toNat by rw [(show xi (E 54) = g2 from hg2), ← ey178, tn_]; omega)])⟩, by rw [(show xi (E218 55) = g220 from hg220), (show xi (E218 54) = g216 from ((pw219.ef 54 (Nat.ne_of_beq_eq_false rfl)).trans hg216))]; rw [eg220, eg216]; exact DIr_upd hDI⟩⟩, by show va_P (dC, dI) vwCl (WX 72 ad E218) t.heap; rw [ht]; exact hP⟩, hS.F ht⟩) hS.2.2 dX13_decide_139
            · --87 not
              have t223 : r190.toInt = 1 := ti_eq c194
              have i224 : 1 ≤ r190.toInt ∧ r190.toInt ≤ 1 := iv_eqi t223 (iv_all _) (il_ 1) (by decide)
              refine lv_iconst (v := 2) hx hb dX13_decide_90 (by decide) ?_
              refine lv_goto (tgt := 95) hx hb dX13_decide_91 (by decide) ?_
              refine lv_iadd hx hb dX13_decide_95 ?_
              refine lv_topi (fun y225 ey225 => ?_)
              obtain rfl : (2 : Int32) = y225 := (ey225.trans (by decide)).symm
              have n226 : vp_in y180 60 := (iv_in (n := 60) i181 (by decide))
              refine th_iast hx hb hK hP (WX_D hD) hS hI 51 (Nat.le_of_ble_eq_true rfl) rfl rfl n226 (okI rfl (iv_w ln_2 (by decide))) dX13_decide_96 (fun H locs E227 pw228 hI hP hS => ?_)
              have hKp := hKp.pw pw228 rfl
              obtain ⟨g229, eg229⟩ : ∃ z : Nat → Int32, z = upd g3 y180.toNatClampNeg (2 : Int32) := ⟨_, rfl⟩
              have hg229 : xi (E227 51) = g229 := by rw [pw228.eu, ((kq192.ef 51 (fun _ => rfl)).trans ((kq185.ef 51 (fun _ => rfl)).trans ((kq27.ef 51 (fun _ => rfl)).trans ((pw7.ef 51 (Nat.ne_of_beq_eq_false rfl)).trans hg3)))), eg229]
              refine lv_aload_n hx hb dX13_decide_97 rfl (lv_at hl 2 rfl) ?_
              refine th_get (ci := 14) (C := RX13) (T := TX13) (N := 97) (v := .ref (ad 52)) hx hb hts hinX13 hown hK hP hI 0 (Nat.le_of_ble_eq_true rfl) rfl rfl 70 (Nat.le_of_ble_eq_true rfl) (hts _ (vA_in _ _ (in_28 _ (zs4 (zs1 (zs1 (zs1 (zs0)))))))) (fun _ h9 => h9) (hI.fr 0 (Nat.le_of_ble_eq_true rfl) rfl (Nat.le_of_ble_eq_true rfl) 52 rfl) dX13_decide_98 ?_
              refine lv_iload_n hx hb dX13_decide_101 rfl (lv_at hl 0 rfl) ?_
              refine lv_aload_n hx hb dX13_decide_102 rfl (lv_at hl 2 rfl) ?_
              refine th_get (ci := 14) (C := RX13) (T := TX13) (N := 97) (v := .int (xi (E 0) 1)) hx hb hts hinX13 hown hK hP hI 0 (Nat.le_of_ble_eq_true rfl) rfl rfl 1 (Nat.le_of_ble_eq_true rfl) (hts _ (vA_in _ _ (in_24 _ (zs16 (zs4 (zs4 (zs1 (zs1 (zs1 (zs0)))))))))) (fun _ h9 => h9) (th_v0 hKp hI0 0 (Nat.le_of_ble_eq_true rfl) rfl (Nat.le_of_ble_eq_true rfl) rfl rfl) dX13_decide_103 ?_
              have n230 : vp_in y180 60 := (iv_in (n := 60) i181 (by decide))
              refine th_iast hx hb hK hP (WX_D hD) hS hI 52 (Nat.le_of_ble_eq_true rfl) rfl rfl n230 (okI rfl i23) dX13_decide_106 (fun H locs E231 pw232 hI hP hS => ?_)
              have hKp := hKp.pw pw232 rfl
              obtain ⟨g233, eg233⟩ : ∃ z : Nat → Int32, z = upd g4 y180.toNatClampNeg (xi (E 0) 1) := ⟨_, rfl⟩
              have hg233 : xi (E231 52) = g233 := by rw [pw232.eu, ((pw228.ef 52 (Nat.ne_of_beq_eq_false rfl)).trans ((kq192.ef 52 (fun _ => rfl)).trans ((kq185.ef 52 (fun _ => rfl)).trans ((kq27.ef 52 (fun _ => rfl)).trans ((pw7.ef 52 (Nat.ne_of_beq_eq_false rfl)).trans hg4))))), eg233]
              refine lv_aload_n hx hb dX13_decide_107 rfl (lv_at hl 2 rfl) ?_
              refine th_get (ci := 14) (C := RX13) (T := TX13) (N := 97) (v := .ref (ad 53)) hx hb hts hinX13 hown hK hP hI 0 (Nat.le_of_ble_eq_true rfl) rfl rfl 71 (Nat.le_of_ble_eq_true rfl) (hts _ (vA_in _ _ (in_28 _ (zs4 (zs4 (zs0)))))) (fun _ h9 => h9) (hI.fr 0 (Nat.le_of_ble_eq_true rfl) rfl (Nat.le_of_ble_eq_true rfl) 53 rfl) dX13_decide_108 ?_
              refine lv_iload_n hx hb dX13_decide_111 rfl (lv_at hl 0 rfl) ?_
              refine lv_sipush (v := 1000) hx hb dX13_decide_112 (by decide) ?_
              have n234 : vp_in y180 60 := (iv_in (n := 60) i181 (by decide))
              refine th_iast hx hb hK hP (WX_D hD) hS hI 53 (Nat.le_of_ble_eq_true rfl) rfl rfl n234 (okI rfl (iv_w ln_1000 (by decide))) dX13_decide_115 (fun H locs E235 pw236 hI hP hS => ?_)
              have hKp := hKp.pw pw236 rfl
              obtain ⟨g237, eg237⟩ : ∃ z : Nat → Int32, z = upd g5 y180.toNatClampNeg (1000 : Int32) := ⟨_, rfl⟩
              have hg237 : xi (E235 53) = g237 := by rw [pw236.eu, ((pw232.ef 53 (Nat.ne_of_beq_eq_false rfl)).trans ((pw228.ef 53 (Nat.ne_of_beq_eq_false rfl)).trans ((kq192.ef 53 (fun _ => rfl)).trans ((kq185.ef 53 (fun _ => rfl)).trans ((kq27.ef 53 (fun _ => rfl)).trans ((pw7.ef 53 (Nat.ne_of_beq_eq_false rfl)).trans hg5)))))), eg237]
              refine lv_aload_n hx hb dX13_decide_116 rfl (lv_at hl 2 rfl) ?_
              refine th_get (ci := 14) (C := RX13) (T := TX13) (N := 97) (v := .ref (ad 54)) hx hb hts hinX13 hown hK hP hI 0 (Nat.le_of_ble_eq_true rfl) rfl rfl 72 (Nat.le_of_ble_eq_true rfl) (hts _ (vA_in _ _ (in_28 _ (zs4 (zs1 (zs0)))))) (fun _ h9 => h9) (hI.fr 0 (Nat.le_of_ble_eq_true rfl) rfl (Nat.le_of_ble_eq_true rfl) 54 rfl) dX13_decide_117 ?_
              refine lv_iload_n hx hb dX13_decide_120 rfl (lv_at hl 3 rfl) ?_
              refine lv_dup2_11 hx hb dX13_decide_121 rfl rfl ?_
              have n239 : vp_in a0 30 := (iv_in (n := 30) i15 (by decide))
              refine th_iald hx hb hK hP hI 54 (Nat.le_of_ble_eq_true rfl) rfl rfl n239 dX13_decide_122 (fun y238 ey238 => ?_)
              have iy238 : 0 ≤ y238.toInt ∧ y238.toInt ≤ 2 := hI.el 54 (Nat.le_of_ble_eq_true rfl) rfl n239 (fun _ => rfl) ey238
              have ey238 := ey238.trans (congrFun ((pw236.ef 54 (Nat.ne_of_beq_eq_false rfl)).trans ((pw232.ef 54 (Nat.ne_of_beq_eq_false rfl)).trans ((pw228.ef 54 (Nat.ne_of_beq_eq_false rfl)).trans ((kq192.ef 54 (fun _ => rfl)).trans ((kq185.ef 54 (fun _ => rfl)).trans ((kq27.ef 54 (fun _ => rfl)).trans ((pw7.ef 54 (Nat.ne_of_beq_eq_false rfl)).trans hg2))))))) _)
              have d2 : y238.toInt ≤ 1 := by rw [ey238, ← ey178]; exact d1
              refine lv_iconst (v := 1) hx hb dX13_decide_123 (by decide) ?_
              refine lv_iadd hx hb dX13_decide_124 ?_
              refine lv_topi (fun y240 ey240 => ?_)
              obtain ⟨ty240, iy240⟩ := ti_add (e := 1) (f := 3) iy238 ln_1 ey240 (by decide)
              have ty240 : y240.toInt = y238.toInt + 1 := ty240
              have iy240 : 1 ≤ y240.toInt ∧ y240.toInt ≤ 3 := iy240
              have n241 : vp_in a0 30 := (iv_in (n := 30) i15 (by decide))
              have i244 : 1 ≤ y240.toInt ∧ y240.toInt ≤ 2 := by omega
              refine th_iast hx hb hK hP (WX_D hD) hS hI 54 (Nat.le_of_ble_eq_true rfl) rfl rfl n241 (okI rfl (iv_w i244 (by decide))) dX13_decide_125 (fun H locs E242 pw243 hI hP hS => ?_)
              have hKp := hKp.pw pw243 rfl
              obtain ⟨g245, eg245⟩ : ∃ z : Nat → Int32, z = upd g2 a0.toNatClampNeg y240 := ⟨_, rfl⟩
              have hg245 : xi (E242 54) = g245 := by rw [pw243.eu, ((pw236.ef 54 (Nat.ne_of_beq_eq_false rfl)).trans ((pw232.ef 54 (Nat.ne_of_beq_eq_false rfl)).trans ((pw228.ef 54 (Nat.ne_of_beq_eq_false rfl)).trans ((kq192.ef 54 (fun _ => rfl)).trans ((kq185.ef 54 (fun _ => rfl)).trans ((kq27.ef 54 (fun _ => rfl)).trans ((pw7.ef 54 (Nat.ne_of_beq_eq_false rfl)).trans hg2))))))), eg245]
              refine lv_aload_n hx hb dX13_decide_126 rfl (lv_at hl 2 rfl) ?_
              refine th_get (ci := 14) (C := RX13) (T := TX13) (N := 97) (v := .ref (ad 55)) hx hb hts hinX13 hown hK hP hI 0 (Nat.le_of_ble_eq_true rfl) rfl rfl 73 (Nat.le_of_ble_eq_true rfl) (hts _ (vA_in _ _ (in_30 _ (zs16 (zs4 (zs4 (zs0))))))) (fun _ h9 => h9) (hI.fr 0 (Nat.le_of_ble_eq_true rfl) rfl (Nat.le_of_ble_eq_true rfl) 55 rfl) dX13_decide_127 ?_
              refine lv_iload_n hx hb dX13_decide_130 rfl (lv_at hl 3 rfl) ?_
              refine lv_iconst (v := 1) hx hb dX13_decide_131 (by decide) ?_
              have n246 : vp_in a0 30 := (iv_in (n := 30) i15 (by decide))
              refine th_zast hx hb hK hP (WX_D hD) hS hI 55 (Nat.le_of_ble_eq_true rfl) rfl rfl n246 (iv_w ln_1 (by decide)) (okI rfl (iv_w ln_1 (by decide))) dX13_decide_132 (fun H locs E247 pw248 hI hP hS => ?_)
              have hKp := hKp.pw pw248 rfl
              obtain ⟨g249, eg249⟩ : ∃ z : Nat → Int32, z = upd g1 a0.toNatClampNeg (1 : Int32) := ⟨_, rfl⟩
              have hg249 : xi (E247 55) = g249 := by rw [pw248.eu, ((pw243.ef 55 (Nat.ne_of_beq_eq_false rfl)).trans ((pw236.ef 55 (Nat.ne_of_beq_eq_false rfl)).trans ((pw232.ef 55 (Nat.ne_of_beq_eq_false rfl)).trans ((pw228.ef 55 (Nat.ne_of_beq_eq_false rfl)).trans ((kq192.ef 55 (fun _ => rfl)).trans ((kq185.ef 55 (fun _ => rfl)).trans ((kq27.ef 55 (fun _ => rfl)).trans ((pw7.ef 55 (Nat.ne_of_beq_eq_false rfl)).trans hg1)))))))), eg249]
              refine lv_aload_n hx hb dX13_decide_133 rfl (lv_at hl 2 rfl) ?_
              refine th_get (ci := 14) (C := RX13) (T := TX13) (N := 97) (v := .ref (ad 51)) hx hb hts hinX13 hown hK hP hI 0 (Nat.le_of_ble_eq_true rfl) rfl rfl 69 (Nat.le_of_ble_eq_true rfl) (hts _ (vA_in _ _ (in_28 _ (zs4 (zs1 (zs1 (zs0))))))) (fun _ h9 => h9) (hI.fr 0 (Nat.le_of_ble_eq_true rfl) rfl (Nat.le_of_ble_eq_true rfl) 51 rfl) dX13_decide_134 ?_
              refine lv_iload_n hx hb dX13_decide_137 rfl (lv_at hl 0 rfl) ?_
              have n251 : vp_in y180 60 := (iv_in (n := 60) i181 (by decide))
              refine th_iald hx hb hK hP hI 51 (Nat.le_of_ble_eq_true rfl) rfl rfl n251 dX13_decide_138 (fun y250 ey250 => ?_)
              have iy250 : 0 ≤ y250.toInt ∧ y250.toInt ≤ 3 := hI.el 51 (Nat.le_of_ble_eq_true rfl) rfl n251 (fun _ => rfl) ey250
              have ey250 := ey250.trans (congrFun ((pw248.ef 51 (Nat.ne_of_beq_eq_false rfl)).trans ((pw243.ef 51 (Nat.ne_of_beq_eq_false rfl)).trans ((pw236.ef 51 (Nat.ne_of_beq_eq_false rfl)).trans ((pw232.ef 51 (Nat.ne_of_beq_eq_false rfl)).trans hg229)))) _)
              rw [hQ]
              exact W.iret (v := y250) hx hb hr (fun t ht hW => ⟨⟨y250, E247, rfl, ⟨hI, hKp, Or.inl ⟨iy250, ⟨by rw [(show xi (E 55) = g1 from hg1)]; have gy18 := congrArg Int32.toInt ey18; all_goals omega, (fun q9 => by exfalso; have z0 := ln_0; omega)⟩, ⟨(show xi (E247 55) = g249 from hg249).trans (by rw [eg249, (show xi (E 55) = g1 from hg1)]), (show xi (E247 54) = g245 from ((pw248.ef 54 (Nat.ne_of_beq_eq_false rfl)).trans hg245)).trans (by rw [eg245, (show xi (E 54) = g2 from hg2)]; congr 1; rw [← ey238]; exact ey240), (show xi (E247 51) = g229 from ((pw248.ef 51 (Nat.ne_of_beq_eq_false rfl)).trans ((pw243.ef 51 (Nat.ne_of_beq_eq_false rfl)).trans ((pw236.ef 51 (Nat.ne_of_beq_eq_false rfl)).trans ((pw232.ef 51 (Nat.ne_of_beq_eq_false rfl)).trans hg229))))).trans (by rw [show g229 = upd g3 y180.toNatClampNeg y250 from by rw [ey250, eg229, pk_us], (show xi (E 51) = g3 from hg3), ← (show y180.toNatClampNeg = (2 * a0.toInt + (xi (E 54) a0.toNatClampNeg).toInt).toNat by rw [(show xi (E 54) = g2 from hg2), ← ey178, tn_]; omega)]), (show xi (E247 52) = g233 from ((pw248.ef 52 (Nat.ne_of_beq_eq_false rfl)).trans ((pw243.ef 52 (Nat.ne_of_beq_eq_false rfl)).trans ((pw236.ef 52 (Nat.ne_of_beq_eq_false rfl)).trans hg233)))).trans (by rw [eg233, (show xi (E 52) = g4 from hg4), ← (show y180.toNatClampNeg = (2 * a0.toInt + (xi (E 54) a0.toNatClampNeg).toInt).toNat by rw [(show xi (E 54) = g2 from hg2), ← ey178, tn_]; omega)]), (show xi (E247 53) = g237 from ((pw248.ef 53 (Nat.ne_of_beq_eq_false rfl)).trans ((pw243.ef 53 (Nat.ne_of_beq_eq_false rfl)).trans hg237))).trans (by rw [eg237, (show xi (E 53) = g5 from hg5), ← (show y180.toNatClampNeg = (2 * a0.toInt + (xi (E 54) a0.toNatClampNeg).toInt).toNat by rw [(show xi (E 54) = g2 from hg2), ← ey178, tn_]; omega)])⟩, by rw [(show xi (E247 55) = g249 from hg249), (show xi (E247 54) = g245 from ((pw248.ef 54 (Nat.ne_of_beq_eq_false rfl)).trans hg245))]; rw [eg249, eg245]; exact DIr_upd hDI⟩⟩, by show va_P (dC, dI) vwCl (WX 72 ad E247) t.heap; rw [ht]; exact hP⟩, hS.F ht⟩) hS.2.2 dX13_decide_139
          · --68 not
            have t252 : r183.toInt = 1 := ti_eq c187
            have i253 : 1 ≤ r183.toInt ∧ r183.toInt ≤ 1 := iv_eqi t252 (iv_all _) (il_ 1) (by decide)
            refine lv_iconst (v := 1) hx hb dX13_decide_71 (by decide) ?_
            refine lv_goto (tgt := 76) hx hb dX13_decide_72 (by decide) ?_
            refine lv_aload_n hx hb dX13_decide_76 rfl (lv_at hl 2 rfl) ?_
            refine lv_iload_n hx hb dX13_decide_77 rfl (lv_at hl 3 rfl) ?_
            refine lv_iconst (v := 1) hx hb dX13_decide_78 (by decide) ?_
            refine lv_aload_n hx hb dX13_decide_79 rfl (lv_at hl 2 rfl) ?_
            refine th_get (ci := 14) (C := RX13) (T := TX13) (N := 97) (v := .int (xi (E 0) 1)) hx hb hts hinX13 hown hK hP hI 0 (Nat.le_of_ble_eq_true rfl) rfl rfl 1 (Nat.le_of_ble_eq_true rfl) (hts _ (vA_in _ _ (in_24 _ (zs16 (zs4 (zs4 (zs1 (zs1 (zs1 (zs0)))))))))) (fun _ h9 => h9) (th_v0 hKp hI0 0 (Nat.le_of_ble_eq_true rfl) rfl (Nat.le_of_ble_eq_true rfl) rfl rfl) dX13_decide_80 ?_
            have k254 : KdM E E184 := KdM.of hKp rfl rfl rfl
            have z1 := ln_1
            refine th_i (va_runV (As := [.int a0, .int 1, .int (xi (E 0) 1)]) (rest := [.int 1, .int y180, .ref (ad 51)]) ⟨hx, hb, hml, hown, hts⟩ (q_findingOfV l dC dI cT ad E184 H.size a0 (1 : Int32) (xi (E 0) 1) hI i15 (by exact hh1.cg (fun j9 => hKp.ei 8 j9 rfl) (fun j9 => hKp.ei 9 j9 rfl) (hKp.ei 0 17 rfl))) (cwV 3 hts (gi_V (in_30 _ (zs16 (zs4 (zs4 (zs4 (zs0)))))) (in_30 _ (zs16 (zs4 (zs4 (zs4 (zs1 (zs0))))))) (in_30 _ (zs16 (zs4 (zs4 (zs4 (zs1 (zs1 (zs0)))))))) (in_24 _ (zs4 (zs4 (zs4 (zs1 (zs1 (zs1 (zs0)))))))) (in_30 _ (zs16 (zs4 (zs4 (zs4 (zs1 (zs1 (zs1 (zs0)))))))))) rfl rfl rfl ⟨rfl, hz_yX13_findingOf_3⟩ ⟨Nat.le_of_ble_eq_true rfl, Nat.le_of_ble_eq_true rfl⟩) ⟨HW_bl, va_recv hK hP (ci := 14) (q0 := 0) rfl (hI.ob 0 (Nat.le_of_ble_eq_true rfl) rfl), (HW_wi hP hK (WX_D hD) hS hA hEV)⟩ rfl rfl hl.1 rfl (lv_room (Nat.le_of_ble_eq_true rfl)) dX13_decide_83 ⟨Nat.le_of_ble_eq_true rfl, Nat.le_of_ble_eq_true rfl⟩) (WX_D hD) hS hA (fun r255 E256 H locs hw hP hS => ?_)
            obtain ⟨hI, kq257, hw⟩ := hw
            have hKb := hKp
            have hKp := hKp.tr kq257 (wl_sub rfl rfl)
            have f258 := hw
            refine lv_iconst (v := 1) hx hb dX13_decide_86 (by decide) ?_
            refine lv_icmp_ne (tgt := 94) hx hb dX13_decide_87 (by decide) (fun c259 => ?_) (fun c259 => ?_)
            · --87 taken
              have t260 : ¬ r255.toInt = 1 := ti_ne c259
              refine lv_iconst (v := 0) hx hb dX13_decide_94 (by decide) ?_
              refine lv_iadd hx hb dX13_decide_95 ?_
              refine lv_topi (fun y261 ey261 => ?_)
              obtain rfl : (1 : Int32) = y261 := (ey261.trans (by decide)).symm
              have n262 : vp_in y180 60 := (iv_in (n := 60) i181 (by decide))
              refine th_iast hx hb hK hP (WX_D hD) hS hI 51 (Nat.le_of_ble_eq_true rfl) rfl rfl n262 (okI rfl (iv_w ln_1 (by decide))) dX13_decide_96 (fun H locs E263 pw264 hI hP hS => ?_)
              have hKp := hKp.pw pw264 rfl
              obtain ⟨g265, eg265⟩ : ∃ z : Nat → Int32, z = upd g3 y180.toNatClampNeg (1 : Int32) := ⟨_, rfl⟩
              have hg265 : xi (E263 51) = g265 := by rw [pw264.eu, ((kq257.ef 51 (fun _ => rfl)).trans ((kq185.ef 51 (fun _ => rfl)).trans ((kq27.ef 51 (fun _ => rfl)).trans ((pw7.ef 51 (Nat.ne_of_beq_eq_false rfl)).trans hg3)))), eg265]
              refine lv_aload_n hx hb dX13_decide_97 rfl (lv_at hl 2 rfl) ?_
              refine th_get (ci := 14) (C := RX13) (T := TX13) (N := 97) (v := .ref (ad 52)) hx hb hts hinX13 hown hK hP hI 0 (Nat.le_of_ble_eq_true rfl) rfl rfl 70 (Nat.le_of_ble_eq_true rfl) (hts _ (vA_in _ _ (in_28 _ (zs4 (zs1 (zs1 (zs1 (zs0)))))))) (fun _ h9 => h9) (hI.fr 0 (Nat.le_of_ble_eq_true rfl) rfl (Nat.le_of_ble_eq_true rfl) 52 rfl) dX13_decide_98 ?_
              refine lv_iload_n hx hb dX13_decide_101 rfl (lv_at hl 0 rfl) ?_
              refine lv_aload_n hx hb dX13_decide_102 rfl (lv_at hl 2 rfl) ?_
              refine th_get (ci := 14) (C := RX13) (T := TX13) (N := 97) (v := .int (xi (E 0) 1)) hx hb hts hinX13 hown hK hP hI 0 (Nat.le_of_ble_eq_true rfl) rfl rfl 1 (Nat.le_of_ble_eq_true rfl) (hts _ (vA_in _ _ (in_24 _ (zs16 (zs4 (zs4 (zs1 (zs1 (zs1 (zs0)))))))))) (fun _ h9 => h9) (th_v0 hKp hI0 0 (Nat.le_of_ble_eq_true rfl) rfl (Nat.le_of_ble_eq_true rfl) rfl rfl) dX13_decide_103 ?_
              have n266 : vp_in y180 60 := (iv_in (n := 60) i181 (by decide))
              refine th_iast hx hb hK hP (WX_D hD) hS hI 52 (Nat.le_of_ble_eq_true rfl) rfl rfl n266 (okI rfl i23) dX13_decide_106 (fun H locs E267 pw268 hI hP hS => ?_)
              have hKp := hKp.pw pw268 rfl
              obtain ⟨g269, eg269⟩ : ∃ z : Nat → Int32, z = upd g4 y180.toNatClampNeg (xi (E 0) 1) := ⟨_, rfl⟩
              have hg269 : xi (E267 52) = g269 := by rw [pw268.eu, ((pw264.ef 52 (Nat.ne_of_beq_eq_false rfl)).trans ((kq257.ef 52 (fun _ => rfl)).trans ((kq185.ef 52 (fun _ => rfl)).trans ((kq27.ef 52 (fun _ => rfl)).trans ((pw7.ef 52 (Nat.ne_of_beq_eq_false rfl)).trans hg4))))), eg269]
              refine lv_aload_n hx hb dX13_decide_107 rfl (lv_at hl 2 rfl) ?_
              refine th_get (ci := 14) (C := RX13) (T := TX13) (N := 97) (v := .ref (ad 53)) hx hb hts hinX13 hown hK hP hI 0 (Nat.le_of_ble_eq_true rfl) rfl rfl 71 (Nat.le_of_ble_eq_true rfl) (hts _ (vA_in _ _ (in_28 _ (zs4 (zs4 (zs0)))))) (fun _ h9 => h9) (hI.fr 0 (Nat.le_of_ble_eq_true rfl) rfl (Nat.le_of_ble_eq_true rfl) 53 rfl) dX13_decide_108 ?_
              refine lv_iload_n hx hb dX13_decide_111 rfl (lv_at hl 0 rfl) ?_
              refine lv_sipush (v := 1000) hx hb dX13_decide_112 (by decide) ?_
              have n270 : vp_in y180 60 := (iv_in (n := 60) i181 (by decide))
              refine th_iast hx hb hK hP (WX_D hD) hS hI 53 (Nat.le_of_ble_eq_true rfl) rfl rfl n270 (okI rfl (iv_w ln_1000 (by decide))) dX13_decide_115 (fun H locs E271 pw272 hI hP hS => ?_)
              have hKp := hKp.pw pw272 rfl
              obtain ⟨g273, eg273⟩ : ∃ z : Nat → Int32, z = upd g5 y180.toNatClampNeg (1000 : Int32) := ⟨_, rfl⟩
              have hg273 : xi (E271 53) = g273 := by rw [pw272.eu, ((pw268.ef 53 (Nat.ne_of_beq_eq_false rfl)).trans ((pw264.ef 53 (Nat.ne_of_beq_eq_false rfl)).trans ((kq257.ef 53 (fun _ => rfl)).trans ((kq185.ef 53 (fun _ => rfl)).trans ((kq27.ef 53 (fun _ => rfl)).trans ((pw7.ef 53 (Nat.ne_of_beq_eq_false rfl)).trans hg5)))))), eg273]
              refine lv_aload_n hx hb dX13_decide_116 rfl (lv_at hl 2 rfl) ?_
              refine th_get (ci := 14) (C := RX13) (T := TX13) (N := 97) (v := .ref (ad 54)) hx hb hts hinX13 hown hK hP hI 0 (Nat.le_of_ble_eq_true rfl) rfl rfl 72 (Nat.le_of_ble_eq_true rfl) (hts _ (vA_in _ _ (in_28 _ (zs4 (zs1 (zs0)))))) (fun _ h9 => h9) (hI.fr 0 (Nat.le_of_ble_eq_true rfl) rfl (Nat.le_of_ble_eq_true rfl) 54 rfl) dX13_decide_117 ?_
              refine lv_iload_n hx hb dX13_decide_120 rfl (lv_at hl 3 rfl) ?_
              refine lv_dup2_11 hx hb dX13_decide_121 rfl rfl ?_
              have n275 : vp_in a0 30 := (iv_in (n := 30) i15 (by decide))
              refine th_iald hx hb hK hP hI 54 (Nat.le_of_ble_eq_true rfl) rfl rfl n275 dX13_decide_122 (fun y274 ey274 => ?_)
              have iy274 : 0 ≤ y274.toInt ∧ y274.toInt ≤ 2 := hI.el 54 (Nat.le_of_ble_eq_true rfl) rfl n275 (fun _ => rfl) ey274
              have ey274 := ey274.trans (congrFun ((pw272.ef 54 (Nat.ne_of_beq_eq_false rfl)).trans ((pw268.ef 54 (Nat.ne_of_beq_eq_false rfl)).trans ((pw264.ef 54 (Nat.ne_of_beq_eq_false rfl)).trans ((kq257.ef 54 (fun _ => rfl)).trans ((kq185.ef 54 (fun _ => rfl)).trans ((kq27.ef 54 (fun _ => rfl)).trans ((pw7.ef 54 (Nat.ne_of_beq_eq_false rfl)).trans hg2))))))) _)
              have d2 : y274.toInt ≤ 1 := by rw [ey274, ← ey178]; exact d1
              refine lv_iconst (v := 1) hx hb dX13_decide_123 (by decide) ?_
              refine lv_iadd hx hb dX13_decide_124 ?_
              refine lv_topi (fun y276 ey276 => ?_)
              obtain ⟨ty276, iy276⟩ := ti_add (e := 1) (f := 3) iy274 ln_1 ey276 (by decide)
              have ty276 : y276.toInt = y274.toInt + 1 := ty276
              have iy276 : 1 ≤ y276.toInt ∧ y276.toInt ≤ 3 := iy276
              have n277 : vp_in a0 30 := (iv_in (n := 30) i15 (by decide))
              have i280 : 1 ≤ y276.toInt ∧ y276.toInt ≤ 2 := by omega
              refine th_iast hx hb hK hP (WX_D hD) hS hI 54 (Nat.le_of_ble_eq_true rfl) rfl rfl n277 (okI rfl (iv_w i280 (by decide))) dX13_decide_125 (fun H locs E278 pw279 hI hP hS => ?_)
              have hKp := hKp.pw pw279 rfl
              obtain ⟨g281, eg281⟩ : ∃ z : Nat → Int32, z = upd g2 a0.toNatClampNeg y276 := ⟨_, rfl⟩
              have hg281 : xi (E278 54) = g281 := by rw [pw279.eu, ((pw272.ef 54 (Nat.ne_of_beq_eq_false rfl)).trans ((pw268.ef 54 (Nat.ne_of_beq_eq_false rfl)).trans ((pw264.ef 54 (Nat.ne_of_beq_eq_false rfl)).trans ((kq257.ef 54 (fun _ => rfl)).trans ((kq185.ef 54 (fun _ => rfl)).trans ((kq27.ef 54 (fun _ => rfl)).trans ((pw7.ef 54 (Nat.ne_of_beq_eq_false rfl)).trans hg2))))))), eg281]
              refine lv_aload_n hx hb dX13_decide_126 rfl (lv_at hl 2 rfl) ?_
              refine th_get (ci := 14) (C := RX13) (T := TX13) (N := 97) (v := .ref (ad 55)) hx hb hts hinX13 hown hK hP hI 0 (Nat.le_of_ble_eq_true rfl) rfl rfl 73 (Nat.le_of_ble_eq_true rfl) (hts _ (vA_in _ _ (in_30 _ (zs16 (zs4 (zs4 (zs0))))))) (fun _ h9 => h9) (hI.fr 0 (Nat.le_of_ble_eq_true rfl) rfl (Nat.le_of_ble_eq_true rfl) 55 rfl) dX13_decide_127 ?_
              refine lv_iload_n hx hb dX13_decide_130 rfl (lv_at hl 3 rfl) ?_
              refine lv_iconst (v := 1) hx hb dX13_decide_131 (by decide) ?_
              have n282 : vp_in a0 30 := (iv_in (n := 30) i15 (by decide))
              refine th_zast hx hb hK hP (WX_D hD) hS hI 55 (Nat.le_of_ble_eq_true rfl) rfl rfl n282 (iv_w ln_1 (by decide)) (okI rfl (iv_w ln_1 (by decide))) dX13_decide_132 (fun H locs E283 pw284 hI hP hS => ?_)
              have hKp := hKp.pw pw284 rfl
              obtain ⟨g285, eg285⟩ : ∃ z : Nat → Int32, z = upd g1 a0.toNatClampNeg (1 : Int32) := ⟨_, rfl⟩
              have hg285 : xi (E283 55) = g285 := by rw [pw284.eu, ((pw279.ef 55 (Nat.ne_of_beq_eq_false rfl)).trans ((pw272.ef 55 (Nat.ne_of_beq_eq_false rfl)).trans ((pw268.ef 55 (Nat.ne_of_beq_eq_false rfl)).trans ((pw264.ef 55 (Nat.ne_of_beq_eq_false rfl)).trans ((kq257.ef 55 (fun _ => rfl)).trans ((kq185.ef 55 (fun _ => rfl)).trans ((kq27.ef 55 (fun _ => rfl)).trans ((pw7.ef 55 (Nat.ne_of_beq_eq_false rfl)).trans hg1)))))))), eg285]
              refine lv_aload_n hx hb dX13_decide_133 rfl (lv_at hl 2 rfl) ?_
              refine th_get (ci := 14) (C := RX13) (T := TX13) (N := 97) (v := .ref (ad 51)) hx hb hts hinX13 hown hK hP hI 0 (Nat.le_of_ble_eq_true rfl) rfl rfl 69 (Nat.le_of_ble_eq_true rfl) (hts _ (vA_in _ _ (in_28 _ (zs4 (zs1 (zs1 (zs0))))))) (fun _ h9 => h9) (hI.fr 0 (Nat.le_of_ble_eq_true rfl) rfl (Nat.le_of_ble_eq_true rfl) 51 rfl) dX13_decide_134 ?_
              refine lv_iload_n hx hb dX13_decide_137 rfl (lv_at hl 0 rfl) ?_
              have n287 : vp_in y180 60 := (iv_in (n := 60) i181 (by decide))
              refine th_iald hx hb hK hP hI 51 (Nat.le_of_ble_eq_true rfl) rfl rfl n287 dX13_decide_138 (fun y286 ey286 => ?_)
              have iy286 : 0 ≤ y286.toInt ∧ y286.toInt ≤ 3 := hI.el 51 (Nat.le_of_ble_eq_true rfl) rfl n287 (fun _ => rfl) ey286
              have ey286 := ey286.trans (congrFun ((pw284.ef 51 (Nat.ne_of_beq_eq_false rfl)).trans ((pw279.ef 51 (Nat.ne_of_beq_eq_false rfl)).trans ((pw272.ef 51 (Nat.ne_of_beq_eq_false rfl)).trans ((pw268.ef 51 (Nat.ne_of_beq_eq_false rfl)).trans hg265)))) _)
              rw [hQ]
              exact W.iret (v := y286) hx hb hr (fun t ht hW => ⟨⟨y286, E283, rfl, ⟨hI, hKp, Or.inl ⟨iy286, ⟨by rw [(show xi (E 55) = g1 from hg1)]; have gy18 := congrArg Int32.toInt ey18; all_goals omega, (fun q9 => by exfalso; have z0 := ln_0; omega)⟩, ⟨(show xi (E283 55) = g285 from hg285).trans (by rw [eg285, (show xi (E 55) = g1 from hg1)]), (show xi (E283 54) = g281 from ((pw284.ef 54 (Nat.ne_of_beq_eq_false rfl)).trans hg281)).trans (by rw [eg281, (show xi (E 54) = g2 from hg2)]; congr 1; rw [← ey274]; exact ey276), (show xi (E283 51) = g265 from ((pw284.ef 51 (Nat.ne_of_beq_eq_false rfl)).trans ((pw279.ef 51 (Nat.ne_of_beq_eq_false rfl)).trans ((pw272.ef 51 (Nat.ne_of_beq_eq_false rfl)).trans ((pw268.ef 51 (Nat.ne_of_beq_eq_false rfl)).trans hg265))))).trans (by rw [show g265 = upd g3 y180.toNatClampNeg y286 from by rw [ey286, eg265, pk_us], (show xi (E 51) = g3 from hg3), ← (show y180.toNatClampNeg = (2 * a0.toInt + (xi (E 54) a0.toNatClampNeg).toInt).toNat by rw [(show xi (E 54) = g2 from hg2), ← ey178, tn_]; omega)]), (show xi (E283 52) = g269 from ((pw284.ef 52 (Nat.ne_of_beq_eq_false rfl)).trans ((pw279.ef 52 (Nat.ne_of_beq_eq_false rfl)).trans ((pw272.ef 52 (Nat.ne_of_beq_eq_false rfl)).trans hg269)))).trans (by rw [eg269, (show xi (E 52) = g4 from hg4), ← (show y180.toNatClampNeg = (2 * a0.toInt + (xi (E 54) a0.toNatClampNeg).toInt).toNat by rw [(show xi (E 54) = g2 from hg2), ← ey178, tn_]; omega)]), (show xi (E283 53) = g273 from ((pw284.ef 53 (Nat.ne_of_beq_eq_false rfl)).trans ((pw279.ef 53 (Nat.ne_of_beq_eq_false rfl)).trans hg273))).trans (by rw [eg273, (show xi (E 53) = g5 from hg5), ← (show y180.toNatClampNeg = (2 * a0.toInt + (xi (E 54) a0.toNatClampNeg).toInt).toNat by rw [(show xi (E 54) = g2 from hg2), ← ey178, tn_]; omega)])⟩, by rw [(show xi (E283 55) = g285 from hg285), (show xi (E283 54) = g281 from ((pw284.ef 54 (Nat.ne_of_beq_eq_false rfl)).trans hg281))]; rw [eg285, eg281]; exact DIr_upd hDI⟩⟩, by show va_P (dC, dI) vwCl (WX 72 ad E283) t.heap; rw [ht]; exact hP⟩, hS.F ht⟩) hS.2.2 dX13_decide_139
            · --87 not
              have t288 : r255.toInt = 1 := ti_eq c259
              have i289 : 1 ≤ r255.toInt ∧ r255.toInt ≤ 1 := iv_eqi t288 (iv_all _) (il_ 1) (by decide)
              refine lv_iconst (v := 2) hx hb dX13_decide_90 (by decide) ?_
              refine lv_goto (tgt := 95) hx hb dX13_decide_91 (by decide) ?_
              refine lv_iadd hx hb dX13_decide_95 ?_
              refine lv_topi (fun y290 ey290 => ?_)
              obtain rfl : (3 : Int32) = y290 := (ey290.trans (by decide)).symm
              have n291 : vp_in y180 60 := (iv_in (n := 60) i181 (by decide))
              refine th_iast hx hb hK hP (WX_D hD) hS hI 51 (Nat.le_of_ble_eq_true rfl) rfl rfl n291 (okI rfl (iv_w ln_3 (by decide))) dX13_decide_96 (fun H locs E292 pw293 hI hP hS => ?_)
              have hKp := hKp.pw pw293 rfl
              obtain ⟨g294, eg294⟩ : ∃ z : Nat → Int32, z = upd g3 y180.toNatClampNeg (3 : Int32) := ⟨_, rfl⟩
              have hg294 : xi (E292 51) = g294 := by rw [pw293.eu, ((kq257.ef 51 (fun _ => rfl)).trans ((kq185.ef 51 (fun _ => rfl)).trans ((kq27.ef 51 (fun _ => rfl)).trans ((pw7.ef 51 (Nat.ne_of_beq_eq_false rfl)).trans hg3)))), eg294]
              refine lv_aload_n hx hb dX13_decide_97 rfl (lv_at hl 2 rfl) ?_
              refine th_get (ci := 14) (C := RX13) (T := TX13) (N := 97) (v := .ref (ad 52)) hx hb hts hinX13 hown hK hP hI 0 (Nat.le_of_ble_eq_true rfl) rfl rfl 70 (Nat.le_of_ble_eq_true rfl) (hts _ (vA_in _ _ (in_28 _ (zs4 (zs1 (zs1 (zs1 (zs0)))))))) (fun _ h9 => h9) (hI.fr 0 (Nat.le_of_ble_eq_true rfl) rfl (Nat.le_of_ble_eq_true rfl) 52 rfl) dX13_decide_98 ?_
              refine lv_iload_n hx hb dX13_decide_101 rfl (lv_at hl 0 rfl) ?_
              refine lv_aload_n hx hb dX13_decide_102 rfl (lv_at hl 2 rfl) ?_
              refine th_get (ci := 14) (C := RX13) (T := TX13) (N := 97) (v := .int (xi (E 0) 1)) hx hb hts hinX13 hown hK hP hI 0 (Nat.le_of_ble_eq_true rfl) rfl rfl 1 (Nat.le_of_ble_eq_true rfl) (hts _ (vA_in _ _ (in_24 _ (zs16 (zs4 (zs4 (zs1 (zs1 (zs1 (zs0)))))))))) (fun _ h9 => h9) (th_v0 hKp hI0 0 (Nat.le_of_ble_eq_true rfl) rfl (Nat.le_of_ble_eq_true rfl) rfl rfl) dX13_decide_103 ?_
              have n295 : vp_in y180 60 := (iv_in (n := 60) i181 (by decide))
              refine th_iast hx hb hK hP (WX_D hD) hS hI 52 (Nat.le_of_ble_eq_true rfl) rfl rfl n295 (okI rfl i23) dX13_decide_106 (fun H locs E296 pw297 hI hP hS => ?_)
              have hKp := hKp.pw pw297 rfl
              obtain ⟨g298, eg298⟩ : ∃ z : Nat → Int32, z = upd g4 y180.toNatClampNeg (xi (E 0) 1) := ⟨_, rfl⟩
              have hg298 : xi (E296 52) = g298 := by rw [pw297.eu, ((pw293.ef 52 (Nat.ne_of_beq_eq_false rfl)).trans ((kq257.ef 52 (fun _ => rfl)).trans ((kq185.ef 52 (fun _ => rfl)).trans ((kq27.ef 52 (fun _ => rfl)).trans ((pw7.ef 52 (Nat.ne_of_beq_eq_false rfl)).trans hg4))))), eg298]
              refine lv_aload_n hx hb dX13_decide_107 rfl (lv_at hl 2 rfl) ?_
              refine th_get (ci := 14) (C := RX13) (T := TX13) (N := 97) (v := .ref (ad 53)) hx hb hts hinX13 hown hK hP hI 0 (Nat.le_of_ble_eq_true rfl) rfl rfl 71 (Nat.le_of_ble_eq_true rfl) (hts _ (vA_in _ _ (in_28 _ (zs4 (zs4 (zs0)))))) (fun _ h9 => h9) (hI.fr 0 (Nat.le_of_ble_eq_true rfl) rfl (Nat.le_of_ble_eq_true rfl) 53 rfl) dX13_decide_108 ?_
              refine lv_iload_n hx hb dX13_decide_111 rfl (lv_at hl 0 rfl) ?_
              refine lv_sipush (v := 1000) hx hb dX13_decide_112 (by decide) ?_
              have n299 : vp_in y180 60 := (iv_in (n := 60) i181 (by decide))
              refine th_iast hx hb hK hP (WX_D hD) hS hI 53 (Nat.le_of_ble_eq_true rfl) rfl rfl n299 (okI rfl (iv_w ln_1000 (by decide))) dX13_decide_115 (fun H locs E300 pw301 hI hP hS => ?_)
              have hKp := hKp.pw pw301 rfl
              obtain ⟨g302, eg302⟩ : ∃ z : Nat → Int32, z = upd g5 y180.toNatClampNeg (1000 : Int32) := ⟨_, rfl⟩
              have hg302 : xi (E300 53) = g302 := by rw [pw301.eu, ((pw297.ef 53 (Nat.ne_of_beq_eq_false rfl)).trans ((pw293.ef 53 (Nat.ne_of_beq_eq_false rfl)).trans ((kq257.ef 53 (fun _ => rfl)).trans ((kq185.ef 53 (fun _ => rfl)).trans ((kq27.ef 53 (fun _ => rfl)).trans ((pw7.ef 53 (Nat.ne_of_beq_eq_false rfl)).trans hg5)))))), eg302]
              refine lv_aload_n hx hb dX13_decide_116 rfl (lv_at hl 2 rfl) ?_
              refine th_get (ci := 14) (C := RX13) (T := TX13) (N := 97) (v := .ref (ad 54)) hx hb hts hinX13 hown hK hP hI 0 (Nat.le_of_ble_eq_true rfl) rfl rfl 72 (Nat.le_of_ble_eq_true rfl) (hts _ (vA_in _ _ (in_28 _ (zs4 (zs1 (zs0)))))) (fun _ h9 => h9) (hI.fr 0 (Nat.le_of_ble_eq_true rfl) rfl (Nat.le_of_ble_eq_true rfl) 54 rfl) dX13_decide_117 ?_
              refine lv_iload_n hx hb dX13_decide_120 rfl (lv_at hl 3 rfl) ?_
              refine lv_dup2_11 hx hb dX13_decide_121 rfl rfl ?_
              have n304 : vp_in a0 30 := (iv_in (n := 30) i15 (by decide))
              refine th_iald hx hb hK hP hI 54 (Nat.le_of_ble_eq_true rfl) rfl rfl n304 dX13_decide_122 (fun y303 ey303 => ?_)
              have iy303 : 0 ≤ y303.toInt ∧ y303.toInt ≤ 2 := hI.el 54 (Nat.le_of_ble_eq_true rfl) rfl n304 (fun _ => rfl) ey303
              have ey303 := ey303.trans (congrFun ((pw301.ef 54 (Nat.ne_of_beq_eq_false rfl)).trans ((pw297.ef 54 (Nat.ne_of_beq_eq_false rfl)).trans ((pw293.ef 54 (Nat.ne_of_beq_eq_false rfl)).trans ((kq257.ef 54 (fun _ => rfl)).trans ((kq185.ef 54 (fun _ => rfl)).trans ((kq27.ef 54 (fun _ => rfl)).trans ((pw7.ef 54 (Nat.ne_of_beq_eq_false rfl)).trans hg2))))))) _)
              have d2 : y303.toInt ≤ 1 := by rw [ey303, ← ey178]; exact d1
              refine lv_iconst (v := 1) hx hb dX13_decide_123 (by decide) ?_
              refine lv_iadd hx hb dX13_decide_124 ?_
              refine lv_topi (fun y305 ey305 => ?_)
              obtain ⟨ty305, iy305⟩ := ti_add (e := 1) (f := 3) iy303 ln_1 ey305 (by decide)
              have ty305 : y305.toInt = y303.toInt + 1 := ty305
              have iy305 : 1 ≤ y305.toInt ∧ y305.toInt ≤ 3 := iy305
              have n306 : vp_in a0 30 := (iv_in (n := 30) i15 (by decide))
              have i309 : 1 ≤ y305.toInt ∧ y305.toInt ≤ 2 := by omega
              refine th_iast hx hb hK hP (WX_D hD) hS hI 54 (Nat.le_of_ble_eq_true rfl) rfl rfl n306 (okI rfl (iv_w i309 (by decide))) dX13_decide_125 (fun H locs E307 pw308 hI hP hS => ?_)
              have hKp := hKp.pw pw308 rfl
              obtain ⟨g310, eg310⟩ : ∃ z : Nat → Int32, z = upd g2 a0.toNatClampNeg y305 := ⟨_, rfl⟩
              have hg310 : xi (E307 54) = g310 := by rw [pw308.eu, ((pw301.ef 54 (Nat.ne_of_beq_eq_false rfl)).trans ((pw297.ef 54 (Nat.ne_of_beq_eq_false rfl)).trans ((pw293.ef 54 (Nat.ne_of_beq_eq_false rfl)).trans ((kq257.ef 54 (fun _ => rfl)).trans ((kq185.ef 54 (fun _ => rfl)).trans ((kq27.ef 54 (fun _ => rfl)).trans ((pw7.ef 54 (Nat.ne_of_beq_eq_false rfl)).trans hg2))))))), eg310]
              refine lv_aload_n hx hb dX13_decide_126 rfl (lv_at hl 2 rfl) ?_
              refine th_get (ci := 14) (C := RX13) (T := TX13) (N := 97) (v := .ref (ad 55)) hx hb hts hinX13 hown hK hP hI 0 (Nat.le_of_ble_eq_true rfl) rfl rfl 73 (Nat.le_of_ble_eq_true rfl) (hts _ (vA_in _ _ (in_30 _ (zs16 (zs4 (zs4 (zs0))))))) (fun _ h9 => h9) (hI.fr 0 (Nat.le_of_ble_eq_true rfl) rfl (Nat.le_of_ble_eq_true rfl) 55 rfl) dX13_decide_127 ?_
              refine lv_iload_n hx hb dX13_decide_130 rfl (lv_at hl 3 rfl) ?_
              refine lv_iconst (v := 1) hx hb dX13_decide_131 (by decide) ?_
              have n311 : vp_in a0 30 := (iv_in (n := 30) i15 (by decide))
              refine th_zast hx hb hK hP (WX_D hD) hS hI 55 (Nat.le_of_ble_eq_true rfl) rfl rfl n311 (iv_w ln_1 (by decide)) (okI rfl (iv_w ln_1 (by decide))) dX13_decide_132 (fun H locs E312 pw313 hI hP hS => ?_)
              have hKp := hKp.pw pw313 rfl
              obtain ⟨g314, eg314⟩ : ∃ z : Nat → Int32, z = upd g1 a0.toNatClampNeg (1 : Int32) := ⟨_, rfl⟩
              have hg314 : xi (E312 55) = g314 := by rw [pw313.eu, ((pw308.ef 55 (Nat.ne_of_beq_eq_false rfl)).trans ((pw301.ef 55 (Nat.ne_of_beq_eq_false rfl)).trans ((pw297.ef 55 (Nat.ne_of_beq_eq_false rfl)).trans ((pw293.ef 55 (Nat.ne_of_beq_eq_false rfl)).trans ((kq257.ef 55 (fun _ => rfl)).trans ((kq185.ef 55 (fun _ => rfl)).trans ((kq27.ef 55 (fun _ => rfl)).trans ((pw7.ef 55 (Nat.ne_of_beq_eq_false rfl)).trans hg1)))))))), eg314]
              refine lv_aload_n hx hb dX13_decide_133 rfl (lv_at hl 2 rfl) ?_
              refine th_get (ci := 14) (C := RX13) (T := TX13) (N := 97) (v := .ref (ad 51)) hx hb hts hinX13 hown hK hP hI 0 (Nat.le_of_ble_eq_true rfl) rfl rfl 69 (Nat.le_of_ble_eq_true rfl) (hts _ (vA_in _ _ (in_28 _ (zs4 (zs1 (zs1 (zs0))))))) (fun _ h9 => h9) (hI.fr 0 (Nat.le_of_ble_eq_true rfl) rfl (Nat.le_of_ble_eq_true rfl) 51 rfl) dX13_decide_134 ?_
              refine lv_iload_n hx hb dX13_decide_137 rfl (lv_at hl 0 rfl) ?_
              have n316 : vp_in y180 60 := (iv_in (n := 60) i181 (by decide))
              refine th_iald hx hb hK hP hI 51 (Nat.le_of_ble_eq_true rfl) rfl rfl n316 dX13_decide_138 (fun y315 ey315 => ?_)
              have iy315 : 0 ≤ y315.toInt ∧ y315.toInt ≤ 3 := hI.el 51 (Nat.le_of_ble_eq_true rfl) rfl n316 (fun _ => rfl) ey315
              have ey315 := ey315.trans (congrFun ((pw313.ef 51 (Nat.ne_of_beq_eq_false rfl)).trans ((pw308.ef 51 (Nat.ne_of_beq_eq_false rfl)).trans ((pw301.ef 51 (Nat.ne_of_beq_eq_false rfl)).trans ((pw297.ef 51 (Nat.ne_of_beq_eq_false rfl)).trans hg294)))) _)
              rw [hQ]
              exact W.iret (v := y315) hx hb hr (fun t ht hW => ⟨⟨y315, E312, rfl, ⟨hI, hKp, Or.inl ⟨iy315, ⟨by rw [(show xi (E 55) = g1 from hg1)]; have gy18 := congrArg Int32.toInt ey18; all_goals omega, (fun q9 => by exfalso; have z0 := ln_0; omega)⟩, ⟨(show xi (E312 55) = g314 from hg314).trans (by rw [eg314, (show xi (E 55) = g1 from hg1)]), (show xi (E312 54) = g310 from ((pw313.ef 54 (Nat.ne_of_beq_eq_false rfl)).trans hg310)).trans (by rw [eg310, (show xi (E 54) = g2 from hg2)]; congr 1; rw [← ey303]; exact ey305), (show xi (E312 51) = g294 from ((pw313.ef 51 (Nat.ne_of_beq_eq_false rfl)).trans ((pw308.ef 51 (Nat.ne_of_beq_eq_false rfl)).trans ((pw301.ef 51 (Nat.ne_of_beq_eq_false rfl)).trans ((pw297.ef 51 (Nat.ne_of_beq_eq_false rfl)).trans hg294))))).trans (by rw [show g294 = upd g3 y180.toNatClampNeg y315 from by rw [ey315, eg294, pk_us], (show xi (E 51) = g3 from hg3), ← (show y180.toNatClampNeg = (2 * a0.toInt + (xi (E 54) a0.toNatClampNeg).toInt).toNat by rw [(show xi (E 54) = g2 from hg2), ← ey178, tn_]; omega)]), (show xi (E312 52) = g298 from ((pw313.ef 52 (Nat.ne_of_beq_eq_false rfl)).trans ((pw308.ef 52 (Nat.ne_of_beq_eq_false rfl)).trans ((pw301.ef 52 (Nat.ne_of_beq_eq_false rfl)).trans hg298)))).trans (by rw [eg298, (show xi (E 52) = g4 from hg4), ← (show y180.toNatClampNeg = (2 * a0.toInt + (xi (E 54) a0.toNatClampNeg).toInt).toNat by rw [(show xi (E 54) = g2 from hg2), ← ey178, tn_]; omega)]), (show xi (E312 53) = g302 from ((pw313.ef 53 (Nat.ne_of_beq_eq_false rfl)).trans ((pw308.ef 53 (Nat.ne_of_beq_eq_false rfl)).trans hg302))).trans (by rw [eg302, (show xi (E 53) = g5 from hg5), ← (show y180.toNatClampNeg = (2 * a0.toInt + (xi (E 54) a0.toNatClampNeg).toInt).toNat by rw [(show xi (E 54) = g2 from hg2), ← ey178, tn_]; omega)])⟩, by rw [(show xi (E312 55) = g314 from hg314), (show xi (E312 54) = g310 from ((pw313.ef 54 (Nat.ne_of_beq_eq_false rfl)).trans hg310))]; rw [eg314, eg310]; exact DIr_upd hDI⟩⟩, by show va_P (dC, dI) vwCl (WX 72 ad E312) t.heap; rw [ht]; exact hP⟩, hS.F ht⟩) hS.2.2 dX13_decide_139
      · --25 not
        have t317 : ¬ y18.toInt = 0 := ti_ne c20
        have i318 : 1 ≤ y18.toInt ∧ y18.toInt ≤ 1 := iv_ne_l t317 iy18 (il_ 0)
        refine lv_iconst (v := -1) hx hb dX13_decide_28 (by decide) ?_
        rw [hQ]
        exact W.iret (v := (-1)) hx hb hr (fun t ht hW => ⟨⟨(-1), E6, rfl, ⟨hI, hKp, Or.inr (⟨rfl, by rw [(show xi (E 55) = g1 from hg1)]; have gy18 := congrArg Int32.toInt ey18; all_goals omega, ⟨(show xi (E6 55) = g1 from ((pw7.ef 55 (Nat.ne_of_beq_eq_false rfl)).trans hg1)).trans (show xi (E 55) = g1 from hg1).symm, (show xi (E6 54) = g2 from ((pw7.ef 54 (Nat.ne_of_beq_eq_false rfl)).trans hg2)).trans (show xi (E 54) = g2 from hg2).symm, (show xi (E6 51) = g3 from ((pw7.ef 51 (Nat.ne_of_beq_eq_false rfl)).trans hg3)).trans (show xi (E 51) = g3 from hg3).symm, (show xi (E6 52) = g4 from ((pw7.ef 52 (Nat.ne_of_beq_eq_false rfl)).trans hg4)).trans (show xi (E 52) = g4 from hg4).symm, (show xi (E6 53) = g5 from ((pw7.ef 53 (Nat.ne_of_beq_eq_false rfl)).trans hg5)).trans (show xi (E 53) = g5 from hg5).symm⟩, by rw [(show xi (E6 55) = g1 from ((pw7.ef 55 (Nat.ne_of_beq_eq_false rfl)).trans hg1)), (show xi (E6 54) = g2 from ((pw7.ef 54 (Nat.ne_of_beq_eq_false rfl)).trans hg2))]; exact hDI⟩)⟩, by show va_P (dC, dI) vwCl (WX 72 ad E6) t.heap; rw [ht]; exact hP⟩, hS.F ht⟩) hS.2.2 dX13_decide_29
  · -- isIn, case 1
    obtain ⟨rfl, f319⟩ := hw
    have t320 : ¬ ((0 : Int) ≤ a0.toInt ∧ a0.toInt ≤ y9.toInt) := f319
    refine lv_if_eq (tgt := 28) hx hb dX13_decide_16 (by decide) (fun c321 => ?_) (fun c321 => ?_)
    · --16 taken
      refine lv_iconst (v := -1) hx hb dX13_decide_28 (by decide) ?_
      rw [hQ]
      exact W.iret (v := (-1)) hx hb hr (fun t ht hW => ⟨⟨(-1), E6, rfl, ⟨hI, hKp, Or.inr (⟨rfl, by rw [(show xi (E 55) = g1 from hg1)]; all_goals omega, ⟨(show xi (E6 55) = g1 from ((pw7.ef 55 (Nat.ne_of_beq_eq_false rfl)).trans hg1)).trans (show xi (E 55) = g1 from hg1).symm, (show xi (E6 54) = g2 from ((pw7.ef 54 (Nat.ne_of_beq_eq_false rfl)).trans hg2)).trans (show xi (E 54) = g2 from hg2).symm, (show xi (E6 51) = g3 from ((pw7.ef 51 (Nat.ne_of_beq_eq_false rfl)).trans hg3)).trans (show xi (E 51) = g3 from hg3).symm, (show xi (E6 52) = g4 from ((pw7.ef 52 (Nat.ne_of_beq_eq_false rfl)).trans hg4)).trans (show xi (E 52) = g4 from hg4).symm, (show xi (E6 53) = g5 from ((pw7.ef 53 (Nat.ne_of_beq_eq_false rfl)).trans hg5)).trans (show xi (E 53) = g5 from hg5).symm⟩, by rw [(show xi (E6 55) = g1 from ((pw7.ef 55 (Nat.ne_of_beq_eq_false rfl)).trans hg1)), (show xi (E6 54) = g2 from ((pw7.ef 54 (Nat.ne_of_beq_eq_false rfl)).trans hg2))]; exact hDI⟩)⟩, by show va_P (dC, dI) vwCl (WX 72 ad E6) t.heap; rw [ht]; exact hP⟩, hS.F ht⟩) hS.2.2 dX13_decide_29
    · --16 not
      exact absurd c321 (by decide)
