set_option maxRecDepth 100000 in
theorem zh_dX13_canBe_0_0 : zc cX13_canBe 0 [3, 54, 7, 21, 7, 42, 180, 1, 204, 162, 0, 84, 42, 180, 0, 126] = true := by decide +kernel
set_option maxRecDepth 100000 in
theorem zh_dX13_canBe_16_16 : zc cX13_canBe 16 [21, 7, 46, 27, 160, 0, 67, 42, 180, 0, 129, 21, 7, 46, 28, 160] = true := by decide +kernel
set_option maxRecDepth 100000 in
theorem zh_dX13_canBe_31_32 : zc cX13_canBe 32 [0, 56, 42, 180, 0, 147, 21, 7, 46, 21, 4, 164, 0, 6, 167, 0] = true := by decide +kernel
set_option maxRecDepth 100000 in
theorem zh_dX13_canBe_46_48 : zc cX13_canBe 48 [41, 42, 21, 7, 21, 5, 21, 6, 182, 1, 211, 133, 42, 180, 0, 68] = true := by decide +kernel
set_option maxRecDepth 100000 in
theorem zh_dX13_canBe_64_64 : zc cX13_canBe 64 [27, 46, 133, 42, 180, 0, 132, 21, 7, 46, 29, 100, 184, 1, 218, 133] = true := by decide +kernel
set_option maxRecDepth 100000 in
theorem zh_dX13_canBe_80_80 : zc cX13_canBe 80 [105, 148, 158, 0, 5, 3, 172, 132, 7, 1, 167, 255, 169, 4, 172] = true := by decide +kernel
set_option maxRecDepth 100000 in
theorem zh_dX13_east_0_0 : zc cX13_east 0 [26, 153, 0, 8, 26, 7, 160, 0, 7, 3, 167, 0, 13, 26, 7, 162] = true := by decide +kernel
set_option maxRecDepth 100000 in
theorem zh_dX13_east_15_16 : zc cX13_east 16 [0, 7, 4, 167, 0, 4, 2, 172] = true := by decide +kernel
set_option maxRecDepth 100000 in
theorem zh_dX13_south_0_0 : zc cX13_south 0 [26, 5, 159, 0, 9, 26, 16, 6, 160, 0, 7, 3, 167, 0, 19, 26] = true := by decide +kernel
set_option maxRecDepth 100000 in
theorem zh_dX13_south_16_16 : zc cX13_south 16 [5, 164, 0, 13, 26, 16, 6, 162, 0, 7, 4, 167, 0, 4, 2, 172] = true := by decide +kernel
set_option maxRecDepth 100000 in
theorem zh_dX13_far_0_0 : zc cX13_far 0 [26, 28, 100, 184, 1, 218, 27, 29, 100, 184, 1, 218, 184, 1, 129, 172] = true := by decide +kernel
set_option maxRecDepth 100000 in
theorem zh_dX13_middleOf_0_0 : zc cX13_middleOf 0 [42, 180, 0, 56, 27, 46, 154, 0, 16, 42, 27, 28, 42, 180, 0, 232] = true := by decide +kernel
set_option maxRecDepth 100000 in
theorem zh_dX13_middleOf_16_16 : zc cX13_middleOf 16 [182, 1, 163, 153, 0, 7, 19, 1, 175, 172, 3, 62, 3, 54, 4, 21] = true := by decide +kernel
set_option maxRecDepth 100000 in
theorem zh_dX13_middleOf_31_32 : zc cX13_middleOf 32 [4, 42, 180, 0, 239, 162, 0, 101, 21, 4, 28, 159, 0, 89, 42, 27] = true := by decide +kernel
set_option maxRecDepth 100000 in
theorem zh_dX13_middleOf_48_48 : zc cX13_middleOf 48 [21, 4, 42, 180, 0, 232, 182, 1, 163, 153, 0, 6, 167, 0, 72, 42] = true := by decide +kernel
set_option maxRecDepth 100000 in
theorem zh_dX13_middleOf_64_64 : zc cX13_middleOf 64 [27, 21, 4, 42, 180, 0, 232, 182, 1, 172, 54, 5, 29, 54, 6, 21] = true := by decide +kernel
set_option maxRecDepth 100000 in
theorem zh_dX13_middleOf_79_80 : zc cX13_middleOf 80 [6, 158, 0, 39, 42, 180, 0, 210, 21, 6, 4, 100, 46, 21, 5, 164] = true := by decide +kernel
set_option maxRecDepth 100000 in
theorem zh_dX13_middleOf_95_96 : zc cX13_middleOf 96 [0, 25, 42, 180, 0, 210, 21, 6, 42, 180, 0, 210, 21, 6, 4, 100] = true := by decide +kernel
set_option maxRecDepth 100000 in
theorem zh_dX13_middleOf_112_112 : zc cX13_middleOf 112 [46, 79, 132, 6, 255, 167, 255, 218, 42, 180, 0, 210, 21, 6, 21, 5] = true := by decide +kernel
set_option maxRecDepth 100000 in
theorem zh_dX13_middleOf_128_128 : zc cX13_middleOf 128 [79, 132, 3, 1, 132, 4, 1, 167, 255, 152, 29, 154, 0, 9, 19, 1] = true := by decide +kernel
set_option maxRecDepth 100000 in
theorem zh_dX13_middleOf_142_144 : zc cX13_middleOf 144 [175, 167, 0, 13, 42, 180, 0, 210, 29, 4, 100, 5, 108, 46, 172] = true := by decide +kernel
set_option maxRecDepth 100000 in
theorem zh_dX13_fitOf_0_0 : zc cX13_fitOf 0 [3, 61, 3, 62, 29, 42, 180, 1, 134, 162, 0, 55, 42, 29, 27, 182] = true := by decide +kernel
set_option maxRecDepth 100000 in
theorem zh_dX13_fitOf_15_16 : zc cX13_fitOf 16 [2, 16, 54, 4, 21, 4, 19, 1, 175, 160, 0, 6, 167, 0, 30, 42] = true := by decide +kernel
set_option maxRecDepth 100000 in
theorem zh_dX13_fitOf_32_32 : zc cX13_fitOf 32 [180, 0, 213, 28, 42, 29, 27, 42, 180, 0, 232, 182, 1, 166, 79, 42] = true := by decide +kernel
set_option maxRecDepth 100000 in
theorem zh_dX13_fitOf_48_48 : zc cX13_fitOf 48 [180, 0, 216, 28, 21, 4, 79, 132, 2, 1, 132, 3, 1, 167, 255, 199] = true := by decide +kernel
set_option maxRecDepth 100000 in
theorem zh_dX13_fitOf_64_64 : zc cX13_fitOf 64 [28, 154, 0, 5, 2, 172, 2, 62, 3, 54, 4, 17, 1, 244, 54, 5] = true := by decide +kernel
set_option maxRecDepth 100000 in
theorem zh_dX13_fitOf_80_80 : zc cX13_fitOf 80 [21, 5, 17, 7, 208, 163, 0, 79, 3, 54, 6, 3, 54, 7, 21, 7] = true := by decide +kernel
set_option maxRecDepth 100000 in
theorem zh_dX13_fitOf_96_96 : zc cX13_fitOf 96 [28, 162, 0, 39, 21, 6, 42, 180, 0, 213, 21, 7, 46, 21, 5, 104] = true := by decide +kernel
set_option maxRecDepth 100000 in
theorem zh_dX13_fitOf_112_112 : zc cX13_fitOf 112 [17, 3, 232, 108, 42, 180, 0, 216, 21, 7, 46, 100, 184, 1, 218, 96] = true := by decide +kernel
set_option maxRecDepth 100000 in
theorem zh_dX13_fitOf_128_128 : zc cX13_fitOf 128 [54, 6, 132, 7, 1, 167, 255, 217, 29, 2, 159, 0, 13, 21, 6, 21] = true := by decide +kernel
set_option maxRecDepth 100000 in
theorem zh_dX13_fitOf_143_144 : zc cX13_fitOf 144 [4, 161, 0, 6, 167, 0, 10, 21, 5, 62, 21, 6, 54, 4, 132, 5] = true := by decide +kernel
set_option maxRecDepth 100000 in
theorem zh_dX13_fitOf_158_160 : zc cX13_fitOf 160 [1, 167, 255, 175, 29, 172] = true := by decide +kernel
theorem dX13_canBe_0 : decode cX13_canBe 0 = .ok (.iconst 0, 1) := zo_3 (zi_at zh_dX13_canBe_0_0 0 rfl)
theorem dX13_canBe_1 : decode cX13_canBe 1 = .ok (.istore 7, 2) := zo_54 (zi_at zh_dX13_canBe_0_0 1 rfl) (zi_at zh_dX13_canBe_0_0 2 rfl)
theorem dX13_canBe_3 : decode cX13_canBe 3 = .ok (.iload 7, 2) := zo_21 (zi_at zh_dX13_canBe_0_0 3 rfl) (zi_at zh_dX13_canBe_0_0 4 rfl)
theorem dX13_canBe_5 : decode cX13_canBe 5 = .ok (.aload_n 0, 1) := zo_42 (zi_at zh_dX13_canBe_0_0 5 rfl)
theorem dX13_canBe_6 : decode cX13_canBe 6 = .ok (.getfield 460, 3) := zo_180 (zi_at zh_dX13_canBe_0_0 6 rfl) (zi_at zh_dX13_canBe_0_0 7 rfl) (zi_at zh_dX13_canBe_0_0 8 rfl) rfl
theorem dX13_canBe_9 : decode cX13_canBe 9 = .ok (.if_icmp .ge 84, 3) := zo_162 (zi_at zh_dX13_canBe_0_0 9 rfl) (zi_at zh_dX13_canBe_0_0 10 rfl) (zi_at zh_dX13_canBe_0_0 11 rfl) rfl
theorem dX13_canBe_12 : decode cX13_canBe 12 = .ok (.aload_n 0, 1) := zo_42 (zi_at zh_dX13_canBe_0_0 12 rfl)
theorem dX13_canBe_13 : decode cX13_canBe 13 = .ok (.getfield 126, 3) := zo_180 (zi_at zh_dX13_canBe_0_0 13 rfl) (zi_at zh_dX13_canBe_0_0 14 rfl) (zi_at zh_dX13_canBe_0_0 15 rfl) rfl
theorem dX13_canBe_16 : decode cX13_canBe 16 = .ok (.iload 7, 2) := zo_21 (zi_at zh_dX13_canBe_16_16 0 rfl) (zi_at zh_dX13_canBe_16_16 1 rfl)
theorem dX13_canBe_18 : decode cX13_canBe 18 = .ok (.iaload, 1) := zo_46 (zi_at zh_dX13_canBe_16_16 2 rfl)
theorem dX13_canBe_19 : decode cX13_canBe 19 = .ok (.iload_n 1, 1) := zo_27 (zi_at zh_dX13_canBe_16_16 3 rfl)
theorem dX13_canBe_20 : decode cX13_canBe 20 = .ok (.if_icmp .ne 67, 3) := zo_160 (zi_at zh_dX13_canBe_16_16 4 rfl) (zi_at zh_dX13_canBe_16_16 5 rfl) (zi_at zh_dX13_canBe_16_16 6 rfl) rfl
theorem dX13_canBe_23 : decode cX13_canBe 23 = .ok (.aload_n 0, 1) := zo_42 (zi_at zh_dX13_canBe_16_16 7 rfl)
theorem dX13_canBe_24 : decode cX13_canBe 24 = .ok (.getfield 129, 3) := zo_180 (zi_at zh_dX13_canBe_16_16 8 rfl) (zi_at zh_dX13_canBe_16_16 9 rfl) (zi_at zh_dX13_canBe_16_16 10 rfl) rfl
theorem dX13_canBe_27 : decode cX13_canBe 27 = .ok (.iload 7, 2) := zo_21 (zi_at zh_dX13_canBe_16_16 11 rfl) (zi_at zh_dX13_canBe_16_16 12 rfl)
theorem dX13_canBe_29 : decode cX13_canBe 29 = .ok (.iaload, 1) := zo_46 (zi_at zh_dX13_canBe_16_16 13 rfl)
theorem dX13_canBe_30 : decode cX13_canBe 30 = .ok (.iload_n 2, 1) := zo_28 (zi_at zh_dX13_canBe_16_16 14 rfl)
theorem dX13_canBe_31 : decode cX13_canBe 31 = .ok (.if_icmp .ne 56, 3) := zo_160 (zi_at zh_dX13_canBe_16_16 15 rfl) (zi_at zh_dX13_canBe_31_32 0 rfl) (zi_at zh_dX13_canBe_31_32 1 rfl) rfl
theorem dX13_canBe_34 : decode cX13_canBe 34 = .ok (.aload_n 0, 1) := zo_42 (zi_at zh_dX13_canBe_31_32 2 rfl)
theorem dX13_canBe_35 : decode cX13_canBe 35 = .ok (.getfield 147, 3) := zo_180 (zi_at zh_dX13_canBe_31_32 3 rfl) (zi_at zh_dX13_canBe_31_32 4 rfl) (zi_at zh_dX13_canBe_31_32 5 rfl) rfl
theorem dX13_canBe_38 : decode cX13_canBe 38 = .ok (.iload 7, 2) := zo_21 (zi_at zh_dX13_canBe_31_32 6 rfl) (zi_at zh_dX13_canBe_31_32 7 rfl)
theorem dX13_canBe_40 : decode cX13_canBe 40 = .ok (.iaload, 1) := zo_46 (zi_at zh_dX13_canBe_31_32 8 rfl)
theorem dX13_canBe_41 : decode cX13_canBe 41 = .ok (.iload 4, 2) := zo_21 (zi_at zh_dX13_canBe_31_32 9 rfl) (zi_at zh_dX13_canBe_31_32 10 rfl)
theorem dX13_canBe_43 : decode cX13_canBe 43 = .ok (.if_icmp .le 6, 3) := zo_164 (zi_at zh_dX13_canBe_31_32 11 rfl) (zi_at zh_dX13_canBe_31_32 12 rfl) (zi_at zh_dX13_canBe_31_32 13 rfl) rfl
theorem dX13_canBe_46 : decode cX13_canBe 46 = .ok (.goto 41, 3) := zo_167 (zi_at zh_dX13_canBe_31_32 14 rfl) (zi_at zh_dX13_canBe_31_32 15 rfl) (zi_at zh_dX13_canBe_46_48 0 rfl) rfl
theorem dX13_canBe_49 : decode cX13_canBe 49 = .ok (.aload_n 0, 1) := zo_42 (zi_at zh_dX13_canBe_46_48 1 rfl)
theorem dX13_canBe_50 : decode cX13_canBe 50 = .ok (.iload 7, 2) := zo_21 (zi_at zh_dX13_canBe_46_48 2 rfl) (zi_at zh_dX13_canBe_46_48 3 rfl)
theorem dX13_canBe_52 : decode cX13_canBe 52 = .ok (.iload 5, 2) := zo_21 (zi_at zh_dX13_canBe_46_48 4 rfl) (zi_at zh_dX13_canBe_46_48 5 rfl)
theorem dX13_canBe_54 : decode cX13_canBe 54 = .ok (.iload 6, 2) := zo_21 (zi_at zh_dX13_canBe_46_48 6 rfl) (zi_at zh_dX13_canBe_46_48 7 rfl)
theorem dX13_canBe_56 : decode cX13_canBe 56 = .ok (.invokevirtual 467, 3) := zo_182 (zi_at zh_dX13_canBe_46_48 8 rfl) (zi_at zh_dX13_canBe_46_48 9 rfl) (zi_at zh_dX13_canBe_46_48 10 rfl) rfl
theorem dX13_canBe_59 : decode cX13_canBe 59 = .ok (.i2l, 1) := zo_133 (zi_at zh_dX13_canBe_46_48 11 rfl)
theorem dX13_canBe_60 : decode cX13_canBe 60 = .ok (.aload_n 0, 1) := zo_42 (zi_at zh_dX13_canBe_46_48 12 rfl)
theorem dX13_canBe_61 : decode cX13_canBe 61 = .ok (.getfield 68, 3) := zo_180 (zi_at zh_dX13_canBe_46_48 13 rfl) (zi_at zh_dX13_canBe_46_48 14 rfl) (zi_at zh_dX13_canBe_46_48 15 rfl) rfl
theorem dX13_canBe_64 : decode cX13_canBe 64 = .ok (.iload_n 1, 1) := zo_27 (zi_at zh_dX13_canBe_64_64 0 rfl)
theorem dX13_canBe_65 : decode cX13_canBe 65 = .ok (.iaload, 1) := zo_46 (zi_at zh_dX13_canBe_64_64 1 rfl)
theorem dX13_canBe_66 : decode cX13_canBe 66 = .ok (.i2l, 1) := zo_133 (zi_at zh_dX13_canBe_64_64 2 rfl)
theorem dX13_canBe_67 : decode cX13_canBe 67 = .ok (.aload_n 0, 1) := zo_42 (zi_at zh_dX13_canBe_64_64 3 rfl)
theorem dX13_canBe_68 : decode cX13_canBe 68 = .ok (.getfield 132, 3) := zo_180 (zi_at zh_dX13_canBe_64_64 4 rfl) (zi_at zh_dX13_canBe_64_64 5 rfl) (zi_at zh_dX13_canBe_64_64 6 rfl) rfl
theorem dX13_canBe_71 : decode cX13_canBe 71 = .ok (.iload 7, 2) := zo_21 (zi_at zh_dX13_canBe_64_64 7 rfl) (zi_at zh_dX13_canBe_64_64 8 rfl)
theorem dX13_canBe_73 : decode cX13_canBe 73 = .ok (.iaload, 1) := zo_46 (zi_at zh_dX13_canBe_64_64 9 rfl)
theorem dX13_canBe_74 : decode cX13_canBe 74 = .ok (.iload_n 3, 1) := zo_29 (zi_at zh_dX13_canBe_64_64 10 rfl)
theorem dX13_canBe_75 : decode cX13_canBe 75 = .ok (.isub, 1) := zo_100 (zi_at zh_dX13_canBe_64_64 11 rfl)
theorem dX13_canBe_76 : decode cX13_canBe 76 = .ok (.invokestatic 474, 3) := zo_184 (zi_at zh_dX13_canBe_64_64 12 rfl) (zi_at zh_dX13_canBe_64_64 13 rfl) (zi_at zh_dX13_canBe_64_64 14 rfl) rfl
theorem dX13_canBe_79 : decode cX13_canBe 79 = .ok (.i2l, 1) := zo_133 (zi_at zh_dX13_canBe_64_64 15 rfl)
theorem dX13_canBe_80 : decode cX13_canBe 80 = .ok (.lmul, 1) := zo_105 (zi_at zh_dX13_canBe_80_80 0 rfl)
theorem dX13_canBe_81 : decode cX13_canBe 81 = .ok (.lcmp, 1) := zo_148 (zi_at zh_dX13_canBe_80_80 1 rfl)
theorem dX13_canBe_82 : decode cX13_canBe 82 = .ok (.ifCond .le 5, 3) := zo_158 (zi_at zh_dX13_canBe_80_80 2 rfl) (zi_at zh_dX13_canBe_80_80 3 rfl) (zi_at zh_dX13_canBe_80_80 4 rfl) rfl
theorem dX13_canBe_85 : decode cX13_canBe 85 = .ok (.iconst 0, 1) := zo_3 (zi_at zh_dX13_canBe_80_80 5 rfl)
theorem dX13_canBe_86 : decode cX13_canBe 86 = .ok (.ireturn, 1) := zo_172 (zi_at zh_dX13_canBe_80_80 6 rfl)
theorem dX13_canBe_87 : decode cX13_canBe 87 = .ok (.iinc 7 1, 3) := zo_132 (zi_at zh_dX13_canBe_80_80 7 rfl) (zi_at zh_dX13_canBe_80_80 8 rfl) (zi_at zh_dX13_canBe_80_80 9 rfl) rfl
theorem dX13_canBe_90 : decode cX13_canBe 90 = .ok (.goto (-87), 3) := zo_167 (zi_at zh_dX13_canBe_80_80 10 rfl) (zi_at zh_dX13_canBe_80_80 11 rfl) (zi_at zh_dX13_canBe_80_80 12 rfl) rfl
theorem dX13_canBe_93 : decode cX13_canBe 93 = .ok (.iconst 1, 1) := zo_4 (zi_at zh_dX13_canBe_80_80 13 rfl)
theorem dX13_canBe_94 : decode cX13_canBe 94 = .ok (.ireturn, 1) := zo_172 (zi_at zh_dX13_canBe_80_80 14 rfl)
theorem dX13_east_0 : decode cX13_east 0 = .ok (.iload_n 0, 1) := zo_26 (zi_at zh_dX13_east_0_0 0 rfl)
theorem dX13_east_1 : decode cX13_east 1 = .ok (.ifCond .eq 8, 3) := zo_153 (zi_at zh_dX13_east_0_0 1 rfl) (zi_at zh_dX13_east_0_0 2 rfl) (zi_at zh_dX13_east_0_0 3 rfl) rfl
theorem dX13_east_4 : decode cX13_east 4 = .ok (.iload_n 0, 1) := zo_26 (zi_at zh_dX13_east_0_0 4 rfl)
theorem dX13_east_5 : decode cX13_east 5 = .ok (.iconst 4, 1) := zo_7 (zi_at zh_dX13_east_0_0 5 rfl)
theorem dX13_east_6 : decode cX13_east 6 = .ok (.if_icmp .ne 7, 3) := zo_160 (zi_at zh_dX13_east_0_0 6 rfl) (zi_at zh_dX13_east_0_0 7 rfl) (zi_at zh_dX13_east_0_0 8 rfl) rfl
theorem dX13_east_9 : decode cX13_east 9 = .ok (.iconst 0, 1) := zo_3 (zi_at zh_dX13_east_0_0 9 rfl)
theorem dX13_east_10 : decode cX13_east 10 = .ok (.goto 13, 3) := zo_167 (zi_at zh_dX13_east_0_0 10 rfl) (zi_at zh_dX13_east_0_0 11 rfl) (zi_at zh_dX13_east_0_0 12 rfl) rfl
theorem dX13_east_13 : decode cX13_east 13 = .ok (.iload_n 0, 1) := zo_26 (zi_at zh_dX13_east_0_0 13 rfl)
theorem dX13_east_14 : decode cX13_east 14 = .ok (.iconst 4, 1) := zo_7 (zi_at zh_dX13_east_0_0 14 rfl)
theorem dX13_east_15 : decode cX13_east 15 = .ok (.if_icmp .ge 7, 3) := zo_162 (zi_at zh_dX13_east_0_0 15 rfl) (zi_at zh_dX13_east_15_16 0 rfl) (zi_at zh_dX13_east_15_16 1 rfl) rfl
theorem dX13_east_18 : decode cX13_east 18 = .ok (.iconst 1, 1) := zo_4 (zi_at zh_dX13_east_15_16 2 rfl)
theorem dX13_east_19 : decode cX13_east 19 = .ok (.goto 4, 3) := zo_167 (zi_at zh_dX13_east_15_16 3 rfl) (zi_at zh_dX13_east_15_16 4 rfl) (zi_at zh_dX13_east_15_16 5 rfl) rfl
theorem dX13_east_22 : decode cX13_east 22 = .ok (.iconst (-1), 1) := zo_2 (zi_at zh_dX13_east_15_16 6 rfl)
theorem dX13_east_23 : decode cX13_east 23 = .ok (.ireturn, 1) := zo_172 (zi_at zh_dX13_east_15_16 7 rfl)
theorem dX13_south_0 : decode cX13_south 0 = .ok (.iload_n 0, 1) := zo_26 (zi_at zh_dX13_south_0_0 0 rfl)
theorem dX13_south_1 : decode cX13_south 1 = .ok (.iconst 2, 1) := zo_5 (zi_at zh_dX13_south_0_0 1 rfl)
theorem dX13_south_2 : decode cX13_south 2 = .ok (.if_icmp .eq 9, 3) := zo_159 (zi_at zh_dX13_south_0_0 2 rfl) (zi_at zh_dX13_south_0_0 3 rfl) (zi_at zh_dX13_south_0_0 4 rfl) rfl
theorem dX13_south_5 : decode cX13_south 5 = .ok (.iload_n 0, 1) := zo_26 (zi_at zh_dX13_south_0_0 5 rfl)
theorem dX13_south_6 : decode cX13_south 6 = .ok (.bipush 6, 2) := zo_16 (zi_at zh_dX13_south_0_0 6 rfl) (zi_at zh_dX13_south_0_0 7 rfl) rfl
theorem dX13_south_8 : decode cX13_south 8 = .ok (.if_icmp .ne 7, 3) := zo_160 (zi_at zh_dX13_south_0_0 8 rfl) (zi_at zh_dX13_south_0_0 9 rfl) (zi_at zh_dX13_south_0_0 10 rfl) rfl
theorem dX13_south_11 : decode cX13_south 11 = .ok (.iconst 0, 1) := zo_3 (zi_at zh_dX13_south_0_0 11 rfl)
theorem dX13_south_12 : decode cX13_south 12 = .ok (.goto 19, 3) := zo_167 (zi_at zh_dX13_south_0_0 12 rfl) (zi_at zh_dX13_south_0_0 13 rfl) (zi_at zh_dX13_south_0_0 14 rfl) rfl
theorem dX13_south_15 : decode cX13_south 15 = .ok (.iload_n 0, 1) := zo_26 (zi_at zh_dX13_south_0_0 15 rfl)
theorem dX13_south_16 : decode cX13_south 16 = .ok (.iconst 2, 1) := zo_5 (zi_at zh_dX13_south_16_16 0 rfl)
theorem dX13_south_17 : decode cX13_south 17 = .ok (.if_icmp .le 13, 3) := zo_164 (zi_at zh_dX13_south_16_16 1 rfl) (zi_at zh_dX13_south_16_16 2 rfl) (zi_at zh_dX13_south_16_16 3 rfl) rfl
theorem dX13_south_20 : decode cX13_south 20 = .ok (.iload_n 0, 1) := zo_26 (zi_at zh_dX13_south_16_16 4 rfl)
theorem dX13_south_21 : decode cX13_south 21 = .ok (.bipush 6, 2) := zo_16 (zi_at zh_dX13_south_16_16 5 rfl) (zi_at zh_dX13_south_16_16 6 rfl) rfl
theorem dX13_south_23 : decode cX13_south 23 = .ok (.if_icmp .ge 7, 3) := zo_162 (zi_at zh_dX13_south_16_16 7 rfl) (zi_at zh_dX13_south_16_16 8 rfl) (zi_at zh_dX13_south_16_16 9 rfl) rfl
theorem dX13_south_26 : decode cX13_south 26 = .ok (.iconst 1, 1) := zo_4 (zi_at zh_dX13_south_16_16 10 rfl)
theorem dX13_south_27 : decode cX13_south 27 = .ok (.goto 4, 3) := zo_167 (zi_at zh_dX13_south_16_16 11 rfl) (zi_at zh_dX13_south_16_16 12 rfl) (zi_at zh_dX13_south_16_16 13 rfl) rfl
theorem dX13_south_30 : decode cX13_south 30 = .ok (.iconst (-1), 1) := zo_2 (zi_at zh_dX13_south_16_16 14 rfl)
theorem dX13_south_31 : decode cX13_south 31 = .ok (.ireturn, 1) := zo_172 (zi_at zh_dX13_south_16_16 15 rfl)
theorem dX13_far_0 : decode cX13_far 0 = .ok (.iload_n 0, 1) := zo_26 (zi_at zh_dX13_far_0_0 0 rfl)
theorem dX13_far_1 : decode cX13_far 1 = .ok (.iload_n 2, 1) := zo_28 (zi_at zh_dX13_far_0_0 1 rfl)
theorem dX13_far_2 : decode cX13_far 2 = .ok (.isub, 1) := zo_100 (zi_at zh_dX13_far_0_0 2 rfl)
theorem dX13_far_3 : decode cX13_far 3 = .ok (.invokestatic 474, 3) := zo_184 (zi_at zh_dX13_far_0_0 3 rfl) (zi_at zh_dX13_far_0_0 4 rfl) (zi_at zh_dX13_far_0_0 5 rfl) rfl
theorem dX13_far_6 : decode cX13_far 6 = .ok (.iload_n 1, 1) := zo_27 (zi_at zh_dX13_far_0_0 6 rfl)
theorem dX13_far_7 : decode cX13_far 7 = .ok (.iload_n 3, 1) := zo_29 (zi_at zh_dX13_far_0_0 7 rfl)
theorem dX13_far_8 : decode cX13_far 8 = .ok (.isub, 1) := zo_100 (zi_at zh_dX13_far_0_0 8 rfl)
theorem dX13_far_9 : decode cX13_far 9 = .ok (.invokestatic 474, 3) := zo_184 (zi_at zh_dX13_far_0_0 9 rfl) (zi_at zh_dX13_far_0_0 10 rfl) (zi_at zh_dX13_far_0_0 11 rfl) rfl
theorem dX13_far_12 : decode cX13_far 12 = .ok (.invokestatic 385, 3) := zo_184 (zi_at zh_dX13_far_0_0 12 rfl) (zi_at zh_dX13_far_0_0 13 rfl) (zi_at zh_dX13_far_0_0 14 rfl) rfl
theorem dX13_far_15 : decode cX13_far 15 = .ok (.ireturn, 1) := zo_172 (zi_at zh_dX13_far_0_0 15 rfl)
theorem dX13_middleOf_0 : decode cX13_middleOf 0 = .ok (.aload_n 0, 1) := zo_42 (zi_at zh_dX13_middleOf_0_0 0 rfl)
theorem dX13_middleOf_1 : decode cX13_middleOf 1 = .ok (.getfield 56, 3) := zo_180 (zi_at zh_dX13_middleOf_0_0 1 rfl) (zi_at zh_dX13_middleOf_0_0 2 rfl) (zi_at zh_dX13_middleOf_0_0 3 rfl) rfl
theorem dX13_middleOf_4 : decode cX13_middleOf 4 = .ok (.iload_n 1, 1) := zo_27 (zi_at zh_dX13_middleOf_0_0 4 rfl)
theorem dX13_middleOf_5 : decode cX13_middleOf 5 = .ok (.iaload, 1) := zo_46 (zi_at zh_dX13_middleOf_0_0 5 rfl)
theorem dX13_middleOf_6 : decode cX13_middleOf 6 = .ok (.ifCond .ne 16, 3) := zo_154 (zi_at zh_dX13_middleOf_0_0 6 rfl) (zi_at zh_dX13_middleOf_0_0 7 rfl) (zi_at zh_dX13_middleOf_0_0 8 rfl) rfl
theorem dX13_middleOf_9 : decode cX13_middleOf 9 = .ok (.aload_n 0, 1) := zo_42 (zi_at zh_dX13_middleOf_0_0 9 rfl)
theorem dX13_middleOf_10 : decode cX13_middleOf 10 = .ok (.iload_n 1, 1) := zo_27 (zi_at zh_dX13_middleOf_0_0 10 rfl)
theorem dX13_middleOf_11 : decode cX13_middleOf 11 = .ok (.iload_n 2, 1) := zo_28 (zi_at zh_dX13_middleOf_0_0 11 rfl)
theorem dX13_middleOf_12 : decode cX13_middleOf 12 = .ok (.aload_n 0, 1) := zo_42 (zi_at zh_dX13_middleOf_0_0 12 rfl)
theorem dX13_middleOf_13 : decode cX13_middleOf 13 = .ok (.getfield 232, 3) := zo_180 (zi_at zh_dX13_middleOf_0_0 13 rfl) (zi_at zh_dX13_middleOf_0_0 14 rfl) (zi_at zh_dX13_middleOf_0_0 15 rfl) rfl
theorem dX13_middleOf_16 : decode cX13_middleOf 16 = .ok (.invokevirtual 419, 3) := zo_182 (zi_at zh_dX13_middleOf_16_16 0 rfl) (zi_at zh_dX13_middleOf_16_16 1 rfl) (zi_at zh_dX13_middleOf_16_16 2 rfl) rfl
theorem dX13_middleOf_19 : decode cX13_middleOf 19 = .ok (.ifCond .eq 7, 3) := zo_153 (zi_at zh_dX13_middleOf_16_16 3 rfl) (zi_at zh_dX13_middleOf_16_16 4 rfl) (zi_at zh_dX13_middleOf_16_16 5 rfl) rfl
theorem dX13_middleOf_22 : decode cX13_middleOf 22 = .ok (.ldc_w 431, 3) := zo_19 (zi_at zh_dX13_middleOf_16_16 6 rfl) (zi_at zh_dX13_middleOf_16_16 7 rfl) (zi_at zh_dX13_middleOf_16_16 8 rfl) rfl
theorem dX13_middleOf_25 : decode cX13_middleOf 25 = .ok (.ireturn, 1) := zo_172 (zi_at zh_dX13_middleOf_16_16 9 rfl)
theorem dX13_middleOf_26 : decode cX13_middleOf 26 = .ok (.iconst 0, 1) := zo_3 (zi_at zh_dX13_middleOf_16_16 10 rfl)
theorem dX13_middleOf_27 : decode cX13_middleOf 27 = .ok (.istore_n 3, 1) := zo_62 (zi_at zh_dX13_middleOf_16_16 11 rfl)
theorem dX13_middleOf_28 : decode cX13_middleOf 28 = .ok (.iconst 0, 1) := zo_3 (zi_at zh_dX13_middleOf_16_16 12 rfl)
theorem dX13_middleOf_29 : decode cX13_middleOf 29 = .ok (.istore 4, 2) := zo_54 (zi_at zh_dX13_middleOf_16_16 13 rfl) (zi_at zh_dX13_middleOf_16_16 14 rfl)
theorem dX13_middleOf_31 : decode cX13_middleOf 31 = .ok (.iload 4, 2) := zo_21 (zi_at zh_dX13_middleOf_16_16 15 rfl) (zi_at zh_dX13_middleOf_31_32 0 rfl)
theorem dX13_middleOf_33 : decode cX13_middleOf 33 = .ok (.aload_n 0, 1) := zo_42 (zi_at zh_dX13_middleOf_31_32 1 rfl)
theorem dX13_middleOf_34 : decode cX13_middleOf 34 = .ok (.getfield 239, 3) := zo_180 (zi_at zh_dX13_middleOf_31_32 2 rfl) (zi_at zh_dX13_middleOf_31_32 3 rfl) (zi_at zh_dX13_middleOf_31_32 4 rfl) rfl
theorem dX13_middleOf_37 : decode cX13_middleOf 37 = .ok (.if_icmp .ge 101, 3) := zo_162 (zi_at zh_dX13_middleOf_31_32 5 rfl) (zi_at zh_dX13_middleOf_31_32 6 rfl) (zi_at zh_dX13_middleOf_31_32 7 rfl) rfl
theorem dX13_middleOf_40 : decode cX13_middleOf 40 = .ok (.iload 4, 2) := zo_21 (zi_at zh_dX13_middleOf_31_32 8 rfl) (zi_at zh_dX13_middleOf_31_32 9 rfl)
theorem dX13_middleOf_42 : decode cX13_middleOf 42 = .ok (.iload_n 2, 1) := zo_28 (zi_at zh_dX13_middleOf_31_32 10 rfl)
theorem dX13_middleOf_43 : decode cX13_middleOf 43 = .ok (.if_icmp .eq 89, 3) := zo_159 (zi_at zh_dX13_middleOf_31_32 11 rfl) (zi_at zh_dX13_middleOf_31_32 12 rfl) (zi_at zh_dX13_middleOf_31_32 13 rfl) rfl
theorem dX13_middleOf_46 : decode cX13_middleOf 46 = .ok (.aload_n 0, 1) := zo_42 (zi_at zh_dX13_middleOf_31_32 14 rfl)
theorem dX13_middleOf_47 : decode cX13_middleOf 47 = .ok (.iload_n 1, 1) := zo_27 (zi_at zh_dX13_middleOf_31_32 15 rfl)
theorem dX13_middleOf_48 : decode cX13_middleOf 48 = .ok (.iload 4, 2) := zo_21 (zi_at zh_dX13_middleOf_48_48 0 rfl) (zi_at zh_dX13_middleOf_48_48 1 rfl)
theorem dX13_middleOf_50 : decode cX13_middleOf 50 = .ok (.aload_n 0, 1) := zo_42 (zi_at zh_dX13_middleOf_48_48 2 rfl)
theorem dX13_middleOf_51 : decode cX13_middleOf 51 = .ok (.getfield 232, 3) := zo_180 (zi_at zh_dX13_middleOf_48_48 3 rfl) (zi_at zh_dX13_middleOf_48_48 4 rfl) (zi_at zh_dX13_middleOf_48_48 5 rfl) rfl
theorem dX13_middleOf_54 : decode cX13_middleOf 54 = .ok (.invokevirtual 419, 3) := zo_182 (zi_at zh_dX13_middleOf_48_48 6 rfl) (zi_at zh_dX13_middleOf_48_48 7 rfl) (zi_at zh_dX13_middleOf_48_48 8 rfl) rfl
theorem dX13_middleOf_57 : decode cX13_middleOf 57 = .ok (.ifCond .eq 6, 3) := zo_153 (zi_at zh_dX13_middleOf_48_48 9 rfl) (zi_at zh_dX13_middleOf_48_48 10 rfl) (zi_at zh_dX13_middleOf_48_48 11 rfl) rfl
theorem dX13_middleOf_60 : decode cX13_middleOf 60 = .ok (.goto 72, 3) := zo_167 (zi_at zh_dX13_middleOf_48_48 12 rfl) (zi_at zh_dX13_middleOf_48_48 13 rfl) (zi_at zh_dX13_middleOf_48_48 14 rfl) rfl
theorem dX13_middleOf_63 : decode cX13_middleOf 63 = .ok (.aload_n 0, 1) := zo_42 (zi_at zh_dX13_middleOf_48_48 15 rfl)
theorem dX13_middleOf_64 : decode cX13_middleOf 64 = .ok (.iload_n 1, 1) := zo_27 (zi_at zh_dX13_middleOf_64_64 0 rfl)
theorem dX13_middleOf_65 : decode cX13_middleOf 65 = .ok (.iload 4, 2) := zo_21 (zi_at zh_dX13_middleOf_64_64 1 rfl) (zi_at zh_dX13_middleOf_64_64 2 rfl)
theorem dX13_middleOf_67 : decode cX13_middleOf 67 = .ok (.aload_n 0, 1) := zo_42 (zi_at zh_dX13_middleOf_64_64 3 rfl)
theorem dX13_middleOf_68 : decode cX13_middleOf 68 = .ok (.getfield 232, 3) := zo_180 (zi_at zh_dX13_middleOf_64_64 4 rfl) (zi_at zh_dX13_middleOf_64_64 5 rfl) (zi_at zh_dX13_middleOf_64_64 6 rfl) rfl
theorem dX13_middleOf_71 : decode cX13_middleOf 71 = .ok (.invokevirtual 428, 3) := zo_182 (zi_at zh_dX13_middleOf_64_64 7 rfl) (zi_at zh_dX13_middleOf_64_64 8 rfl) (zi_at zh_dX13_middleOf_64_64 9 rfl) rfl
theorem dX13_middleOf_74 : decode cX13_middleOf 74 = .ok (.istore 5, 2) := zo_54 (zi_at zh_dX13_middleOf_64_64 10 rfl) (zi_at zh_dX13_middleOf_64_64 11 rfl)
theorem dX13_middleOf_76 : decode cX13_middleOf 76 = .ok (.iload_n 3, 1) := zo_29 (zi_at zh_dX13_middleOf_64_64 12 rfl)
theorem dX13_middleOf_77 : decode cX13_middleOf 77 = .ok (.istore 6, 2) := zo_54 (zi_at zh_dX13_middleOf_64_64 13 rfl) (zi_at zh_dX13_middleOf_64_64 14 rfl)
theorem dX13_middleOf_79 : decode cX13_middleOf 79 = .ok (.iload 6, 2) := zo_21 (zi_at zh_dX13_middleOf_64_64 15 rfl) (zi_at zh_dX13_middleOf_79_80 0 rfl)
theorem dX13_middleOf_81 : decode cX13_middleOf 81 = .ok (.ifCond .le 39, 3) := zo_158 (zi_at zh_dX13_middleOf_79_80 1 rfl) (zi_at zh_dX13_middleOf_79_80 2 rfl) (zi_at zh_dX13_middleOf_79_80 3 rfl) rfl
theorem dX13_middleOf_84 : decode cX13_middleOf 84 = .ok (.aload_n 0, 1) := zo_42 (zi_at zh_dX13_middleOf_79_80 4 rfl)
theorem dX13_middleOf_85 : decode cX13_middleOf 85 = .ok (.getfield 210, 3) := zo_180 (zi_at zh_dX13_middleOf_79_80 5 rfl) (zi_at zh_dX13_middleOf_79_80 6 rfl) (zi_at zh_dX13_middleOf_79_80 7 rfl) rfl
theorem dX13_middleOf_88 : decode cX13_middleOf 88 = .ok (.iload 6, 2) := zo_21 (zi_at zh_dX13_middleOf_79_80 8 rfl) (zi_at zh_dX13_middleOf_79_80 9 rfl)
theorem dX13_middleOf_90 : decode cX13_middleOf 90 = .ok (.iconst 1, 1) := zo_4 (zi_at zh_dX13_middleOf_79_80 10 rfl)
theorem dX13_middleOf_91 : decode cX13_middleOf 91 = .ok (.isub, 1) := zo_100 (zi_at zh_dX13_middleOf_79_80 11 rfl)
theorem dX13_middleOf_92 : decode cX13_middleOf 92 = .ok (.iaload, 1) := zo_46 (zi_at zh_dX13_middleOf_79_80 12 rfl)
theorem dX13_middleOf_93 : decode cX13_middleOf 93 = .ok (.iload 5, 2) := zo_21 (zi_at zh_dX13_middleOf_79_80 13 rfl) (zi_at zh_dX13_middleOf_79_80 14 rfl)
theorem dX13_middleOf_95 : decode cX13_middleOf 95 = .ok (.if_icmp .le 25, 3) := zo_164 (zi_at zh_dX13_middleOf_79_80 15 rfl) (zi_at zh_dX13_middleOf_95_96 0 rfl) (zi_at zh_dX13_middleOf_95_96 1 rfl) rfl
theorem dX13_middleOf_98 : decode cX13_middleOf 98 = .ok (.aload_n 0, 1) := zo_42 (zi_at zh_dX13_middleOf_95_96 2 rfl)
theorem dX13_middleOf_99 : decode cX13_middleOf 99 = .ok (.getfield 210, 3) := zo_180 (zi_at zh_dX13_middleOf_95_96 3 rfl) (zi_at zh_dX13_middleOf_95_96 4 rfl) (zi_at zh_dX13_middleOf_95_96 5 rfl) rfl
theorem dX13_middleOf_102 : decode cX13_middleOf 102 = .ok (.iload 6, 2) := zo_21 (zi_at zh_dX13_middleOf_95_96 6 rfl) (zi_at zh_dX13_middleOf_95_96 7 rfl)
theorem dX13_middleOf_104 : decode cX13_middleOf 104 = .ok (.aload_n 0, 1) := zo_42 (zi_at zh_dX13_middleOf_95_96 8 rfl)
theorem dX13_middleOf_105 : decode cX13_middleOf 105 = .ok (.getfield 210, 3) := zo_180 (zi_at zh_dX13_middleOf_95_96 9 rfl) (zi_at zh_dX13_middleOf_95_96 10 rfl) (zi_at zh_dX13_middleOf_95_96 11 rfl) rfl
theorem dX13_middleOf_108 : decode cX13_middleOf 108 = .ok (.iload 6, 2) := zo_21 (zi_at zh_dX13_middleOf_95_96 12 rfl) (zi_at zh_dX13_middleOf_95_96 13 rfl)
theorem dX13_middleOf_110 : decode cX13_middleOf 110 = .ok (.iconst 1, 1) := zo_4 (zi_at zh_dX13_middleOf_95_96 14 rfl)
theorem dX13_middleOf_111 : decode cX13_middleOf 111 = .ok (.isub, 1) := zo_100 (zi_at zh_dX13_middleOf_95_96 15 rfl)
theorem dX13_middleOf_112 : decode cX13_middleOf 112 = .ok (.iaload, 1) := zo_46 (zi_at zh_dX13_middleOf_112_112 0 rfl)
theorem dX13_middleOf_113 : decode cX13_middleOf 113 = .ok (.iastore, 1) := zo_79 (zi_at zh_dX13_middleOf_112_112 1 rfl)
theorem dX13_middleOf_114 : decode cX13_middleOf 114 = .ok (.iinc 6 (-1), 3) := zo_132 (zi_at zh_dX13_middleOf_112_112 2 rfl) (zi_at zh_dX13_middleOf_112_112 3 rfl) (zi_at zh_dX13_middleOf_112_112 4 rfl) rfl
theorem dX13_middleOf_117 : decode cX13_middleOf 117 = .ok (.goto (-38), 3) := zo_167 (zi_at zh_dX13_middleOf_112_112 5 rfl) (zi_at zh_dX13_middleOf_112_112 6 rfl) (zi_at zh_dX13_middleOf_112_112 7 rfl) rfl
theorem dX13_middleOf_120 : decode cX13_middleOf 120 = .ok (.aload_n 0, 1) := zo_42 (zi_at zh_dX13_middleOf_112_112 8 rfl)
theorem dX13_middleOf_121 : decode cX13_middleOf 121 = .ok (.getfield 210, 3) := zo_180 (zi_at zh_dX13_middleOf_112_112 9 rfl) (zi_at zh_dX13_middleOf_112_112 10 rfl) (zi_at zh_dX13_middleOf_112_112 11 rfl) rfl
theorem dX13_middleOf_124 : decode cX13_middleOf 124 = .ok (.iload 6, 2) := zo_21 (zi_at zh_dX13_middleOf_112_112 12 rfl) (zi_at zh_dX13_middleOf_112_112 13 rfl)
theorem dX13_middleOf_126 : decode cX13_middleOf 126 = .ok (.iload 5, 2) := zo_21 (zi_at zh_dX13_middleOf_112_112 14 rfl) (zi_at zh_dX13_middleOf_112_112 15 rfl)
theorem dX13_middleOf_128 : decode cX13_middleOf 128 = .ok (.iastore, 1) := zo_79 (zi_at zh_dX13_middleOf_128_128 0 rfl)
theorem dX13_middleOf_129 : decode cX13_middleOf 129 = .ok (.iinc 3 1, 3) := zo_132 (zi_at zh_dX13_middleOf_128_128 1 rfl) (zi_at zh_dX13_middleOf_128_128 2 rfl) (zi_at zh_dX13_middleOf_128_128 3 rfl) rfl
theorem dX13_middleOf_132 : decode cX13_middleOf 132 = .ok (.iinc 4 1, 3) := zo_132 (zi_at zh_dX13_middleOf_128_128 4 rfl) (zi_at zh_dX13_middleOf_128_128 5 rfl) (zi_at zh_dX13_middleOf_128_128 6 rfl) rfl
theorem dX13_middleOf_135 : decode cX13_middleOf 135 = .ok (.goto (-104), 3) := zo_167 (zi_at zh_dX13_middleOf_128_128 7 rfl) (zi_at zh_dX13_middleOf_128_128 8 rfl) (zi_at zh_dX13_middleOf_128_128 9 rfl) rfl
theorem dX13_middleOf_138 : decode cX13_middleOf 138 = .ok (.iload_n 3, 1) := zo_29 (zi_at zh_dX13_middleOf_128_128 10 rfl)
theorem dX13_middleOf_139 : decode cX13_middleOf 139 = .ok (.ifCond .ne 9, 3) := zo_154 (zi_at zh_dX13_middleOf_128_128 11 rfl) (zi_at zh_dX13_middleOf_128_128 12 rfl) (zi_at zh_dX13_middleOf_128_128 13 rfl) rfl
theorem dX13_middleOf_142 : decode cX13_middleOf 142 = .ok (.ldc_w 431, 3) := zo_19 (zi_at zh_dX13_middleOf_128_128 14 rfl) (zi_at zh_dX13_middleOf_128_128 15 rfl) (zi_at zh_dX13_middleOf_142_144 0 rfl) rfl
theorem dX13_middleOf_145 : decode cX13_middleOf 145 = .ok (.goto 13, 3) := zo_167 (zi_at zh_dX13_middleOf_142_144 1 rfl) (zi_at zh_dX13_middleOf_142_144 2 rfl) (zi_at zh_dX13_middleOf_142_144 3 rfl) rfl
theorem dX13_middleOf_148 : decode cX13_middleOf 148 = .ok (.aload_n 0, 1) := zo_42 (zi_at zh_dX13_middleOf_142_144 4 rfl)
theorem dX13_middleOf_149 : decode cX13_middleOf 149 = .ok (.getfield 210, 3) := zo_180 (zi_at zh_dX13_middleOf_142_144 5 rfl) (zi_at zh_dX13_middleOf_142_144 6 rfl) (zi_at zh_dX13_middleOf_142_144 7 rfl) rfl
theorem dX13_middleOf_152 : decode cX13_middleOf 152 = .ok (.iload_n 3, 1) := zo_29 (zi_at zh_dX13_middleOf_142_144 8 rfl)
theorem dX13_middleOf_153 : decode cX13_middleOf 153 = .ok (.iconst 1, 1) := zo_4 (zi_at zh_dX13_middleOf_142_144 9 rfl)
theorem dX13_middleOf_154 : decode cX13_middleOf 154 = .ok (.isub, 1) := zo_100 (zi_at zh_dX13_middleOf_142_144 10 rfl)
theorem dX13_middleOf_155 : decode cX13_middleOf 155 = .ok (.iconst 2, 1) := zo_5 (zi_at zh_dX13_middleOf_142_144 11 rfl)
theorem dX13_middleOf_156 : decode cX13_middleOf 156 = .ok (.idiv, 1) := zo_108 (zi_at zh_dX13_middleOf_142_144 12 rfl)
theorem dX13_middleOf_157 : decode cX13_middleOf 157 = .ok (.iaload, 1) := zo_46 (zi_at zh_dX13_middleOf_142_144 13 rfl)
theorem dX13_middleOf_158 : decode cX13_middleOf 158 = .ok (.ireturn, 1) := zo_172 (zi_at zh_dX13_middleOf_142_144 14 rfl)
theorem dX13_fitOf_0 : decode cX13_fitOf 0 = .ok (.iconst 0, 1) := zo_3 (zi_at zh_dX13_fitOf_0_0 0 rfl)
theorem dX13_fitOf_1 : decode cX13_fitOf 1 = .ok (.istore_n 2, 1) := zo_61 (zi_at zh_dX13_fitOf_0_0 1 rfl)
theorem dX13_fitOf_2 : decode cX13_fitOf 2 = .ok (.iconst 0, 1) := zo_3 (zi_at zh_dX13_fitOf_0_0 2 rfl)
theorem dX13_fitOf_3 : decode cX13_fitOf 3 = .ok (.istore_n 3, 1) := zo_62 (zi_at zh_dX13_fitOf_0_0 3 rfl)
theorem dX13_fitOf_4 : decode cX13_fitOf 4 = .ok (.iload_n 3, 1) := zo_29 (zi_at zh_dX13_fitOf_0_0 4 rfl)
theorem dX13_fitOf_5 : decode cX13_fitOf 5 = .ok (.aload_n 0, 1) := zo_42 (zi_at zh_dX13_fitOf_0_0 5 rfl)
theorem dX13_fitOf_6 : decode cX13_fitOf 6 = .ok (.getfield 390, 3) := zo_180 (zi_at zh_dX13_fitOf_0_0 6 rfl) (zi_at zh_dX13_fitOf_0_0 7 rfl) (zi_at zh_dX13_fitOf_0_0 8 rfl) rfl
theorem dX13_fitOf_9 : decode cX13_fitOf 9 = .ok (.if_icmp .ge 55, 3) := zo_162 (zi_at zh_dX13_fitOf_0_0 9 rfl) (zi_at zh_dX13_fitOf_0_0 10 rfl) (zi_at zh_dX13_fitOf_0_0 11 rfl) rfl
theorem dX13_fitOf_12 : decode cX13_fitOf 12 = .ok (.aload_n 0, 1) := zo_42 (zi_at zh_dX13_fitOf_0_0 12 rfl)
theorem dX13_fitOf_13 : decode cX13_fitOf 13 = .ok (.iload_n 3, 1) := zo_29 (zi_at zh_dX13_fitOf_0_0 13 rfl)
theorem dX13_fitOf_14 : decode cX13_fitOf 14 = .ok (.iload_n 1, 1) := zo_27 (zi_at zh_dX13_fitOf_0_0 14 rfl)
theorem dX13_fitOf_15 : decode cX13_fitOf 15 = .ok (.invokevirtual 528, 3) := zo_182 (zi_at zh_dX13_fitOf_0_0 15 rfl) (zi_at zh_dX13_fitOf_15_16 0 rfl) (zi_at zh_dX13_fitOf_15_16 1 rfl) rfl
theorem dX13_fitOf_18 : decode cX13_fitOf 18 = .ok (.istore 4, 2) := zo_54 (zi_at zh_dX13_fitOf_15_16 2 rfl) (zi_at zh_dX13_fitOf_15_16 3 rfl)
theorem dX13_fitOf_20 : decode cX13_fitOf 20 = .ok (.iload 4, 2) := zo_21 (zi_at zh_dX13_fitOf_15_16 4 rfl) (zi_at zh_dX13_fitOf_15_16 5 rfl)
theorem dX13_fitOf_22 : decode cX13_fitOf 22 = .ok (.ldc_w 431, 3) := zo_19 (zi_at zh_dX13_fitOf_15_16 6 rfl) (zi_at zh_dX13_fitOf_15_16 7 rfl) (zi_at zh_dX13_fitOf_15_16 8 rfl) rfl
theorem dX13_fitOf_25 : decode cX13_fitOf 25 = .ok (.if_icmp .ne 6, 3) := zo_160 (zi_at zh_dX13_fitOf_15_16 9 rfl) (zi_at zh_dX13_fitOf_15_16 10 rfl) (zi_at zh_dX13_fitOf_15_16 11 rfl) rfl
theorem dX13_fitOf_28 : decode cX13_fitOf 28 = .ok (.goto 30, 3) := zo_167 (zi_at zh_dX13_fitOf_15_16 12 rfl) (zi_at zh_dX13_fitOf_15_16 13 rfl) (zi_at zh_dX13_fitOf_15_16 14 rfl) rfl
theorem dX13_fitOf_31 : decode cX13_fitOf 31 = .ok (.aload_n 0, 1) := zo_42 (zi_at zh_dX13_fitOf_15_16 15 rfl)
theorem dX13_fitOf_32 : decode cX13_fitOf 32 = .ok (.getfield 213, 3) := zo_180 (zi_at zh_dX13_fitOf_32_32 0 rfl) (zi_at zh_dX13_fitOf_32_32 1 rfl) (zi_at zh_dX13_fitOf_32_32 2 rfl) rfl
theorem dX13_fitOf_35 : decode cX13_fitOf 35 = .ok (.iload_n 2, 1) := zo_28 (zi_at zh_dX13_fitOf_32_32 3 rfl)
theorem dX13_fitOf_36 : decode cX13_fitOf 36 = .ok (.aload_n 0, 1) := zo_42 (zi_at zh_dX13_fitOf_32_32 4 rfl)
theorem dX13_fitOf_37 : decode cX13_fitOf 37 = .ok (.iload_n 3, 1) := zo_29 (zi_at zh_dX13_fitOf_32_32 5 rfl)
theorem dX13_fitOf_38 : decode cX13_fitOf 38 = .ok (.iload_n 1, 1) := zo_27 (zi_at zh_dX13_fitOf_32_32 6 rfl)
theorem dX13_fitOf_39 : decode cX13_fitOf 39 = .ok (.aload_n 0, 1) := zo_42 (zi_at zh_dX13_fitOf_32_32 7 rfl)
theorem dX13_fitOf_40 : decode cX13_fitOf 40 = .ok (.getfield 232, 3) := zo_180 (zi_at zh_dX13_fitOf_32_32 8 rfl) (zi_at zh_dX13_fitOf_32_32 9 rfl) (zi_at zh_dX13_fitOf_32_32 10 rfl) rfl
theorem dX13_fitOf_43 : decode cX13_fitOf 43 = .ok (.invokevirtual 422, 3) := zo_182 (zi_at zh_dX13_fitOf_32_32 11 rfl) (zi_at zh_dX13_fitOf_32_32 12 rfl) (zi_at zh_dX13_fitOf_32_32 13 rfl) rfl
theorem dX13_fitOf_46 : decode cX13_fitOf 46 = .ok (.iastore, 1) := zo_79 (zi_at zh_dX13_fitOf_32_32 14 rfl)
theorem dX13_fitOf_47 : decode cX13_fitOf 47 = .ok (.aload_n 0, 1) := zo_42 (zi_at zh_dX13_fitOf_32_32 15 rfl)
theorem dX13_fitOf_48 : decode cX13_fitOf 48 = .ok (.getfield 216, 3) := zo_180 (zi_at zh_dX13_fitOf_48_48 0 rfl) (zi_at zh_dX13_fitOf_48_48 1 rfl) (zi_at zh_dX13_fitOf_48_48 2 rfl) rfl
theorem dX13_fitOf_51 : decode cX13_fitOf 51 = .ok (.iload_n 2, 1) := zo_28 (zi_at zh_dX13_fitOf_48_48 3 rfl)
theorem dX13_fitOf_52 : decode cX13_fitOf 52 = .ok (.iload 4, 2) := zo_21 (zi_at zh_dX13_fitOf_48_48 4 rfl) (zi_at zh_dX13_fitOf_48_48 5 rfl)
theorem dX13_fitOf_54 : decode cX13_fitOf 54 = .ok (.iastore, 1) := zo_79 (zi_at zh_dX13_fitOf_48_48 6 rfl)
theorem dX13_fitOf_55 : decode cX13_fitOf 55 = .ok (.iinc 2 1, 3) := zo_132 (zi_at zh_dX13_fitOf_48_48 7 rfl) (zi_at zh_dX13_fitOf_48_48 8 rfl) (zi_at zh_dX13_fitOf_48_48 9 rfl) rfl
theorem dX13_fitOf_58 : decode cX13_fitOf 58 = .ok (.iinc 3 1, 3) := zo_132 (zi_at zh_dX13_fitOf_48_48 10 rfl) (zi_at zh_dX13_fitOf_48_48 11 rfl) (zi_at zh_dX13_fitOf_48_48 12 rfl) rfl
theorem dX13_fitOf_61 : decode cX13_fitOf 61 = .ok (.goto (-57), 3) := zo_167 (zi_at zh_dX13_fitOf_48_48 13 rfl) (zi_at zh_dX13_fitOf_48_48 14 rfl) (zi_at zh_dX13_fitOf_48_48 15 rfl) rfl
theorem dX13_fitOf_64 : decode cX13_fitOf 64 = .ok (.iload_n 2, 1) := zo_28 (zi_at zh_dX13_fitOf_64_64 0 rfl)
theorem dX13_fitOf_65 : decode cX13_fitOf 65 = .ok (.ifCond .ne 5, 3) := zo_154 (zi_at zh_dX13_fitOf_64_64 1 rfl) (zi_at zh_dX13_fitOf_64_64 2 rfl) (zi_at zh_dX13_fitOf_64_64 3 rfl) rfl
theorem dX13_fitOf_68 : decode cX13_fitOf 68 = .ok (.iconst (-1), 1) := zo_2 (zi_at zh_dX13_fitOf_64_64 4 rfl)
theorem dX13_fitOf_69 : decode cX13_fitOf 69 = .ok (.ireturn, 1) := zo_172 (zi_at zh_dX13_fitOf_64_64 5 rfl)
theorem dX13_fitOf_70 : decode cX13_fitOf 70 = .ok (.iconst (-1), 1) := zo_2 (zi_at zh_dX13_fitOf_64_64 6 rfl)
theorem dX13_fitOf_71 : decode cX13_fitOf 71 = .ok (.istore_n 3, 1) := zo_62 (zi_at zh_dX13_fitOf_64_64 7 rfl)
theorem dX13_fitOf_72 : decode cX13_fitOf 72 = .ok (.iconst 0, 1) := zo_3 (zi_at zh_dX13_fitOf_64_64 8 rfl)
theorem dX13_fitOf_73 : decode cX13_fitOf 73 = .ok (.istore 4, 2) := zo_54 (zi_at zh_dX13_fitOf_64_64 9 rfl) (zi_at zh_dX13_fitOf_64_64 10 rfl)
theorem dX13_fitOf_75 : decode cX13_fitOf 75 = .ok (.sipush 500, 3) := zo_17 (zi_at zh_dX13_fitOf_64_64 11 rfl) (zi_at zh_dX13_fitOf_64_64 12 rfl) (zi_at zh_dX13_fitOf_64_64 13 rfl) rfl
theorem dX13_fitOf_78 : decode cX13_fitOf 78 = .ok (.istore 5, 2) := zo_54 (zi_at zh_dX13_fitOf_64_64 14 rfl) (zi_at zh_dX13_fitOf_64_64 15 rfl)
theorem dX13_fitOf_80 : decode cX13_fitOf 80 = .ok (.iload 5, 2) := zo_21 (zi_at zh_dX13_fitOf_80_80 0 rfl) (zi_at zh_dX13_fitOf_80_80 1 rfl)
theorem dX13_fitOf_82 : decode cX13_fitOf 82 = .ok (.sipush 2000, 3) := zo_17 (zi_at zh_dX13_fitOf_80_80 2 rfl) (zi_at zh_dX13_fitOf_80_80 3 rfl) (zi_at zh_dX13_fitOf_80_80 4 rfl) rfl
theorem dX13_fitOf_85 : decode cX13_fitOf 85 = .ok (.if_icmp .gt 79, 3) := zo_163 (zi_at zh_dX13_fitOf_80_80 5 rfl) (zi_at zh_dX13_fitOf_80_80 6 rfl) (zi_at zh_dX13_fitOf_80_80 7 rfl) rfl
theorem dX13_fitOf_88 : decode cX13_fitOf 88 = .ok (.iconst 0, 1) := zo_3 (zi_at zh_dX13_fitOf_80_80 8 rfl)
theorem dX13_fitOf_89 : decode cX13_fitOf 89 = .ok (.istore 6, 2) := zo_54 (zi_at zh_dX13_fitOf_80_80 9 rfl) (zi_at zh_dX13_fitOf_80_80 10 rfl)
theorem dX13_fitOf_91 : decode cX13_fitOf 91 = .ok (.iconst 0, 1) := zo_3 (zi_at zh_dX13_fitOf_80_80 11 rfl)
theorem dX13_fitOf_92 : decode cX13_fitOf 92 = .ok (.istore 7, 2) := zo_54 (zi_at zh_dX13_fitOf_80_80 12 rfl) (zi_at zh_dX13_fitOf_80_80 13 rfl)
theorem dX13_fitOf_94 : decode cX13_fitOf 94 = .ok (.iload 7, 2) := zo_21 (zi_at zh_dX13_fitOf_80_80 14 rfl) (zi_at zh_dX13_fitOf_80_80 15 rfl)
theorem dX13_fitOf_96 : decode cX13_fitOf 96 = .ok (.iload_n 2, 1) := zo_28 (zi_at zh_dX13_fitOf_96_96 0 rfl)
theorem dX13_fitOf_97 : decode cX13_fitOf 97 = .ok (.if_icmp .ge 39, 3) := zo_162 (zi_at zh_dX13_fitOf_96_96 1 rfl) (zi_at zh_dX13_fitOf_96_96 2 rfl) (zi_at zh_dX13_fitOf_96_96 3 rfl) rfl
theorem dX13_fitOf_100 : decode cX13_fitOf 100 = .ok (.iload 6, 2) := zo_21 (zi_at zh_dX13_fitOf_96_96 4 rfl) (zi_at zh_dX13_fitOf_96_96 5 rfl)
theorem dX13_fitOf_102 : decode cX13_fitOf 102 = .ok (.aload_n 0, 1) := zo_42 (zi_at zh_dX13_fitOf_96_96 6 rfl)
theorem dX13_fitOf_103 : decode cX13_fitOf 103 = .ok (.getfield 213, 3) := zo_180 (zi_at zh_dX13_fitOf_96_96 7 rfl) (zi_at zh_dX13_fitOf_96_96 8 rfl) (zi_at zh_dX13_fitOf_96_96 9 rfl) rfl
theorem dX13_fitOf_106 : decode cX13_fitOf 106 = .ok (.iload 7, 2) := zo_21 (zi_at zh_dX13_fitOf_96_96 10 rfl) (zi_at zh_dX13_fitOf_96_96 11 rfl)
theorem dX13_fitOf_108 : decode cX13_fitOf 108 = .ok (.iaload, 1) := zo_46 (zi_at zh_dX13_fitOf_96_96 12 rfl)
theorem dX13_fitOf_109 : decode cX13_fitOf 109 = .ok (.iload 5, 2) := zo_21 (zi_at zh_dX13_fitOf_96_96 13 rfl) (zi_at zh_dX13_fitOf_96_96 14 rfl)
theorem dX13_fitOf_111 : decode cX13_fitOf 111 = .ok (.imul, 1) := zo_104 (zi_at zh_dX13_fitOf_96_96 15 rfl)
theorem dX13_fitOf_112 : decode cX13_fitOf 112 = .ok (.sipush 1000, 3) := zo_17 (zi_at zh_dX13_fitOf_112_112 0 rfl) (zi_at zh_dX13_fitOf_112_112 1 rfl) (zi_at zh_dX13_fitOf_112_112 2 rfl) rfl
theorem dX13_fitOf_115 : decode cX13_fitOf 115 = .ok (.idiv, 1) := zo_108 (zi_at zh_dX13_fitOf_112_112 3 rfl)
theorem dX13_fitOf_116 : decode cX13_fitOf 116 = .ok (.aload_n 0, 1) := zo_42 (zi_at zh_dX13_fitOf_112_112 4 rfl)
theorem dX13_fitOf_117 : decode cX13_fitOf 117 = .ok (.getfield 216, 3) := zo_180 (zi_at zh_dX13_fitOf_112_112 5 rfl) (zi_at zh_dX13_fitOf_112_112 6 rfl) (zi_at zh_dX13_fitOf_112_112 7 rfl) rfl
theorem dX13_fitOf_120 : decode cX13_fitOf 120 = .ok (.iload 7, 2) := zo_21 (zi_at zh_dX13_fitOf_112_112 8 rfl) (zi_at zh_dX13_fitOf_112_112 9 rfl)
theorem dX13_fitOf_122 : decode cX13_fitOf 122 = .ok (.iaload, 1) := zo_46 (zi_at zh_dX13_fitOf_112_112 10 rfl)
theorem dX13_fitOf_123 : decode cX13_fitOf 123 = .ok (.isub, 1) := zo_100 (zi_at zh_dX13_fitOf_112_112 11 rfl)
theorem dX13_fitOf_124 : decode cX13_fitOf 124 = .ok (.invokestatic 474, 3) := zo_184 (zi_at zh_dX13_fitOf_112_112 12 rfl) (zi_at zh_dX13_fitOf_112_112 13 rfl) (zi_at zh_dX13_fitOf_112_112 14 rfl) rfl
theorem dX13_fitOf_127 : decode cX13_fitOf 127 = .ok (.iadd, 1) := zo_96 (zi_at zh_dX13_fitOf_112_112 15 rfl)
theorem dX13_fitOf_128 : decode cX13_fitOf 128 = .ok (.istore 6, 2) := zo_54 (zi_at zh_dX13_fitOf_128_128 0 rfl) (zi_at zh_dX13_fitOf_128_128 1 rfl)
theorem dX13_fitOf_130 : decode cX13_fitOf 130 = .ok (.iinc 7 1, 3) := zo_132 (zi_at zh_dX13_fitOf_128_128 2 rfl) (zi_at zh_dX13_fitOf_128_128 3 rfl) (zi_at zh_dX13_fitOf_128_128 4 rfl) rfl
theorem dX13_fitOf_133 : decode cX13_fitOf 133 = .ok (.goto (-39), 3) := zo_167 (zi_at zh_dX13_fitOf_128_128 5 rfl) (zi_at zh_dX13_fitOf_128_128 6 rfl) (zi_at zh_dX13_fitOf_128_128 7 rfl) rfl
theorem dX13_fitOf_136 : decode cX13_fitOf 136 = .ok (.iload_n 3, 1) := zo_29 (zi_at zh_dX13_fitOf_128_128 8 rfl)
theorem dX13_fitOf_137 : decode cX13_fitOf 137 = .ok (.iconst (-1), 1) := zo_2 (zi_at zh_dX13_fitOf_128_128 9 rfl)
theorem dX13_fitOf_138 : decode cX13_fitOf 138 = .ok (.if_icmp .eq 13, 3) := zo_159 (zi_at zh_dX13_fitOf_128_128 10 rfl) (zi_at zh_dX13_fitOf_128_128 11 rfl) (zi_at zh_dX13_fitOf_128_128 12 rfl) rfl
theorem dX13_fitOf_141 : decode cX13_fitOf 141 = .ok (.iload 6, 2) := zo_21 (zi_at zh_dX13_fitOf_128_128 13 rfl) (zi_at zh_dX13_fitOf_128_128 14 rfl)
theorem dX13_fitOf_143 : decode cX13_fitOf 143 = .ok (.iload 4, 2) := zo_21 (zi_at zh_dX13_fitOf_128_128 15 rfl) (zi_at zh_dX13_fitOf_143_144 0 rfl)
theorem dX13_fitOf_145 : decode cX13_fitOf 145 = .ok (.if_icmp .lt 6, 3) := zo_161 (zi_at zh_dX13_fitOf_143_144 1 rfl) (zi_at zh_dX13_fitOf_143_144 2 rfl) (zi_at zh_dX13_fitOf_143_144 3 rfl) rfl
theorem dX13_fitOf_148 : decode cX13_fitOf 148 = .ok (.goto 10, 3) := zo_167 (zi_at zh_dX13_fitOf_143_144 4 rfl) (zi_at zh_dX13_fitOf_143_144 5 rfl) (zi_at zh_dX13_fitOf_143_144 6 rfl) rfl
theorem dX13_fitOf_151 : decode cX13_fitOf 151 = .ok (.iload 5, 2) := zo_21 (zi_at zh_dX13_fitOf_143_144 7 rfl) (zi_at zh_dX13_fitOf_143_144 8 rfl)
theorem dX13_fitOf_153 : decode cX13_fitOf 153 = .ok (.istore_n 3, 1) := zo_62 (zi_at zh_dX13_fitOf_143_144 9 rfl)
theorem dX13_fitOf_154 : decode cX13_fitOf 154 = .ok (.iload 6, 2) := zo_21 (zi_at zh_dX13_fitOf_143_144 10 rfl) (zi_at zh_dX13_fitOf_143_144 11 rfl)
theorem dX13_fitOf_156 : decode cX13_fitOf 156 = .ok (.istore 4, 2) := zo_54 (zi_at zh_dX13_fitOf_143_144 12 rfl) (zi_at zh_dX13_fitOf_143_144 13 rfl)
theorem dX13_fitOf_158 : decode cX13_fitOf 158 = .ok (.iinc 5 1, 3) := zo_132 (zi_at zh_dX13_fitOf_143_144 14 rfl) (zi_at zh_dX13_fitOf_143_144 15 rfl) (zi_at zh_dX13_fitOf_158_160 0 rfl) rfl
theorem dX13_fitOf_161 : decode cX13_fitOf 161 = .ok (.goto (-81), 3) := zo_167 (zi_at zh_dX13_fitOf_158_160 1 rfl) (zi_at zh_dX13_fitOf_158_160 2 rfl) (zi_at zh_dX13_fitOf_158_160 3 rfl) rfl
theorem dX13_fitOf_164 : decode cX13_fitOf 164 = .ok (.iload_n 3, 1) := zo_29 (zi_at zh_dX13_fitOf_158_160 4 rfl)
theorem dX13_fitOf_165 : decode cX13_fitOf 165 = .ok (.ireturn, 1) := zo_172 (zi_at zh_dX13_fitOf_158_160 5 rfl)
theorem hz_yX13_farFrom_3 : yX13_farFrom.cls ≠ "java/lang/invoke/MethodHandle" ∧ yX13_farFrom.cls ≠ "java/lang/invoke/VarHandle" ∧ (parseMethodDescriptor yX13_farFrom.desc).map (fun d => d.parameters.length) = some 3 := by decide +kernel
theorem hz_yX13_middleOf_2 : yX13_middleOf.cls ≠ "java/lang/invoke/MethodHandle" ∧ yX13_middleOf.cls ≠ "java/lang/invoke/VarHandle" ∧ (parseMethodDescriptor yX13_middleOf.desc).map (fun d => d.parameters.length) = some 2 := by decide +kernel
def v_east : List Cond := .code yX13_east cX13_east 1 (some .int) :: vA
abbrev rm_east : Room := { frames := 0, cells := 0, slots := 0, locals := 0 }
set_option maxHeartbeats 4000000 in
set_option maxRecDepth 100000 in
theorem q_east (l : Launch) (a0 : Int32)  : Met l yX13_east v_east rm_east (va_Pc [.int a0] (fun _ => True)) (va_Qi (S := Unit) (fun r _ => True) (fun _ _ => True) (fun _ => False)) 0 0 (fun _ => False) := by
  refine Met.ofW (cc := cX13_east) (maxL := 1) (ret := (some .int)) (by decide) rfl ?_
  intro p e s m args below meth c s₁ B hml hv
  obtain ⟨hargs, -⟩ := hv
  have hx := B.exec
  have hb := B.bytes
  have hr := B.returns
  have hts := atoms_spec (ws := v_east) B.pre
  have hown : s.vm.findClass RX13 = some m.cls := findClass_of_methodNamed B.named
  have hlocks := B.notSynchronized
  have hS : va_S (fun _ : Nat => False) s.heap s.heap [] := va_S.rf
  have hl := lv_entry ([.int a0]) (n := 1) (Nat.le_of_ble_eq_true rfl)
  obtain ⟨Q, hQ⟩ : ∃ Q, Q = MQ below (va_Qi (S := Unit) (fun r _ => True) (fun _ _ => True) (fun _ => False)) args s 0 0 (fun _ => False) := ⟨_, rfl⟩
  rw [← hQ, show entryFrame m args 1 = _ from (congrArg (fun z => entryFrame m z 1) hargs).trans (lg_entry_eq _ _ _)]
  generalize (lg_sl ([.int a0]) ++ List.replicate (1 - (lg_sl ([.int a0])).length) Slot.unset).toArray = ls at hl ⊢
  have hl : lv_has ls 1 [(0, .int a0)] := hl
  refine lv_iload_n hx hb dX13_east_0 rfl (lv_at hl 0 rfl) ?_
  refine lv_if_eq (tgt := 9) hx hb dX13_east_1 (by decide) (fun c1 => ?_) (fun c1 => ?_)
  · --1 taken
    have t2 : a0.toInt = 0 := ti_eq c1
    have i3 : 0 ≤ a0.toInt ∧ a0.toInt ≤ 0 := iv_eqi t2 (iv_all _) (il_ 0) (by decide)
    refine lv_iconst (v := 0) hx hb dX13_east_9 (by decide) ?_
    refine lv_goto (tgt := 23) hx hb dX13_east_10 (by decide) ?_
    rw [hQ]
    exact W.iret (v := 0) hx hb hr (fun t ht hW => ⟨⟨0, (), rfl, trivial, trivial⟩, hS.F ht⟩) hS.2.2 dX13_east_23
  · --1 not
    have t4 : ¬ a0.toInt = 0 := ti_ne c1
    refine lv_iload_n hx hb dX13_east_4 rfl (lv_at hl 0 rfl) ?_
    refine lv_iconst (v := 4) hx hb dX13_east_5 (by decide) ?_
    refine lv_icmp_ne (tgt := 13) hx hb dX13_east_6 (by decide) (fun c5 => ?_) (fun c5 => ?_)
    · --6 taken
      have t6 : ¬ a0.toInt = 4 := ti_ne c5
      refine lv_iload_n hx hb dX13_east_13 rfl (lv_at hl 0 rfl) ?_
      refine lv_iconst (v := 4) hx hb dX13_east_14 (by decide) ?_
      refine lv_icmp_ge (tgt := 22) hx hb dX13_east_15 (by decide) (fun c7 => ?_) (fun c7 => ?_)
      · --15 taken
        have t8 : (4 : Int) ≤ a0.toInt := ti_le c7
        have i9 : 4 ≤ a0.toInt ∧ a0.toInt ≤ 2147483647 := iv_le_r t8 (il_ 4) (iv_all _) (by decide)
        refine lv_iconst (v := -1) hx hb dX13_east_22 (by decide) ?_
        rw [hQ]
        exact W.iret (v := (-1)) hx hb hr (fun t ht hW => ⟨⟨(-1), (), rfl, trivial, trivial⟩, hS.F ht⟩) hS.2.2 dX13_east_23
      · --15 not
        have t10 : a0.toInt < 4 := ti_nle c7
        have i11 : -2147483648 ≤ a0.toInt ∧ a0.toInt ≤ 3 := iv_lt_l t10 (iv_all _) (il_ 4) (by decide)
        refine lv_iconst (v := 1) hx hb dX13_east_18 (by decide) ?_
        refine lv_goto (tgt := 23) hx hb dX13_east_19 (by decide) ?_
        rw [hQ]
        exact W.iret (v := 1) hx hb hr (fun t ht hW => ⟨⟨1, (), rfl, trivial, trivial⟩, hS.F ht⟩) hS.2.2 dX13_east_23
    · --6 not
      have t12 : a0.toInt = 4 := ti_eq c5
      have i13 : 4 ≤ a0.toInt ∧ a0.toInt ≤ 4 := iv_eqi t12 (iv_all _) (il_ 4) (by decide)
      refine lv_iconst (v := 0) hx hb dX13_east_9 (by decide) ?_
      refine lv_goto (tgt := 23) hx hb dX13_east_10 (by decide) ?_
      rw [hQ]
      exact W.iret (v := 0) hx hb hr (fun t ht hW => ⟨⟨0, (), rfl, trivial, trivial⟩, hS.F ht⟩) hS.2.2 dX13_east_23
def v_south : List Cond := .code yX13_south cX13_south 1 (some .int) :: vA
abbrev rm_south : Room := { frames := 0, cells := 0, slots := 0, locals := 0 }
set_option maxHeartbeats 4000000 in
set_option maxRecDepth 100000 in
theorem q_south (l : Launch) (a0 : Int32)  : Met l yX13_south v_south rm_south (va_Pc [.int a0] (fun _ => True)) (va_Qi (S := Unit) (fun r _ => True) (fun _ _ => True) (fun _ => False)) 0 0 (fun _ => False) := by
  refine Met.ofW (cc := cX13_south) (maxL := 1) (ret := (some .int)) (by decide) rfl ?_
  intro p e s m args below meth c s₁ B hml hv
  obtain ⟨hargs, -⟩ := hv
  have hx := B.exec
  have hb := B.bytes
  have hr := B.returns
  have hts := atoms_spec (ws := v_south) B.pre
  have hown : s.vm.findClass RX13 = some m.cls := findClass_of_methodNamed B.named
  have hlocks := B.notSynchronized
  have hS : va_S (fun _ : Nat => False) s.heap s.heap [] := va_S.rf
  have hl := lv_entry ([.int a0]) (n := 1) (Nat.le_of_ble_eq_true rfl)
  obtain ⟨Q, hQ⟩ : ∃ Q, Q = MQ below (va_Qi (S := Unit) (fun r _ => True) (fun _ _ => True) (fun _ => False)) args s 0 0 (fun _ => False) := ⟨_, rfl⟩
  rw [← hQ, show entryFrame m args 1 = _ from (congrArg (fun z => entryFrame m z 1) hargs).trans (lg_entry_eq _ _ _)]
  generalize (lg_sl ([.int a0]) ++ List.replicate (1 - (lg_sl ([.int a0])).length) Slot.unset).toArray = ls at hl ⊢
  have hl : lv_has ls 1 [(0, .int a0)] := hl
  refine lv_iload_n hx hb dX13_south_0 rfl (lv_at hl 0 rfl) ?_
  refine lv_iconst (v := 2) hx hb dX13_south_1 (by decide) ?_
  refine lv_icmp_eq (tgt := 11) hx hb dX13_south_2 (by decide) (fun c1 => ?_) (fun c1 => ?_)
  · --2 taken
    have t2 : a0.toInt = 2 := ti_eq c1
    have i3 : 2 ≤ a0.toInt ∧ a0.toInt ≤ 2 := iv_eqi t2 (iv_all _) (il_ 2) (by decide)
    refine lv_iconst (v := 0) hx hb dX13_south_11 (by decide) ?_
    refine lv_goto (tgt := 31) hx hb dX13_south_12 (by decide) ?_
    rw [hQ]
    exact W.iret (v := 0) hx hb hr (fun t ht hW => ⟨⟨0, (), rfl, trivial, trivial⟩, hS.F ht⟩) hS.2.2 dX13_south_31
  · --2 not
    have t4 : ¬ a0.toInt = 2 := ti_ne c1
    refine lv_iload_n hx hb dX13_south_5 rfl (lv_at hl 0 rfl) ?_
    refine lv_bipush (v := 6) hx hb dX13_south_6 (by decide) ?_
    refine lv_icmp_ne (tgt := 15) hx hb dX13_south_8 (by decide) (fun c5 => ?_) (fun c5 => ?_)
    · --8 taken
      have t6 : ¬ a0.toInt = 6 := ti_ne c5
      refine lv_iload_n hx hb dX13_south_15 rfl (lv_at hl 0 rfl) ?_
      refine lv_iconst (v := 2) hx hb dX13_south_16 (by decide) ?_
      refine lv_icmp_le (tgt := 30) hx hb dX13_south_17 (by decide) (fun c7 => ?_) (fun c7 => ?_)
      · --17 taken
        have t8 : a0.toInt ≤ 2 := ti_le c7
        have i9 : -2147483648 ≤ a0.toInt ∧ a0.toInt ≤ 2 := iv_le_l t8 (iv_all _) (il_ 2) (by decide)
        refine lv_iconst (v := -1) hx hb dX13_south_30 (by decide) ?_
        rw [hQ]
        exact W.iret (v := (-1)) hx hb hr (fun t ht hW => ⟨⟨(-1), (), rfl, trivial, trivial⟩, hS.F ht⟩) hS.2.2 dX13_south_31
      · --17 not
        have t10 : (2 : Int) < a0.toInt := ti_nle c7
        have i11 : 3 ≤ a0.toInt ∧ a0.toInt ≤ 2147483647 := iv_lt_r t10 (il_ 2) (iv_all _) (by decide)
        refine lv_iload_n hx hb dX13_south_20 rfl (lv_at hl 0 rfl) ?_
        refine lv_bipush (v := 6) hx hb dX13_south_21 (by decide) ?_
        refine lv_icmp_ge (tgt := 30) hx hb dX13_south_23 (by decide) (fun c12 => ?_) (fun c12 => ?_)
        · --23 taken
          have t13 : (6 : Int) ≤ a0.toInt := ti_le c12
          have i14 : 6 ≤ a0.toInt ∧ a0.toInt ≤ 2147483647 := iv_le_r t13 (il_ 6) i11 (by decide)
          refine lv_iconst (v := -1) hx hb dX13_south_30 (by decide) ?_
          rw [hQ]
          exact W.iret (v := (-1)) hx hb hr (fun t ht hW => ⟨⟨(-1), (), rfl, trivial, trivial⟩, hS.F ht⟩) hS.2.2 dX13_south_31
        · --23 not
          have t15 : a0.toInt < 6 := ti_nle c12
          have i16 : 3 ≤ a0.toInt ∧ a0.toInt ≤ 5 := iv_lt_l t15 i11 (il_ 6) (by decide)
          refine lv_iconst (v := 1) hx hb dX13_south_26 (by decide) ?_
          refine lv_goto (tgt := 31) hx hb dX13_south_27 (by decide) ?_
          rw [hQ]
          exact W.iret (v := 1) hx hb hr (fun t ht hW => ⟨⟨1, (), rfl, trivial, trivial⟩, hS.F ht⟩) hS.2.2 dX13_south_31
    · --8 not
      have t17 : a0.toInt = 6 := ti_eq c5
      have i18 : 6 ≤ a0.toInt ∧ a0.toInt ≤ 6 := iv_eqi t17 (iv_all _) (il_ 6) (by decide)
      refine lv_iconst (v := 0) hx hb dX13_south_11 (by decide) ?_
      refine lv_goto (tgt := 31) hx hb dX13_south_12 (by decide) ?_
      rw [hQ]
      exact W.iret (v := 0) hx hb hr (fun t ht hW => ⟨⟨0, (), rfl, trivial, trivial⟩, hS.F ht⟩) hS.2.2 dX13_south_31
def v_far : List Cond := .code yX13_far cX13_far 4 (some .int) :: vA
abbrev rm_far : Room := { frames := 1, cells := 0, slots := 0, locals := 40 }
set_option maxHeartbeats 4000000 in
set_option maxRecDepth 100000 in
theorem q_far (l : Launch) (a0 : Int32) (a1 : Int32) (a2 : Int32) (a3 : Int32)  : Met l yX13_far v_far rm_far (va_Pc [.int a0, .int a1, .int a2, .int a3] (fun _ => True)) (va_Qi (S := Unit) (fun r _ => True) (fun _ _ => True) (fun _ => False)) 0 0 (fun _ => False) := by
  refine Met.ofW (cc := cX13_far) (maxL := 4) (ret := (some .int)) (by decide) rfl ?_
  intro p e s m args below meth c s₁ B hml hv
  obtain ⟨hargs, -⟩ := hv
  have hx := B.exec
  have hb := B.bytes
  have hr := B.returns
  have hts := atoms_spec (ws := v_far) B.pre
  have hown : s.vm.findClass RX13 = some m.cls := findClass_of_methodNamed B.named
  have hlocks := B.notSynchronized
  have hS : va_S (fun _ : Nat => False) s.heap s.heap [] := va_S.rf
  have hl := lv_entry ([.int a0, .int a1, .int a2, .int a3]) (n := 4) (Nat.le_of_ble_eq_true rfl)
  obtain ⟨Q, hQ⟩ : ∃ Q, Q = MQ below (va_Qi (S := Unit) (fun r _ => True) (fun _ _ => True) (fun _ => False)) args s 0 0 (fun _ => False) := ⟨_, rfl⟩
  rw [← hQ, show entryFrame m args 4 = _ from (congrArg (fun z => entryFrame m z 4) hargs).trans (lg_entry_eq _ _ _)]
  generalize (lg_sl ([.int a0, .int a1, .int a2, .int a3]) ++ List.replicate (4 - (lg_sl ([.int a0, .int a1, .int a2, .int a3])).length) Slot.unset).toArray = ls at hl ⊢
  have hl : lv_has ls 4 [(0, .int a0), (1, .int a1), (2, .int a2), (3, .int a3)] := hl
  refine lv_iload_n hx hb dX13_far_0 rfl (lv_at hl 0 rfl) ?_
  refine lv_iload_n hx hb dX13_far_1 rfl (lv_at hl 2 rfl) ?_
  refine lv_isub hx hb dX13_far_2 ?_
  refine lv_topi (fun y1 ey1 => ?_)
  refine va_mabs hx hb (by rw [hml]; exact hl.1.symm) hown (hts _ (vA_in _ _ (in_25 _ (zs16 (zs16 (zs1 (zs1 (zs0)))))))) (hts _ (vA_in _ _ (in_23 _ (zs4 (zs4 (zs1 (zs1 (zs0)))))))) (hts _ (vA_in _ _ (in_0 _ (zs16 (zs16 (zs1 (zs0))))))) (hts _ (vA_in _ _ (in_23 _ (zs4 (zs4 (zs1 (zs1 (zs1 (zs0))))))))) (Nat.le_of_ble_eq_true rfl) (Nat.le_of_ble_eq_true rfl) (Nat.le_of_ble_eq_true rfl) (Nat.le_of_ble_eq_true rfl) dX13_far_3 ?_
  refine lv_topi (fun y2 ey2 => ?_)
  refine lv_iload_n hx hb dX13_far_6 rfl (lv_at hl 1 rfl) ?_
  refine lv_iload_n hx hb dX13_far_7 rfl (lv_at hl 3 rfl) ?_
  refine lv_isub hx hb dX13_far_8 ?_
  refine lv_topi (fun y3 ey3 => ?_)
  refine va_mabs hx hb (by rw [hml]; exact hl.1.symm) hown (hts _ (vA_in _ _ (in_25 _ (zs16 (zs16 (zs1 (zs1 (zs0)))))))) (hts _ (vA_in _ _ (in_23 _ (zs4 (zs4 (zs1 (zs1 (zs0)))))))) (hts _ (vA_in _ _ (in_0 _ (zs16 (zs16 (zs1 (zs0))))))) (hts _ (vA_in _ _ (in_23 _ (zs4 (zs4 (zs1 (zs1 (zs1 (zs0))))))))) (Nat.le_of_ble_eq_true rfl) (Nat.le_of_ble_eq_true rfl) (Nat.le_of_ble_eq_true rfl) (Nat.le_of_ble_eq_true rfl) dX13_far_9 ?_
  refine lv_topi (fun y4 ey4 => ?_)
  refine va_mmax hx hb (by rw [hml]; exact hl.1.symm) hown (hts _ (vA_in _ _ (in_25 _ (zs16 (zs4 (zs4 (zs1 (zs1 (zs1 (zs0)))))))))) (hts _ (vA_in _ _ (in_0 _ (zs16 (zs16 (zs0)))))) (hts _ (vA_in _ _ (in_0 _ (zs16 (zs16 (zs1 (zs0))))))) (hts _ (vA_in _ _ (in_0 _ (zs16 (zs16 (zs1 (zs1 (zs0)))))))) (Nat.le_of_ble_eq_true rfl) (Nat.le_of_ble_eq_true rfl) (Nat.le_of_ble_eq_true rfl) (Nat.le_of_ble_eq_true rfl) dX13_far_12 ?_
  refine lv_topi (fun y5 ey5 => ?_)
  obtain ⟨ty5, iy5⟩ := ti_max (e := (-2147483648)) (f := 2147483647) (iv_all _) (iv_all _) ey5 (by decide)
  have iy5 : -2147483648 ≤ y5.toInt ∧ y5.toInt ≤ 2147483647 := iy5
  rw [hQ]
  exact W.iret (v := y5) hx hb hr (fun t ht hW => ⟨⟨y5, (), rfl, trivial, trivial⟩, hS.F ht⟩) hS.2.2 dX13_far_15
def v_canBe : List Cond := .code yX13_canBe cX13_canBe 8 (some .boolean) :: vA
abbrev rm_canBe : Room := { frames := 2, cells := 0, slots := 0, locals := 80 }
set_option maxHeartbeats 4000000 in
set_option maxRecDepth 100000 in
theorem q_canBe (l : Launch) (dC : Nat → ClassId) (dI : Nat → Nat → Nat) (cT : Nat → ClassId) (ad : Nat → Nat) (E : Nat → va_E) (sz : Nat) (a0 : Int32) (a1 : Int32) (a2 : Int32) (a3 : Int32) (a4 : Int32) (a5 : Int32) (hI0 : IX cT shM spM 72 ad E) (hh0 : 0 ≤ a0.toInt ∧ a0.toInt ≤ 19) : Met l yX13_canBe v_canBe rm_canBe (va_Pc [.ref (ad 0), .int a0, .int a1, .int a2, .int a3, .int a4, .int a5] (HW dC dI (TYM cT) 72 ad E sz)) (va_Qi (S := Unit) (fun r _ => (r = 1) ∨ (r = 0)) (fun _ _ => True) (fun _ => False)) 0 0 (fun _ => False) := by
  refine Met.ofW (cc := cX13_canBe) (maxL := 8) (ret := (some .boolean)) (by decide) rfl ?_
  intro p e s m args below meth c s₁ B hml hv
  obtain ⟨hargs, hsz, hP, hK, hD0, hEV⟩ := hv
  subst hsz
  have hx := B.exec
  have hb := B.bytes
  have hr := B.returns
  have hts := atoms_spec (ws := v_canBe) B.pre
  have hown : s.vm.findClass RX13 = some m.cls := findClass_of_methodNamed B.named
  have hlocks := B.notSynchronized
  have hinX13 : ∀ w ∈ u_ws RX13 TX13 97, w ∈ v_canBe := fun w h => vA_in _ w (in_X13 w h)
  have hS : va_S (fun _ : Nat => False) s.heap s.heap [] := va_S.rf
  have hD := hD0
  have hI := hI0
  have hKp : Kp (wl [] []) E E := Kp.rf
  have hl := lv_entry ([.ref (ad 0), .int a0, .int a1, .int a2, .int a3, .int a4, .int a5]) (n := 8) (Nat.le_of_ble_eq_true rfl)
  obtain ⟨Q, hQ⟩ : ∃ Q, Q = MQ below (va_Qi (S := Unit) (fun r _ => (r = 1) ∨ (r = 0)) (fun _ _ => True) (fun _ => False)) args s 0 0 (fun _ => False) := ⟨_, rfl⟩
  rw [← hQ, show entryFrame m args 8 = _ from (congrArg (fun z => entryFrame m z 8) hargs).trans (lg_entry_eq _ _ _)]
  generalize (lg_sl ([.ref (ad 0), .int a0, .int a1, .int a2, .int a3, .int a4, .int a5]) ++ List.replicate (8 - (lg_sl ([.ref (ad 0), .int a0, .int a1, .int a2, .int a3, .int a4, .int a5])).length) Slot.unset).toArray = ls at hl ⊢
  have hl : lv_has ls 8 [(0, .ref (ad 0)), (1, .int a0), (2, .int a1), (3, .int a2), (4, .int a3), (5, .int a4), (6, .int a5)] := hl
  refine lv_iconst (v := 0) hx hb dX13_canBe_0 (by decide) ?_
  refine lv_istore (lv' := [(7, .int 0), (0, .ref (ad 0)), (1, .int a0), (2, .int a1), (3, .int a2), (4, .int a3), (5, .int a4), (6, .int a5)]) hx hb dX13_canBe_1 hl (by decide) rfl (fun ls hl => ?_)
  have hL3 : ∀ d : Nat, ∀ (v3_7 : Int32) (H : Heap) (locs : List Loc) (ls : Array Slot), 0 ≤ v3_7.toInt ∧ v3_7.toInt ≤ 200 → 200 - v3_7.toInt < (d : Int) → va_P (dC, dI) vwCl (WX 72 ad E) H → va_S (fun _ : Nat => False) s.heap H locs → lv_has ls 8 [(7, .int v3_7), (0, .ref (ad 0)), (1, .int a0), (2, .int a1), (3, .int a2), (4, .int a3), (5, .int a4), (6, .int a5)] → W p l e (headSpec v_canBe rm_canBe).room s m args below meth c H locs 0 0 Q (F0 m 3 ls []) := by
    intro d
    induction d with
    | zero =>
      intro v3_7 H locs ls hv3_7 hx3_0 hP hS hl
      exact absurd hx3_0 (by first | exact ms_zu hv3_7.2 | omega)
    | succ d ih3 =>
      intro v3_7 H locs ls hv3_7 hx3_0 hP hS hl
      refine lv_iload hx hb dX13_canBe_3 (lv_at hl 0 rfl) ?_
      refine lv_aload_n hx hb dX13_canBe_5 rfl (lv_at hl 1 rfl) ?_
      have i1 : 0 ≤ (xi (E 0) 74).toInt ∧ (xi (E 0) 74).toInt ≤ 200 := hI0.iv 0 (Nat.le_of_ble_eq_true rfl) rfl (Nat.le_of_ble_eq_true rfl) rfl
      refine th_get (ci := 14) (C := RX13) (T := TX13) (N := 97) (v := .int (xi (E 0) 74)) hx hb hts hinX13 hown hK hP hI 0 (Nat.le_of_ble_eq_true rfl) rfl rfl 74 (Nat.le_of_ble_eq_true rfl) (hts _ (vA_in _ _ (in_25 _ (zs4 (zs4 (zs1 (zs1 (zs1 (zs0))))))))) (fun _ h9 => h9) (th_v0 hKp hI0 0 (Nat.le_of_ble_eq_true rfl) rfl (Nat.le_of_ble_eq_true rfl) rfl rfl) dX13_canBe_6 ?_
      refine lv_icmp_ge (tgt := 93) hx hb dX13_canBe_9 (by decide) (fun c2 => ?_) (fun c2 => ?_)
      · --9 taken
        have t3 : (xi (E 0) 74).toInt ≤ v3_7.toInt := ti_le c2
        refine lv_iconst (v := 1) hx hb dX13_canBe_93 (by decide) ?_
        rw [hQ]
        exact W.zret (v := 1) hx hb hr rfl (fun t ht hW => ⟨⟨1, (), rfl, Or.inl rfl, trivial⟩, hS.F ht⟩) hS.2.2 dX13_canBe_94
      · --9 not
        have t4 : v3_7.toInt < (xi (E 0) 74).toInt := ti_nle c2
        have i5 : 0 ≤ v3_7.toInt ∧ v3_7.toInt ≤ 199 := iv_lt_l t4 hv3_7 i1 (by decide)
        have i6 : 1 ≤ (xi (E 0) 74).toInt ∧ (xi (E 0) 74).toInt ≤ 200 := iv_lt_r t4 hv3_7 i1 (by decide)
        refine lv_aload_n hx hb dX13_canBe_12 rfl (lv_at hl 1 rfl) ?_
        refine th_get (ci := 14) (C := RX13) (T := TX13) (N := 97) (v := .ref (ad 38)) hx hb hts hinX13 hown hK hP hI 0 (Nat.le_of_ble_eq_true rfl) rfl rfl 56 (Nat.le_of_ble_eq_true rfl) (hts _ (vA_in _ _ (in_25 _ (zs4 (zs4 (zs4 (zs0))))))) (fun _ h9 => h9) (hI.fr 0 (Nat.le_of_ble_eq_true rfl) rfl (Nat.le_of_ble_eq_true rfl) 38 rfl) dX13_canBe_13 ?_
        refine lv_iload hx hb dX13_canBe_16 (lv_at hl 0 rfl) ?_
        have n8 : vp_in v3_7 200 := (iv_in (n := 200) i5 (by decide))
        refine th_iald hx hb hK hP hI 38 (Nat.le_of_ble_eq_true rfl) rfl rfl n8 dX13_canBe_18 (fun y7 ey7 => ?_)
        have iy7 : 0 ≤ y7.toInt ∧ y7.toInt ≤ 19 := hI.el 38 (Nat.le_of_ble_eq_true rfl) rfl n8 (fun _ => rfl) ey7
        have ey7 := ey7.trans (hKp.ei 38 _ rfl)
        refine lv_iload_n hx hb dX13_canBe_19 rfl (lv_at hl 2 rfl) ?_
        refine lv_icmp_ne (tgt := 87) hx hb dX13_canBe_20 (by decide) (fun c9 => ?_) (fun c9 => ?_)
        · --20 taken
          have t10 : ¬ y7.toInt = a0.toInt := ti_ne c9
          obtain ⟨y11, ey11⟩ : ∃ y : Int32, y = v3_7 + (1 : Int32) := ⟨_, rfl⟩
          obtain ⟨ty11, iy11⟩ := ti_add (e := 1) (f := 200) i5 ln_1 ey11 (by decide)
          have ty11 : y11.toInt = v3_7.toInt + 1 := ty11
          have iy11 : 1 ≤ y11.toInt ∧ y11.toInt ≤ 200 := iy11
          refine lv_iinc (v := y11) (lv' := [(7, .int y11), (0, .ref (ad 0)), (1, .int a0), (2, .int a1), (3, .int a2), (4, .int a3), (5, .int a4), (6, .int a5)]) hx hb dX13_canBe_87 hl (k := 0) rfl (by rw [ey11]; rfl) (by decide) rfl (fun ls hl => ?_)
          refine lv_goto (tgt := 3) hx hb dX13_canBe_90 (by decide) ?_
          exact ih3 y11 _ _ _ (iv_w iy11 (by decide)) (by first | exact ms_su hx3_0 ty11 (by decide) | omega) hP hS (lv_sub hl [0, 1, 2, 3, 4, 5, 6, 7] rfl)
        · --20 not
          have t12 : y7.toInt = a0.toInt := ti_eq c9
          refine lv_aload_n hx hb dX13_canBe_23 rfl (lv_at hl 1 rfl) ?_
          refine th_get (ci := 14) (C := RX13) (T := TX13) (N := 97) (v := .ref (ad 39)) hx hb hts hinX13 hown hK hP hI 0 (Nat.le_of_ble_eq_true rfl) rfl rfl 57 (Nat.le_of_ble_eq_true rfl) (hts _ (vA_in _ _ (in_25 _ (zs4 (zs4 (zs4 (zs1 (zs0)))))))) (fun _ h9 => h9) (hI.fr 0 (Nat.le_of_ble_eq_true rfl) rfl (Nat.le_of_ble_eq_true rfl) 39 rfl) dX13_canBe_24 ?_
          refine lv_iload hx hb dX13_canBe_27 (lv_at hl 0 rfl) ?_
          have n14 : vp_in v3_7 200 := (iv_in (n := 200) i5 (by decide))
          refine th_iald hx hb hK hP hI 39 (Nat.le_of_ble_eq_true rfl) rfl rfl n14 dX13_canBe_29 (fun y13 ey13 => ?_)
          have iy13 : 0 ≤ y13.toInt ∧ y13.toInt ≤ 15 := hI.el 39 (Nat.le_of_ble_eq_true rfl) rfl n14 (fun _ => rfl) ey13
          have ey13 := ey13.trans (hKp.ei 39 _ rfl)
          refine lv_iload_n hx hb dX13_canBe_30 rfl (lv_at hl 3 rfl) ?_
          refine lv_icmp_ne (tgt := 87) hx hb dX13_canBe_31 (by decide) (fun c15 => ?_) (fun c15 => ?_)
          · --31 taken
            have t16 : ¬ y13.toInt = a1.toInt := ti_ne c15
            obtain ⟨y17, ey17⟩ : ∃ y : Int32, y = v3_7 + (1 : Int32) := ⟨_, rfl⟩
            obtain ⟨ty17, iy17⟩ := ti_add (e := 1) (f := 200) i5 ln_1 ey17 (by decide)
            have ty17 : y17.toInt = v3_7.toInt + 1 := ty17
            have iy17 : 1 ≤ y17.toInt ∧ y17.toInt ≤ 200 := iy17
            refine lv_iinc (v := y17) (lv' := [(7, .int y17), (0, .ref (ad 0)), (1, .int a0), (2, .int a1), (3, .int a2), (4, .int a3), (5, .int a4), (6, .int a5)]) hx hb dX13_canBe_87 hl (k := 0) rfl (by rw [ey17]; rfl) (by decide) rfl (fun ls hl => ?_)
            refine lv_goto (tgt := 3) hx hb dX13_canBe_90 (by decide) ?_
            exact ih3 y17 _ _ _ (iv_w iy17 (by decide)) (by first | exact ms_su hx3_0 ty17 (by decide) | omega) hP hS (lv_sub hl [0, 1, 2, 3, 4, 5, 6, 7] rfl)
          · --31 not
            have t18 : y13.toInt = a1.toInt := ti_eq c15
            have i19 : 0 ≤ a1.toInt ∧ a1.toInt ≤ 15 := iv_eqi t18.symm (iv_all _) iy13 (by decide)
            refine lv_aload_n hx hb dX13_canBe_34 rfl (lv_at hl 1 rfl) ?_
            refine th_get (ci := 14) (C := RX13) (T := TX13) (N := 97) (v := .ref (ad 45)) hx hb hts hinX13 hown hK hP hI 0 (Nat.le_of_ble_eq_true rfl) rfl rfl 63 (Nat.le_of_ble_eq_true rfl) (hts _ (vA_in _ _ (in_25 _ (zs4 (zs4 (zs4 (zs1 (zs1 (zs0))))))))) (fun _ h9 => h9) (hI.fr 0 (Nat.le_of_ble_eq_true rfl) rfl (Nat.le_of_ble_eq_true rfl) 45 rfl) dX13_canBe_35 ?_
            refine lv_iload hx hb dX13_canBe_38 (lv_at hl 0 rfl) ?_
            have n21 : vp_in v3_7 200 := (iv_in (n := 200) i5 (by decide))
            refine th_iald hx hb hK hP hI 45 (Nat.le_of_ble_eq_true rfl) rfl rfl n21 dX13_canBe_40 (fun y20 ey20 => ?_)
            have iy20 : 0 ≤ y20.toInt ∧ y20.toInt ≤ 400 := hI.el 45 (Nat.le_of_ble_eq_true rfl) rfl n21 (fun _ => rfl) ey20
            have ey20 := ey20.trans (hKp.ei 45 _ rfl)
            refine lv_iload hx hb dX13_canBe_41 (lv_at hl 5 rfl) ?_
            refine lv_icmp_le (tgt := 49) hx hb dX13_canBe_43 (by decide) (fun c22 => ?_) (fun c22 => ?_)
            · --43 taken
              have t23 : y20.toInt ≤ a3.toInt := ti_le c22
              have i24 : 0 ≤ a3.toInt ∧ a3.toInt ≤ 2147483647 := iv_le_r t23 iy20 (iv_all _) (by decide)
              refine lv_aload_n hx hb dX13_canBe_49 rfl (lv_at hl 1 rfl) ?_
              refine lv_iload hx hb dX13_canBe_50 (lv_at hl 0 rfl) ?_
              refine lv_iload hx hb dX13_canBe_52 (lv_at hl 6 rfl) ?_
              refine lv_iload hx hb dX13_canBe_54 (lv_at hl 7 rfl) ?_
              refine th_ri (va_runV (As := [.int v3_7, .int a4, .int a5]) (rest := []) ⟨hx, hb, hml, hown, hts⟩ (q_farFrom l dC dI cT ad E H.size v3_7 a4 a5 hI i5) (cwV 3 hts (gi_V (in_25 _ (zs16 (zs4 (zs1 (zs0))))) (in_25 _ (zs16 (zs4 (zs1 (zs1 (zs0)))))) (in_25 _ (zs16 (zs4 (zs1 (zs1 (zs1 (zs0))))))) (in_24 _ (zs4 (zs4 (zs4 (zs1 (zs1 (zs1 (zs0)))))))) (in_25 _ (zs16 (zs4 (zs4 (zs0)))))) rfl rfl rfl ⟨rfl, hz_yX13_farFrom_3⟩ ⟨Nat.le_of_ble_eq_true rfl, Nat.le_of_ble_eq_true rfl⟩) ⟨HW_bl, va_recv hK hP (ci := 14) (q0 := 0) rfl (hI.ob 0 (Nat.le_of_ble_eq_true rfl) rfl), (HW_wiR hP hK (WX_D hD) hS hEV)⟩ rfl rfl hl.1 rfl (lv_room (Nat.le_of_ble_eq_true rfl)) dX13_canBe_56 ⟨Nat.le_of_ble_eq_true rfl, Nat.le_of_ble_eq_true rfl⟩) hS hP (fun r25 H locs hw hP hS => ?_)
              refine lv_i2l hx hb dX13_canBe_59 rfl ?_
              refine lv_topl (fun y26 ey26 => ?_)
              refine lv_aload_n hx hb dX13_canBe_60 rfl (lv_at hl 1 rfl) ?_
              refine th_get (ci := 14) (C := RX13) (T := TX13) (N := 97) (v := .ref (ad 19)) hx hb hts hinX13 hown hK hP hI 0 (Nat.le_of_ble_eq_true rfl) rfl rfl 33 (Nat.le_of_ble_eq_true rfl) (hts _ (vA_in _ _ (in_25 _ (zs16 (zs16 (zs1 (zs0))))))) (fun _ h9 => h9) (hI.fr 0 (Nat.le_of_ble_eq_true rfl) rfl (Nat.le_of_ble_eq_true rfl) 19 rfl) dX13_canBe_61 ?_
              refine lv_iload_n hx hb dX13_canBe_64 rfl (lv_at hl 2 rfl) ?_
              have n28 : vp_in a0 20 := (iv_in (n := 20) hh0 (by decide))
              refine th_iald hx hb hK hP hI 19 (Nat.le_of_ble_eq_true rfl) rfl rfl n28 dX13_canBe_65 (fun y27 ey27 => ?_)
              have iy27 : 0 ≤ y27.toInt ∧ y27.toInt ≤ 9 := hI.el 19 (Nat.le_of_ble_eq_true rfl) rfl n28 (fun _ => rfl) ey27
              have ey27 := ey27.trans (hKp.ei 19 _ rfl)
              refine lv_i2l hx hb dX13_canBe_66 rfl ?_
              refine lv_topl (fun y29 ey29 => ?_)
              refine lv_aload_n hx hb dX13_canBe_67 rfl (lv_at hl 1 rfl) ?_
              refine th_get (ci := 14) (C := RX13) (T := TX13) (N := 97) (v := .ref (ad 40)) hx hb hts hinX13 hown hK hP hI 0 (Nat.le_of_ble_eq_true rfl) rfl rfl 58 (Nat.le_of_ble_eq_true rfl) (hts _ (vA_in _ _ (in_25 _ (zs4 (zs4 (zs4 (zs1 (zs1 (zs1 (zs0)))))))))) (fun _ h9 => h9) (hI.fr 0 (Nat.le_of_ble_eq_true rfl) rfl (Nat.le_of_ble_eq_true rfl) 40 rfl) dX13_canBe_68 ?_
              refine lv_iload hx hb dX13_canBe_71 (lv_at hl 0 rfl) ?_
              have n31 : vp_in v3_7 200 := (iv_in (n := 200) i5 (by decide))
              refine th_iald hx hb hK hP hI 40 (Nat.le_of_ble_eq_true rfl) rfl rfl n31 dX13_canBe_73 (fun y30 ey30 => ?_)
              have iy30 : 0 ≤ y30.toInt ∧ y30.toInt ≤ 100000 := hI.el 40 (Nat.le_of_ble_eq_true rfl) rfl n31 (fun _ => rfl) ey30
              have ey30 := ey30.trans (hKp.ei 40 _ rfl)
              refine lv_iload_n hx hb dX13_canBe_74 rfl (lv_at hl 4 rfl) ?_
              refine lv_isub hx hb dX13_canBe_75 ?_
              refine lv_topi (fun y32 ey32 => ?_)
              refine va_mabs hx hb (by rw [hml]; exact hl.1.symm) hown (hts _ (vA_in _ _ (in_25 _ (zs16 (zs16 (zs1 (zs1 (zs0)))))))) (hts _ (vA_in _ _ (in_23 _ (zs4 (zs4 (zs1 (zs1 (zs0)))))))) (hts _ (vA_in _ _ (in_0 _ (zs16 (zs16 (zs1 (zs0))))))) (hts _ (vA_in _ _ (in_23 _ (zs4 (zs4 (zs1 (zs1 (zs1 (zs0))))))))) (Nat.le_of_ble_eq_true rfl) (Nat.le_of_ble_eq_true rfl) (Nat.le_of_ble_eq_true rfl) (Nat.le_of_ble_eq_true rfl) dX13_canBe_76 ?_
              refine lv_topi (fun y33 ey33 => ?_)
              refine lv_i2l hx hb dX13_canBe_79 rfl ?_
              refine lv_topl (fun y34 ey34 => ?_)
              refine lv_lmul hx hb dX13_canBe_80 ?_
              refine lv_topl (fun y35 ey35 => ?_)
              refine W.lcmp hx hb dX13_canBe_81 ?_
              refine lv_topi (fun y36 ey36 => ?_)
              refine lv_if_le (tgt := 87) hx hb dX13_canBe_82 (by decide) (fun c37 => ?_) (fun c37 => ?_)
              · --82 taken
                have t38 : y36.toInt ≤ 0 := ti_le c37
                have i39 : -2147483648 ≤ y36.toInt ∧ y36.toInt ≤ 0 := iv_le_l t38 (iv_all _) (il_ 0) (by decide)
                obtain ⟨y40, ey40⟩ : ∃ y : Int32, y = v3_7 + (1 : Int32) := ⟨_, rfl⟩
                obtain ⟨ty40, iy40⟩ := ti_add (e := 1) (f := 200) i5 ln_1 ey40 (by decide)
                have ty40 : y40.toInt = v3_7.toInt + 1 := ty40
                have iy40 : 1 ≤ y40.toInt ∧ y40.toInt ≤ 200 := iy40
                refine lv_iinc (v := y40) (lv' := [(7, .int y40), (0, .ref (ad 0)), (1, .int a0), (2, .int a1), (3, .int a2), (4, .int a3), (5, .int a4), (6, .int a5)]) hx hb dX13_canBe_87 hl (k := 0) rfl (by rw [ey40]; rfl) (by decide) rfl (fun ls hl => ?_)
                refine lv_goto (tgt := 3) hx hb dX13_canBe_90 (by decide) ?_
                exact ih3 y40 _ _ _ (iv_w iy40 (by decide)) (by first | exact ms_su hx3_0 ty40 (by decide) | omega) hP hS (lv_sub hl [0, 1, 2, 3, 4, 5, 6, 7] rfl)
              · --82 not
                have t41 : (0 : Int) < y36.toInt := ti_nle c37
                have i42 : 1 ≤ y36.toInt ∧ y36.toInt ≤ 2147483647 := iv_lt_r t41 (il_ 0) (iv_all _) (by decide)
                refine lv_iconst (v := 0) hx hb dX13_canBe_85 (by decide) ?_
                rw [hQ]
                exact W.zret (v := 0) hx hb hr rfl (fun t ht hW => ⟨⟨0, (), rfl, Or.inr (rfl), trivial⟩, hS.F ht⟩) hS.2.2 dX13_canBe_86
            · --43 not
              have t43 : a3.toInt < y20.toInt := ti_nle c22
              have i44 : -2147483648 ≤ a3.toInt ∧ a3.toInt ≤ 399 := iv_lt_l t43 (iv_all _) iy20 (by decide)
              refine lv_goto (tgt := 87) hx hb dX13_canBe_46 (by decide) ?_
              obtain ⟨y45, ey45⟩ : ∃ y : Int32, y = v3_7 + (1 : Int32) := ⟨_, rfl⟩
              obtain ⟨ty45, iy45⟩ := ti_add (e := 1) (f := 200) i5 ln_1 ey45 (by decide)
              have ty45 : y45.toInt = v3_7.toInt + 1 := ty45
              have iy45 : 1 ≤ y45.toInt ∧ y45.toInt ≤ 200 := iy45
              refine lv_iinc (v := y45) (lv' := [(7, .int y45), (0, .ref (ad 0)), (1, .int a0), (2, .int a1), (3, .int a2), (4, .int a3), (5, .int a4), (6, .int a5)]) hx hb dX13_canBe_87 hl (k := 0) rfl (by rw [ey45]; rfl) (by decide) rfl (fun ls hl => ?_)
              refine lv_goto (tgt := 3) hx hb dX13_canBe_90 (by decide) ?_
              exact ih3 y45 _ _ _ (iv_w iy45 (by decide)) (by first | exact ms_su hx3_0 ty45 (by decide) | omega) hP hS (lv_sub hl [0, 1, 2, 3, 4, 5, 6, 7] rfl)
  exact hL3 (201) (0 : Int32) _ _ _ (iv_w ln_0 (by decide)) (by have h9 := ln_0; first | exact ms_bu h9.1 (by decide) | omega) hP hS (lv_sub hl [0, 1, 2, 3, 4, 5, 6, 7] rfl)
def v_middleOf : List Cond := .code yX13_middleOf cX13_middleOf 7 (some .int) :: vA
abbrev rm_middleOf : Room := { frames := 73, cells := 0, slots := 0, locals := 2920 }
def w_middleOf : Nat → Nat → Bool := wl [12, 66] [(0, 18), (0, 19), (0, 20), (0, 21), (0, 22), (0, 23), (0, 24), (0, 25), (0, 26)]
set_option maxHeartbeats 4000000 in
set_option maxRecDepth 100000 in
theorem q_middleOf (l : Launch) (dC : Nat → ClassId) (dI : Nat → Nat → Nat) (cT : Nat → ClassId) (ad : Nat → Nat) (E : Nat → va_E) (sz : Nat) (a0 : Int32) (a1 : Int32) (hI0 : IX cT shM spM 72 ad E) (hh0 : 0 ≤ a0.toInt ∧ a0.toInt ≤ 19) (hh1 : 0 ≤ a1.toInt ∧ a1.toInt ≤ 15) : Met l yX13_middleOf v_middleOf rm_middleOf (va_Pc [.ref (ad 0), .int a0, .int a1] (HW dC dI (TYM cT) 72 ad E sz)) (va_Qi (S := Nat → va_E) (fun r u => IX cT shM spM 72 ad u ∧ Kp w_middleOf E u ∧ ((¬ r.toInt = -1000000000 → ¬ lO (xi (E 24)) (xi (E 25)) (xi (E 28)) a0 a1 (xi (E 0) 1) (xi (E 0) 47).toNatClampNeg = -1))) (HB dC dI 72 ad) (va_A (WX 72 ad E) sz)) 0 0 (va_A (WX 72 ad E) sz) := by
  refine Met.ofW (cc := cX13_middleOf) (maxL := 7) (ret := (some .int)) (by decide) rfl ?_
  intro p e s m args below meth c s₁ B hml hv
  obtain ⟨hargs, hsz, hP, hK, hD0, hEV⟩ := hv
  subst hsz
  have hx := B.exec
  have hb := B.bytes
  have hr := B.returns
  have hts := atoms_spec (ws := v_middleOf) B.pre
  have hown : s.vm.findClass RX13 = some m.cls := findClass_of_methodNamed B.named
  have hlocks := B.notSynchronized
  have hinX13 : ∀ w ∈ u_ws RX13 TX13 97, w ∈ v_middleOf := fun w h => vA_in _ w (in_X13 w h)
  generalize hAe : va_A (WX 72 ad E) s.heap.size = A at hEV ⊢
  have hA : ∀ q : Nat, s.heap.size ≤ q → A q := fun q h => by rw [← hAe]; exact Or.inr h
  have hD : va_D A (WX 72 ad E) := by rw [← hAe]; exact hD0.self
  have hS : va_S A s.heap s.heap [] := va_S.rf
  have hI := hI0
  have hKp : Kp w_middleOf E E := Kp.rf
  have hl := lv_entry ([.ref (ad 0), .int a0, .int a1]) (n := 7) (Nat.le_of_ble_eq_true rfl)
  obtain ⟨Q, hQ⟩ : ∃ Q, Q = MQ below (va_Qi (S := Nat → va_E) (fun r u => IX cT shM spM 72 ad u ∧ Kp w_middleOf E u ∧ ((¬ r.toInt = -1000000000 → ¬ lO (xi (E 24)) (xi (E 25)) (xi (E 28)) a0 a1 (xi (E 0) 1) (xi (E 0) 47).toNatClampNeg = -1))) (HB dC dI 72 ad) (A)) args s 0 0 (A) := ⟨_, rfl⟩
  rw [← hQ, show entryFrame m args 7 = _ from (congrArg (fun z => entryFrame m z 7) hargs).trans (lg_entry_eq _ _ _)]
  generalize (lg_sl ([.ref (ad 0), .int a0, .int a1]) ++ List.replicate (7 - (lg_sl ([.ref (ad 0), .int a0, .int a1])).length) Slot.unset).toArray = ls at hl ⊢
  have hl : lv_has ls 7 [(0, .ref (ad 0)), (1, .int a0), (2, .int a1)] := hl
  refine lv_aload_n hx hb dX13_middleOf_0 rfl (lv_at hl 0 rfl) ?_
  refine th_get (ci := 14) (C := RX13) (T := TX13) (N := 97) (v := .ref (ad 15)) hx hb hts hinX13 hown hK hP hI 0 (Nat.le_of_ble_eq_true rfl) rfl rfl 29 (Nat.le_of_ble_eq_true rfl) (hts _ (vA_in _ _ (in_27 _ (zs16 (zs16 (zs1 (zs0))))))) (fun _ h9 => h9) (hI.fr 0 (Nat.le_of_ble_eq_true rfl) rfl (Nat.le_of_ble_eq_true rfl) 15 rfl) dX13_middleOf_1 ?_
  refine lv_iload_n hx hb dX13_middleOf_4 rfl (lv_at hl 1 rfl) ?_
  have n2 : vp_in a0 20 := (iv_in (n := 20) hh0 (by decide))
  refine th_iald hx hb hK hP hI 15 (Nat.le_of_ble_eq_true rfl) rfl rfl n2 dX13_middleOf_5 (fun y1 ey1 => ?_)
  have iy1 : 0 ≤ y1.toInt ∧ y1.toInt ≤ 1 := hI.el 15 (Nat.le_of_ble_eq_true rfl) rfl n2 (fun _ => rfl) ey1
  have ey1 := ey1.trans (hKp.ei 15 _ rfl)
  refine lv_if_ne (tgt := 22) hx hb dX13_middleOf_6 (by decide) (fun c3 => ?_) (fun c3 => ?_)
  · --6 taken
    have t4 : ¬ y1.toInt = 0 := ti_ne c3
    have i5 : 1 ≤ y1.toInt ∧ y1.toInt ≤ 1 := iv_ne_l t4 iy1 (il_ 0)
    refine lv_ldcw hx hb hown (hts _ (vA_in _ _ (in_27 _ (zs16 (zs4 (zs1 (zs0))))))) dX13_middleOf_22 ?_
    rw [hQ]
    exact W.iret (v := (-1000000000)) hx hb hr (fun t ht hW => ⟨⟨(-1000000000), E, rfl, ⟨hI, hKp, fun h9 => absurd rfl h9⟩, by show va_P (dC, dI) vwCl (WX 72 ad E) t.heap; rw [ht]; exact hP⟩, hS.F ht⟩) hS.2.2 dX13_middleOf_25
  · --6 not
    have t6 : y1.toInt = 0 := ti_eq c3
    have i7 : 0 ≤ y1.toInt ∧ y1.toInt ≤ 0 := iv_eqi t6 iy1 (il_ 0) (by decide)
    refine lv_aload_n hx hb dX13_middleOf_9 rfl (lv_at hl 0 rfl) ?_
    refine lv_iload_n hx hb dX13_middleOf_10 rfl (lv_at hl 1 rfl) ?_
    refine lv_iload_n hx hb dX13_middleOf_11 rfl (lv_at hl 2 rfl) ?_
    refine lv_aload_n hx hb dX13_middleOf_12 rfl (lv_at hl 0 rfl) ?_
    have i8 : 0 ≤ (xi (E 0) 1).toInt ∧ (xi (E 0) 1).toInt ≤ 400 := hI0.iv 0 (Nat.le_of_ble_eq_true rfl) rfl (Nat.le_of_ble_eq_true rfl) rfl
    refine th_get (ci := 14) (C := RX13) (T := TX13) (N := 97) (v := .int (xi (E 0) 1)) hx hb hts hinX13 hown hK hP hI 0 (Nat.le_of_ble_eq_true rfl) rfl rfl 1 (Nat.le_of_ble_eq_true rfl) (hts _ (vA_in _ _ (in_24 _ (zs16 (zs4 (zs4 (zs1 (zs1 (zs1 (zs0)))))))))) (fun _ h9 => h9) (th_v0 hKp hI0 0 (Nat.le_of_ble_eq_true rfl) rfl (Nat.le_of_ble_eq_true rfl) rfl rfl) dX13_middleOf_13 ?_
    refine th_ri (va_runV (As := [.int a0, .int a1, .int (xi (E 0) 1)]) (rest := []) ⟨hx, hb, hml, hown, hts⟩ (q_codeOf l dC dI cT ad E s.heap.size a0 a1 (xi (E 0) 1) hI hh0 hh1) (cwV 3 hts (gi_V (in_27 _ (zs16 (zs16 (zs4 (zs0))))) (in_27 _ (zs16 (zs16 (zs4 (zs1 (zs0)))))) (in_27 _ (zs16 (zs16 (zs4 (zs1 (zs1 (zs0))))))) (in_24 _ (zs4 (zs4 (zs4 (zs1 (zs1 (zs1 (zs0)))))))) (in_27 _ (zs16 (zs16 (zs4 (zs1 (zs1 (zs1 (zs0))))))))) rfl rfl rfl ⟨rfl, hz_yX13_codeOf_3⟩ ⟨Nat.le_of_ble_eq_true rfl, Nat.le_of_ble_eq_true rfl⟩) ⟨HW_bl, va_recv hK hP (ci := 14) (q0 := 0) rfl (hI.ob 0 (Nat.le_of_ble_eq_true rfl) rfl), (HW_wi hP hK (WX_D hD) hS hA hEV)⟩ rfl rfl hl.1 rfl (lv_room (Nat.le_of_ble_eq_true rfl)) dX13_middleOf_16 ⟨Nat.le_of_ble_eq_true rfl, Nat.le_of_ble_eq_true rfl⟩) hS hP (fun r9 H locs hw hP hS => ?_)
    obtain ⟨f10, f11⟩ := hw
    have i12 : 0 ≤ (xi (E 0) 47).toInt ∧ (xi (E 0) 47).toInt ≤ 300 := (show 0 ≤ (xi (E 0) 47).toInt ∧ (xi (E 0) 47).toInt ≤ 300 from hI0.iv 0 (Nat.le_of_ble_eq_true rfl) rfl (Nat.le_of_ble_eq_true rfl) rfl)
    refine lv_if_eq (tgt := 26) hx hb dX13_middleOf_19 (by decide) (fun c13 => ?_) (fun c13 => ?_)
    · --19 taken
      have t14 : r9.toInt = 0 := ti_eq c13
      have i15 : 0 ≤ r9.toInt ∧ r9.toInt ≤ 0 := iv_eqi t14 f10 (il_ 0) (by decide)
      refine lv_iconst (v := 0) hx hb dX13_middleOf_26 (by decide) ?_
      refine lv_istore_n (lv' := [(3, .int 0), (0, .ref (ad 0)), (1, .int a0), (2, .int a1)]) hx hb dX13_middleOf_27 rfl hl (by decide) rfl (fun ls hl => ?_)
      refine lv_iconst (v := 0) hx hb dX13_middleOf_28 (by decide) ?_
      refine lv_istore (lv' := [(4, .int 0), (3, .int 0), (0, .ref (ad 0)), (1, .int a0), (2, .int a1)]) hx hb dX13_middleOf_29 hl (by decide) rfl (fun ls hl => ?_)
      have hL31 : ∀ d : Nat, ∀ (v31_4 : Int32) (v31_3 : Int32) (E31_ : Nat → va_E) (H : Heap) (locs : List Loc) (ls : Array Slot), 0 ≤ v31_4.toInt ∧ v31_4.toInt ≤ 16 → 0 ≤ v31_3.toInt ∧ v31_3.toInt ≤ 16 → v31_3.toInt ≤ v31_4.toInt → 16 - v31_4.toInt < (d : Int) → IX cT shM spM 72 ad E31_ → Kp w_middleOf E E31_ → va_P (dC, dI) vwCl (WX 72 ad E31_) H → va_S A s.heap H locs → lv_has ls 7 [(4, .int v31_4), (3, .int v31_3), (0, .ref (ad 0)), (1, .int a0), (2, .int a1)] → W p l e (headSpec v_middleOf rm_middleOf).room s m args below meth c H locs 0 0 Q (F0 m 31 ls []) := by
        intro d
        induction d with
        | zero =>
          intro v31_4 v31_3 E31_ H locs ls hv31_4 hv31_3 hx31_0 hx31_1 hI hKp hP hS hl
          exact absurd hx31_1 (by first | exact ms_zu hv31_4.2 | omega)
        | succ d ih31 =>
          intro v31_4 v31_3 E31_ H locs ls hv31_4 hv31_3 hx31_0 hx31_1 hI hKp hP hS hl
          refine lv_iload hx hb dX13_middleOf_31 (lv_at hl 0 rfl) ?_
          refine lv_aload_n hx hb dX13_middleOf_33 rfl (lv_at hl 2 rfl) ?_
          have i16 : 0 ≤ (xi (E 0) 8).toInt ∧ (xi (E 0) 8).toInt ≤ 16 := hI0.iv 0 (Nat.le_of_ble_eq_true rfl) rfl (Nat.le_of_ble_eq_true rfl) rfl
          refine th_get (ci := 14) (C := RX13) (T := TX13) (N := 97) (v := .int (xi (E 0) 8)) hx hb hts hinX13 hown hK hP hI 0 (Nat.le_of_ble_eq_true rfl) rfl rfl 8 (Nat.le_of_ble_eq_true rfl) (hts _ (vA_in _ _ (in_24 _ (zs16 (zs4 (zs1 (zs1 (zs0)))))))) (fun _ h9 => h9) (th_v0 hKp hI0 0 (Nat.le_of_ble_eq_true rfl) rfl (Nat.le_of_ble_eq_true rfl) rfl rfl) dX13_middleOf_34 ?_
          refine lv_icmp_ge (tgt := 138) hx hb dX13_middleOf_37 (by decide) (fun c17 => ?_) (fun c17 => ?_)
          · --37 taken
            have t18 : (xi (E 0) 8).toInt ≤ v31_4.toInt := ti_le c17
            refine lv_iload_n hx hb dX13_middleOf_138 rfl (lv_at hl 1 rfl) ?_
            refine lv_if_ne (tgt := 148) hx hb dX13_middleOf_139 (by decide) (fun c19 => ?_) (fun c19 => ?_)
            · --139 taken
              have t20 : ¬ v31_3.toInt = 0 := ti_ne c19
              have i21 : 1 ≤ v31_3.toInt ∧ v31_3.toInt ≤ 16 := iv_ne_l t20 hv31_3 (il_ 0)
              refine lv_aload_n hx hb dX13_middleOf_148 rfl (lv_at hl 2 rfl) ?_
              refine th_get (ci := 14) (C := RX13) (T := TX13) (N := 97) (v := .ref (ad 66)) hx hb hts hinX13 hown hK hP hI 0 (Nat.le_of_ble_eq_true rfl) rfl rfl 90 (Nat.le_of_ble_eq_true rfl) (hts _ (vA_in _ _ (in_31 _ (zs16 (zs4 (zs4 (zs0))))))) (fun _ h9 => h9) (hI.fr 0 (Nat.le_of_ble_eq_true rfl) rfl (Nat.le_of_ble_eq_true rfl) 66 rfl) dX13_middleOf_149 ?_
              refine lv_iload_n hx hb dX13_middleOf_152 rfl (lv_at hl 1 rfl) ?_
              refine lv_iconst (v := 1) hx hb dX13_middleOf_153 (by decide) ?_
              refine lv_isub hx hb dX13_middleOf_154 ?_
              refine lv_topi (fun y22 ey22 => ?_)
              obtain ⟨ty22, iy22⟩ := ti_sub (e := 0) (f := 15) i21 ln_1 ey22 (by decide)
              have ty22 : y22.toInt = v31_3.toInt - 1 := ty22
              have iy22 : 0 ≤ y22.toInt ∧ y22.toInt ≤ 15 := iy22
              refine lv_iconst (v := 2) hx hb dX13_middleOf_155 (by decide) ?_
              refine lv_idiv hx hb dX13_middleOf_156 (by decide) ?_
              refine lv_topi (fun y23 ey23 => ?_)
              obtain ⟨ty23, iy23⟩ := ti_div (e := 0) (f := 7) iy22 ln_2 ey23 (by decide)
              have iy23 : 0 ≤ y23.toInt ∧ y23.toInt ≤ 7 := iy23
              have n25 : vp_in y23 16 := (iv_in (n := 16) iy23 (by decide))
              refine th_iald hx hb hK hP hI 66 (Nat.le_of_ble_eq_true rfl) rfl rfl n25 dX13_middleOf_157 (fun y24 ey24 => ?_)
              rw [hQ]
              exact W.iret (v := y24) hx hb hr (fun t ht hW => ⟨⟨y24, E31_, rfl, ⟨hI, hKp, fun _ => f11 t14⟩, by show va_P (dC, dI) vwCl (WX 72 ad E31_) t.heap; rw [ht]; exact hP⟩, hS.F ht⟩) hS.2.2 dX13_middleOf_158
            · --139 not
              have t26 : v31_3.toInt = 0 := ti_eq c19
              have i27 : 0 ≤ v31_3.toInt ∧ v31_3.toInt ≤ 0 := iv_eqi t26 hv31_3 (il_ 0) (by decide)
              refine lv_ldcw hx hb hown (hts _ (vA_in _ _ (in_27 _ (zs16 (zs4 (zs1 (zs0))))))) dX13_middleOf_142 ?_
              refine lv_goto (tgt := 158) hx hb dX13_middleOf_145 (by decide) ?_
              rw [hQ]
              exact W.iret (v := (-1000000000)) hx hb hr (fun t ht hW => ⟨⟨(-1000000000), E31_, rfl, ⟨hI, hKp, fun h9 => absurd rfl h9⟩, by show va_P (dC, dI) vwCl (WX 72 ad E31_) t.heap; rw [ht]; exact hP⟩, hS.F ht⟩) hS.2.2 dX13_middleOf_158
          · --37 not
            have t28 : v31_4.toInt < (xi (E 0) 8).toInt := ti_nle c17
            have i29 : 0 ≤ v31_4.toInt ∧ v31_4.toInt ≤ 15 := iv_lt_l t28 hv31_4 i16 (by decide)
            have i30 : 1 ≤ (xi (E 0) 8).toInt ∧ (xi (E 0) 8).toInt ≤ 16 := iv_lt_r t28 hv31_4 i16 (by decide)
            have i31 : 0 ≤ v31_3.toInt ∧ v31_3.toInt ≤ 15 := by omega
            refine lv_iload hx hb dX13_middleOf_40 (lv_at hl 0 rfl) ?_
            refine lv_iload_n hx hb dX13_middleOf_42 rfl (lv_at hl 4 rfl) ?_
            refine lv_icmp_eq (tgt := 132) hx hb dX13_middleOf_43 (by decide) (fun c32 => ?_) (fun c32 => ?_)
            · --43 taken
              have t33 : v31_4.toInt = a1.toInt := ti_eq c32
              obtain ⟨y34, ey34⟩ : ∃ y : Int32, y = v31_4 + (1 : Int32) := ⟨_, rfl⟩
              obtain ⟨ty34, iy34⟩ := ti_add (e := 1) (f := 16) i29 ln_1 ey34 (by decide)
              have ty34 : y34.toInt = v31_4.toInt + 1 := ty34
              have iy34 : 1 ≤ y34.toInt ∧ y34.toInt ≤ 16 := iy34
              refine lv_iinc (v := y34) (lv' := [(4, .int y34), (3, .int v31_3), (0, .ref (ad 0)), (1, .int a0), (2, .int a1)]) hx hb dX13_middleOf_132 hl (k := 0) rfl (by rw [ey34]; rfl) (by decide) rfl (fun ls hl => ?_)
              refine lv_goto (tgt := 31) hx hb dX13_middleOf_135 (by decide) ?_
              exact ih31 y34 v31_3 E31_ _ _ _ (iv_w iy34 (by decide)) (iv_w i31 (by decide)) (by have h9 := i31; have h8 := iy34; omega) (by first | exact ms_su hx31_1 ty34 (by decide) | omega) hI hKp hP hS (lv_sub hl [0, 1, 2, 3, 4] rfl)
            · --43 not
              have t35 : ¬ v31_4.toInt = a1.toInt := ti_ne c32
              refine lv_aload_n hx hb dX13_middleOf_46 rfl (lv_at hl 2 rfl) ?_
              refine lv_iload_n hx hb dX13_middleOf_47 rfl (lv_at hl 3 rfl) ?_
              refine lv_iload hx hb dX13_middleOf_48 (lv_at hl 0 rfl) ?_
              refine lv_aload_n hx hb dX13_middleOf_50 rfl (lv_at hl 2 rfl) ?_
              refine th_get (ci := 14) (C := RX13) (T := TX13) (N := 97) (v := .int (xi (E 0) 1)) hx hb hts hinX13 hown hK hP hI 0 (Nat.le_of_ble_eq_true rfl) rfl rfl 1 (Nat.le_of_ble_eq_true rfl) (hts _ (vA_in _ _ (in_24 _ (zs16 (zs4 (zs4 (zs1 (zs1 (zs1 (zs0)))))))))) (fun _ h9 => h9) (th_v0 hKp hI0 0 (Nat.le_of_ble_eq_true rfl) rfl (Nat.le_of_ble_eq_true rfl) rfl rfl) dX13_middleOf_51 ?_
              refine th_ri (va_runV (As := [.int a0, .int v31_4, .int (xi (E 0) 1)]) (rest := []) ⟨hx, hb, hml, hown, hts⟩ (q_codeOf l dC dI cT ad E31_ H.size a0 v31_4 (xi (E 0) 1) hI hh0 i29) (cwV 3 hts (gi_V (in_27 _ (zs16 (zs16 (zs4 (zs0))))) (in_27 _ (zs16 (zs16 (zs4 (zs1 (zs0)))))) (in_27 _ (zs16 (zs16 (zs4 (zs1 (zs1 (zs0))))))) (in_24 _ (zs4 (zs4 (zs4 (zs1 (zs1 (zs1 (zs0)))))))) (in_27 _ (zs16 (zs16 (zs4 (zs1 (zs1 (zs1 (zs0))))))))) rfl rfl rfl ⟨rfl, hz_yX13_codeOf_3⟩ ⟨Nat.le_of_ble_eq_true rfl, Nat.le_of_ble_eq_true rfl⟩) ⟨HW_bl, va_recv hK hP (ci := 14) (q0 := 0) rfl (hI.ob 0 (Nat.le_of_ble_eq_true rfl) rfl), (HW_wi hP hK (WX_D hD) hS hA hEV)⟩ rfl rfl hl.1 rfl (lv_room (Nat.le_of_ble_eq_true rfl)) dX13_middleOf_54 ⟨Nat.le_of_ble_eq_true rfl, Nat.le_of_ble_eq_true rfl⟩) hS hP (fun r36 H locs hw hP hS => ?_)
              obtain ⟨f37, f38⟩ := hw
              try rw [hKp.ei 0 47 rfl] at f38
              try rw [hKp.ef 24 (fun _ => rfl)] at f38
              try rw [hKp.ef 25 (fun _ => rfl)] at f38
              try rw [hKp.ef 28 (fun _ => rfl)] at f38
              refine lv_if_eq (tgt := 63) hx hb dX13_middleOf_57 (by decide) (fun c39 => ?_) (fun c39 => ?_)
              · --57 taken
                have t40 : r36.toInt = 0 := ti_eq c39
                have i41 : 0 ≤ r36.toInt ∧ r36.toInt ≤ 0 := iv_eqi t40 f37 (il_ 0) (by decide)
                refine lv_aload_n hx hb dX13_middleOf_63 rfl (lv_at hl 2 rfl) ?_
                refine lv_iload_n hx hb dX13_middleOf_64 rfl (lv_at hl 3 rfl) ?_
                refine lv_iload hx hb dX13_middleOf_65 (lv_at hl 0 rfl) ?_
                refine lv_aload_n hx hb dX13_middleOf_67 rfl (lv_at hl 2 rfl) ?_
                refine th_get (ci := 14) (C := RX13) (T := TX13) (N := 97) (v := .int (xi (E 0) 1)) hx hb hts hinX13 hown hK hP hI 0 (Nat.le_of_ble_eq_true rfl) rfl rfl 1 (Nat.le_of_ble_eq_true rfl) (hts _ (vA_in _ _ (in_24 _ (zs16 (zs4 (zs4 (zs1 (zs1 (zs1 (zs0)))))))))) (fun _ h9 => h9) (th_v0 hKp hI0 0 (Nat.le_of_ble_eq_true rfl) rfl (Nat.le_of_ble_eq_true rfl) rfl rfl) dX13_middleOf_68 ?_
                refine th_i (va_runV (As := [.int a0, .int v31_4, .int (xi (E 0) 1)]) (rest := []) ⟨hx, hb, hml, hown, hts⟩ (q_correctedOf l dC dI cT ad E31_ H.size a0 v31_4 (xi (E 0) 1) hI hh0 (by (try rw [hKp.ei 0 47 rfl]); (try rw [hKp.ef 24 (fun _ => rfl)]); (try rw [hKp.ef 25 (fun _ => rfl)]); (try rw [hKp.ef 28 (fun _ => rfl)]); exact f38 t40)) (cwV 3 hts (gi_V (in_30 _ (zs4 (zs4 (zs4 (zs0))))) (in_30 _ (zs4 (zs4 (zs4 (zs1 (zs0)))))) (in_30 _ (zs4 (zs4 (zs4 (zs1 (zs1 (zs0))))))) (in_24 _ (zs4 (zs4 (zs4 (zs1 (zs1 (zs1 (zs0)))))))) (in_30 _ (zs4 (zs4 (zs4 (zs1 (zs1 (zs1 (zs0))))))))) rfl rfl rfl ⟨rfl, hz_yX13_correctedOf_3⟩ ⟨Nat.le_of_ble_eq_true rfl, Nat.le_of_ble_eq_true rfl⟩) ⟨HW_bl, va_recv hK hP (ci := 14) (q0 := 0) rfl (hI.ob 0 (Nat.le_of_ble_eq_true rfl) rfl), (HW_wi hP hK (WX_D hD) hS hA hEV)⟩ rfl rfl hl.1 rfl (lv_room (Nat.le_of_ble_eq_true rfl)) dX13_middleOf_71 ⟨Nat.le_of_ble_eq_true rfl, Nat.le_of_ble_eq_true rfl⟩) (WX_D hD) hS hA (fun r42 E43 H locs hw hP hS => ?_)
                obtain ⟨hI, kq44, hw⟩ := hw
                have hKb := hKp
                have hKp := hKp.tr kq44 (wl_sub rfl rfl)
                refine lv_istore (lv' := [(5, .int r42), (4, .int v31_4), (3, .int v31_3), (0, .ref (ad 0)), (1, .int a0), (2, .int a1)]) hx hb dX13_middleOf_74 hl (by decide) rfl (fun ls hl => ?_)
                refine lv_iload_n hx hb dX13_middleOf_76 rfl (lv_at hl 2 rfl) ?_
                refine lv_istore (lv' := [(6, .int v31_3), (5, .int r42), (4, .int v31_4), (3, .int v31_3), (0, .ref (ad 0)), (1, .int a0), (2, .int a1)]) hx hb dX13_middleOf_77 hl (by decide) rfl (fun ls hl => ?_)
                have hL79 : ∀ d : Nat, ∀ (v79_6 : Int32) (E79_ : Nat → va_E) (H : Heap) (locs : List Loc) (ls : Array Slot), 0 ≤ v79_6.toInt ∧ v79_6.toInt ≤ 15 → v79_6.toInt - 0 < (d : Int) → IX cT shM spM 72 ad E79_ → Kp w_middleOf E E79_ → va_P (dC, dI) vwCl (WX 72 ad E79_) H → va_S A s.heap H locs → lv_has ls 7 [(6, .int v79_6), (5, .int r42), (4, .int v31_4), (3, .int v31_3), (0, .ref (ad 0)), (1, .int a0), (2, .int a1)] → W p l e (headSpec v_middleOf rm_middleOf).room s m args below meth c H locs 0 0 Q (F0 m 79 ls []) := by
                  intro d
                  induction d with
                  | zero =>
                    intro v79_6 E79_ H locs ls hv79_6 hx79_0 hI hKp hP hS hl
                    exact absurd hx79_0 (by first | exact ms_zd hv79_6.1 | omega)
                  | succ d ih79 =>
                    intro v79_6 E79_ H locs ls hv79_6 hx79_0 hI hKp hP hS hl
                    refine lv_iload hx hb dX13_middleOf_79 (lv_at hl 0 rfl) ?_
                    have hJ120 : ∀ (H : Heap) (locs : List Loc) (ls : Array Slot), va_P (dC, dI) vwCl (WX 72 ad E79_) H → va_S A s.heap H locs → lv_has ls 7 [(6, .int v79_6), (5, .int r42), (4, .int v31_4), (3, .int v31_3), (0, .ref (ad 0)), (1, .int a0), (2, .int a1)] → W p l e (headSpec v_middleOf rm_middleOf).room s m args below meth c H locs 0 0 Q (F0 m 120 ls []) := by
                      intro H locs ls hP hS hl
                      refine lv_aload_n hx hb dX13_middleOf_120 rfl (lv_at hl 4 rfl) ?_
                      refine th_get (ci := 14) (C := RX13) (T := TX13) (N := 97) (v := .ref (ad 66)) hx hb hts hinX13 hown hK hP hI 0 (Nat.le_of_ble_eq_true rfl) rfl rfl 90 (Nat.le_of_ble_eq_true rfl) (hts _ (vA_in _ _ (in_31 _ (zs16 (zs4 (zs4 (zs0))))))) (fun _ h9 => h9) (hI.fr 0 (Nat.le_of_ble_eq_true rfl) rfl (Nat.le_of_ble_eq_true rfl) 66 rfl) dX13_middleOf_121 ?_
                      refine lv_iload hx hb dX13_middleOf_124 (lv_at hl 0 rfl) ?_
                      refine lv_iload hx hb dX13_middleOf_126 (lv_at hl 1 rfl) ?_
                      have n45 : vp_in v79_6 16 := (iv_in (n := 16) hv79_6 (by decide))
                      refine th_iast hx hb hK hP (WX_D hD) hS hI 66 (Nat.le_of_ble_eq_true rfl) rfl rfl n45 (okI rfl (iv_all _)) dX13_middleOf_128 (fun H locs E46 pw47 hI hP hS => ?_)
                      have hKp := hKp.pw pw47 rfl
                      obtain ⟨y48, ey48⟩ : ∃ y : Int32, y = v31_3 + (1 : Int32) := ⟨_, rfl⟩
                      obtain ⟨ty48, iy48⟩ := ti_add (e := 1) (f := 16) i31 ln_1 ey48 (by decide)
                      have ty48 : y48.toInt = v31_3.toInt + 1 := ty48
                      have iy48 : 1 ≤ y48.toInt ∧ y48.toInt ≤ 16 := iy48
                      refine lv_iinc (v := y48) (lv' := [(3, .int y48), (6, .int v79_6), (5, .int r42), (4, .int v31_4), (0, .ref (ad 0)), (1, .int a0), (2, .int a1)]) hx hb dX13_middleOf_129 hl (k := 3) rfl (by rw [ey48]; rfl) (by decide) rfl (fun ls hl => ?_)
                      obtain ⟨y49, ey49⟩ : ∃ y : Int32, y = v31_4 + (1 : Int32) := ⟨_, rfl⟩
                      obtain ⟨ty49, iy49⟩ := ti_add (e := 1) (f := 16) i29 ln_1 ey49 (by decide)
                      have ty49 : y49.toInt = v31_4.toInt + 1 := ty49
                      have iy49 : 1 ≤ y49.toInt ∧ y49.toInt ≤ 16 := iy49
                      refine lv_iinc (v := y49) (lv' := [(4, .int y49), (3, .int y48), (6, .int v79_6), (5, .int r42), (0, .ref (ad 0)), (1, .int a0), (2, .int a1)]) hx hb dX13_middleOf_132 hl (k := 3) rfl (by rw [ey49]; rfl) (by decide) rfl (fun ls hl => ?_)
                      refine lv_goto (tgt := 31) hx hb dX13_middleOf_135 (by decide) ?_
                      exact ih31 y49 y48 E46 _ _ _ (iv_w iy49 (by decide)) (iv_w iy48 (by decide)) (by have h9 := iy48; have h8 := iy49; omega) (by first | exact ms_su hx31_1 ty49 (by decide) | omega) hI hKp hP hS (lv_sub hl [0, 1, 4, 5, 6] rfl)
                    refine lv_if_le (tgt := 120) hx hb dX13_middleOf_81 (by decide) (fun c50 => ?_) (fun c50 => ?_)
                    · --81 taken
                      have t51 : v79_6.toInt ≤ 0 := ti_le c50
                      have i52 : 0 ≤ v79_6.toInt ∧ v79_6.toInt ≤ 0 := iv_le_l t51 hv79_6 (il_ 0) (by decide)
                      exact hJ120 _ _ _ hP hS (lv_sub hl [0, 1, 2, 3, 4, 5, 6] rfl)
                    · --81 not
                      have t53 : (0 : Int) < v79_6.toInt := ti_nle c50
                      have i54 : 1 ≤ v79_6.toInt ∧ v79_6.toInt ≤ 15 := iv_lt_r t53 (il_ 0) hv79_6 (by decide)
                      refine lv_aload_n hx hb dX13_middleOf_84 rfl (lv_at hl 4 rfl) ?_
                      refine th_get (ci := 14) (C := RX13) (T := TX13) (N := 97) (v := .ref (ad 66)) hx hb hts hinX13 hown hK hP hI 0 (Nat.le_of_ble_eq_true rfl) rfl rfl 90 (Nat.le_of_ble_eq_true rfl) (hts _ (vA_in _ _ (in_31 _ (zs16 (zs4 (zs4 (zs0))))))) (fun _ h9 => h9) (hI.fr 0 (Nat.le_of_ble_eq_true rfl) rfl (Nat.le_of_ble_eq_true rfl) 66 rfl) dX13_middleOf_85 ?_
                      refine lv_iload hx hb dX13_middleOf_88 (lv_at hl 0 rfl) ?_
                      refine lv_iconst (v := 1) hx hb dX13_middleOf_90 (by decide) ?_
                      refine lv_isub hx hb dX13_middleOf_91 ?_
                      refine lv_topi (fun y55 ey55 => ?_)
                      obtain ⟨ty55, iy55⟩ := ti_sub (e := 0) (f := 14) i54 ln_1 ey55 (by decide)
                      have ty55 : y55.toInt = v79_6.toInt - 1 := ty55
                      have iy55 : 0 ≤ y55.toInt ∧ y55.toInt ≤ 14 := iy55
                      have n57 : vp_in y55 16 := (iv_in (n := 16) iy55 (by decide))
                      refine th_iald hx hb hK hP hI 66 (Nat.le_of_ble_eq_true rfl) rfl rfl n57 dX13_middleOf_92 (fun y56 ey56 => ?_)
                      refine lv_iload hx hb dX13_middleOf_93 (lv_at hl 1 rfl) ?_
                      refine lv_icmp_le (tgt := 120) hx hb dX13_middleOf_95 (by decide) (fun c58 => ?_) (fun c58 => ?_)
                      · --95 taken
                        have t59 : y56.toInt ≤ r42.toInt := ti_le c58
                        exact hJ120 _ _ _ hP hS (lv_sub hl [0, 1, 2, 3, 4, 5, 6] rfl)
                      · --95 not
                        have t60 : r42.toInt < y56.toInt := ti_nle c58
                        have i61 : -2147483648 ≤ r42.toInt ∧ r42.toInt ≤ 2147483646 := iv_lt_l t60 (iv_all _) (iv_all _) (by decide)
                        have i62 : -2147483647 ≤ y56.toInt ∧ y56.toInt ≤ 2147483647 := iv_lt_r t60 (iv_all _) (iv_all _) (by decide)
                        refine lv_aload_n hx hb dX13_middleOf_98 rfl (lv_at hl 4 rfl) ?_
                        refine th_get (ci := 14) (C := RX13) (T := TX13) (N := 97) (v := .ref (ad 66)) hx hb hts hinX13 hown hK hP hI 0 (Nat.le_of_ble_eq_true rfl) rfl rfl 90 (Nat.le_of_ble_eq_true rfl) (hts _ (vA_in _ _ (in_31 _ (zs16 (zs4 (zs4 (zs0))))))) (fun _ h9 => h9) (hI.fr 0 (Nat.le_of_ble_eq_true rfl) rfl (Nat.le_of_ble_eq_true rfl) 66 rfl) dX13_middleOf_99 ?_
                        refine lv_iload hx hb dX13_middleOf_102 (lv_at hl 0 rfl) ?_
                        refine lv_aload_n hx hb dX13_middleOf_104 rfl (lv_at hl 4 rfl) ?_
                        refine th_get (ci := 14) (C := RX13) (T := TX13) (N := 97) (v := .ref (ad 66)) hx hb hts hinX13 hown hK hP hI 0 (Nat.le_of_ble_eq_true rfl) rfl rfl 90 (Nat.le_of_ble_eq_true rfl) (hts _ (vA_in _ _ (in_31 _ (zs16 (zs4 (zs4 (zs0))))))) (fun _ h9 => h9) (hI.fr 0 (Nat.le_of_ble_eq_true rfl) rfl (Nat.le_of_ble_eq_true rfl) 66 rfl) dX13_middleOf_105 ?_
                        refine lv_iload hx hb dX13_middleOf_108 (lv_at hl 0 rfl) ?_
                        refine lv_iconst (v := 1) hx hb dX13_middleOf_110 (by decide) ?_
                        refine lv_isub hx hb dX13_middleOf_111 ?_
                        refine lv_topi (fun y63 ey63 => ?_)
                        obtain ⟨ty63, iy63⟩ := ti_sub (e := 0) (f := 14) i54 ln_1 ey63 (by decide)
                        have ty63 : y63.toInt = v79_6.toInt - 1 := ty63
                        have iy63 : 0 ≤ y63.toInt ∧ y63.toInt ≤ 14 := iy63
                        have n65 : vp_in y63 16 := (iv_in (n := 16) iy63 (by decide))
                        refine th_iald hx hb hK hP hI 66 (Nat.le_of_ble_eq_true rfl) rfl rfl n65 dX13_middleOf_112 (fun y64 ey64 => ?_)
                        have n66 : vp_in v79_6 16 := (iv_in (n := 16) i54 (by decide))
                        refine th_iast hx hb hK hP (WX_D hD) hS hI 66 (Nat.le_of_ble_eq_true rfl) rfl rfl n66 (okI rfl (iv_all _)) dX13_middleOf_113 (fun H locs E67 pw68 hI hP hS => ?_)
                        have hKp := hKp.pw pw68 rfl
                        obtain ⟨y69, ey69⟩ : ∃ y : Int32, y = v79_6 + (-1 : Int32) := ⟨_, rfl⟩
                        obtain ⟨ty69, iy69⟩ := ti_add (e := 0) (f := 14) i54 ln_m1 ey69 (by decide)
                        have ty69 : y69.toInt = v79_6.toInt + (-1) := ty69
                        have iy69 : 0 ≤ y69.toInt ∧ y69.toInt ≤ 14 := iy69
                        refine lv_iinc (v := y69) (lv' := [(6, .int y69), (5, .int r42), (4, .int v31_4), (3, .int v31_3), (0, .ref (ad 0)), (1, .int a0), (2, .int a1)]) hx hb dX13_middleOf_114 hl (k := 0) rfl (by rw [ey69]; rfl) (by decide) rfl (fun ls hl => ?_)
                        refine lv_goto (tgt := 79) hx hb dX13_middleOf_117 (by decide) ?_
                        exact ih79 y69 E67 _ _ _ (iv_w iy69 (by decide)) (by first | exact ms_sd hx79_0 ty69 (by decide) | exact ms_sd2 hx79_0 ty69 | omega) hI hKp hP hS (lv_sub hl [0, 1, 2, 3, 4, 5, 6] rfl)
                exact hL79 (16) v31_3 E43 _ _ _ i31 (by have h9 := i31; first | exact ms_bd h9.2 (by decide) | omega) hI hKp hP hS (lv_sub hl [0, 1, 2, 3, 4, 5, 6] rfl)
              · --57 not
                have t70 : ¬ r36.toInt = 0 := ti_ne c39
                have i71 : 1 ≤ r36.toInt ∧ r36.toInt ≤ 5 := iv_ne_l t70 f37 (il_ 0)
                refine lv_goto (tgt := 132) hx hb dX13_middleOf_60 (by decide) ?_
                obtain ⟨y72, ey72⟩ : ∃ y : Int32, y = v31_4 + (1 : Int32) := ⟨_, rfl⟩
                obtain ⟨ty72, iy72⟩ := ti_add (e := 1) (f := 16) i29 ln_1 ey72 (by decide)
                have ty72 : y72.toInt = v31_4.toInt + 1 := ty72
                have iy72 : 1 ≤ y72.toInt ∧ y72.toInt ≤ 16 := iy72
                refine lv_iinc (v := y72) (lv' := [(4, .int y72), (3, .int v31_3), (0, .ref (ad 0)), (1, .int a0), (2, .int a1)]) hx hb dX13_middleOf_132 hl (k := 0) rfl (by rw [ey72]; rfl) (by decide) rfl (fun ls hl => ?_)
                refine lv_goto (tgt := 31) hx hb dX13_middleOf_135 (by decide) ?_
                exact ih31 y72 v31_3 E31_ _ _ _ (iv_w iy72 (by decide)) (iv_w i31 (by decide)) (by have h9 := i31; have h8 := iy72; omega) (by first | exact ms_su hx31_1 ty72 (by decide) | omega) hI hKp hP hS (lv_sub hl [0, 1, 2, 3, 4] rfl)
      exact hL31 (17) (0 : Int32) (0 : Int32) E _ _ _ (iv_w ln_0 (by decide)) (iv_w ln_0 (by decide)) (by have h9 := ln_0; have h8 := ln_0; omega) (by have h9 := ln_0; first | exact ms_bu h9.1 (by decide) | omega) hI hKp hP hS (lv_sub hl [0, 1, 2, 3, 4] rfl)
    · --19 not
      have t73 : ¬ r9.toInt = 0 := ti_ne c13
      have i74 : 1 ≤ r9.toInt ∧ r9.toInt ≤ 5 := iv_ne_l t73 f10 (il_ 0)
      refine lv_ldcw hx hb hown (hts _ (vA_in _ _ (in_27 _ (zs16 (zs4 (zs1 (zs0))))))) dX13_middleOf_22 ?_
      rw [hQ]
      exact W.iret (v := (-1000000000)) hx hb hr (fun t ht hW => ⟨⟨(-1000000000), E, rfl, ⟨hI, hKp, fun h9 => absurd rfl h9⟩, by show va_P (dC, dI) vwCl (WX 72 ad E) t.heap; rw [ht]; exact hP⟩, hS.F ht⟩) hS.2.2 dX13_middleOf_25
section
def v_fitOf : List Cond := .code yX13_fitOf cX13_fitOf 8 (some .int) :: vA
abbrev rm_fitOf : Room := { frames := 74, cells := 0, slots := 0, locals := 2960 }
def w_fitOf : Nat → Nat → Bool := wl [12, 66, 67, 68] [(0, 18), (0, 19), (0, 20), (0, 21), (0, 22), (0, 23), (0, 24), (0, 25), (0, 26)]
set_option maxHeartbeats 4000000 in
set_option maxRecDepth 100000 in
theorem q_fitOf (l : Launch) (dC : Nat → ClassId) (dI : Nat → Nat → Nat) (cT : Nat → ClassId) (ad : Nat → Nat) (E : Nat → va_E) (sz : Nat) (a0 : Int32) (hI0 : IX cT shM spM 72 ad E) (hh0 : 0 ≤ a0.toInt ∧ a0.toInt ≤ 15) : Met l yX13_fitOf v_fitOf rm_fitOf (va_Pc [.ref (ad 0), .int a0] (HW dC dI (TYM cT) 72 ad E sz)) (va_Qi (S := Nat → va_E) (fun r u => IX cT shM spM 72 ad u ∧ Kp w_fitOf E u ∧ ((-1 ≤ r.toInt ∧ r.toInt ≤ 2000))) (HB dC dI 72 ad) (va_A (WX 72 ad E) sz)) 0 0 (va_A (WX 72 ad E) sz) := by
  refine Met.ofW (cc := cX13_fitOf) (maxL := 8) (ret := (some .int)) (by decide) rfl ?_
  intro p e s m args below meth c s₁ B hml hv
  obtain ⟨hargs, hsz, hP, hK, hD0, hEV⟩ := hv
  subst hsz
  have hx := B.exec
  have hb := B.bytes
  have hr := B.returns
  have hts := atoms_spec (ws := v_fitOf) B.pre
  have hown : s.vm.findClass RX13 = some m.cls := findClass_of_methodNamed B.named
  have hlocks := B.notSynchronized
  have hinX13 : ∀ w ∈ u_ws RX13 TX13 97, w ∈ v_fitOf := fun w h => vA_in _ w (in_X13 w h)
  generalize hAe : va_A (WX 72 ad E) s.heap.size = A at hEV ⊢
  have hA : ∀ q : Nat, s.heap.size ≤ q → A q := fun q h => by rw [← hAe]; exact Or.inr h
  have hD : va_D A (WX 72 ad E) := by rw [← hAe]; exact hD0.self
  have hS : va_S A s.heap s.heap [] := va_S.rf
  have hI := hI0
  have hKp : Kp w_fitOf E E := Kp.rf
  have hl := lv_entry ([.ref (ad 0), .int a0]) (n := 8) (Nat.le_of_ble_eq_true rfl)
  obtain ⟨Q, hQ⟩ : ∃ Q, Q = MQ below (va_Qi (S := Nat → va_E) (fun r u => IX cT shM spM 72 ad u ∧ Kp w_fitOf E u ∧ ((-1 ≤ r.toInt ∧ r.toInt ≤ 2000))) (HB dC dI 72 ad) (A)) args s 0 0 (A) := ⟨_, rfl⟩
  rw [← hQ, show entryFrame m args 8 = _ from (congrArg (fun z => entryFrame m z 8) hargs).trans (lg_entry_eq _ _ _)]
  generalize (lg_sl ([.ref (ad 0), .int a0]) ++ List.replicate (8 - (lg_sl ([.ref (ad 0), .int a0])).length) Slot.unset).toArray = ls at hl ⊢
  have hl : lv_has ls 8 [(0, .ref (ad 0)), (1, .int a0)] := hl
  refine lv_iconst (v := 0) hx hb dX13_fitOf_0 (by decide) ?_
  refine lv_istore_n (lv' := [(2, .int 0), (0, .ref (ad 0)), (1, .int a0)]) hx hb dX13_fitOf_1 rfl hl (by decide) rfl (fun ls hl => ?_)
  refine lv_iconst (v := 0) hx hb dX13_fitOf_2 (by decide) ?_
  refine lv_istore_n (lv' := [(3, .int 0), (2, .int 0), (0, .ref (ad 0)), (1, .int a0)]) hx hb dX13_fitOf_3 rfl hl (by decide) rfl (fun ls hl => ?_)
  have hL4 : ∀ d : Nat, ∀ (v4_3 : Int32) (v4_2 : Int32) (E4_ : Nat → va_E) (H : Heap) (locs : List Loc) (ls : Array Slot), 0 ≤ v4_3.toInt ∧ v4_3.toInt ≤ 20 → 0 ≤ v4_2.toInt ∧ v4_2.toInt ≤ 20 → v4_2.toInt ≤ v4_3.toInt → 20 - v4_3.toInt < (d : Int) → IX cT shM spM 72 ad E4_ → Kp w_fitOf E E4_ → va_P (dC, dI) vwCl (WX 72 ad E4_) H → va_S A s.heap H locs → lv_has ls 8 [(3, .int v4_3), (2, .int v4_2), (0, .ref (ad 0)), (1, .int a0)] → W p l e (headSpec v_fitOf rm_fitOf).room s m args below meth c H locs 0 0 Q (F0 m 4 ls []) := by
    intro d
    induction d with
    | zero =>
      intro v4_3 v4_2 E4_ H locs ls hv4_3 hv4_2 hx4_0 hx4_1 hI hKp hP hS hl
      exact absurd hx4_1 (by first | exact ms_zu hv4_3.2 | omega)
    | succ d ih4 =>
      intro v4_3 v4_2 E4_ H locs ls hv4_3 hv4_2 hx4_0 hx4_1 hI hKp hP hS hl
      refine lv_iload_n hx hb dX13_fitOf_4 rfl (lv_at hl 0 rfl) ?_
      refine lv_aload_n hx hb dX13_fitOf_5 rfl (lv_at hl 2 rfl) ?_
      have i1 : 0 ≤ (xi (E 0) 46).toInt ∧ (xi (E 0) 46).toInt ≤ 20 := hI0.iv 0 (Nat.le_of_ble_eq_true rfl) rfl (Nat.le_of_ble_eq_true rfl) rfl
      refine th_get (ci := 14) (C := RX13) (T := TX13) (N := 97) (v := .int (xi (E 0) 46)) hx hb hts hinX13 hown hK hP hI 0 (Nat.le_of_ble_eq_true rfl) rfl rfl 46 (Nat.le_of_ble_eq_true rfl) (hts _ (vA_in _ _ (in_24 _ (zs16 (zs1 (zs0)))))) (fun _ h9 => h9) (th_v0 hKp hI0 0 (Nat.le_of_ble_eq_true rfl) rfl (Nat.le_of_ble_eq_true rfl) rfl rfl) dX13_fitOf_6 ?_
      refine lv_icmp_ge (tgt := 64) hx hb dX13_fitOf_9 (by decide) (fun c2 => ?_) (fun c2 => ?_)
      · --9 taken
        have t3 : (xi (E 0) 46).toInt ≤ v4_3.toInt := ti_le c2
        refine lv_iload_n hx hb dX13_fitOf_64 rfl (lv_at hl 1 rfl) ?_
        refine lv_if_ne (tgt := 70) hx hb dX13_fitOf_65 (by decide) (fun c4 => ?_) (fun c4 => ?_)
        · --65 taken
          have t5 : ¬ v4_2.toInt = 0 := ti_ne c4
          have i6 : 1 ≤ v4_2.toInt ∧ v4_2.toInt ≤ 20 := iv_ne_l t5 hv4_2 (il_ 0)
          refine lv_iconst (v := -1) hx hb dX13_fitOf_70 (by decide) ?_
          refine lv_istore_n (lv' := [(3, .int (-1)), (2, .int v4_2), (0, .ref (ad 0)), (1, .int a0)]) hx hb dX13_fitOf_71 rfl hl (by decide) rfl (fun ls hl => ?_)
          refine lv_iconst (v := 0) hx hb dX13_fitOf_72 (by decide) ?_
          refine lv_istore (lv' := [(4, .int 0), (3, .int (-1)), (2, .int v4_2), (0, .ref (ad 0)), (1, .int a0)]) hx hb dX13_fitOf_73 hl (by decide) rfl (fun ls hl => ?_)
          refine lv_sipush (v := 500) hx hb dX13_fitOf_75 (by decide) ?_
          refine lv_istore (lv' := [(5, .int 500), (4, .int 0), (3, .int (-1)), (2, .int v4_2), (0, .ref (ad 0)), (1, .int a0)]) hx hb dX13_fitOf_78 hl (by decide) rfl (fun ls hl => ?_)
          have hL80 : ∀ d : Nat, ∀ (v80_5 : Int32) (v80_4 : Int32) (v80_3 : Int32) (H : Heap) (locs : List Loc) (ls : Array Slot), 500 ≤ v80_5.toInt ∧ v80_5.toInt ≤ 2001 → -1 ≤ v80_3.toInt ∧ v80_3.toInt ≤ 2000 → 2001 - v80_5.toInt < (d : Int) → va_P (dC, dI) vwCl (WX 72 ad E4_) H → va_S A s.heap H locs → lv_has ls 8 [(5, .int v80_5), (4, .int v80_4), (3, .int v80_3), (2, .int v4_2), (0, .ref (ad 0)), (1, .int a0)] → W p l e (headSpec v_fitOf rm_fitOf).room s m args below meth c H locs 0 0 Q (F0 m 80 ls []) := by
            intro d
            induction d with
            | zero =>
              intro v80_5 v80_4 v80_3 H locs ls hv80_5 hv80_3 hx80_0 hP hS hl
              exact absurd hx80_0 (by first | exact ms_zu hv80_5.2 | omega)
            | succ d ih80 =>
              intro v80_5 v80_4 v80_3 H locs ls hv80_5 hv80_3 hx80_0 hP hS hl
              refine lv_iload hx hb dX13_fitOf_80 (lv_at hl 0 rfl) ?_
              refine lv_sipush (v := 2000) hx hb dX13_fitOf_82 (by decide) ?_
              refine lv_icmp_gt (tgt := 164) hx hb dX13_fitOf_85 (by decide) (fun c7 => ?_) (fun c7 => ?_)
              · --85 taken
                have t8 : (2000 : Int) < v80_5.toInt := ti_lt c7
                have i9 : 2001 ≤ v80_5.toInt ∧ v80_5.toInt ≤ 2001 := iv_lt_r t8 (il_ 2000) hv80_5 (by decide)
                refine lv_iload_n hx hb dX13_fitOf_164 rfl (lv_at hl 2 rfl) ?_
                rw [hQ]
                exact W.iret (v := v80_3) hx hb hr (fun t ht hW => ⟨⟨v80_3, E4_, rfl, ⟨hI, hKp, hv80_3⟩, by show va_P (dC, dI) vwCl (WX 72 ad E4_) t.heap; rw [ht]; exact hP⟩, hS.F ht⟩) hS.2.2 dX13_fitOf_165
              · --85 not
                have t10 : v80_5.toInt ≤ 2000 := ti_nlt c7
                have i11 : 500 ≤ v80_5.toInt ∧ v80_5.toInt ≤ 2000 := iv_le_l t10 hv80_5 (il_ 2000) (by decide)
                refine lv_iconst (v := 0) hx hb dX13_fitOf_88 (by decide) ?_
                refine lv_istore (lv' := [(6, .int 0), (5, .int v80_5), (4, .int v80_4), (3, .int v80_3), (2, .int v4_2), (0, .ref (ad 0)), (1, .int a0)]) hx hb dX13_fitOf_89 hl (by decide) rfl (fun ls hl => ?_)
                refine lv_iconst (v := 0) hx hb dX13_fitOf_91 (by decide) ?_
                refine lv_istore (lv' := [(7, .int 0), (6, .int 0), (5, .int v80_5), (4, .int v80_4), (3, .int v80_3), (2, .int v4_2), (0, .ref (ad 0)), (1, .int a0)]) hx hb dX13_fitOf_92 hl (by decide) rfl (fun ls hl => ?_)
                have hL94 : ∀ d : Nat, ∀ (v94_7 : Int32) (v94_6 : Int32) (H : Heap) (locs : List Loc) (ls : Array Slot), 0 ≤ v94_7.toInt ∧ v94_7.toInt ≤ 20 → v94_7.toInt ≤ v4_2.toInt → 20 - v94_7.toInt < (d : Int) → va_P (dC, dI) vwCl (WX 72 ad E4_) H → va_S A s.heap H locs → lv_has ls 8 [(7, .int v94_7), (6, .int v94_6), (5, .int v80_5), (4, .int v80_4), (3, .int v80_3), (2, .int v4_2), (0, .ref (ad 0)), (1, .int a0)] → W p l e (headSpec v_fitOf rm_fitOf).room s m args below meth c H locs 0 0 Q (F0 m 94 ls []) := by
                  intro d
                  induction d with
                  | zero =>
                    intro v94_7 v94_6 H locs ls hv94_7 hx94_0 hx94_1 hP hS hl
                    exact absurd hx94_1 (by first | exact ms_zu hv94_7.2 | omega)
                  | succ d ih94 =>
                    intro v94_7 v94_6 H locs ls hv94_7 hx94_0 hx94_1 hP hS hl
                    refine lv_iload hx hb dX13_fitOf_94 (lv_at hl 0 rfl) ?_
                    refine lv_iload_n hx hb dX13_fitOf_96 rfl (lv_at hl 5 rfl) ?_
                    refine lv_icmp_ge (tgt := 136) hx hb dX13_fitOf_97 (by decide) (fun c12 => ?_) (fun c12 => ?_)
                    · --97 taken
                      have t13 : v4_2.toInt ≤ v94_7.toInt := ti_le c12
                      have i14 : 1 ≤ v94_7.toInt ∧ v94_7.toInt ≤ 20 := iv_le_r t13 i6 hv94_7 (by decide)
                      refine lv_iload_n hx hb dX13_fitOf_136 rfl (lv_at hl 4 rfl) ?_
                      refine lv_iconst (v := -1) hx hb dX13_fitOf_137 (by decide) ?_
                      refine lv_icmp_eq (tgt := 151) hx hb dX13_fitOf_138 (by decide) (fun c15 => ?_) (fun c15 => ?_)
                      · --138 taken
                        have t16 : v80_3.toInt = -1 := ti_eq c15
                        have i17 : -1 ≤ v80_3.toInt ∧ v80_3.toInt ≤ -1 := iv_eqi t16 hv80_3 (il_ (-1)) (by decide)
                        refine lv_iload hx hb dX13_fitOf_151 (lv_at hl 2 rfl) ?_
                        refine lv_istore_n (lv' := [(3, .int v80_5), (7, .int v94_7), (6, .int v94_6), (5, .int v80_5), (4, .int v80_4), (2, .int v4_2), (0, .ref (ad 0)), (1, .int a0)]) hx hb dX13_fitOf_153 rfl hl (by decide) rfl (fun ls hl => ?_)
                        refine lv_iload hx hb dX13_fitOf_154 (lv_at hl 2 rfl) ?_
                        refine lv_istore (lv' := [(4, .int v94_6), (3, .int v80_5), (7, .int v94_7), (6, .int v94_6), (5, .int v80_5), (2, .int v4_2), (0, .ref (ad 0)), (1, .int a0)]) hx hb dX13_fitOf_156 hl (by decide) rfl (fun ls hl => ?_)
                        obtain ⟨y18, ey18⟩ : ∃ y : Int32, y = v80_5 + (1 : Int32) := ⟨_, rfl⟩
                        obtain ⟨ty18, iy18⟩ := ti_add (e := 501) (f := 2001) i11 ln_1 ey18 (by decide)
                        have ty18 : y18.toInt = v80_5.toInt + 1 := ty18
                        have iy18 : 501 ≤ y18.toInt ∧ y18.toInt ≤ 2001 := iy18
                        refine lv_iinc (v := y18) (lv' := [(5, .int y18), (4, .int v94_6), (3, .int v80_5), (7, .int v94_7), (6, .int v94_6), (2, .int v4_2), (0, .ref (ad 0)), (1, .int a0)]) hx hb dX13_fitOf_158 hl (k := 4) rfl (by rw [ey18]; rfl) (by decide) rfl (fun ls hl => ?_)
                        refine lv_goto (tgt := 80) hx hb dX13_fitOf_161 (by decide) ?_
                        exact ih80 y18 v94_6 v80_5 _ _ _ (iv_w iy18 (by decide)) (iv_w i11 (by decide)) (by first | exact ms_su hx80_0 ty18 (by decide) | omega) hP hS (lv_sub hl [0, 1, 2, 5, 6, 7] rfl)
                      · --138 not
                        have t19 : ¬ v80_3.toInt = -1 := ti_ne c15
                        have i20 : 0 ≤ v80_3.toInt ∧ v80_3.toInt ≤ 2000 := iv_ne_l t19 hv80_3 (il_ (-1))
                        refine lv_iload hx hb dX13_fitOf_141 (lv_at hl 1 rfl) ?_
                        refine lv_iload hx hb dX13_fitOf_143 (lv_at hl 3 rfl) ?_
                        refine lv_icmp_lt (tgt := 151) hx hb dX13_fitOf_145 (by decide) (fun c21 => ?_) (fun c21 => ?_)
                        · --145 taken
                          have t22 : v94_6.toInt < v80_4.toInt := ti_lt c21
                          have i23 : -2147483648 ≤ v94_6.toInt ∧ v94_6.toInt ≤ 2147483646 := iv_lt_l t22 (iv_all _) (iv_all _) (by decide)
                          have i24 : -2147483647 ≤ v80_4.toInt ∧ v80_4.toInt ≤ 2147483647 := iv_lt_r t22 (iv_all _) (iv_all _) (by decide)
                          refine lv_iload hx hb dX13_fitOf_151 (lv_at hl 2 rfl) ?_
                          refine lv_istore_n (lv' := [(3, .int v80_5), (7, .int v94_7), (6, .int v94_6), (5, .int v80_5), (4, .int v80_4), (2, .int v4_2), (0, .ref (ad 0)), (1, .int a0)]) hx hb dX13_fitOf_153 rfl hl (by decide) rfl (fun ls hl => ?_)
                          refine lv_iload hx hb dX13_fitOf_154 (lv_at hl 2 rfl) ?_
                          refine lv_istore (lv' := [(4, .int v94_6), (3, .int v80_5), (7, .int v94_7), (6, .int v94_6), (5, .int v80_5), (2, .int v4_2), (0, .ref (ad 0)), (1, .int a0)]) hx hb dX13_fitOf_156 hl (by decide) rfl (fun ls hl => ?_)
                          obtain ⟨y25, ey25⟩ : ∃ y : Int32, y = v80_5 + (1 : Int32) := ⟨_, rfl⟩
                          obtain ⟨ty25, iy25⟩ := ti_add (e := 501) (f := 2001) i11 ln_1 ey25 (by decide)
                          have ty25 : y25.toInt = v80_5.toInt + 1 := ty25
                          have iy25 : 501 ≤ y25.toInt ∧ y25.toInt ≤ 2001 := iy25
                          refine lv_iinc (v := y25) (lv' := [(5, .int y25), (4, .int v94_6), (3, .int v80_5), (7, .int v94_7), (6, .int v94_6), (2, .int v4_2), (0, .ref (ad 0)), (1, .int a0)]) hx hb dX13_fitOf_158 hl (k := 4) rfl (by rw [ey25]; rfl) (by decide) rfl (fun ls hl => ?_)
                          refine lv_goto (tgt := 80) hx hb dX13_fitOf_161 (by decide) ?_
                          exact ih80 y25 v94_6 v80_5 _ _ _ (iv_w iy25 (by decide)) (iv_w i11 (by decide)) (by first | exact ms_su hx80_0 ty25 (by decide) | omega) hP hS (lv_sub hl [0, 1, 2, 5, 6, 7] rfl)
                        · --145 not
                          have t26 : v80_4.toInt ≤ v94_6.toInt := ti_nlt c21
                          refine lv_goto (tgt := 158) hx hb dX13_fitOf_148 (by decide) ?_
                          obtain ⟨y27, ey27⟩ : ∃ y : Int32, y = v80_5 + (1 : Int32) := ⟨_, rfl⟩
                          obtain ⟨ty27, iy27⟩ := ti_add (e := 501) (f := 2001) i11 ln_1 ey27 (by decide)
                          have ty27 : y27.toInt = v80_5.toInt + 1 := ty27
                          have iy27 : 501 ≤ y27.toInt ∧ y27.toInt ≤ 2001 := iy27
                          refine lv_iinc (v := y27) (lv' := [(5, .int y27), (7, .int v94_7), (6, .int v94_6), (4, .int v80_4), (3, .int v80_3), (2, .int v4_2), (0, .ref (ad 0)), (1, .int a0)]) hx hb dX13_fitOf_158 hl (k := 2) rfl (by rw [ey27]; rfl) (by decide) rfl (fun ls hl => ?_)
                          refine lv_goto (tgt := 80) hx hb dX13_fitOf_161 (by decide) ?_
                          exact ih80 y27 v80_4 v80_3 _ _ _ (iv_w iy27 (by decide)) (iv_w i20 (by decide)) (by first | exact ms_su hx80_0 ty27 (by decide) | omega) hP hS (lv_sub hl [0, 3, 4, 5, 6, 7] rfl)
                    · --97 not
                      have t28 : v94_7.toInt < v4_2.toInt := ti_nle c12
                      have i29 : 0 ≤ v94_7.toInt ∧ v94_7.toInt ≤ 19 := iv_lt_l t28 hv94_7 i6 (by decide)
                      refine lv_iload hx hb dX13_fitOf_100 (lv_at hl 1 rfl) ?_
                      refine lv_aload_n hx hb dX13_fitOf_102 rfl (lv_at hl 6 rfl) ?_
                      refine th_get (ci := 14) (C := RX13) (T := TX13) (N := 97) (v := .ref (ad 67)) hx hb hts hinX13 hown hK hP hI 0 (Nat.le_of_ble_eq_true rfl) rfl rfl 91 (Nat.le_of_ble_eq_true rfl) (hts _ (vA_in _ _ (in_31 _ (zs16 (zs1 (zs1 (zs0))))))) (fun _ h9 => h9) (hI.fr 0 (Nat.le_of_ble_eq_true rfl) rfl (Nat.le_of_ble_eq_true rfl) 67 rfl) dX13_fitOf_103 ?_
                      refine lv_iload hx hb dX13_fitOf_106 (lv_at hl 0 rfl) ?_
                      have n31 : vp_in v94_7 20 := (iv_in (n := 20) i29 (by decide))
                      refine th_iald hx hb hK hP hI 67 (Nat.le_of_ble_eq_true rfl) rfl rfl n31 dX13_fitOf_108 (fun y30 ey30 => ?_)
                      have iy30 : 0 ≤ y30.toInt ∧ y30.toInt ≤ 200000 := hI.el 67 (Nat.le_of_ble_eq_true rfl) rfl n31 (fun _ => rfl) ey30
                      refine lv_iload hx hb dX13_fitOf_109 (lv_at hl 2 rfl) ?_
                      refine lv_imul hx hb dX13_fitOf_111 ?_
                      refine lv_topi (fun y32 ey32 => ?_)
                      obtain ⟨ty32, iy32⟩ := ti_mul (e := 0) (f := 400000000) iy30 i11 ey32 (by decide)
                      have ty32 : y32.toInt = y30.toInt * v80_5.toInt := ty32
                      have iy32 : 0 ≤ y32.toInt ∧ y32.toInt ≤ 400000000 := iy32
                      refine lv_sipush (v := 1000) hx hb dX13_fitOf_112 (by decide) ?_
                      refine lv_idiv hx hb dX13_fitOf_115 (by decide) ?_
                      refine lv_topi (fun y33 ey33 => ?_)
                      obtain ⟨ty33, iy33⟩ := ti_div (e := 0) (f := 400000) iy32 ln_1000 ey33 (by decide)
                      have iy33 : 0 ≤ y33.toInt ∧ y33.toInt ≤ 400000 := iy33
                      refine lv_aload_n hx hb dX13_fitOf_116 rfl (lv_at hl 6 rfl) ?_
                      refine th_get (ci := 14) (C := RX13) (T := TX13) (N := 97) (v := .ref (ad 68)) hx hb hts hinX13 hown hK hP hI 0 (Nat.le_of_ble_eq_true rfl) rfl rfl 92 (Nat.le_of_ble_eq_true rfl) (hts _ (vA_in _ _ (in_31 _ (zs16 (zs1 (zs1 (zs1 (zs0)))))))) (fun _ h9 => h9) (hI.fr 0 (Nat.le_of_ble_eq_true rfl) rfl (Nat.le_of_ble_eq_true rfl) 68 rfl) dX13_fitOf_117 ?_
                      refine lv_iload hx hb dX13_fitOf_120 (lv_at hl 0 rfl) ?_
                      have n35 : vp_in v94_7 20 := (iv_in (n := 20) i29 (by decide))
                      refine th_iald hx hb hK hP hI 68 (Nat.le_of_ble_eq_true rfl) rfl rfl n35 dX13_fitOf_122 (fun y34 ey34 => ?_)
                      refine lv_isub hx hb dX13_fitOf_123 ?_
                      refine lv_topi (fun y36 ey36 => ?_)
                      refine va_mabs hx hb (by rw [hml]; exact hl.1.symm) hown (hts _ (vA_in _ _ (in_25 _ (zs16 (zs16 (zs1 (zs1 (zs0)))))))) (hts _ (vA_in _ _ (in_23 _ (zs4 (zs4 (zs1 (zs1 (zs0)))))))) (hts _ (vA_in _ _ (in_0 _ (zs16 (zs16 (zs1 (zs0))))))) (hts _ (vA_in _ _ (in_23 _ (zs4 (zs4 (zs1 (zs1 (zs1 (zs0))))))))) (Nat.le_of_ble_eq_true rfl) (Nat.le_of_ble_eq_true rfl) (Nat.le_of_ble_eq_true rfl) (Nat.le_of_ble_eq_true rfl) dX13_fitOf_124 ?_
                      refine lv_topi (fun y37 ey37 => ?_)
                      refine lv_iadd hx hb dX13_fitOf_127 ?_
                      refine lv_topi (fun y38 ey38 => ?_)
                      refine lv_istore (lv' := [(6, .int y38), (7, .int v94_7), (5, .int v80_5), (4, .int v80_4), (3, .int v80_3), (2, .int v4_2), (0, .ref (ad 0)), (1, .int a0)]) hx hb dX13_fitOf_128 hl (by decide) rfl (fun ls hl => ?_)
                      obtain ⟨y39, ey39⟩ : ∃ y : Int32, y = v94_7 + (1 : Int32) := ⟨_, rfl⟩
                      obtain ⟨ty39, iy39⟩ := ti_add (e := 1) (f := 20) i29 ln_1 ey39 (by decide)
                      have ty39 : y39.toInt = v94_7.toInt + 1 := ty39
                      have iy39 : 1 ≤ y39.toInt ∧ y39.toInt ≤ 20 := iy39
                      refine lv_iinc (v := y39) (lv' := [(7, .int y39), (6, .int y38), (5, .int v80_5), (4, .int v80_4), (3, .int v80_3), (2, .int v4_2), (0, .ref (ad 0)), (1, .int a0)]) hx hb dX13_fitOf_130 hl (k := 1) rfl (by rw [ey39]; rfl) (by decide) rfl (fun ls hl => ?_)
                      refine lv_goto (tgt := 94) hx hb dX13_fitOf_133 (by decide) ?_
                      exact ih94 y39 y38 _ _ _ (iv_w iy39 (by decide)) (by have h9 := iy39; omega) (by first | exact ms_su hx94_1 ty39 (by decide) | omega) hP hS (lv_sub hl [0, 1, 2, 3, 4, 5, 6, 7] rfl)
                exact hL94 (21) (0 : Int32) (0 : Int32) _ _ _ (iv_w ln_0 (by decide)) (by have h9 := ln_0; omega) (by have h9 := ln_0; first | exact ms_bu h9.1 (by decide) | omega) hP hS (lv_sub hl [0, 1, 2, 3, 4, 5, 6, 7] rfl)
          exact hL80 (1502) (500 : Int32) (0 : Int32) (-1 : Int32) _ _ _ (iv_w ln_500 (by decide)) (iv_w ln_m1 (by decide)) (by have h9 := ln_500; first | exact ms_bu h9.1 (by decide) | omega) hP hS (lv_sub hl [0, 1, 2, 3, 4, 5] rfl)
        · --65 not
          have t40 : v4_2.toInt = 0 := ti_eq c4
          have i41 : 0 ≤ v4_2.toInt ∧ v4_2.toInt ≤ 0 := iv_eqi t40 hv4_2 (il_ 0) (by decide)
          refine lv_iconst (v := -1) hx hb dX13_fitOf_68 (by decide) ?_
          rw [hQ]
          exact W.iret (v := (-1)) hx hb hr (fun t ht hW => ⟨⟨(-1), E4_, rfl, ⟨hI, hKp, (iv_w ln_m1 (by decide))⟩, by show va_P (dC, dI) vwCl (WX 72 ad E4_) t.heap; rw [ht]; exact hP⟩, hS.F ht⟩) hS.2.2 dX13_fitOf_69
      · --9 not
        have t42 : v4_3.toInt < (xi (E 0) 46).toInt := ti_nle c2
        have i43 : 0 ≤ v4_3.toInt ∧ v4_3.toInt ≤ 19 := iv_lt_l t42 hv4_3 i1 (by decide)
        have i44 : 1 ≤ (xi (E 0) 46).toInt ∧ (xi (E 0) 46).toInt ≤ 20 := iv_lt_r t42 hv4_3 i1 (by decide)
        refine lv_aload_n hx hb dX13_fitOf_12 rfl (lv_at hl 2 rfl) ?_
        refine lv_iload_n hx hb dX13_fitOf_13 rfl (lv_at hl 0 rfl) ?_
        refine lv_iload_n hx hb dX13_fitOf_14 rfl (lv_at hl 3 rfl) ?_
        refine th_i (va_runV (As := [.int v4_3, .int a0]) (rest := []) ⟨hx, hb, hml, hown, hts⟩ (q_middleOf l dC dI cT ad E4_ H.size v4_3 a0 hI i43 hh0) (cwV 2 hts (gi_V (in_31 _ (zs16 (zs4 (zs0)))) (in_31 _ (zs16 (zs4 (zs1 (zs0))))) (in_31 _ (zs16 (zs4 (zs1 (zs1 (zs0)))))) (in_24 _ (zs4 (zs4 (zs4 (zs1 (zs1 (zs1 (zs0)))))))) (in_31 _ (zs16 (zs4 (zs1 (zs1 (zs1 (zs0)))))))) rfl rfl rfl ⟨rfl, hz_yX13_middleOf_2⟩ ⟨Nat.le_of_ble_eq_true rfl, Nat.le_of_ble_eq_true rfl⟩) ⟨HW_bl, va_recv hK hP (ci := 14) (q0 := 0) rfl (hI.ob 0 (Nat.le_of_ble_eq_true rfl) rfl), (HW_wi hP hK (WX_D hD) hS hA hEV)⟩ rfl rfl hl.1 rfl (lv_room (Nat.le_of_ble_eq_true rfl)) dX13_fitOf_15 ⟨Nat.le_of_ble_eq_true rfl, Nat.le_of_ble_eq_true rfl⟩) (WX_D hD) hS hA (fun r45 E46 H locs hw hP hS => ?_)
        obtain ⟨hI, kq47, hw⟩ := hw
        have hKb := hKp
        have hKp := hKp.tr kq47 (wl_sub rfl rfl)
        have f48 := hw
        have i49 : 0 ≤ (xi (E 0) 47).toInt ∧ (xi (E 0) 47).toInt ≤ 300 := (show 0 ≤ (xi (E 0) 47).toInt ∧ (xi (E 0) 47).toInt ≤ 300 from hI0.iv 0 (Nat.le_of_ble_eq_true rfl) rfl (Nat.le_of_ble_eq_true rfl) rfl)
        have i50 : 0 ≤ (xi (E 0) 1).toInt ∧ (xi (E 0) 1).toInt ≤ 400 := (show 0 ≤ (xi (E 0) 1).toInt ∧ (xi (E 0) 1).toInt ≤ 400 from hI0.iv 0 (Nat.le_of_ble_eq_true rfl) rfl (Nat.le_of_ble_eq_true rfl) rfl)
        try rw [hKb.ei 0 47 rfl] at f48
        try rw [hKb.ef 24 (fun _ => rfl)] at f48
        try rw [hKb.ef 25 (fun _ => rfl)] at f48
        try rw [hKb.ef 28 (fun _ => rfl)] at f48
        try rw [hKb.ei 0 1 rfl] at f48
        refine lv_istore (lv' := [(4, .int r45), (3, .int v4_3), (2, .int v4_2), (0, .ref (ad 0)), (1, .int a0)]) hx hb dX13_fitOf_18 hl (by decide) rfl (fun ls hl => ?_)
        refine lv_iload hx hb dX13_fitOf_20 (lv_at hl 0 rfl) ?_
        refine lv_ldcw hx hb hown (hts _ (vA_in _ _ (in_27 _ (zs16 (zs4 (zs1 (zs0))))))) dX13_fitOf_22 ?_
        refine lv_icmp_ne (tgt := 31) hx hb dX13_fitOf_25 (by decide) (fun c51 => ?_) (fun c51 => ?_)
        · --25 taken
          have t52 : ¬ r45.toInt = -1000000000 := ti_ne c51
          have i53 : 0 ≤ v4_2.toInt ∧ v4_2.toInt ≤ 19 := by omega
          refine lv_aload_n hx hb dX13_fitOf_31 rfl (lv_at hl 3 rfl) ?_
          refine th_get (ci := 14) (C := RX13) (T := TX13) (N := 97) (v := .ref (ad 67)) hx hb hts hinX13 hown hK hP hI 0 (Nat.le_of_ble_eq_true rfl) rfl rfl 91 (Nat.le_of_ble_eq_true rfl) (hts _ (vA_in _ _ (in_31 _ (zs16 (zs1 (zs1 (zs0))))))) (fun _ h9 => h9) (hI.fr 0 (Nat.le_of_ble_eq_true rfl) rfl (Nat.le_of_ble_eq_true rfl) 67 rfl) dX13_fitOf_32 ?_
          refine lv_iload_n hx hb dX13_fitOf_35 rfl (lv_at hl 2 rfl) ?_
          refine lv_aload_n hx hb dX13_fitOf_36 rfl (lv_at hl 3 rfl) ?_
          refine lv_iload_n hx hb dX13_fitOf_37 rfl (lv_at hl 1 rfl) ?_
          refine lv_iload_n hx hb dX13_fitOf_38 rfl (lv_at hl 4 rfl) ?_
          refine lv_aload_n hx hb dX13_fitOf_39 rfl (lv_at hl 3 rfl) ?_
          refine th_get (ci := 14) (C := RX13) (T := TX13) (N := 97) (v := .int (xi (E 0) 1)) hx hb hts hinX13 hown hK hP hI 0 (Nat.le_of_ble_eq_true rfl) rfl rfl 1 (Nat.le_of_ble_eq_true rfl) (hts _ (vA_in _ _ (in_24 _ (zs16 (zs4 (zs4 (zs1 (zs1 (zs1 (zs0)))))))))) (fun _ h9 => h9) (th_v0 hKp hI0 0 (Nat.le_of_ble_eq_true rfl) rfl (Nat.le_of_ble_eq_true rfl) rfl rfl) dX13_fitOf_40 ?_
          refine th_ri (va_runV (As := [.int v4_3, .int a0, .int (xi (E 0) 1)]) (rest := [.int v4_2, .ref (ad 67)]) ⟨hx, hb, hml, hown, hts⟩ (q_secondsOf l dC dI cT ad E46 H.size v4_3 a0 (xi (E 0) 1) hI (by (try rw [hKp.ei 0 47 rfl]); (try rw [hKp.ef 24 (fun _ => rfl)]); (try rw [hKp.ef 25 (fun _ => rfl)]); (try rw [hKp.ef 28 (fun _ => rfl)]); exact f48 t52)) (cwV 3 hts (gi_V (in_28 _ (zs16 (zs1 (zs0)))) (in_28 _ (zs16 (zs1 (zs1 (zs0))))) (in_28 _ (zs16 (zs1 (zs1 (zs1 (zs0)))))) (in_24 _ (zs4 (zs4 (zs4 (zs1 (zs1 (zs1 (zs0)))))))) (in_28 _ (zs16 (zs4 (zs0))))) rfl rfl rfl ⟨rfl, hz_yX13_secondsOf_3⟩ ⟨Nat.le_of_ble_eq_true rfl, Nat.le_of_ble_eq_true rfl⟩) ⟨HW_bl, va_recv hK hP (ci := 14) (q0 := 0) rfl (hI.ob 0 (Nat.le_of_ble_eq_true rfl) rfl), (HW_wi hP hK (WX_D hD) hS hA hEV)⟩ rfl rfl hl.1 rfl (lv_room (Nat.le_of_ble_eq_true rfl)) dX13_fitOf_43 ⟨Nat.le_of_ble_eq_true rfl, Nat.le_of_ble_eq_true rfl⟩) hS hP (fun r54 H locs hw hP hS => ?_)
          have f55 := hw
          have n56 : vp_in v4_2 20 := (iv_in (n := 20) i53 (by decide))
          refine th_iast hx hb hK hP (WX_D hD) hS hI 67 (Nat.le_of_ble_eq_true rfl) rfl rfl n56 (okI rfl f55) dX13_fitOf_46 (fun H locs E57 pw58 hI hP hS => ?_)
          have hKp := hKp.pw pw58 rfl
          refine lv_aload_n hx hb dX13_fitOf_47 rfl (lv_at hl 3 rfl) ?_
          refine th_get (ci := 14) (C := RX13) (T := TX13) (N := 97) (v := .ref (ad 68)) hx hb hts hinX13 hown hK hP hI 0 (Nat.le_of_ble_eq_true rfl) rfl rfl 92 (Nat.le_of_ble_eq_true rfl) (hts _ (vA_in _ _ (in_31 _ (zs16 (zs1 (zs1 (zs1 (zs0)))))))) (fun _ h9 => h9) (hI.fr 0 (Nat.le_of_ble_eq_true rfl) rfl (Nat.le_of_ble_eq_true rfl) 68 rfl) dX13_fitOf_48 ?_
          refine lv_iload_n hx hb dX13_fitOf_51 rfl (lv_at hl 2 rfl) ?_
          refine lv_iload hx hb dX13_fitOf_52 (lv_at hl 0 rfl) ?_
          have n59 : vp_in v4_2 20 := (iv_in (n := 20) i53 (by decide))
          refine th_iast hx hb hK hP (WX_D hD) hS hI 68 (Nat.le_of_ble_eq_true rfl) rfl rfl n59 (okI rfl (iv_all _)) dX13_fitOf_54 (fun H locs E60 pw61 hI hP hS => ?_)
          have hKp := hKp.pw pw61 rfl
          obtain ⟨y62, ey62⟩ : ∃ y : Int32, y = v4_2 + (1 : Int32) := ⟨_, rfl⟩
          obtain ⟨ty62, iy62⟩ := ti_add (e := 1) (f := 20) i53 ln_1 ey62 (by decide)
          have ty62 : y62.toInt = v4_2.toInt + 1 := ty62
          have iy62 : 1 ≤ y62.toInt ∧ y62.toInt ≤ 20 := iy62
          refine lv_iinc (v := y62) (lv' := [(2, .int y62), (4, .int r45), (3, .int v4_3), (0, .ref (ad 0)), (1, .int a0)]) hx hb dX13_fitOf_55 hl (k := 2) rfl (by rw [ey62]; rfl) (by decide) rfl (fun ls hl => ?_)
          obtain ⟨y63, ey63⟩ : ∃ y : Int32, y = v4_3 + (1 : Int32) := ⟨_, rfl⟩
          obtain ⟨ty63, iy63⟩ := ti_add (e := 1) (f := 20) i43 ln_1 ey63 (by decide)
          have ty63 : y63.toInt = v4_3.toInt + 1 := ty63
          have iy63 : 1 ≤ y63.toInt ∧ y63.toInt ≤ 20 := iy63
          refine lv_iinc (v := y63) (lv' := [(3, .int y63), (2, .int y62), (4, .int r45), (0, .ref (ad 0)), (1, .int a0)]) hx hb dX13_fitOf_58 hl (k := 2) rfl (by rw [ey63]; rfl) (by decide) rfl (fun ls hl => ?_)
          refine lv_goto (tgt := 4) hx hb dX13_fitOf_61 (by decide) ?_
          exact ih4 y63 y62 E60 _ _ _ (iv_w iy63 (by decide)) (iv_w iy62 (by decide)) (by have h9 := iy62; have h8 := iy63; omega) (by first | exact ms_su hx4_1 ty63 (by decide) | omega) hI hKp hP hS (lv_sub hl [0, 1, 3, 4] rfl)
        · --25 not
          have t64 : r45.toInt = -1000000000 := ti_eq c51
          have i65 : -1000000000 ≤ r45.toInt ∧ r45.toInt ≤ -1000000000 := iv_eqi t64 (iv_all _) (il_ (-1000000000)) (by decide)
          refine lv_goto (tgt := 58) hx hb dX13_fitOf_28 (by decide) ?_
          obtain ⟨y66, ey66⟩ : ∃ y : Int32, y = v4_3 + (1 : Int32) := ⟨_, rfl⟩
          obtain ⟨ty66, iy66⟩ := ti_add (e := 1) (f := 20) i43 ln_1 ey66 (by decide)
          have ty66 : y66.toInt = v4_3.toInt + 1 := ty66
          have iy66 : 1 ≤ y66.toInt ∧ y66.toInt ≤ 20 := iy66
          refine lv_iinc (v := y66) (lv' := [(3, .int y66), (4, .int r45), (2, .int v4_2), (0, .ref (ad 0)), (1, .int a0)]) hx hb dX13_fitOf_58 hl (k := 1) rfl (by rw [ey66]; rfl) (by decide) rfl (fun ls hl => ?_)
          refine lv_goto (tgt := 4) hx hb dX13_fitOf_61 (by decide) ?_
          exact ih4 y66 v4_2 E46 _ _ _ (iv_w iy66 (by decide)) hv4_2 (by have h9 := hv4_2; have h8 := iy66; omega) (by first | exact ms_su hx4_1 ty66 (by decide) | omega) hI hKp hP hS (lv_sub hl [0, 2, 3, 4] rfl)
  exact hL4 (21) (0 : Int32) (0 : Int32) E _ _ _ (iv_w ln_0 (by decide)) (iv_w ln_0 (by decide)) (by have h9 := ln_0; have h8 := ln_0; omega) (by have h9 := ln_0; first | exact ms_bu h9.1 (by decide) | omega) hI hKp hP hS (lv_sub hl [0, 1, 2, 3] rfl)
end

