set_option maxRecDepth 100000 in
theorem zh_dX13_findStates_0_0 : zc cX13_findStates 0 [17, 0, 128, 27, 104, 54, 6, 3, 54, 7, 2, 54, 8, 17, 0, 255] = true := by decide +kernel
set_option maxRecDepth 100000 in
theorem zh_dX13_findStates_16_16 : zc cX13_findStates 16 [54, 9, 3, 54, 10, 21, 10, 42, 180, 1, 204, 162, 0, 80, 42, 180] = true := by decide +kernel
set_option maxRecDepth 100000 in
theorem zh_dX13_findStates_31_32 : zc cX13_findStates 32 [0, 126, 21, 10, 46, 28, 160, 0, 63, 42, 180, 0, 129, 21, 10, 46] = true := by decide +kernel
set_option maxRecDepth 100000 in
theorem zh_dX13_findStates_48_48 : zc cX13_findStates 48 [29, 160, 0, 52, 42, 180, 0, 147, 21, 10, 46, 21, 5, 163, 0, 40] = true := by decide +kernel
set_option maxRecDepth 100000 in
theorem zh_dX13_findStates_64_64 : zc cX13_findStates 64 [42, 180, 0, 132, 21, 10, 46, 21, 4, 159, 0, 6, 167, 0, 25, 21] = true := by decide +kernel
set_option maxRecDepth 100000 in
theorem zh_dX13_findStates_79_80 : zc cX13_findStates 80 [9, 42, 180, 0, 144, 21, 10, 46, 126, 54, 9, 21, 8, 2, 160, 0] = true := by decide +kernel
set_option maxRecDepth 100000 in
theorem zh_dX13_findStates_94_96 : zc cX13_findStates 96 [7, 21, 10, 54, 8, 132, 10, 1, 167, 255, 173, 3, 54, 10, 21, 10] = true := by decide +kernel
set_option maxRecDepth 100000 in
theorem zh_dX13_findStates_112_112 : zc cX13_findStates 112 [16, 99, 163, 0, 132, 21, 8, 2, 159, 0, 126, 3, 54, 11, 21, 11] = true := by decide +kernel
set_option maxRecDepth 100000 in
theorem zh_dX13_findStates_128_128 : zc cX13_findStates 128 [16, 99, 163, 0, 110, 42, 21, 8, 21, 10, 21, 11, 182, 1, 211, 157] = true := by decide +kernel
set_option maxRecDepth 100000 in
theorem zh_dX13_findStates_143_144 : zc cX13_findStates 144 [0, 91, 42, 28, 29, 21, 4, 21, 5, 21, 10, 21, 11, 182, 1, 214] = true := by decide +kernel
set_option maxRecDepth 100000 in
theorem zh_dX13_findStates_160_160 : zc cX13_findStates 160 [154, 0, 6, 167, 0, 71, 3, 54, 12, 21, 12, 16, 8, 162, 0, 61] = true := by decide +kernel
set_option maxRecDepth 100000 in
theorem zh_dX13_findStates_176_176 : zc cX13_findStates 176 [21, 9, 21, 12, 122, 4, 126, 154, 0, 6, 167, 0, 42, 42, 180, 0] = true := by decide +kernel
set_option maxRecDepth 100000 in
theorem zh_dX13_findStates_190_192 : zc cX13_findStates 192 [180, 21, 6, 21, 7, 96, 21, 10, 79, 42, 180, 0, 183, 21, 6, 21] = true := by decide +kernel
set_option maxRecDepth 100000 in
theorem zh_dX13_findStates_207_208 : zc cX13_findStates 208 [7, 96, 21, 11, 79, 42, 180, 0, 186, 21, 6, 21, 7, 96, 21, 12] = true := by decide +kernel
set_option maxRecDepth 100000 in
theorem zh_dX13_findStates_224_224 : zc cX13_findStates 224 [79, 132, 7, 1, 132, 12, 1, 167, 255, 194, 132, 11, 1, 167, 255, 145] = true := by decide +kernel
set_option maxRecDepth 100000 in
theorem zh_dX13_findStates_240_240 : zc cX13_findStates 240 [132, 10, 1, 167, 255, 123, 42, 180, 0, 189, 27, 21, 7, 79, 177] = true := by decide +kernel
set_option maxRecDepth 100000 in
theorem zh_dX13_asksProtest_0_0 : zc cX13_asksProtest 0 [42, 3, 181, 0, 228, 27, 3, 42, 180, 1, 208, 4, 100, 184, 0, 235] = true := by decide +kernel
set_option maxRecDepth 100000 in
theorem zh_dX13_asksProtest_16_16 : zc cX13_asksProtest 16 [153, 0, 30, 28, 3, 4, 184, 0, 235, 153, 0, 21, 42, 29, 182, 0] = true := by decide +kernel
set_option maxRecDepth 100000 in
theorem zh_dX13_asksProtest_30_32 : zc cX13_asksProtest 32 [252, 153, 0, 13, 42, 180, 0, 162, 27, 46, 29, 164, 0, 5, 3, 172] = true := by decide +kernel
set_option maxRecDepth 100000 in
theorem zh_dX13_asksProtest_48_48 : zc cX13_asksProtest 48 [42, 3, 42, 180, 0, 150, 27, 46, 42, 180, 0, 153, 27, 46, 42, 180] = true := by decide +kernel
set_option maxRecDepth 100000 in
theorem zh_dX13_asksProtest_63_64 : zc cX13_asksProtest 64 [0, 159, 27, 46, 29, 182, 1, 221, 42, 4, 42, 180, 0, 150, 27, 46] = true := by decide +kernel
set_option maxRecDepth 100000 in
theorem zh_dX13_asksProtest_80_80 : zc cX13_asksProtest 80 [42, 180, 0, 156, 27, 46, 42, 180, 0, 159, 27, 46, 29, 182, 1, 221] = true := by decide +kernel
set_option maxRecDepth 100000 in
theorem zh_dX13_asksProtest_96_96 : zc cX13_asksProtest 96 [4, 172] = true := by decide +kernel
set_option maxRecDepth 100000 in
theorem zh_dX13_states_0_0 : zc cX13_states 0 [42, 27, 28, 29, 182, 1, 225, 153, 0, 12, 42, 180, 0, 189, 28, 46] = true := by decide +kernel
set_option maxRecDepth 100000 in
theorem zh_dX13_states_16_16 : zc cX13_states 16 [167, 0, 4, 2, 172] = true := by decide +kernel
theorem dX13_findStates_0 : decode cX13_findStates 0 = .ok (.sipush 128, 3) := zo_17 (zi_at zh_dX13_findStates_0_0 0 rfl) (zi_at zh_dX13_findStates_0_0 1 rfl) (zi_at zh_dX13_findStates_0_0 2 rfl) rfl
theorem dX13_findStates_3 : decode cX13_findStates 3 = .ok (.iload_n 1, 1) := zo_27 (zi_at zh_dX13_findStates_0_0 3 rfl)
theorem dX13_findStates_4 : decode cX13_findStates 4 = .ok (.imul, 1) := zo_104 (zi_at zh_dX13_findStates_0_0 4 rfl)
theorem dX13_findStates_5 : decode cX13_findStates 5 = .ok (.istore 6, 2) := zo_54 (zi_at zh_dX13_findStates_0_0 5 rfl) (zi_at zh_dX13_findStates_0_0 6 rfl)
theorem dX13_findStates_7 : decode cX13_findStates 7 = .ok (.iconst 0, 1) := zo_3 (zi_at zh_dX13_findStates_0_0 7 rfl)
theorem dX13_findStates_8 : decode cX13_findStates 8 = .ok (.istore 7, 2) := zo_54 (zi_at zh_dX13_findStates_0_0 8 rfl) (zi_at zh_dX13_findStates_0_0 9 rfl)
theorem dX13_findStates_10 : decode cX13_findStates 10 = .ok (.iconst (-1), 1) := zo_2 (zi_at zh_dX13_findStates_0_0 10 rfl)
theorem dX13_findStates_11 : decode cX13_findStates 11 = .ok (.istore 8, 2) := zo_54 (zi_at zh_dX13_findStates_0_0 11 rfl) (zi_at zh_dX13_findStates_0_0 12 rfl)
theorem dX13_findStates_13 : decode cX13_findStates 13 = .ok (.sipush 255, 3) := zo_17 (zi_at zh_dX13_findStates_0_0 13 rfl) (zi_at zh_dX13_findStates_0_0 14 rfl) (zi_at zh_dX13_findStates_0_0 15 rfl) rfl
theorem dX13_findStates_16 : decode cX13_findStates 16 = .ok (.istore 9, 2) := zo_54 (zi_at zh_dX13_findStates_16_16 0 rfl) (zi_at zh_dX13_findStates_16_16 1 rfl)
theorem dX13_findStates_18 : decode cX13_findStates 18 = .ok (.iconst 0, 1) := zo_3 (zi_at zh_dX13_findStates_16_16 2 rfl)
theorem dX13_findStates_19 : decode cX13_findStates 19 = .ok (.istore 10, 2) := zo_54 (zi_at zh_dX13_findStates_16_16 3 rfl) (zi_at zh_dX13_findStates_16_16 4 rfl)
theorem dX13_findStates_21 : decode cX13_findStates 21 = .ok (.iload 10, 2) := zo_21 (zi_at zh_dX13_findStates_16_16 5 rfl) (zi_at zh_dX13_findStates_16_16 6 rfl)
theorem dX13_findStates_23 : decode cX13_findStates 23 = .ok (.aload_n 0, 1) := zo_42 (zi_at zh_dX13_findStates_16_16 7 rfl)
theorem dX13_findStates_24 : decode cX13_findStates 24 = .ok (.getfield 460, 3) := zo_180 (zi_at zh_dX13_findStates_16_16 8 rfl) (zi_at zh_dX13_findStates_16_16 9 rfl) (zi_at zh_dX13_findStates_16_16 10 rfl) rfl
theorem dX13_findStates_27 : decode cX13_findStates 27 = .ok (.if_icmp .ge 80, 3) := zo_162 (zi_at zh_dX13_findStates_16_16 11 rfl) (zi_at zh_dX13_findStates_16_16 12 rfl) (zi_at zh_dX13_findStates_16_16 13 rfl) rfl
theorem dX13_findStates_30 : decode cX13_findStates 30 = .ok (.aload_n 0, 1) := zo_42 (zi_at zh_dX13_findStates_16_16 14 rfl)
theorem dX13_findStates_31 : decode cX13_findStates 31 = .ok (.getfield 126, 3) := zo_180 (zi_at zh_dX13_findStates_16_16 15 rfl) (zi_at zh_dX13_findStates_31_32 0 rfl) (zi_at zh_dX13_findStates_31_32 1 rfl) rfl
theorem dX13_findStates_34 : decode cX13_findStates 34 = .ok (.iload 10, 2) := zo_21 (zi_at zh_dX13_findStates_31_32 2 rfl) (zi_at zh_dX13_findStates_31_32 3 rfl)
theorem dX13_findStates_36 : decode cX13_findStates 36 = .ok (.iaload, 1) := zo_46 (zi_at zh_dX13_findStates_31_32 4 rfl)
theorem dX13_findStates_37 : decode cX13_findStates 37 = .ok (.iload_n 2, 1) := zo_28 (zi_at zh_dX13_findStates_31_32 5 rfl)
theorem dX13_findStates_38 : decode cX13_findStates 38 = .ok (.if_icmp .ne 63, 3) := zo_160 (zi_at zh_dX13_findStates_31_32 6 rfl) (zi_at zh_dX13_findStates_31_32 7 rfl) (zi_at zh_dX13_findStates_31_32 8 rfl) rfl
theorem dX13_findStates_41 : decode cX13_findStates 41 = .ok (.aload_n 0, 1) := zo_42 (zi_at zh_dX13_findStates_31_32 9 rfl)
theorem dX13_findStates_42 : decode cX13_findStates 42 = .ok (.getfield 129, 3) := zo_180 (zi_at zh_dX13_findStates_31_32 10 rfl) (zi_at zh_dX13_findStates_31_32 11 rfl) (zi_at zh_dX13_findStates_31_32 12 rfl) rfl
theorem dX13_findStates_45 : decode cX13_findStates 45 = .ok (.iload 10, 2) := zo_21 (zi_at zh_dX13_findStates_31_32 13 rfl) (zi_at zh_dX13_findStates_31_32 14 rfl)
theorem dX13_findStates_47 : decode cX13_findStates 47 = .ok (.iaload, 1) := zo_46 (zi_at zh_dX13_findStates_31_32 15 rfl)
theorem dX13_findStates_48 : decode cX13_findStates 48 = .ok (.iload_n 3, 1) := zo_29 (zi_at zh_dX13_findStates_48_48 0 rfl)
theorem dX13_findStates_49 : decode cX13_findStates 49 = .ok (.if_icmp .ne 52, 3) := zo_160 (zi_at zh_dX13_findStates_48_48 1 rfl) (zi_at zh_dX13_findStates_48_48 2 rfl) (zi_at zh_dX13_findStates_48_48 3 rfl) rfl
theorem dX13_findStates_52 : decode cX13_findStates 52 = .ok (.aload_n 0, 1) := zo_42 (zi_at zh_dX13_findStates_48_48 4 rfl)
theorem dX13_findStates_53 : decode cX13_findStates 53 = .ok (.getfield 147, 3) := zo_180 (zi_at zh_dX13_findStates_48_48 5 rfl) (zi_at zh_dX13_findStates_48_48 6 rfl) (zi_at zh_dX13_findStates_48_48 7 rfl) rfl
theorem dX13_findStates_56 : decode cX13_findStates 56 = .ok (.iload 10, 2) := zo_21 (zi_at zh_dX13_findStates_48_48 8 rfl) (zi_at zh_dX13_findStates_48_48 9 rfl)
theorem dX13_findStates_58 : decode cX13_findStates 58 = .ok (.iaload, 1) := zo_46 (zi_at zh_dX13_findStates_48_48 10 rfl)
theorem dX13_findStates_59 : decode cX13_findStates 59 = .ok (.iload 5, 2) := zo_21 (zi_at zh_dX13_findStates_48_48 11 rfl) (zi_at zh_dX13_findStates_48_48 12 rfl)
theorem dX13_findStates_61 : decode cX13_findStates 61 = .ok (.if_icmp .gt 40, 3) := zo_163 (zi_at zh_dX13_findStates_48_48 13 rfl) (zi_at zh_dX13_findStates_48_48 14 rfl) (zi_at zh_dX13_findStates_48_48 15 rfl) rfl
theorem dX13_findStates_64 : decode cX13_findStates 64 = .ok (.aload_n 0, 1) := zo_42 (zi_at zh_dX13_findStates_64_64 0 rfl)
theorem dX13_findStates_65 : decode cX13_findStates 65 = .ok (.getfield 132, 3) := zo_180 (zi_at zh_dX13_findStates_64_64 1 rfl) (zi_at zh_dX13_findStates_64_64 2 rfl) (zi_at zh_dX13_findStates_64_64 3 rfl) rfl
theorem dX13_findStates_68 : decode cX13_findStates 68 = .ok (.iload 10, 2) := zo_21 (zi_at zh_dX13_findStates_64_64 4 rfl) (zi_at zh_dX13_findStates_64_64 5 rfl)
theorem dX13_findStates_70 : decode cX13_findStates 70 = .ok (.iaload, 1) := zo_46 (zi_at zh_dX13_findStates_64_64 6 rfl)
theorem dX13_findStates_71 : decode cX13_findStates 71 = .ok (.iload 4, 2) := zo_21 (zi_at zh_dX13_findStates_64_64 7 rfl) (zi_at zh_dX13_findStates_64_64 8 rfl)
theorem dX13_findStates_73 : decode cX13_findStates 73 = .ok (.if_icmp .eq 6, 3) := zo_159 (zi_at zh_dX13_findStates_64_64 9 rfl) (zi_at zh_dX13_findStates_64_64 10 rfl) (zi_at zh_dX13_findStates_64_64 11 rfl) rfl
theorem dX13_findStates_76 : decode cX13_findStates 76 = .ok (.goto 25, 3) := zo_167 (zi_at zh_dX13_findStates_64_64 12 rfl) (zi_at zh_dX13_findStates_64_64 13 rfl) (zi_at zh_dX13_findStates_64_64 14 rfl) rfl
theorem dX13_findStates_79 : decode cX13_findStates 79 = .ok (.iload 9, 2) := zo_21 (zi_at zh_dX13_findStates_64_64 15 rfl) (zi_at zh_dX13_findStates_79_80 0 rfl)
theorem dX13_findStates_81 : decode cX13_findStates 81 = .ok (.aload_n 0, 1) := zo_42 (zi_at zh_dX13_findStates_79_80 1 rfl)
theorem dX13_findStates_82 : decode cX13_findStates 82 = .ok (.getfield 144, 3) := zo_180 (zi_at zh_dX13_findStates_79_80 2 rfl) (zi_at zh_dX13_findStates_79_80 3 rfl) (zi_at zh_dX13_findStates_79_80 4 rfl) rfl
theorem dX13_findStates_85 : decode cX13_findStates 85 = .ok (.iload 10, 2) := zo_21 (zi_at zh_dX13_findStates_79_80 5 rfl) (zi_at zh_dX13_findStates_79_80 6 rfl)
theorem dX13_findStates_87 : decode cX13_findStates 87 = .ok (.iaload, 1) := zo_46 (zi_at zh_dX13_findStates_79_80 7 rfl)
theorem dX13_findStates_88 : decode cX13_findStates 88 = .ok (.iand, 1) := zo_126 (zi_at zh_dX13_findStates_79_80 8 rfl)
theorem dX13_findStates_89 : decode cX13_findStates 89 = .ok (.istore 9, 2) := zo_54 (zi_at zh_dX13_findStates_79_80 9 rfl) (zi_at zh_dX13_findStates_79_80 10 rfl)
theorem dX13_findStates_91 : decode cX13_findStates 91 = .ok (.iload 8, 2) := zo_21 (zi_at zh_dX13_findStates_79_80 11 rfl) (zi_at zh_dX13_findStates_79_80 12 rfl)
theorem dX13_findStates_93 : decode cX13_findStates 93 = .ok (.iconst (-1), 1) := zo_2 (zi_at zh_dX13_findStates_79_80 13 rfl)
theorem dX13_findStates_94 : decode cX13_findStates 94 = .ok (.if_icmp .ne 7, 3) := zo_160 (zi_at zh_dX13_findStates_79_80 14 rfl) (zi_at zh_dX13_findStates_79_80 15 rfl) (zi_at zh_dX13_findStates_94_96 0 rfl) rfl
theorem dX13_findStates_97 : decode cX13_findStates 97 = .ok (.iload 10, 2) := zo_21 (zi_at zh_dX13_findStates_94_96 1 rfl) (zi_at zh_dX13_findStates_94_96 2 rfl)
theorem dX13_findStates_99 : decode cX13_findStates 99 = .ok (.istore 8, 2) := zo_54 (zi_at zh_dX13_findStates_94_96 3 rfl) (zi_at zh_dX13_findStates_94_96 4 rfl)
theorem dX13_findStates_101 : decode cX13_findStates 101 = .ok (.iinc 10 1, 3) := zo_132 (zi_at zh_dX13_findStates_94_96 5 rfl) (zi_at zh_dX13_findStates_94_96 6 rfl) (zi_at zh_dX13_findStates_94_96 7 rfl) rfl
theorem dX13_findStates_104 : decode cX13_findStates 104 = .ok (.goto (-83), 3) := zo_167 (zi_at zh_dX13_findStates_94_96 8 rfl) (zi_at zh_dX13_findStates_94_96 9 rfl) (zi_at zh_dX13_findStates_94_96 10 rfl) rfl
theorem dX13_findStates_107 : decode cX13_findStates 107 = .ok (.iconst 0, 1) := zo_3 (zi_at zh_dX13_findStates_94_96 11 rfl)
theorem dX13_findStates_108 : decode cX13_findStates 108 = .ok (.istore 10, 2) := zo_54 (zi_at zh_dX13_findStates_94_96 12 rfl) (zi_at zh_dX13_findStates_94_96 13 rfl)
theorem dX13_findStates_110 : decode cX13_findStates 110 = .ok (.iload 10, 2) := zo_21 (zi_at zh_dX13_findStates_94_96 14 rfl) (zi_at zh_dX13_findStates_94_96 15 rfl)
theorem dX13_findStates_112 : decode cX13_findStates 112 = .ok (.bipush 99, 2) := zo_16 (zi_at zh_dX13_findStates_112_112 0 rfl) (zi_at zh_dX13_findStates_112_112 1 rfl) rfl
theorem dX13_findStates_114 : decode cX13_findStates 114 = .ok (.if_icmp .gt 132, 3) := zo_163 (zi_at zh_dX13_findStates_112_112 2 rfl) (zi_at zh_dX13_findStates_112_112 3 rfl) (zi_at zh_dX13_findStates_112_112 4 rfl) rfl
theorem dX13_findStates_117 : decode cX13_findStates 117 = .ok (.iload 8, 2) := zo_21 (zi_at zh_dX13_findStates_112_112 5 rfl) (zi_at zh_dX13_findStates_112_112 6 rfl)
theorem dX13_findStates_119 : decode cX13_findStates 119 = .ok (.iconst (-1), 1) := zo_2 (zi_at zh_dX13_findStates_112_112 7 rfl)
theorem dX13_findStates_120 : decode cX13_findStates 120 = .ok (.if_icmp .eq 126, 3) := zo_159 (zi_at zh_dX13_findStates_112_112 8 rfl) (zi_at zh_dX13_findStates_112_112 9 rfl) (zi_at zh_dX13_findStates_112_112 10 rfl) rfl
theorem dX13_findStates_123 : decode cX13_findStates 123 = .ok (.iconst 0, 1) := zo_3 (zi_at zh_dX13_findStates_112_112 11 rfl)
theorem dX13_findStates_124 : decode cX13_findStates 124 = .ok (.istore 11, 2) := zo_54 (zi_at zh_dX13_findStates_112_112 12 rfl) (zi_at zh_dX13_findStates_112_112 13 rfl)
theorem dX13_findStates_126 : decode cX13_findStates 126 = .ok (.iload 11, 2) := zo_21 (zi_at zh_dX13_findStates_112_112 14 rfl) (zi_at zh_dX13_findStates_112_112 15 rfl)
theorem dX13_findStates_128 : decode cX13_findStates 128 = .ok (.bipush 99, 2) := zo_16 (zi_at zh_dX13_findStates_128_128 0 rfl) (zi_at zh_dX13_findStates_128_128 1 rfl) rfl
theorem dX13_findStates_130 : decode cX13_findStates 130 = .ok (.if_icmp .gt 110, 3) := zo_163 (zi_at zh_dX13_findStates_128_128 2 rfl) (zi_at zh_dX13_findStates_128_128 3 rfl) (zi_at zh_dX13_findStates_128_128 4 rfl) rfl
theorem dX13_findStates_133 : decode cX13_findStates 133 = .ok (.aload_n 0, 1) := zo_42 (zi_at zh_dX13_findStates_128_128 5 rfl)
theorem dX13_findStates_134 : decode cX13_findStates 134 = .ok (.iload 8, 2) := zo_21 (zi_at zh_dX13_findStates_128_128 6 rfl) (zi_at zh_dX13_findStates_128_128 7 rfl)
theorem dX13_findStates_136 : decode cX13_findStates 136 = .ok (.iload 10, 2) := zo_21 (zi_at zh_dX13_findStates_128_128 8 rfl) (zi_at zh_dX13_findStates_128_128 9 rfl)
theorem dX13_findStates_138 : decode cX13_findStates 138 = .ok (.iload 11, 2) := zo_21 (zi_at zh_dX13_findStates_128_128 10 rfl) (zi_at zh_dX13_findStates_128_128 11 rfl)
theorem dX13_findStates_140 : decode cX13_findStates 140 = .ok (.invokevirtual 467, 3) := zo_182 (zi_at zh_dX13_findStates_128_128 12 rfl) (zi_at zh_dX13_findStates_128_128 13 rfl) (zi_at zh_dX13_findStates_128_128 14 rfl) rfl
theorem dX13_findStates_143 : decode cX13_findStates 143 = .ok (.ifCond .gt 91, 3) := zo_157 (zi_at zh_dX13_findStates_128_128 15 rfl) (zi_at zh_dX13_findStates_143_144 0 rfl) (zi_at zh_dX13_findStates_143_144 1 rfl) rfl
theorem dX13_findStates_146 : decode cX13_findStates 146 = .ok (.aload_n 0, 1) := zo_42 (zi_at zh_dX13_findStates_143_144 2 rfl)
theorem dX13_findStates_147 : decode cX13_findStates 147 = .ok (.iload_n 2, 1) := zo_28 (zi_at zh_dX13_findStates_143_144 3 rfl)
theorem dX13_findStates_148 : decode cX13_findStates 148 = .ok (.iload_n 3, 1) := zo_29 (zi_at zh_dX13_findStates_143_144 4 rfl)
theorem dX13_findStates_149 : decode cX13_findStates 149 = .ok (.iload 4, 2) := zo_21 (zi_at zh_dX13_findStates_143_144 5 rfl) (zi_at zh_dX13_findStates_143_144 6 rfl)
theorem dX13_findStates_151 : decode cX13_findStates 151 = .ok (.iload 5, 2) := zo_21 (zi_at zh_dX13_findStates_143_144 7 rfl) (zi_at zh_dX13_findStates_143_144 8 rfl)
theorem dX13_findStates_153 : decode cX13_findStates 153 = .ok (.iload 10, 2) := zo_21 (zi_at zh_dX13_findStates_143_144 9 rfl) (zi_at zh_dX13_findStates_143_144 10 rfl)
theorem dX13_findStates_155 : decode cX13_findStates 155 = .ok (.iload 11, 2) := zo_21 (zi_at zh_dX13_findStates_143_144 11 rfl) (zi_at zh_dX13_findStates_143_144 12 rfl)
theorem dX13_findStates_157 : decode cX13_findStates 157 = .ok (.invokevirtual 470, 3) := zo_182 (zi_at zh_dX13_findStates_143_144 13 rfl) (zi_at zh_dX13_findStates_143_144 14 rfl) (zi_at zh_dX13_findStates_143_144 15 rfl) rfl
theorem dX13_findStates_160 : decode cX13_findStates 160 = .ok (.ifCond .ne 6, 3) := zo_154 (zi_at zh_dX13_findStates_160_160 0 rfl) (zi_at zh_dX13_findStates_160_160 1 rfl) (zi_at zh_dX13_findStates_160_160 2 rfl) rfl
theorem dX13_findStates_163 : decode cX13_findStates 163 = .ok (.goto 71, 3) := zo_167 (zi_at zh_dX13_findStates_160_160 3 rfl) (zi_at zh_dX13_findStates_160_160 4 rfl) (zi_at zh_dX13_findStates_160_160 5 rfl) rfl
theorem dX13_findStates_166 : decode cX13_findStates 166 = .ok (.iconst 0, 1) := zo_3 (zi_at zh_dX13_findStates_160_160 6 rfl)
theorem dX13_findStates_167 : decode cX13_findStates 167 = .ok (.istore 12, 2) := zo_54 (zi_at zh_dX13_findStates_160_160 7 rfl) (zi_at zh_dX13_findStates_160_160 8 rfl)
theorem dX13_findStates_169 : decode cX13_findStates 169 = .ok (.iload 12, 2) := zo_21 (zi_at zh_dX13_findStates_160_160 9 rfl) (zi_at zh_dX13_findStates_160_160 10 rfl)
theorem dX13_findStates_171 : decode cX13_findStates 171 = .ok (.bipush 8, 2) := zo_16 (zi_at zh_dX13_findStates_160_160 11 rfl) (zi_at zh_dX13_findStates_160_160 12 rfl) rfl
theorem dX13_findStates_173 : decode cX13_findStates 173 = .ok (.if_icmp .ge 61, 3) := zo_162 (zi_at zh_dX13_findStates_160_160 13 rfl) (zi_at zh_dX13_findStates_160_160 14 rfl) (zi_at zh_dX13_findStates_160_160 15 rfl) rfl
theorem dX13_findStates_176 : decode cX13_findStates 176 = .ok (.iload 9, 2) := zo_21 (zi_at zh_dX13_findStates_176_176 0 rfl) (zi_at zh_dX13_findStates_176_176 1 rfl)
theorem dX13_findStates_178 : decode cX13_findStates 178 = .ok (.iload 12, 2) := zo_21 (zi_at zh_dX13_findStates_176_176 2 rfl) (zi_at zh_dX13_findStates_176_176 3 rfl)
theorem dX13_findStates_180 : decode cX13_findStates 180 = .ok (.ishr, 1) := zo_122 (zi_at zh_dX13_findStates_176_176 4 rfl)
theorem dX13_findStates_181 : decode cX13_findStates 181 = .ok (.iconst 1, 1) := zo_4 (zi_at zh_dX13_findStates_176_176 5 rfl)
theorem dX13_findStates_182 : decode cX13_findStates 182 = .ok (.iand, 1) := zo_126 (zi_at zh_dX13_findStates_176_176 6 rfl)
theorem dX13_findStates_183 : decode cX13_findStates 183 = .ok (.ifCond .ne 6, 3) := zo_154 (zi_at zh_dX13_findStates_176_176 7 rfl) (zi_at zh_dX13_findStates_176_176 8 rfl) (zi_at zh_dX13_findStates_176_176 9 rfl) rfl
theorem dX13_findStates_186 : decode cX13_findStates 186 = .ok (.goto 42, 3) := zo_167 (zi_at zh_dX13_findStates_176_176 10 rfl) (zi_at zh_dX13_findStates_176_176 11 rfl) (zi_at zh_dX13_findStates_176_176 12 rfl) rfl
theorem dX13_findStates_189 : decode cX13_findStates 189 = .ok (.aload_n 0, 1) := zo_42 (zi_at zh_dX13_findStates_176_176 13 rfl)
theorem dX13_findStates_190 : decode cX13_findStates 190 = .ok (.getfield 180, 3) := zo_180 (zi_at zh_dX13_findStates_176_176 14 rfl) (zi_at zh_dX13_findStates_176_176 15 rfl) (zi_at zh_dX13_findStates_190_192 0 rfl) rfl
theorem dX13_findStates_193 : decode cX13_findStates 193 = .ok (.iload 6, 2) := zo_21 (zi_at zh_dX13_findStates_190_192 1 rfl) (zi_at zh_dX13_findStates_190_192 2 rfl)
theorem dX13_findStates_195 : decode cX13_findStates 195 = .ok (.iload 7, 2) := zo_21 (zi_at zh_dX13_findStates_190_192 3 rfl) (zi_at zh_dX13_findStates_190_192 4 rfl)
theorem dX13_findStates_197 : decode cX13_findStates 197 = .ok (.iadd, 1) := zo_96 (zi_at zh_dX13_findStates_190_192 5 rfl)
theorem dX13_findStates_198 : decode cX13_findStates 198 = .ok (.iload 10, 2) := zo_21 (zi_at zh_dX13_findStates_190_192 6 rfl) (zi_at zh_dX13_findStates_190_192 7 rfl)
theorem dX13_findStates_200 : decode cX13_findStates 200 = .ok (.iastore, 1) := zo_79 (zi_at zh_dX13_findStates_190_192 8 rfl)
theorem dX13_findStates_201 : decode cX13_findStates 201 = .ok (.aload_n 0, 1) := zo_42 (zi_at zh_dX13_findStates_190_192 9 rfl)
theorem dX13_findStates_202 : decode cX13_findStates 202 = .ok (.getfield 183, 3) := zo_180 (zi_at zh_dX13_findStates_190_192 10 rfl) (zi_at zh_dX13_findStates_190_192 11 rfl) (zi_at zh_dX13_findStates_190_192 12 rfl) rfl
theorem dX13_findStates_205 : decode cX13_findStates 205 = .ok (.iload 6, 2) := zo_21 (zi_at zh_dX13_findStates_190_192 13 rfl) (zi_at zh_dX13_findStates_190_192 14 rfl)
theorem dX13_findStates_207 : decode cX13_findStates 207 = .ok (.iload 7, 2) := zo_21 (zi_at zh_dX13_findStates_190_192 15 rfl) (zi_at zh_dX13_findStates_207_208 0 rfl)
theorem dX13_findStates_209 : decode cX13_findStates 209 = .ok (.iadd, 1) := zo_96 (zi_at zh_dX13_findStates_207_208 1 rfl)
theorem dX13_findStates_210 : decode cX13_findStates 210 = .ok (.iload 11, 2) := zo_21 (zi_at zh_dX13_findStates_207_208 2 rfl) (zi_at zh_dX13_findStates_207_208 3 rfl)
theorem dX13_findStates_212 : decode cX13_findStates 212 = .ok (.iastore, 1) := zo_79 (zi_at zh_dX13_findStates_207_208 4 rfl)
theorem dX13_findStates_213 : decode cX13_findStates 213 = .ok (.aload_n 0, 1) := zo_42 (zi_at zh_dX13_findStates_207_208 5 rfl)
theorem dX13_findStates_214 : decode cX13_findStates 214 = .ok (.getfield 186, 3) := zo_180 (zi_at zh_dX13_findStates_207_208 6 rfl) (zi_at zh_dX13_findStates_207_208 7 rfl) (zi_at zh_dX13_findStates_207_208 8 rfl) rfl
theorem dX13_findStates_217 : decode cX13_findStates 217 = .ok (.iload 6, 2) := zo_21 (zi_at zh_dX13_findStates_207_208 9 rfl) (zi_at zh_dX13_findStates_207_208 10 rfl)
theorem dX13_findStates_219 : decode cX13_findStates 219 = .ok (.iload 7, 2) := zo_21 (zi_at zh_dX13_findStates_207_208 11 rfl) (zi_at zh_dX13_findStates_207_208 12 rfl)
theorem dX13_findStates_221 : decode cX13_findStates 221 = .ok (.iadd, 1) := zo_96 (zi_at zh_dX13_findStates_207_208 13 rfl)
theorem dX13_findStates_222 : decode cX13_findStates 222 = .ok (.iload 12, 2) := zo_21 (zi_at zh_dX13_findStates_207_208 14 rfl) (zi_at zh_dX13_findStates_207_208 15 rfl)
theorem dX13_findStates_224 : decode cX13_findStates 224 = .ok (.iastore, 1) := zo_79 (zi_at zh_dX13_findStates_224_224 0 rfl)
theorem dX13_findStates_225 : decode cX13_findStates 225 = .ok (.iinc 7 1, 3) := zo_132 (zi_at zh_dX13_findStates_224_224 1 rfl) (zi_at zh_dX13_findStates_224_224 2 rfl) (zi_at zh_dX13_findStates_224_224 3 rfl) rfl
theorem dX13_findStates_228 : decode cX13_findStates 228 = .ok (.iinc 12 1, 3) := zo_132 (zi_at zh_dX13_findStates_224_224 4 rfl) (zi_at zh_dX13_findStates_224_224 5 rfl) (zi_at zh_dX13_findStates_224_224 6 rfl) rfl
theorem dX13_findStates_231 : decode cX13_findStates 231 = .ok (.goto (-62), 3) := zo_167 (zi_at zh_dX13_findStates_224_224 7 rfl) (zi_at zh_dX13_findStates_224_224 8 rfl) (zi_at zh_dX13_findStates_224_224 9 rfl) rfl
theorem dX13_findStates_234 : decode cX13_findStates 234 = .ok (.iinc 11 1, 3) := zo_132 (zi_at zh_dX13_findStates_224_224 10 rfl) (zi_at zh_dX13_findStates_224_224 11 rfl) (zi_at zh_dX13_findStates_224_224 12 rfl) rfl
theorem dX13_findStates_237 : decode cX13_findStates 237 = .ok (.goto (-111), 3) := zo_167 (zi_at zh_dX13_findStates_224_224 13 rfl) (zi_at zh_dX13_findStates_224_224 14 rfl) (zi_at zh_dX13_findStates_224_224 15 rfl) rfl
theorem dX13_findStates_240 : decode cX13_findStates 240 = .ok (.iinc 10 1, 3) := zo_132 (zi_at zh_dX13_findStates_240_240 0 rfl) (zi_at zh_dX13_findStates_240_240 1 rfl) (zi_at zh_dX13_findStates_240_240 2 rfl) rfl
theorem dX13_findStates_243 : decode cX13_findStates 243 = .ok (.goto (-133), 3) := zo_167 (zi_at zh_dX13_findStates_240_240 3 rfl) (zi_at zh_dX13_findStates_240_240 4 rfl) (zi_at zh_dX13_findStates_240_240 5 rfl) rfl
theorem dX13_findStates_246 : decode cX13_findStates 246 = .ok (.aload_n 0, 1) := zo_42 (zi_at zh_dX13_findStates_240_240 6 rfl)
theorem dX13_findStates_247 : decode cX13_findStates 247 = .ok (.getfield 189, 3) := zo_180 (zi_at zh_dX13_findStates_240_240 7 rfl) (zi_at zh_dX13_findStates_240_240 8 rfl) (zi_at zh_dX13_findStates_240_240 9 rfl) rfl
theorem dX13_findStates_250 : decode cX13_findStates 250 = .ok (.iload_n 1, 1) := zo_27 (zi_at zh_dX13_findStates_240_240 10 rfl)
theorem dX13_findStates_251 : decode cX13_findStates 251 = .ok (.iload 7, 2) := zo_21 (zi_at zh_dX13_findStates_240_240 11 rfl) (zi_at zh_dX13_findStates_240_240 12 rfl)
theorem dX13_findStates_253 : decode cX13_findStates 253 = .ok (.iastore, 1) := zo_79 (zi_at zh_dX13_findStates_240_240 13 rfl)
theorem dX13_findStates_254 : decode cX13_findStates 254 = .ok (.return_, 1) := zo_177 (zi_at zh_dX13_findStates_240_240 14 rfl)
theorem dX13_asksProtest_0 : decode cX13_asksProtest 0 = .ok (.aload_n 0, 1) := zo_42 (zi_at zh_dX13_asksProtest_0_0 0 rfl)
theorem dX13_asksProtest_1 : decode cX13_asksProtest 1 = .ok (.iconst 0, 1) := zo_3 (zi_at zh_dX13_asksProtest_0_0 1 rfl)
theorem dX13_asksProtest_2 : decode cX13_asksProtest 2 = .ok (.putfield 228, 3) := zo_181 (zi_at zh_dX13_asksProtest_0_0 2 rfl) (zi_at zh_dX13_asksProtest_0_0 3 rfl) (zi_at zh_dX13_asksProtest_0_0 4 rfl) rfl
theorem dX13_asksProtest_5 : decode cX13_asksProtest 5 = .ok (.iload_n 1, 1) := zo_27 (zi_at zh_dX13_asksProtest_0_0 5 rfl)
theorem dX13_asksProtest_6 : decode cX13_asksProtest 6 = .ok (.iconst 0, 1) := zo_3 (zi_at zh_dX13_asksProtest_0_0 6 rfl)
theorem dX13_asksProtest_7 : decode cX13_asksProtest 7 = .ok (.aload_n 0, 1) := zo_42 (zi_at zh_dX13_asksProtest_0_0 7 rfl)
theorem dX13_asksProtest_8 : decode cX13_asksProtest 8 = .ok (.getfield 464, 3) := zo_180 (zi_at zh_dX13_asksProtest_0_0 8 rfl) (zi_at zh_dX13_asksProtest_0_0 9 rfl) (zi_at zh_dX13_asksProtest_0_0 10 rfl) rfl
theorem dX13_asksProtest_11 : decode cX13_asksProtest 11 = .ok (.iconst 1, 1) := zo_4 (zi_at zh_dX13_asksProtest_0_0 11 rfl)
theorem dX13_asksProtest_12 : decode cX13_asksProtest 12 = .ok (.isub, 1) := zo_100 (zi_at zh_dX13_asksProtest_0_0 12 rfl)
theorem dX13_asksProtest_13 : decode cX13_asksProtest 13 = .ok (.invokestatic 235, 3) := zo_184 (zi_at zh_dX13_asksProtest_0_0 13 rfl) (zi_at zh_dX13_asksProtest_0_0 14 rfl) (zi_at zh_dX13_asksProtest_0_0 15 rfl) rfl
theorem dX13_asksProtest_16 : decode cX13_asksProtest 16 = .ok (.ifCond .eq 30, 3) := zo_153 (zi_at zh_dX13_asksProtest_16_16 0 rfl) (zi_at zh_dX13_asksProtest_16_16 1 rfl) (zi_at zh_dX13_asksProtest_16_16 2 rfl) rfl
theorem dX13_asksProtest_19 : decode cX13_asksProtest 19 = .ok (.iload_n 2, 1) := zo_28 (zi_at zh_dX13_asksProtest_16_16 3 rfl)
theorem dX13_asksProtest_20 : decode cX13_asksProtest 20 = .ok (.iconst 0, 1) := zo_3 (zi_at zh_dX13_asksProtest_16_16 4 rfl)
theorem dX13_asksProtest_21 : decode cX13_asksProtest 21 = .ok (.iconst 1, 1) := zo_4 (zi_at zh_dX13_asksProtest_16_16 5 rfl)
theorem dX13_asksProtest_22 : decode cX13_asksProtest 22 = .ok (.invokestatic 235, 3) := zo_184 (zi_at zh_dX13_asksProtest_16_16 6 rfl) (zi_at zh_dX13_asksProtest_16_16 7 rfl) (zi_at zh_dX13_asksProtest_16_16 8 rfl) rfl
theorem dX13_asksProtest_25 : decode cX13_asksProtest 25 = .ok (.ifCond .eq 21, 3) := zo_153 (zi_at zh_dX13_asksProtest_16_16 9 rfl) (zi_at zh_dX13_asksProtest_16_16 10 rfl) (zi_at zh_dX13_asksProtest_16_16 11 rfl) rfl
theorem dX13_asksProtest_28 : decode cX13_asksProtest 28 = .ok (.aload_n 0, 1) := zo_42 (zi_at zh_dX13_asksProtest_16_16 12 rfl)
theorem dX13_asksProtest_29 : decode cX13_asksProtest 29 = .ok (.iload_n 3, 1) := zo_29 (zi_at zh_dX13_asksProtest_16_16 13 rfl)
theorem dX13_asksProtest_30 : decode cX13_asksProtest 30 = .ok (.invokevirtual 252, 3) := zo_182 (zi_at zh_dX13_asksProtest_16_16 14 rfl) (zi_at zh_dX13_asksProtest_16_16 15 rfl) (zi_at zh_dX13_asksProtest_30_32 0 rfl) rfl
theorem dX13_asksProtest_33 : decode cX13_asksProtest 33 = .ok (.ifCond .eq 13, 3) := zo_153 (zi_at zh_dX13_asksProtest_30_32 1 rfl) (zi_at zh_dX13_asksProtest_30_32 2 rfl) (zi_at zh_dX13_asksProtest_30_32 3 rfl) rfl
theorem dX13_asksProtest_36 : decode cX13_asksProtest 36 = .ok (.aload_n 0, 1) := zo_42 (zi_at zh_dX13_asksProtest_30_32 4 rfl)
theorem dX13_asksProtest_37 : decode cX13_asksProtest 37 = .ok (.getfield 162, 3) := zo_180 (zi_at zh_dX13_asksProtest_30_32 5 rfl) (zi_at zh_dX13_asksProtest_30_32 6 rfl) (zi_at zh_dX13_asksProtest_30_32 7 rfl) rfl
theorem dX13_asksProtest_40 : decode cX13_asksProtest 40 = .ok (.iload_n 1, 1) := zo_27 (zi_at zh_dX13_asksProtest_30_32 8 rfl)
theorem dX13_asksProtest_41 : decode cX13_asksProtest 41 = .ok (.iaload, 1) := zo_46 (zi_at zh_dX13_asksProtest_30_32 9 rfl)
theorem dX13_asksProtest_42 : decode cX13_asksProtest 42 = .ok (.iload_n 3, 1) := zo_29 (zi_at zh_dX13_asksProtest_30_32 10 rfl)
theorem dX13_asksProtest_43 : decode cX13_asksProtest 43 = .ok (.if_icmp .le 5, 3) := zo_164 (zi_at zh_dX13_asksProtest_30_32 11 rfl) (zi_at zh_dX13_asksProtest_30_32 12 rfl) (zi_at zh_dX13_asksProtest_30_32 13 rfl) rfl
theorem dX13_asksProtest_46 : decode cX13_asksProtest 46 = .ok (.iconst 0, 1) := zo_3 (zi_at zh_dX13_asksProtest_30_32 14 rfl)
theorem dX13_asksProtest_47 : decode cX13_asksProtest 47 = .ok (.ireturn, 1) := zo_172 (zi_at zh_dX13_asksProtest_30_32 15 rfl)
theorem dX13_asksProtest_48 : decode cX13_asksProtest 48 = .ok (.aload_n 0, 1) := zo_42 (zi_at zh_dX13_asksProtest_48_48 0 rfl)
theorem dX13_asksProtest_49 : decode cX13_asksProtest 49 = .ok (.iconst 0, 1) := zo_3 (zi_at zh_dX13_asksProtest_48_48 1 rfl)
theorem dX13_asksProtest_50 : decode cX13_asksProtest 50 = .ok (.aload_n 0, 1) := zo_42 (zi_at zh_dX13_asksProtest_48_48 2 rfl)
theorem dX13_asksProtest_51 : decode cX13_asksProtest 51 = .ok (.getfield 150, 3) := zo_180 (zi_at zh_dX13_asksProtest_48_48 3 rfl) (zi_at zh_dX13_asksProtest_48_48 4 rfl) (zi_at zh_dX13_asksProtest_48_48 5 rfl) rfl
theorem dX13_asksProtest_54 : decode cX13_asksProtest 54 = .ok (.iload_n 1, 1) := zo_27 (zi_at zh_dX13_asksProtest_48_48 6 rfl)
theorem dX13_asksProtest_55 : decode cX13_asksProtest 55 = .ok (.iaload, 1) := zo_46 (zi_at zh_dX13_asksProtest_48_48 7 rfl)
theorem dX13_asksProtest_56 : decode cX13_asksProtest 56 = .ok (.aload_n 0, 1) := zo_42 (zi_at zh_dX13_asksProtest_48_48 8 rfl)
theorem dX13_asksProtest_57 : decode cX13_asksProtest 57 = .ok (.getfield 153, 3) := zo_180 (zi_at zh_dX13_asksProtest_48_48 9 rfl) (zi_at zh_dX13_asksProtest_48_48 10 rfl) (zi_at zh_dX13_asksProtest_48_48 11 rfl) rfl
theorem dX13_asksProtest_60 : decode cX13_asksProtest 60 = .ok (.iload_n 1, 1) := zo_27 (zi_at zh_dX13_asksProtest_48_48 12 rfl)
theorem dX13_asksProtest_61 : decode cX13_asksProtest 61 = .ok (.iaload, 1) := zo_46 (zi_at zh_dX13_asksProtest_48_48 13 rfl)
theorem dX13_asksProtest_62 : decode cX13_asksProtest 62 = .ok (.aload_n 0, 1) := zo_42 (zi_at zh_dX13_asksProtest_48_48 14 rfl)
theorem dX13_asksProtest_63 : decode cX13_asksProtest 63 = .ok (.getfield 159, 3) := zo_180 (zi_at zh_dX13_asksProtest_48_48 15 rfl) (zi_at zh_dX13_asksProtest_63_64 0 rfl) (zi_at zh_dX13_asksProtest_63_64 1 rfl) rfl
theorem dX13_asksProtest_66 : decode cX13_asksProtest 66 = .ok (.iload_n 1, 1) := zo_27 (zi_at zh_dX13_asksProtest_63_64 2 rfl)
theorem dX13_asksProtest_67 : decode cX13_asksProtest 67 = .ok (.iaload, 1) := zo_46 (zi_at zh_dX13_asksProtest_63_64 3 rfl)
theorem dX13_asksProtest_68 : decode cX13_asksProtest 68 = .ok (.iload_n 3, 1) := zo_29 (zi_at zh_dX13_asksProtest_63_64 4 rfl)
theorem dX13_asksProtest_69 : decode cX13_asksProtest 69 = .ok (.invokevirtual 477, 3) := zo_182 (zi_at zh_dX13_asksProtest_63_64 5 rfl) (zi_at zh_dX13_asksProtest_63_64 6 rfl) (zi_at zh_dX13_asksProtest_63_64 7 rfl) rfl
theorem dX13_asksProtest_72 : decode cX13_asksProtest 72 = .ok (.aload_n 0, 1) := zo_42 (zi_at zh_dX13_asksProtest_63_64 8 rfl)
theorem dX13_asksProtest_73 : decode cX13_asksProtest 73 = .ok (.iconst 1, 1) := zo_4 (zi_at zh_dX13_asksProtest_63_64 9 rfl)
theorem dX13_asksProtest_74 : decode cX13_asksProtest 74 = .ok (.aload_n 0, 1) := zo_42 (zi_at zh_dX13_asksProtest_63_64 10 rfl)
theorem dX13_asksProtest_75 : decode cX13_asksProtest 75 = .ok (.getfield 150, 3) := zo_180 (zi_at zh_dX13_asksProtest_63_64 11 rfl) (zi_at zh_dX13_asksProtest_63_64 12 rfl) (zi_at zh_dX13_asksProtest_63_64 13 rfl) rfl
theorem dX13_asksProtest_78 : decode cX13_asksProtest 78 = .ok (.iload_n 1, 1) := zo_27 (zi_at zh_dX13_asksProtest_63_64 14 rfl)
theorem dX13_asksProtest_79 : decode cX13_asksProtest 79 = .ok (.iaload, 1) := zo_46 (zi_at zh_dX13_asksProtest_63_64 15 rfl)
theorem dX13_asksProtest_80 : decode cX13_asksProtest 80 = .ok (.aload_n 0, 1) := zo_42 (zi_at zh_dX13_asksProtest_80_80 0 rfl)
theorem dX13_asksProtest_81 : decode cX13_asksProtest 81 = .ok (.getfield 156, 3) := zo_180 (zi_at zh_dX13_asksProtest_80_80 1 rfl) (zi_at zh_dX13_asksProtest_80_80 2 rfl) (zi_at zh_dX13_asksProtest_80_80 3 rfl) rfl
theorem dX13_asksProtest_84 : decode cX13_asksProtest 84 = .ok (.iload_n 1, 1) := zo_27 (zi_at zh_dX13_asksProtest_80_80 4 rfl)
theorem dX13_asksProtest_85 : decode cX13_asksProtest 85 = .ok (.iaload, 1) := zo_46 (zi_at zh_dX13_asksProtest_80_80 5 rfl)
theorem dX13_asksProtest_86 : decode cX13_asksProtest 86 = .ok (.aload_n 0, 1) := zo_42 (zi_at zh_dX13_asksProtest_80_80 6 rfl)
theorem dX13_asksProtest_87 : decode cX13_asksProtest 87 = .ok (.getfield 159, 3) := zo_180 (zi_at zh_dX13_asksProtest_80_80 7 rfl) (zi_at zh_dX13_asksProtest_80_80 8 rfl) (zi_at zh_dX13_asksProtest_80_80 9 rfl) rfl
theorem dX13_asksProtest_90 : decode cX13_asksProtest 90 = .ok (.iload_n 1, 1) := zo_27 (zi_at zh_dX13_asksProtest_80_80 10 rfl)
theorem dX13_asksProtest_91 : decode cX13_asksProtest 91 = .ok (.iaload, 1) := zo_46 (zi_at zh_dX13_asksProtest_80_80 11 rfl)
theorem dX13_asksProtest_92 : decode cX13_asksProtest 92 = .ok (.iload_n 3, 1) := zo_29 (zi_at zh_dX13_asksProtest_80_80 12 rfl)
theorem dX13_asksProtest_93 : decode cX13_asksProtest 93 = .ok (.invokevirtual 477, 3) := zo_182 (zi_at zh_dX13_asksProtest_80_80 13 rfl) (zi_at zh_dX13_asksProtest_80_80 14 rfl) (zi_at zh_dX13_asksProtest_80_80 15 rfl) rfl
theorem dX13_asksProtest_96 : decode cX13_asksProtest 96 = .ok (.iconst 1, 1) := zo_4 (zi_at zh_dX13_asksProtest_96_96 0 rfl)
theorem dX13_asksProtest_97 : decode cX13_asksProtest 97 = .ok (.ireturn, 1) := zo_172 (zi_at zh_dX13_asksProtest_96_96 1 rfl)
theorem dX13_states_0 : decode cX13_states 0 = .ok (.aload_n 0, 1) := zo_42 (zi_at zh_dX13_states_0_0 0 rfl)
theorem dX13_states_1 : decode cX13_states 1 = .ok (.iload_n 1, 1) := zo_27 (zi_at zh_dX13_states_0_0 1 rfl)
theorem dX13_states_2 : decode cX13_states 2 = .ok (.iload_n 2, 1) := zo_28 (zi_at zh_dX13_states_0_0 2 rfl)
theorem dX13_states_3 : decode cX13_states 3 = .ok (.iload_n 3, 1) := zo_29 (zi_at zh_dX13_states_0_0 3 rfl)
theorem dX13_states_4 : decode cX13_states 4 = .ok (.invokevirtual 481, 3) := zo_182 (zi_at zh_dX13_states_0_0 4 rfl) (zi_at zh_dX13_states_0_0 5 rfl) (zi_at zh_dX13_states_0_0 6 rfl) rfl
theorem dX13_states_7 : decode cX13_states 7 = .ok (.ifCond .eq 12, 3) := zo_153 (zi_at zh_dX13_states_0_0 7 rfl) (zi_at zh_dX13_states_0_0 8 rfl) (zi_at zh_dX13_states_0_0 9 rfl) rfl
theorem dX13_states_10 : decode cX13_states 10 = .ok (.aload_n 0, 1) := zo_42 (zi_at zh_dX13_states_0_0 10 rfl)
theorem dX13_states_11 : decode cX13_states 11 = .ok (.getfield 189, 3) := zo_180 (zi_at zh_dX13_states_0_0 11 rfl) (zi_at zh_dX13_states_0_0 12 rfl) (zi_at zh_dX13_states_0_0 13 rfl) rfl
theorem dX13_states_14 : decode cX13_states 14 = .ok (.iload_n 2, 1) := zo_28 (zi_at zh_dX13_states_0_0 14 rfl)
theorem dX13_states_15 : decode cX13_states 15 = .ok (.iaload, 1) := zo_46 (zi_at zh_dX13_states_0_0 15 rfl)
theorem dX13_states_16 : decode cX13_states 16 = .ok (.goto 4, 3) := zo_167 (zi_at zh_dX13_states_16_16 0 rfl) (zi_at zh_dX13_states_16_16 1 rfl) (zi_at zh_dX13_states_16_16 2 rfl) rfl
theorem dX13_states_19 : decode cX13_states 19 = .ok (.iconst (-1), 1) := zo_2 (zi_at zh_dX13_states_16_16 3 rfl)
theorem dX13_states_20 : decode cX13_states 20 = .ok (.ireturn, 1) := zo_172 (zi_at zh_dX13_states_16_16 4 rfl)
theorem hz_yX13_canBe_6 : yX13_canBe.cls ≠ "java/lang/invoke/MethodHandle" ∧ yX13_canBe.cls ≠ "java/lang/invoke/VarHandle" ∧ (parseMethodDescriptor yX13_canBe.desc).map (fun d => d.parameters.length) = some 6 := by decide +kernel
theorem hz_yX13_findStates_5 : yX13_findStates.cls ≠ "java/lang/invoke/MethodHandle" ∧ yX13_findStates.cls ≠ "java/lang/invoke/VarHandle" ∧ (parseMethodDescriptor yX13_findStates.desc).map (fun d => d.parameters.length) = some 5 := by decide +kernel
theorem hz_yX13_asksProtest_3 : yX13_asksProtest.cls ≠ "java/lang/invoke/MethodHandle" ∧ yX13_asksProtest.cls ≠ "java/lang/invoke/VarHandle" ∧ (parseMethodDescriptor yX13_asksProtest.desc).map (fun d => d.parameters.length) = some 3 := by decide +kernel
def v_farFrom2 : List Cond := .code yX13_farFrom cX13_farFrom 6 (some .int) :: vA
abbrev rm_farFrom2 : Room := { frames := 1, cells := 0, slots := 0, locals := 40 }
set_option maxHeartbeats 4000000 in
set_option maxRecDepth 100000 in
theorem q_farFrom2 (l : Launch) (dC : Nat → ClassId) (dI : Nat → Nat → Nat) (cT : Nat → ClassId) (ad : Nat → Nat) (E : Nat → va_E) (sz : Nat) (a0 : Int32) (a1 : Int32) (a2 : Int32) (hI0 : IX cT shM spM 72 ad E) (hh0 : 0 ≤ a0.toInt ∧ a0.toInt ≤ 199) (hh1 : 0 ≤ a1.toInt ∧ a1.toInt ≤ 99) (hh2 : 0 ≤ a2.toInt ∧ a2.toInt ≤ 99) : Met l yX13_farFrom v_farFrom2 rm_farFrom2 (va_Pc [.ref (ad 0), .int a0, .int a1, .int a2] (HW dC dI (TYM cT) 72 ad E sz)) (va_Qi (S := Unit) (fun r _ => (0 ≤ r.toInt ∧ r.toInt ≤ 200) ∧ (r.toInt ≤ 0 → ((xi (E 41) a0.toNatClampNeg).toInt ≤ a1.toInt ∧ a1.toInt ≤ (xi (E 41) a0.toNatClampNeg).toInt + (xi (E 43) a0.toNatClampNeg).toInt ∧ (xi (E 42) a0.toNatClampNeg).toInt ≤ a2.toInt ∧ a2.toInt ≤ (xi (E 42) a0.toNatClampNeg).toInt + (xi (E 43) a0.toNatClampNeg).toInt))) (fun _ _ => True) (fun _ => False)) 0 0 (fun _ => False) := by
  refine Met.ofW (cc := cX13_farFrom) (maxL := 6) (ret := (some .int)) (by decide) rfl ?_
  intro p e s m args below meth c s₁ B hml hv
  obtain ⟨hargs, hsz, hP, hK, hD0, hEV⟩ := hv
  subst hsz
  have hx := B.exec
  have hb := B.bytes
  have hr := B.returns
  have hts := atoms_spec (ws := v_farFrom2) B.pre
  have hown : s.vm.findClass RX13 = some m.cls := findClass_of_methodNamed B.named
  have hlocks := B.notSynchronized
  have hinX13 : ∀ w ∈ u_ws RX13 TX13 97, w ∈ v_farFrom2 := fun w h => vA_in _ w (in_X13 w h)
  have hS : va_S (fun _ : Nat => False) s.heap s.heap [] := va_S.rf
  have hD := hD0
  have hI := hI0
  have hKp : Kp (wl [] []) E E := Kp.rf
  have hl := lv_entry ([.ref (ad 0), .int a0, .int a1, .int a2]) (n := 6) (Nat.le_of_ble_eq_true rfl)
  obtain ⟨Q, hQ⟩ : ∃ Q, Q = MQ below (va_Qi (S := Unit) (fun r _ => (0 ≤ r.toInt ∧ r.toInt ≤ 200) ∧ (r.toInt ≤ 0 → ((xi (E 41) a0.toNatClampNeg).toInt ≤ a1.toInt ∧ a1.toInt ≤ (xi (E 41) a0.toNatClampNeg).toInt + (xi (E 43) a0.toNatClampNeg).toInt ∧ (xi (E 42) a0.toNatClampNeg).toInt ≤ a2.toInt ∧ a2.toInt ≤ (xi (E 42) a0.toNatClampNeg).toInt + (xi (E 43) a0.toNatClampNeg).toInt))) (fun _ _ => True) (fun _ => False)) args s 0 0 (fun _ => False) := ⟨_, rfl⟩
  rw [← hQ, show entryFrame m args 6 = _ from (congrArg (fun z => entryFrame m z 6) hargs).trans (lg_entry_eq _ _ _)]
  generalize (lg_sl ([.ref (ad 0), .int a0, .int a1, .int a2]) ++ List.replicate (6 - (lg_sl ([.ref (ad 0), .int a0, .int a1, .int a2])).length) Slot.unset).toArray = ls at hl ⊢
  have hl : lv_has ls 6 [(0, .ref (ad 0)), (1, .int a0), (2, .int a1), (3, .int a2)] := hl
  refine lv_iconst (v := 0) hx hb dX13_farFrom_0 (by decide) ?_
  refine lv_aload_n hx hb dX13_farFrom_1 rfl (lv_at hl 0 rfl) ?_
  refine th_get (ci := 14) (C := RX13) (T := TX13) (N := 97) (v := .ref (ad 41)) hx hb hts hinX13 hown hK hP hI 0 (Nat.le_of_ble_eq_true rfl) rfl rfl 59 (Nat.le_of_ble_eq_true rfl) (hts _ (vA_in _ _ (in_25 _ (zs16 (zs4 (zs4 (zs1 (zs0)))))))) (fun _ h9 => h9) (hI.fr 0 (Nat.le_of_ble_eq_true rfl) rfl (Nat.le_of_ble_eq_true rfl) 41 rfl) dX13_farFrom_2 ?_
  refine lv_iload_n hx hb dX13_farFrom_5 rfl (lv_at hl 1 rfl) ?_
  have n2 : vp_in a0 200 := (iv_in (n := 200) hh0 (by decide))
  refine th_iald hx hb hK hP hI 41 (Nat.le_of_ble_eq_true rfl) rfl rfl n2 dX13_farFrom_6 (fun y1 ey1 => ?_)
  have iy1 : 0 ≤ y1.toInt ∧ y1.toInt ≤ 99 := hI.el 41 (Nat.le_of_ble_eq_true rfl) rfl n2 (fun _ => rfl) ey1
  have ey1 := ey1.trans (hKp.ei 41 _ rfl)
  refine lv_iload_n hx hb dX13_farFrom_7 rfl (lv_at hl 2 rfl) ?_
  refine lv_isub hx hb dX13_farFrom_8 ?_
  refine lv_topi (fun y3 ey3 => ?_)
  obtain ⟨ty3, iy3⟩ := ti_sub (e := (-99)) (f := 99) iy1 hh1 ey3 (by decide)
  have ty3 : y3.toInt = y1.toInt - a1.toInt := ty3
  have iy3 : -99 ≤ y3.toInt ∧ y3.toInt ≤ 99 := iy3
  refine lv_iload_n hx hb dX13_farFrom_9 rfl (lv_at hl 2 rfl) ?_
  refine lv_aload_n hx hb dX13_farFrom_10 rfl (lv_at hl 0 rfl) ?_
  refine th_get (ci := 14) (C := RX13) (T := TX13) (N := 97) (v := .ref (ad 41)) hx hb hts hinX13 hown hK hP hI 0 (Nat.le_of_ble_eq_true rfl) rfl rfl 59 (Nat.le_of_ble_eq_true rfl) (hts _ (vA_in _ _ (in_25 _ (zs16 (zs4 (zs4 (zs1 (zs0)))))))) (fun _ h9 => h9) (hI.fr 0 (Nat.le_of_ble_eq_true rfl) rfl (Nat.le_of_ble_eq_true rfl) 41 rfl) dX13_farFrom_11 ?_
  refine lv_iload_n hx hb dX13_farFrom_14 rfl (lv_at hl 1 rfl) ?_
  have n5 : vp_in a0 200 := (iv_in (n := 200) hh0 (by decide))
  refine th_iald hx hb hK hP hI 41 (Nat.le_of_ble_eq_true rfl) rfl rfl n5 dX13_farFrom_15 (fun y4 ey4 => ?_)
  have iy4 : 0 ≤ y4.toInt ∧ y4.toInt ≤ 99 := hI.el 41 (Nat.le_of_ble_eq_true rfl) rfl n5 (fun _ => rfl) ey4
  have ey4 := ey4.trans (hKp.ei 41 _ rfl)
  refine lv_isub hx hb dX13_farFrom_16 ?_
  refine lv_topi (fun y6 ey6 => ?_)
  obtain ⟨ty6, iy6⟩ := ti_sub (e := (-99)) (f := 99) hh1 iy4 ey6 (by decide)
  have ty6 : y6.toInt = a1.toInt - y4.toInt := ty6
  have iy6 : -99 ≤ y6.toInt ∧ y6.toInt ≤ 99 := iy6
  refine lv_aload_n hx hb dX13_farFrom_17 rfl (lv_at hl 0 rfl) ?_
  refine th_get (ci := 14) (C := RX13) (T := TX13) (N := 97) (v := .ref (ad 43)) hx hb hts hinX13 hown hK hP hI 0 (Nat.le_of_ble_eq_true rfl) rfl rfl 61 (Nat.le_of_ble_eq_true rfl) (hts _ (vA_in _ _ (in_25 _ (zs16 (zs4 (zs4 (zs1 (zs1 (zs0))))))))) (fun _ h9 => h9) (hI.fr 0 (Nat.le_of_ble_eq_true rfl) rfl (Nat.le_of_ble_eq_true rfl) 43 rfl) dX13_farFrom_18 ?_
  refine lv_iload_n hx hb dX13_farFrom_21 rfl (lv_at hl 1 rfl) ?_
  have n8 : vp_in a0 200 := (iv_in (n := 200) hh0 (by decide))
  refine th_iald hx hb hK hP hI 43 (Nat.le_of_ble_eq_true rfl) rfl rfl n8 dX13_farFrom_22 (fun y7 ey7 => ?_)
  have iy7 : 0 ≤ y7.toInt ∧ y7.toInt ≤ 3 := hI.el 43 (Nat.le_of_ble_eq_true rfl) rfl n8 (fun _ => rfl) ey7
  have ey7 := ey7.trans (hKp.ei 43 _ rfl)
  refine lv_isub hx hb dX13_farFrom_23 ?_
  refine lv_topi (fun y9 ey9 => ?_)
  obtain ⟨ty9, iy9⟩ := ti_sub (e := (-102)) (f := 99) iy6 iy7 ey9 (by decide)
  have ty9 : y9.toInt = y6.toInt - y7.toInt := ty9
  have iy9 : -102 ≤ y9.toInt ∧ y9.toInt ≤ 99 := iy9
  refine va_mmax hx hb (by rw [hml]; exact hl.1.symm) hown (hts _ (vA_in _ _ (in_25 _ (zs16 (zs4 (zs4 (zs1 (zs1 (zs1 (zs0)))))))))) (hts _ (vA_in _ _ (in_0 _ (zs16 (zs16 (zs0)))))) (hts _ (vA_in _ _ (in_0 _ (zs16 (zs16 (zs1 (zs0))))))) (hts _ (vA_in _ _ (in_0 _ (zs16 (zs16 (zs1 (zs1 (zs0)))))))) (Nat.le_of_ble_eq_true rfl) (Nat.le_of_ble_eq_true rfl) (Nat.le_of_ble_eq_true rfl) (Nat.le_of_ble_eq_true rfl) dX13_farFrom_24 ?_
  refine lv_topi (fun y10 ey10 => ?_)
  obtain ⟨ty10, iy10⟩ := ti_max (e := (-99)) (f := 99) iy3 iy9 ey10 (by decide)
  have iy10 : -99 ≤ y10.toInt ∧ y10.toInt ≤ 99 := iy10
  refine va_mmax hx hb (by rw [hml]; exact hl.1.symm) hown (hts _ (vA_in _ _ (in_25 _ (zs16 (zs4 (zs4 (zs1 (zs1 (zs1 (zs0)))))))))) (hts _ (vA_in _ _ (in_0 _ (zs16 (zs16 (zs0)))))) (hts _ (vA_in _ _ (in_0 _ (zs16 (zs16 (zs1 (zs0))))))) (hts _ (vA_in _ _ (in_0 _ (zs16 (zs16 (zs1 (zs1 (zs0)))))))) (Nat.le_of_ble_eq_true rfl) (Nat.le_of_ble_eq_true rfl) (Nat.le_of_ble_eq_true rfl) (Nat.le_of_ble_eq_true rfl) dX13_farFrom_27 ?_
  have z0 := ln_0
  refine lv_topi (fun y11 ey11 => ?_)
  obtain ⟨ty11, iy11⟩ := ti_max (e := 0) (f := 99) ln_0 iy10 ey11 (by decide)
  have iy11 : 0 ≤ y11.toInt ∧ y11.toInt ≤ 99 := iy11
  refine lv_istore (lv' := [(4, .int y11), (0, .ref (ad 0)), (1, .int a0), (2, .int a1), (3, .int a2)]) hx hb dX13_farFrom_30 hl (by decide) rfl (fun ls hl => ?_)
  refine lv_iconst (v := 0) hx hb dX13_farFrom_32 (by decide) ?_
  refine lv_aload_n hx hb dX13_farFrom_33 rfl (lv_at hl 1 rfl) ?_
  refine th_get (ci := 14) (C := RX13) (T := TX13) (N := 97) (v := .ref (ad 42)) hx hb hts hinX13 hown hK hP hI 0 (Nat.le_of_ble_eq_true rfl) rfl rfl 60 (Nat.le_of_ble_eq_true rfl) (hts _ (vA_in _ _ (in_25 _ (zs16 (zs4 (zs4 (zs4 (zs0)))))))) (fun _ h9 => h9) (hI.fr 0 (Nat.le_of_ble_eq_true rfl) rfl (Nat.le_of_ble_eq_true rfl) 42 rfl) dX13_farFrom_34 ?_
  refine lv_iload_n hx hb dX13_farFrom_37 rfl (lv_at hl 2 rfl) ?_
  have n13 : vp_in a0 200 := (iv_in (n := 200) hh0 (by decide))
  refine th_iald hx hb hK hP hI 42 (Nat.le_of_ble_eq_true rfl) rfl rfl n13 dX13_farFrom_38 (fun y12 ey12 => ?_)
  have iy12 : 0 ≤ y12.toInt ∧ y12.toInt ≤ 99 := hI.el 42 (Nat.le_of_ble_eq_true rfl) rfl n13 (fun _ => rfl) ey12
  have ey12 := ey12.trans (hKp.ei 42 _ rfl)
  refine lv_iload_n hx hb dX13_farFrom_39 rfl (lv_at hl 4 rfl) ?_
  refine lv_isub hx hb dX13_farFrom_40 ?_
  refine lv_topi (fun y14 ey14 => ?_)
  obtain ⟨ty14, iy14⟩ := ti_sub (e := (-99)) (f := 99) iy12 hh2 ey14 (by decide)
  have ty14 : y14.toInt = y12.toInt - a2.toInt := ty14
  have iy14 : -99 ≤ y14.toInt ∧ y14.toInt ≤ 99 := iy14
  refine lv_iload_n hx hb dX13_farFrom_41 rfl (lv_at hl 4 rfl) ?_
  refine lv_aload_n hx hb dX13_farFrom_42 rfl (lv_at hl 1 rfl) ?_
  refine th_get (ci := 14) (C := RX13) (T := TX13) (N := 97) (v := .ref (ad 42)) hx hb hts hinX13 hown hK hP hI 0 (Nat.le_of_ble_eq_true rfl) rfl rfl 60 (Nat.le_of_ble_eq_true rfl) (hts _ (vA_in _ _ (in_25 _ (zs16 (zs4 (zs4 (zs4 (zs0)))))))) (fun _ h9 => h9) (hI.fr 0 (Nat.le_of_ble_eq_true rfl) rfl (Nat.le_of_ble_eq_true rfl) 42 rfl) dX13_farFrom_43 ?_
  refine lv_iload_n hx hb dX13_farFrom_46 rfl (lv_at hl 2 rfl) ?_
  have n16 : vp_in a0 200 := (iv_in (n := 200) hh0 (by decide))
  refine th_iald hx hb hK hP hI 42 (Nat.le_of_ble_eq_true rfl) rfl rfl n16 dX13_farFrom_47 (fun y15 ey15 => ?_)
  have iy15 : 0 ≤ y15.toInt ∧ y15.toInt ≤ 99 := hI.el 42 (Nat.le_of_ble_eq_true rfl) rfl n16 (fun _ => rfl) ey15
  have ey15 := ey15.trans (hKp.ei 42 _ rfl)
  refine lv_isub hx hb dX13_farFrom_48 ?_
  refine lv_topi (fun y17 ey17 => ?_)
  obtain ⟨ty17, iy17⟩ := ti_sub (e := (-99)) (f := 99) hh2 iy15 ey17 (by decide)
  have ty17 : y17.toInt = a2.toInt - y15.toInt := ty17
  have iy17 : -99 ≤ y17.toInt ∧ y17.toInt ≤ 99 := iy17
  refine lv_aload_n hx hb dX13_farFrom_49 rfl (lv_at hl 1 rfl) ?_
  refine th_get (ci := 14) (C := RX13) (T := TX13) (N := 97) (v := .ref (ad 43)) hx hb hts hinX13 hown hK hP hI 0 (Nat.le_of_ble_eq_true rfl) rfl rfl 61 (Nat.le_of_ble_eq_true rfl) (hts _ (vA_in _ _ (in_25 _ (zs16 (zs4 (zs4 (zs1 (zs1 (zs0))))))))) (fun _ h9 => h9) (hI.fr 0 (Nat.le_of_ble_eq_true rfl) rfl (Nat.le_of_ble_eq_true rfl) 43 rfl) dX13_farFrom_50 ?_
  refine lv_iload_n hx hb dX13_farFrom_53 rfl (lv_at hl 2 rfl) ?_
  have n19 : vp_in a0 200 := (iv_in (n := 200) hh0 (by decide))
  refine th_iald hx hb hK hP hI 43 (Nat.le_of_ble_eq_true rfl) rfl rfl n19 dX13_farFrom_54 (fun y18 ey18 => ?_)
  have iy18 : 0 ≤ y18.toInt ∧ y18.toInt ≤ 3 := hI.el 43 (Nat.le_of_ble_eq_true rfl) rfl n19 (fun _ => rfl) ey18
  have ey18 := ey18.trans (hKp.ei 43 _ rfl)
  refine lv_isub hx hb dX13_farFrom_55 ?_
  refine lv_topi (fun y20 ey20 => ?_)
  obtain ⟨ty20, iy20⟩ := ti_sub (e := (-102)) (f := 99) iy17 iy18 ey20 (by decide)
  have ty20 : y20.toInt = y17.toInt - y18.toInt := ty20
  have iy20 : -102 ≤ y20.toInt ∧ y20.toInt ≤ 99 := iy20
  refine va_mmax hx hb (by rw [hml]; exact hl.1.symm) hown (hts _ (vA_in _ _ (in_25 _ (zs16 (zs4 (zs4 (zs1 (zs1 (zs1 (zs0)))))))))) (hts _ (vA_in _ _ (in_0 _ (zs16 (zs16 (zs0)))))) (hts _ (vA_in _ _ (in_0 _ (zs16 (zs16 (zs1 (zs0))))))) (hts _ (vA_in _ _ (in_0 _ (zs16 (zs16 (zs1 (zs1 (zs0)))))))) (Nat.le_of_ble_eq_true rfl) (Nat.le_of_ble_eq_true rfl) (Nat.le_of_ble_eq_true rfl) (Nat.le_of_ble_eq_true rfl) dX13_farFrom_56 ?_
  refine lv_topi (fun y21 ey21 => ?_)
  obtain ⟨ty21, iy21⟩ := ti_max (e := (-99)) (f := 99) iy14 iy20 ey21 (by decide)
  have iy21 : -99 ≤ y21.toInt ∧ y21.toInt ≤ 99 := iy21
  refine va_mmax hx hb (by rw [hml]; exact hl.1.symm) hown (hts _ (vA_in _ _ (in_25 _ (zs16 (zs4 (zs4 (zs1 (zs1 (zs1 (zs0)))))))))) (hts _ (vA_in _ _ (in_0 _ (zs16 (zs16 (zs0)))))) (hts _ (vA_in _ _ (in_0 _ (zs16 (zs16 (zs1 (zs0))))))) (hts _ (vA_in _ _ (in_0 _ (zs16 (zs16 (zs1 (zs1 (zs0)))))))) (Nat.le_of_ble_eq_true rfl) (Nat.le_of_ble_eq_true rfl) (Nat.le_of_ble_eq_true rfl) (Nat.le_of_ble_eq_true rfl) dX13_farFrom_59 ?_
  refine lv_topi (fun y22 ey22 => ?_)
  obtain ⟨ty22, iy22⟩ := ti_max (e := 0) (f := 99) ln_0 iy21 ey22 (by decide)
  have iy22 : 0 ≤ y22.toInt ∧ y22.toInt ≤ 99 := iy22
  refine lv_istore (lv' := [(5, .int y22), (4, .int y11), (0, .ref (ad 0)), (1, .int a0), (2, .int a1), (3, .int a2)]) hx hb dX13_farFrom_62 hl (by decide) rfl (fun ls hl => ?_)
  refine lv_iload hx hb dX13_farFrom_64 (lv_at hl 1 rfl) ?_
  refine lv_iload hx hb dX13_farFrom_66 (lv_at hl 0 rfl) ?_
  refine va_mmax hx hb (by rw [hml]; exact hl.1.symm) hown (hts _ (vA_in _ _ (in_25 _ (zs16 (zs4 (zs4 (zs1 (zs1 (zs1 (zs0)))))))))) (hts _ (vA_in _ _ (in_0 _ (zs16 (zs16 (zs0)))))) (hts _ (vA_in _ _ (in_0 _ (zs16 (zs16 (zs1 (zs0))))))) (hts _ (vA_in _ _ (in_0 _ (zs16 (zs16 (zs1 (zs1 (zs0)))))))) (Nat.le_of_ble_eq_true rfl) (Nat.le_of_ble_eq_true rfl) (Nat.le_of_ble_eq_true rfl) (Nat.le_of_ble_eq_true rfl) dX13_farFrom_68 ?_
  refine lv_topi (fun y23 ey23 => ?_)
  obtain ⟨ty23, iy23⟩ := ti_max (e := 0) (f := 99) iy11 iy22 ey23 (by decide)
  have iy23 : 0 ≤ y23.toInt ∧ y23.toInt ≤ 99 := iy23
  rw [hQ]
  exact W.iret (v := y23) hx hb hr (fun t ht hW => ⟨⟨y23, (), rfl, ⟨(iv_w iy23 (by decide)), by have qy1 : y1.toInt = (xi (E 41) a0.toNatClampNeg).toInt := congrArg Int32.toInt ey1; have qy4 : y4.toInt = (xi (E 41) a0.toNatClampNeg).toInt := congrArg Int32.toInt ey4; have qy7 : y7.toInt = (xi (E 43) a0.toNatClampNeg).toInt := congrArg Int32.toInt ey7; have qy12 : y12.toInt = (xi (E 42) a0.toNatClampNeg).toInt := congrArg Int32.toInt ey12; have qy15 : y15.toInt = (xi (E 42) a0.toNatClampNeg).toInt := congrArg Int32.toInt ey15; have qy18 : y18.toInt = (xi (E 43) a0.toNatClampNeg).toInt := congrArg Int32.toInt ey18; omega⟩, trivial⟩, hS.F ht⟩) hS.2.2 dX13_farFrom_71
def v_findStates : List Cond := .code yX13_findStates cX13_findStates 13 none :: vA
abbrev rm_findStates : Room := { frames := 3, cells := 0, slots := 0, locals := 120 }
def w_findStates : Nat → Nat → Bool := wl [56, 57, 58, 59] []
set_option maxHeartbeats 4000000 in
set_option maxRecDepth 100000 in
theorem q_findStates (l : Launch) (dC : Nat → ClassId) (dI : Nat → Nat → Nat) (cT : Nat → ClassId) (ad : Nat → Nat) (E : Nat → va_E) (sz : Nat) (a0 : Int32) (a1 : Int32) (a2 : Int32) (a3 : Int32) (a4 : Int32) (hI0 : IX cT shM spM 72 ad E) (hh0 : 0 ≤ a0.toInt ∧ a0.toInt ≤ 1) (hh1 : 0 ≤ a1.toInt ∧ a1.toInt ≤ 19) : Met l yX13_findStates v_findStates rm_findStates (va_Pc [.ref (ad 0), .int a0, .int a1, .int a2, .int a3, .int a4] (HW dC dI (TYM cT) 72 ad E sz)) (va_Qv (S := Nat → va_E) (fun u => IX cT shM spM 72 ad u ∧ Kp w_findStates E u ∧ (True)) (HB dC dI 72 ad) (va_A (WX 72 ad E) sz)) 0 0 (va_A (WX 72 ad E) sz) := by
  refine Met.ofW (cc := cX13_findStates) (maxL := 13) (ret := none) (by decide) rfl ?_
  intro p e s m args below meth c s₁ B hml hv
  obtain ⟨hargs, hsz, hP, hK, hD0, hEV⟩ := hv
  subst hsz
  have hx := B.exec
  have hb := B.bytes
  have hr := B.returns
  have hts := atoms_spec (ws := v_findStates) B.pre
  have hown : s.vm.findClass RX13 = some m.cls := findClass_of_methodNamed B.named
  have hlocks := B.notSynchronized
  have hinX13 : ∀ w ∈ u_ws RX13 TX13 97, w ∈ v_findStates := fun w h => vA_in _ w (in_X13 w h)
  generalize hAe : va_A (WX 72 ad E) s.heap.size = A at hEV ⊢
  have hA : ∀ q : Nat, s.heap.size ≤ q → A q := fun q h => by rw [← hAe]; exact Or.inr h
  have hD : va_D A (WX 72 ad E) := by rw [← hAe]; exact hD0.self
  have hS : va_S A s.heap s.heap [] := va_S.rf
  have hI := hI0
  have hKp : Kp w_findStates E E := Kp.rf
  have hl := lv_entry ([.ref (ad 0), .int a0, .int a1, .int a2, .int a3, .int a4]) (n := 13) (Nat.le_of_ble_eq_true rfl)
  obtain ⟨Q, hQ⟩ : ∃ Q, Q = MQ below (va_Qv (S := Nat → va_E) (fun u => IX cT shM spM 72 ad u ∧ Kp w_findStates E u ∧ (True)) (HB dC dI 72 ad) (A)) args s 0 0 (A) := ⟨_, rfl⟩
  rw [← hQ, show entryFrame m args 13 = _ from (congrArg (fun z => entryFrame m z 13) hargs).trans (lg_entry_eq _ _ _)]
  generalize (lg_sl ([.ref (ad 0), .int a0, .int a1, .int a2, .int a3, .int a4]) ++ List.replicate (13 - (lg_sl ([.ref (ad 0), .int a0, .int a1, .int a2, .int a3, .int a4])).length) Slot.unset).toArray = ls at hl ⊢
  have hl : lv_has ls 13 [(0, .ref (ad 0)), (1, .int a0), (2, .int a1), (3, .int a2), (4, .int a3), (5, .int a4)] := hl
  refine lv_sipush (v := 128) hx hb dX13_findStates_0 (by decide) ?_
  refine lv_iload_n hx hb dX13_findStates_3 rfl (lv_at hl 1 rfl) ?_
  refine lv_imul hx hb dX13_findStates_4 ?_
  refine lv_topi (fun y1 ey1 => ?_)
  obtain ⟨ty1, iy1⟩ := ti_mul (e := 0) (f := 128) ln_128 hh0 ey1 (by decide)
  have ty1 : y1.toInt = 128 * a0.toInt := ty1
  have iy1 : 0 ≤ y1.toInt ∧ y1.toInt ≤ 128 := iy1
  refine lv_istore (lv' := [(6, .int y1), (0, .ref (ad 0)), (1, .int a0), (2, .int a1), (3, .int a2), (4, .int a3), (5, .int a4)]) hx hb dX13_findStates_5 hl (by decide) rfl (fun ls hl => ?_)
  refine lv_iconst (v := 0) hx hb dX13_findStates_7 (by decide) ?_
  refine lv_istore (lv' := [(7, .int 0), (6, .int y1), (0, .ref (ad 0)), (1, .int a0), (2, .int a1), (3, .int a2), (4, .int a3), (5, .int a4)]) hx hb dX13_findStates_8 hl (by decide) rfl (fun ls hl => ?_)
  refine lv_iconst (v := -1) hx hb dX13_findStates_10 (by decide) ?_
  refine lv_istore (lv' := [(8, .int (-1)), (7, .int 0), (6, .int y1), (0, .ref (ad 0)), (1, .int a0), (2, .int a1), (3, .int a2), (4, .int a3), (5, .int a4)]) hx hb dX13_findStates_11 hl (by decide) rfl (fun ls hl => ?_)
  refine lv_sipush (v := 255) hx hb dX13_findStates_13 (by decide) ?_
  refine lv_istore (lv' := [(9, .int 255), (8, .int (-1)), (7, .int 0), (6, .int y1), (0, .ref (ad 0)), (1, .int a0), (2, .int a1), (3, .int a2), (4, .int a3), (5, .int a4)]) hx hb dX13_findStates_16 hl (by decide) rfl (fun ls hl => ?_)
  refine lv_iconst (v := 0) hx hb dX13_findStates_18 (by decide) ?_
  refine lv_istore (lv' := [(10, .int 0), (9, .int 255), (8, .int (-1)), (7, .int 0), (6, .int y1), (0, .ref (ad 0)), (1, .int a0), (2, .int a1), (3, .int a2), (4, .int a3), (5, .int a4)]) hx hb dX13_findStates_19 hl (by decide) rfl (fun ls hl => ?_)
  have hL21 : ∀ d : Nat, ∀ (v21_10 : Int32) (v21_9 : Int32) (v21_8 : Int32) (H : Heap) (locs : List Loc) (ls : Array Slot), 0 ≤ v21_10.toInt ∧ v21_10.toInt ≤ 200 → -1 ≤ v21_8.toInt ∧ v21_8.toInt ≤ 199 → 200 - v21_10.toInt < (d : Int) → va_P (dC, dI) vwCl (WX 72 ad E) H → va_S A s.heap H locs → lv_has ls 13 [(10, .int v21_10), (9, .int v21_9), (8, .int v21_8), (7, .int 0), (6, .int y1), (0, .ref (ad 0)), (1, .int a0), (2, .int a1), (3, .int a2), (4, .int a3), (5, .int a4)] → W p l e (headSpec v_findStates rm_findStates).room s m args below meth c H locs 0 0 Q (F0 m 21 ls []) := by
    intro d
    induction d with
    | zero =>
      intro v21_10 v21_9 v21_8 H locs ls hv21_10 hv21_8 hx21_0 hP hS hl
      exact absurd hx21_0 (by first | exact ms_zu hv21_10.2 | omega)
    | succ d ih21 =>
      intro v21_10 v21_9 v21_8 H locs ls hv21_10 hv21_8 hx21_0 hP hS hl
      refine lv_iload hx hb dX13_findStates_21 (lv_at hl 0 rfl) ?_
      refine lv_aload_n hx hb dX13_findStates_23 rfl (lv_at hl 5 rfl) ?_
      have i2 : 0 ≤ (xi (E 0) 74).toInt ∧ (xi (E 0) 74).toInt ≤ 200 := hI0.iv 0 (Nat.le_of_ble_eq_true rfl) rfl (Nat.le_of_ble_eq_true rfl) rfl
      refine th_get (ci := 14) (C := RX13) (T := TX13) (N := 97) (v := .int (xi (E 0) 74)) hx hb hts hinX13 hown hK hP hI 0 (Nat.le_of_ble_eq_true rfl) rfl rfl 74 (Nat.le_of_ble_eq_true rfl) (hts _ (vA_in _ _ (in_25 _ (zs4 (zs4 (zs1 (zs1 (zs1 (zs0))))))))) (fun _ h9 => h9) (th_v0 hKp hI0 0 (Nat.le_of_ble_eq_true rfl) rfl (Nat.le_of_ble_eq_true rfl) rfl rfl) dX13_findStates_24 ?_
      refine lv_icmp_ge (tgt := 107) hx hb dX13_findStates_27 (by decide) (fun c3 => ?_) (fun c3 => ?_)
      · --27 taken
        have t4 : (xi (E 0) 74).toInt ≤ v21_10.toInt := ti_le c3
        refine lv_iconst (v := 0) hx hb dX13_findStates_107 (by decide) ?_
        refine lv_istore (lv' := [(10, .int 0), (9, .int v21_9), (8, .int v21_8), (7, .int 0), (6, .int y1), (0, .ref (ad 0)), (1, .int a0), (2, .int a1), (3, .int a2), (4, .int a3), (5, .int a4)]) hx hb dX13_findStates_108 hl (by decide) rfl (fun ls hl => ?_)
        have hL110 : ∀ d : Nat, ∀ (v110_10 : Int32) (v110_7 : Int32) (E110_ : Nat → va_E) (H : Heap) (locs : List Loc) (ls : Array Slot), 0 ≤ v110_10.toInt ∧ v110_10.toInt ≤ 100 → 0 ≤ v110_7.toInt ∧ v110_7.toInt ≤ 128 → v110_7.toInt ≤ 32 * (max 0 (min (v110_10.toInt - (xi (E 41) v21_8.toNatClampNeg).toInt) 4)) → 100 - v110_10.toInt < (d : Int) → IX cT shM spM 72 ad E110_ → Kp w_findStates E E110_ → va_P (dC, dI) vwCl (WX 72 ad E110_) H → va_S A s.heap H locs → lv_has ls 13 [(10, .int v110_10), (9, .int v21_9), (8, .int v21_8), (7, .int v110_7), (6, .int y1), (0, .ref (ad 0)), (1, .int a0), (2, .int a1), (3, .int a2), (4, .int a3), (5, .int a4)] → W p l e (headSpec v_findStates rm_findStates).room s m args below meth c H locs 0 0 Q (F0 m 110 ls []) := by
          intro d
          induction d with
          | zero =>
            intro v110_10 v110_7 E110_ H locs ls hv110_10 hv110_7 hx110_0 hx110_1 hI hKp hP hS hl
            exact absurd hx110_1 (by first | exact ms_zu hv110_10.2 | omega)
          | succ d ih110 =>
            intro v110_10 v110_7 E110_ H locs ls hv110_10 hv110_7 hx110_0 hx110_1 hI hKp hP hS hl
            refine lv_iload hx hb dX13_findStates_110 (lv_at hl 0 rfl) ?_
            refine lv_bipush (v := 99) hx hb dX13_findStates_112 (by decide) ?_
            have hJ246 : ∀ (H : Heap) (locs : List Loc) (ls : Array Slot), va_P (dC, dI) vwCl (WX 72 ad E110_) H → va_S A s.heap H locs → lv_has ls 13 [(10, .int v110_10), (9, .int v21_9), (8, .int v21_8), (7, .int v110_7), (6, .int y1), (0, .ref (ad 0)), (1, .int a0), (2, .int a1), (3, .int a2), (4, .int a3), (5, .int a4)] → W p l e (headSpec v_findStates rm_findStates).room s m args below meth c H locs 0 0 Q (F0 m 246 ls []) := by
              intro H locs ls hP hS hl
              refine lv_aload_n hx hb dX13_findStates_246 rfl (lv_at hl 5 rfl) ?_
              refine th_get (ci := 14) (C := RX13) (T := TX13) (N := 97) (v := .ref (ad 59)) hx hb hts hinX13 hown hK hP hI 0 (Nat.le_of_ble_eq_true rfl) rfl rfl 79 (Nat.le_of_ble_eq_true rfl) (hts _ (vA_in _ _ (in_25 _ (zs16 (zs4 (zs0)))))) (fun _ h9 => h9) (hI.fr 0 (Nat.le_of_ble_eq_true rfl) rfl (Nat.le_of_ble_eq_true rfl) 59 rfl) dX13_findStates_247 ?_
              refine lv_iload_n hx hb dX13_findStates_250 rfl (lv_at hl 6 rfl) ?_
              refine lv_iload hx hb dX13_findStates_251 (lv_at hl 3 rfl) ?_
              have n5 : vp_in a0 2 := (iv_in (n := 2) hh0 (by decide))
              refine th_iast hx hb hK hP (WX_D hD) hS hI 59 (Nat.le_of_ble_eq_true rfl) rfl rfl n5 (okI rfl hv110_7) dX13_findStates_253 (fun H locs E6 pw7 hI hP hS => ?_)
              have hKp := hKp.pw pw7 rfl
              rw [hQ]
              exact W.vret hx hb hr (fun t ht hW => ⟨⟨E6, rfl, ⟨hI, hKp, trivial⟩, by show va_P (dC, dI) vwCl (WX 72 ad E6) t.heap; rw [ht]; exact hP⟩, hS.F ht⟩) hS.2.2 dX13_findStates_254
            refine lv_icmp_gt (tgt := 246) hx hb dX13_findStates_114 (by decide) (fun c8 => ?_) (fun c8 => ?_)
            · --114 taken
              have t9 : (99 : Int) < v110_10.toInt := ti_lt c8
              have i10 : 100 ≤ v110_10.toInt ∧ v110_10.toInt ≤ 100 := iv_lt_r t9 (il_ 99) hv110_10 (by decide)
              exact hJ246 _ _ _ hP hS (lv_sub hl [0, 1, 2, 3, 4, 5, 6, 7, 8, 9, 10] rfl)
            · --114 not
              have t11 : v110_10.toInt ≤ 99 := ti_nlt c8
              have i12 : 0 ≤ v110_10.toInt ∧ v110_10.toInt ≤ 99 := iv_le_l t11 hv110_10 (il_ 99) (by decide)
              refine lv_iload hx hb dX13_findStates_117 (lv_at hl 2 rfl) ?_
              refine lv_iconst (v := -1) hx hb dX13_findStates_119 (by decide) ?_
              refine lv_icmp_eq (tgt := 246) hx hb dX13_findStates_120 (by decide) (fun c13 => ?_) (fun c13 => ?_)
              · --120 taken
                have t14 : v21_8.toInt = -1 := ti_eq c13
                have i15 : -1 ≤ v21_8.toInt ∧ v21_8.toInt ≤ -1 := iv_eqi t14 hv21_8 (il_ (-1)) (by decide)
                exact hJ246 _ _ _ hP hS (lv_sub hl [0, 1, 2, 3, 4, 5, 6, 7, 8, 9, 10] rfl)
              · --120 not
                have t16 : ¬ v21_8.toInt = -1 := ti_ne c13
                have i17 : 0 ≤ v21_8.toInt ∧ v21_8.toInt ≤ 199 := iv_ne_l t16 hv21_8 (il_ (-1))
                have s3 : 0 ≤ (xi (E 43) v21_8.toNatClampNeg).toInt ∧ (xi (E 43) v21_8.toNatClampNeg).toInt ≤ 3 := hI0.iv 43 (Nat.le_of_ble_eq_true rfl) rfl (by rw [tn_]; omega) rfl
                refine lv_iconst (v := 0) hx hb dX13_findStates_123 (by decide) ?_
                refine lv_istore (lv' := [(11, .int 0), (10, .int v110_10), (9, .int v21_9), (8, .int v21_8), (7, .int v110_7), (6, .int y1), (0, .ref (ad 0)), (1, .int a0), (2, .int a1), (3, .int a2), (4, .int a3), (5, .int a4)]) hx hb dX13_findStates_124 hl (by decide) rfl (fun ls hl => ?_)
                have hL126 : ∀ d : Nat, ∀ (v126_11 : Int32) (v126_7 : Int32) (E126_ : Nat → va_E) (H : Heap) (locs : List Loc) (ls : Array Slot), 0 ≤ v126_11.toInt ∧ v126_11.toInt ≤ 100 → 0 ≤ v126_7.toInt ∧ v126_7.toInt ≤ 128 → (((xi (E 41) v21_8.toNatClampNeg).toInt ≤ v110_10.toInt ∧ v110_10.toInt ≤ (xi (E 41) v21_8.toNatClampNeg).toInt + 3) → v126_7.toInt ≤ 32 * (v110_10.toInt - (xi (E 41) v21_8.toNatClampNeg).toInt) + 8 * (max 0 (min (v126_11.toInt - (xi (E 42) v21_8.toNatClampNeg).toInt) 4))) → (¬ ((xi (E 41) v21_8.toNatClampNeg).toInt ≤ v110_10.toInt ∧ v110_10.toInt ≤ (xi (E 41) v21_8.toNatClampNeg).toInt + 3) → v126_7.toInt ≤ 32 * (max 0 (min (v110_10.toInt - (xi (E 41) v21_8.toNatClampNeg).toInt) 4))) → 100 - v126_11.toInt < (d : Int) → IX cT shM spM 72 ad E126_ → Kp w_findStates E E126_ → va_P (dC, dI) vwCl (WX 72 ad E126_) H → va_S A s.heap H locs → lv_has ls 13 [(11, .int v126_11), (10, .int v110_10), (9, .int v21_9), (8, .int v21_8), (7, .int v126_7), (6, .int y1), (0, .ref (ad 0)), (1, .int a0), (2, .int a1), (3, .int a2), (4, .int a3), (5, .int a4)] → W p l e (headSpec v_findStates rm_findStates).room s m args below meth c H locs 0 0 Q (F0 m 126 ls []) := by
                  intro d
                  induction d with
                  | zero =>
                    intro v126_11 v126_7 E126_ H locs ls hv126_11 hv126_7 hx126_0 hx126_1 hx126_2 hI hKp hP hS hl
                    exact absurd hx126_2 (by first | exact ms_zu hv126_11.2 | omega)
                  | succ d ih126 =>
                    intro v126_11 v126_7 E126_ H locs ls hv126_11 hv126_7 hx126_0 hx126_1 hx126_2 hI hKp hP hS hl
                    refine lv_iload hx hb dX13_findStates_126 (lv_at hl 0 rfl) ?_
                    refine lv_bipush (v := 99) hx hb dX13_findStates_128 (by decide) ?_
                    refine lv_icmp_gt (tgt := 240) hx hb dX13_findStates_130 (by decide) (fun c18 => ?_) (fun c18 => ?_)
                    · --130 taken
                      have t19 : (99 : Int) < v126_11.toInt := ti_lt c18
                      have i20 : 100 ≤ v126_11.toInt ∧ v126_11.toInt ≤ 100 := iv_lt_r t19 (il_ 99) hv126_11 (by decide)
                      obtain ⟨y21, ey21⟩ : ∃ y : Int32, y = v110_10 + (1 : Int32) := ⟨_, rfl⟩
                      obtain ⟨ty21, iy21⟩ := ti_add (e := 1) (f := 100) i12 ln_1 ey21 (by decide)
                      have ty21 : y21.toInt = v110_10.toInt + 1 := ty21
                      have iy21 : 1 ≤ y21.toInt ∧ y21.toInt ≤ 100 := iy21
                      refine lv_iinc (v := y21) (lv' := [(10, .int y21), (11, .int v126_11), (9, .int v21_9), (8, .int v21_8), (7, .int v126_7), (6, .int y1), (0, .ref (ad 0)), (1, .int a0), (2, .int a1), (3, .int a2), (4, .int a3), (5, .int a4)]) hx hb dX13_findStates_240 hl (k := 1) rfl (by rw [ey21]; rfl) (by decide) rfl (fun ls hl => ?_)
                      refine lv_goto (tgt := 110) hx hb dX13_findStates_243 (by decide) ?_
                      exact ih110 y21 v126_7 E126_ _ _ _ (iv_w iy21 (by decide)) hv126_7 (by  omega) (by first | exact ms_su hx110_1 ty21 (by decide) | omega) hI hKp hP hS (lv_sub hl [0, 2, 3, 4, 5, 6, 7, 8, 9, 10, 11] rfl)
                    · --130 not
                      have t22 : v126_11.toInt ≤ 99 := ti_nlt c18
                      have i23 : 0 ≤ v126_11.toInt ∧ v126_11.toInt ≤ 99 := iv_le_l t22 hv126_11 (il_ 99) (by decide)
                      refine lv_aload_n hx hb dX13_findStates_133 rfl (lv_at hl 6 rfl) ?_
                      refine lv_iload hx hb dX13_findStates_134 (lv_at hl 3 rfl) ?_
                      refine lv_iload hx hb dX13_findStates_136 (lv_at hl 1 rfl) ?_
                      refine lv_iload hx hb dX13_findStates_138 (lv_at hl 0 rfl) ?_
                      refine th_ri (va_runV (As := [.int v21_8, .int v110_10, .int v126_11]) (rest := []) ⟨hx, hb, hml, hown, hts⟩ (q_farFrom2 l dC dI cT ad E126_ H.size v21_8 v110_10 v126_11 hI i17 i12 i23) (cwV 3 hts (gi_V (in_25 _ (zs16 (zs4 (zs1 (zs0))))) (in_25 _ (zs16 (zs4 (zs1 (zs1 (zs0)))))) (in_25 _ (zs16 (zs4 (zs1 (zs1 (zs1 (zs0))))))) (in_24 _ (zs4 (zs4 (zs4 (zs1 (zs1 (zs1 (zs0)))))))) (in_25 _ (zs16 (zs4 (zs4 (zs0)))))) rfl rfl rfl ⟨rfl, hz_yX13_farFrom_3⟩ ⟨Nat.le_of_ble_eq_true rfl, Nat.le_of_ble_eq_true rfl⟩) ⟨HW_bl, va_recv hK hP (ci := 14) (q0 := 0) rfl (hI.ob 0 (Nat.le_of_ble_eq_true rfl) rfl), (HW_wi hP hK (WX_D hD) hS hA hEV)⟩ rfl rfl hl.1 rfl (lv_room (Nat.le_of_ble_eq_true rfl)) dX13_findStates_140 ⟨Nat.le_of_ble_eq_true rfl, Nat.le_of_ble_eq_true rfl⟩) hS hP (fun r24 H locs hw hP hS => ?_)
                      obtain ⟨f25, f26⟩ := hw
                      try rw [hKp.ef 41 (fun _ => rfl)] at f26
                      try rw [hKp.ef 42 (fun _ => rfl)] at f26
                      try rw [hKp.ef 43 (fun _ => rfl)] at f26
                      refine lv_if_gt (tgt := 234) hx hb dX13_findStates_143 (by decide) (fun c27 => ?_) (fun c27 => ?_)
                      · --143 taken
                        have t28 : (0 : Int) < r24.toInt := ti_lt c27
                        have i29 : 1 ≤ r24.toInt ∧ r24.toInt ≤ 200 := iv_lt_r t28 (il_ 0) f25 (by decide)
                        obtain ⟨y30, ey30⟩ : ∃ y : Int32, y = v126_11 + (1 : Int32) := ⟨_, rfl⟩
                        obtain ⟨ty30, iy30⟩ := ti_add (e := 1) (f := 100) i23 ln_1 ey30 (by decide)
                        have ty30 : y30.toInt = v126_11.toInt + 1 := ty30
                        have iy30 : 1 ≤ y30.toInt ∧ y30.toInt ≤ 100 := iy30
                        refine lv_iinc (v := y30) (lv' := [(11, .int y30), (10, .int v110_10), (9, .int v21_9), (8, .int v21_8), (7, .int v126_7), (6, .int y1), (0, .ref (ad 0)), (1, .int a0), (2, .int a1), (3, .int a2), (4, .int a3), (5, .int a4)]) hx hb dX13_findStates_234 hl (k := 0) rfl (by rw [ey30]; rfl) (by decide) rfl (fun ls hl => ?_)
                        refine lv_goto (tgt := 126) hx hb dX13_findStates_237 (by decide) ?_
                        exact ih126 y30 v126_7 E126_ _ _ _ (iv_w iy30 (by decide)) hv126_7 (by  omega) (by  omega) (by first | exact ms_su hx126_2 ty30 (by decide) | omega) hI hKp hP hS (lv_sub hl [0, 1, 2, 3, 4, 5, 6, 7, 8, 9, 10, 11] rfl)
                      · --143 not
                        have t31 : r24.toInt ≤ 0 := ti_nlt c27
                        have i32 : 0 ≤ r24.toInt ∧ r24.toInt ≤ 0 := iv_le_l t31 f25 (il_ 0) (by decide)
                        refine lv_aload_n hx hb dX13_findStates_146 rfl (lv_at hl 6 rfl) ?_
                        refine lv_iload_n hx hb dX13_findStates_147 rfl (lv_at hl 8 rfl) ?_
                        refine lv_iload_n hx hb dX13_findStates_148 rfl (lv_at hl 9 rfl) ?_
                        refine lv_iload hx hb dX13_findStates_149 (lv_at hl 10 rfl) ?_
                        refine lv_iload hx hb dX13_findStates_151 (lv_at hl 11 rfl) ?_
                        refine lv_iload hx hb dX13_findStates_153 (lv_at hl 1 rfl) ?_
                        refine lv_iload hx hb dX13_findStates_155 (lv_at hl 0 rfl) ?_
                        refine th_ri (va_runV (As := [.int a1, .int a2, .int a3, .int a4, .int v110_10, .int v126_11]) (rest := []) ⟨hx, hb, hml, hown, hts⟩ (q_canBe l dC dI cT ad E126_ H.size a1 a2 a3 a4 v110_10 v126_11 hI hh1) (cwV 6 hts (gi_V (in_25 _ (zs16 (zs4 (zs4 (zs4 (zs1 (zs0))))))) (in_25 _ (zs16 (zs4 (zs4 (zs4 (zs1 (zs1 (zs0)))))))) (in_25 _ (zs16 (zs4 (zs4 (zs4 (zs1 (zs1 (zs1 (zs0))))))))) (in_24 _ (zs4 (zs4 (zs4 (zs1 (zs1 (zs1 (zs0)))))))) (in_25 _ (zs16 (zs16 (zs0))))) rfl rfl rfl ⟨rfl, hz_yX13_canBe_6⟩ ⟨Nat.le_of_ble_eq_true rfl, Nat.le_of_ble_eq_true rfl⟩) ⟨HW_bl, va_recv hK hP (ci := 14) (q0 := 0) rfl (hI.ob 0 (Nat.le_of_ble_eq_true rfl) rfl), (HW_wi hP hK (WX_D hD) hS hA hEV)⟩ rfl rfl hl.1 rfl (lv_room (Nat.le_of_ble_eq_true rfl)) dX13_findStates_157 ⟨Nat.le_of_ble_eq_true rfl, Nat.le_of_ble_eq_true rfl⟩) hS hP (fun r33 H locs hw hP hS => ?_)
                        rcases hw with hw | hw
                        · -- canBe, case 0
                          obtain rfl := hw
                          refine lv_if_ne (tgt := 166) hx hb dX13_findStates_160 (by decide) (fun c34 => ?_) (fun c34 => ?_)
                          · --160 taken
                            refine lv_iconst (v := 0) hx hb dX13_findStates_166 (by decide) ?_
                            refine lv_istore (lv' := [(12, .int 0), (11, .int v126_11), (10, .int v110_10), (9, .int v21_9), (8, .int v21_8), (7, .int v126_7), (6, .int y1), (0, .ref (ad 0)), (1, .int a0), (2, .int a1), (3, .int a2), (4, .int a3), (5, .int a4)]) hx hb dX13_findStates_167 hl (by decide) rfl (fun ls hl => ?_)
                            have hL169 : ∀ d : Nat, ∀ (v169_12 : Int32) (v169_7 : Int32) (E169_ : Nat → va_E) (H : Heap) (locs : List Loc) (ls : Array Slot), 0 ≤ v169_12.toInt ∧ v169_12.toInt ≤ 8 → 0 ≤ v169_7.toInt ∧ v169_7.toInt ≤ 128 → v169_7.toInt ≤ 32 * (v110_10.toInt - (xi (E 41) v21_8.toNatClampNeg).toInt) + 8 * (v126_11.toInt - (xi (E 42) v21_8.toNatClampNeg).toInt) + v169_12.toInt → 8 - v169_12.toInt < (d : Int) → IX cT shM spM 72 ad E169_ → Kp w_findStates E E169_ → va_P (dC, dI) vwCl (WX 72 ad E169_) H → va_S A s.heap H locs → lv_has ls 13 [(12, .int v169_12), (11, .int v126_11), (10, .int v110_10), (9, .int v21_9), (8, .int v21_8), (7, .int v169_7), (6, .int y1), (0, .ref (ad 0)), (1, .int a0), (2, .int a1), (3, .int a2), (4, .int a3), (5, .int a4)] → W p l e (headSpec v_findStates rm_findStates).room s m args below meth c H locs 0 0 Q (F0 m 169 ls []) := by
                              intro d
                              induction d with
                              | zero =>
                                intro v169_12 v169_7 E169_ H locs ls hv169_12 hv169_7 hx169_0 hx169_1 hI hKp hP hS hl
                                exact absurd hx169_1 (by first | exact ms_zu hv169_12.2 | omega)
                              | succ d ih169 =>
                                intro v169_12 v169_7 E169_ H locs ls hv169_12 hv169_7 hx169_0 hx169_1 hI hKp hP hS hl
                                refine lv_iload hx hb dX13_findStates_169 (lv_at hl 0 rfl) ?_
                                refine lv_bipush (v := 8) hx hb dX13_findStates_171 (by decide) ?_
                                refine lv_icmp_ge (tgt := 234) hx hb dX13_findStates_173 (by decide) (fun c35 => ?_) (fun c35 => ?_)
                                · --173 taken
                                  have t36 : (8 : Int) ≤ v169_12.toInt := ti_le c35
                                  have i37 : 8 ≤ v169_12.toInt ∧ v169_12.toInt ≤ 8 := iv_le_r t36 (il_ 8) hv169_12 (by decide)
                                  obtain ⟨y38, ey38⟩ : ∃ y : Int32, y = v126_11 + (1 : Int32) := ⟨_, rfl⟩
                                  obtain ⟨ty38, iy38⟩ := ti_add (e := 1) (f := 100) i23 ln_1 ey38 (by decide)
                                  have ty38 : y38.toInt = v126_11.toInt + 1 := ty38
                                  have iy38 : 1 ≤ y38.toInt ∧ y38.toInt ≤ 100 := iy38
                                  refine lv_iinc (v := y38) (lv' := [(11, .int y38), (12, .int v169_12), (10, .int v110_10), (9, .int v21_9), (8, .int v21_8), (7, .int v169_7), (6, .int y1), (0, .ref (ad 0)), (1, .int a0), (2, .int a1), (3, .int a2), (4, .int a3), (5, .int a4)]) hx hb dX13_findStates_234 hl (k := 1) rfl (by rw [ey38]; rfl) (by decide) rfl (fun ls hl => ?_)
                                  refine lv_goto (tgt := 126) hx hb dX13_findStates_237 (by decide) ?_
                                  exact ih126 y38 v169_7 E169_ _ _ _ (iv_w iy38 (by decide)) hv169_7 (by  omega) (by  omega) (by first | exact ms_su hx126_2 ty38 (by decide) | omega) hI hKp hP hS (lv_sub hl [0, 2, 3, 4, 5, 6, 7, 8, 9, 10, 11, 12] rfl)
                                · --173 not
                                  have t39 : v169_12.toInt < 8 := ti_nle c35
                                  have i40 : 0 ≤ v169_12.toInt ∧ v169_12.toInt ≤ 7 := iv_lt_l t39 hv169_12 (il_ 8) (by decide)
                                  refine lv_iload hx hb dX13_findStates_176 (lv_at hl 3 rfl) ?_
                                  refine lv_iload hx hb dX13_findStates_178 (lv_at hl 0 rfl) ?_
                                  refine lv_ishr hx hb dX13_findStates_180 ?_
                                  refine lv_topi (fun y41 ey41 => ?_)
                                  refine lv_iconst (v := 1) hx hb dX13_findStates_181 (by decide) ?_
                                  refine lv_iand hx hb dX13_findStates_182 ?_
                                  refine lv_topi (fun y42 ey42 => ?_)
                                  have iy42 : 0 ≤ y42.toInt ∧ y42.toInt ≤ 1 := ti_and (by decide) ey42
                                  refine lv_if_ne (tgt := 189) hx hb dX13_findStates_183 (by decide) (fun c43 => ?_) (fun c43 => ?_)
                                  · --183 taken
                                    have t44 : ¬ y42.toInt = 0 := ti_ne c43
                                    have i45 : 1 ≤ y42.toInt ∧ y42.toInt ≤ 1 := iv_ne_l t44 iy42 (il_ 0)
                                    have i46 : 0 ≤ v169_7.toInt ∧ v169_7.toInt ≤ 127 := by omega
                                    refine lv_aload_n hx hb dX13_findStates_189 rfl (lv_at hl 7 rfl) ?_
                                    refine th_get (ci := 14) (C := RX13) (T := TX13) (N := 97) (v := .ref (ad 56)) hx hb hts hinX13 hown hK hP hI 0 (Nat.le_of_ble_eq_true rfl) rfl rfl 76 (Nat.le_of_ble_eq_true rfl) (hts _ (vA_in _ _ (in_25 _ (zs16 (zs1 (zs0)))))) (fun _ h9 => h9) (hI.fr 0 (Nat.le_of_ble_eq_true rfl) rfl (Nat.le_of_ble_eq_true rfl) 56 rfl) dX13_findStates_190 ?_
                                    refine lv_iload hx hb dX13_findStates_193 (lv_at hl 6 rfl) ?_
                                    refine lv_iload hx hb dX13_findStates_195 (lv_at hl 5 rfl) ?_
                                    refine lv_iadd hx hb dX13_findStates_197 ?_
                                    refine lv_topi (fun y47 ey47 => ?_)
                                    obtain ⟨ty47, iy47⟩ := ti_add (e := 0) (f := 255) iy1 i46 ey47 (by decide)
                                    have ty47 : y47.toInt = y1.toInt + v169_7.toInt := ty47
                                    have iy47 : 0 ≤ y47.toInt ∧ y47.toInt ≤ 255 := iy47
                                    refine lv_iload hx hb dX13_findStates_198 (lv_at hl 2 rfl) ?_
                                    have n48 : vp_in y47 256 := (iv_in (n := 256) iy47 (by decide))
                                    refine th_iast hx hb hK hP (WX_D hD) hS hI 56 (Nat.le_of_ble_eq_true rfl) rfl rfl n48 (okI rfl i12) dX13_findStates_200 (fun H locs E49 pw50 hI hP hS => ?_)
                                    have hKp := hKp.pw pw50 rfl
                                    refine lv_aload_n hx hb dX13_findStates_201 rfl (lv_at hl 7 rfl) ?_
                                    refine th_get (ci := 14) (C := RX13) (T := TX13) (N := 97) (v := .ref (ad 57)) hx hb hts hinX13 hown hK hP hI 0 (Nat.le_of_ble_eq_true rfl) rfl rfl 77 (Nat.le_of_ble_eq_true rfl) (hts _ (vA_in _ _ (in_25 _ (zs16 (zs1 (zs1 (zs0))))))) (fun _ h9 => h9) (hI.fr 0 (Nat.le_of_ble_eq_true rfl) rfl (Nat.le_of_ble_eq_true rfl) 57 rfl) dX13_findStates_202 ?_
                                    refine lv_iload hx hb dX13_findStates_205 (lv_at hl 6 rfl) ?_
                                    refine lv_iload hx hb dX13_findStates_207 (lv_at hl 5 rfl) ?_
                                    refine lv_iadd hx hb dX13_findStates_209 ?_
                                    refine lv_topi (fun y51 ey51 => ?_)
                                    obtain ⟨ty51, iy51⟩ := ti_add (e := 0) (f := 255) iy1 i46 ey51 (by decide)
                                    have ty51 : y51.toInt = y1.toInt + v169_7.toInt := ty51
                                    have iy51 : 0 ≤ y51.toInt ∧ y51.toInt ≤ 255 := iy51
                                    refine lv_iload hx hb dX13_findStates_210 (lv_at hl 1 rfl) ?_
                                    have n52 : vp_in y51 256 := (iv_in (n := 256) iy51 (by decide))
                                    refine th_iast hx hb hK hP (WX_D hD) hS hI 57 (Nat.le_of_ble_eq_true rfl) rfl rfl n52 (okI rfl i23) dX13_findStates_212 (fun H locs E53 pw54 hI hP hS => ?_)
                                    have hKp := hKp.pw pw54 rfl
                                    refine lv_aload_n hx hb dX13_findStates_213 rfl (lv_at hl 7 rfl) ?_
                                    refine th_get (ci := 14) (C := RX13) (T := TX13) (N := 97) (v := .ref (ad 58)) hx hb hts hinX13 hown hK hP hI 0 (Nat.le_of_ble_eq_true rfl) rfl rfl 78 (Nat.le_of_ble_eq_true rfl) (hts _ (vA_in _ _ (in_25 _ (zs16 (zs1 (zs1 (zs1 (zs0)))))))) (fun _ h9 => h9) (hI.fr 0 (Nat.le_of_ble_eq_true rfl) rfl (Nat.le_of_ble_eq_true rfl) 58 rfl) dX13_findStates_214 ?_
                                    refine lv_iload hx hb dX13_findStates_217 (lv_at hl 6 rfl) ?_
                                    refine lv_iload hx hb dX13_findStates_219 (lv_at hl 5 rfl) ?_
                                    refine lv_iadd hx hb dX13_findStates_221 ?_
                                    refine lv_topi (fun y55 ey55 => ?_)
                                    obtain ⟨ty55, iy55⟩ := ti_add (e := 0) (f := 255) iy1 i46 ey55 (by decide)
                                    have ty55 : y55.toInt = y1.toInt + v169_7.toInt := ty55
                                    have iy55 : 0 ≤ y55.toInt ∧ y55.toInt ≤ 255 := iy55
                                    refine lv_iload hx hb dX13_findStates_222 (lv_at hl 0 rfl) ?_
                                    have n56 : vp_in y55 256 := (iv_in (n := 256) iy55 (by decide))
                                    refine th_iast hx hb hK hP (WX_D hD) hS hI 58 (Nat.le_of_ble_eq_true rfl) rfl rfl n56 (okI rfl i40) dX13_findStates_224 (fun H locs E57 pw58 hI hP hS => ?_)
                                    have hKp := hKp.pw pw58 rfl
                                    obtain ⟨y59, ey59⟩ : ∃ y : Int32, y = v169_7 + (1 : Int32) := ⟨_, rfl⟩
                                    obtain ⟨ty59, iy59⟩ := ti_add (e := 1) (f := 128) i46 ln_1 ey59 (by decide)
                                    have ty59 : y59.toInt = v169_7.toInt + 1 := ty59
                                    have iy59 : 1 ≤ y59.toInt ∧ y59.toInt ≤ 128 := iy59
                                    refine lv_iinc (v := y59) (lv' := [(7, .int y59), (12, .int v169_12), (11, .int v126_11), (10, .int v110_10), (9, .int v21_9), (8, .int v21_8), (6, .int y1), (0, .ref (ad 0)), (1, .int a0), (2, .int a1), (3, .int a2), (4, .int a3), (5, .int a4)]) hx hb dX13_findStates_225 hl (k := 5) rfl (by rw [ey59]; rfl) (by decide) rfl (fun ls hl => ?_)
                                    obtain ⟨y60, ey60⟩ : ∃ y : Int32, y = v169_12 + (1 : Int32) := ⟨_, rfl⟩
                                    obtain ⟨ty60, iy60⟩ := ti_add (e := 1) (f := 8) i40 ln_1 ey60 (by decide)
                                    have ty60 : y60.toInt = v169_12.toInt + 1 := ty60
                                    have iy60 : 1 ≤ y60.toInt ∧ y60.toInt ≤ 8 := iy60
                                    refine lv_iinc (v := y60) (lv' := [(12, .int y60), (7, .int y59), (11, .int v126_11), (10, .int v110_10), (9, .int v21_9), (8, .int v21_8), (6, .int y1), (0, .ref (ad 0)), (1, .int a0), (2, .int a1), (3, .int a2), (4, .int a3), (5, .int a4)]) hx hb dX13_findStates_228 hl (k := 1) rfl (by rw [ey60]; rfl) (by decide) rfl (fun ls hl => ?_)
                                    refine lv_goto (tgt := 169) hx hb dX13_findStates_231 (by decide) ?_
                                    exact ih169 y60 y59 E57 _ _ _ (iv_w iy60 (by decide)) (iv_w iy59 (by decide)) (by  omega) (by first | exact ms_su hx169_1 ty60 (by decide) | omega) hI hKp hP hS (lv_sub hl [0, 2, 3, 4, 5, 1, 6, 7, 8, 9, 10, 11, 12] rfl)
                                  · --183 not
                                    have t61 : y42.toInt = 0 := ti_eq c43
                                    have i62 : 0 ≤ y42.toInt ∧ y42.toInt ≤ 0 := iv_eqi t61 iy42 (il_ 0) (by decide)
                                    refine lv_goto (tgt := 228) hx hb dX13_findStates_186 (by decide) ?_
                                    obtain ⟨y63, ey63⟩ : ∃ y : Int32, y = v169_12 + (1 : Int32) := ⟨_, rfl⟩
                                    obtain ⟨ty63, iy63⟩ := ti_add (e := 1) (f := 8) i40 ln_1 ey63 (by decide)
                                    have ty63 : y63.toInt = v169_12.toInt + 1 := ty63
                                    have iy63 : 1 ≤ y63.toInt ∧ y63.toInt ≤ 8 := iy63
                                    refine lv_iinc (v := y63) (lv' := [(12, .int y63), (11, .int v126_11), (10, .int v110_10), (9, .int v21_9), (8, .int v21_8), (7, .int v169_7), (6, .int y1), (0, .ref (ad 0)), (1, .int a0), (2, .int a1), (3, .int a2), (4, .int a3), (5, .int a4)]) hx hb dX13_findStates_228 hl (k := 0) rfl (by rw [ey63]; rfl) (by decide) rfl (fun ls hl => ?_)
                                    refine lv_goto (tgt := 169) hx hb dX13_findStates_231 (by decide) ?_
                                    exact ih169 y63 v169_7 E169_ _ _ _ (iv_w iy63 (by decide)) hv169_7 (by  omega) (by first | exact ms_su hx169_1 ty63 (by decide) | omega) hI hKp hP hS (lv_sub hl [0, 1, 2, 3, 4, 5, 6, 7, 8, 9, 10, 11, 12] rfl)
                            exact hL169 (9) (0 : Int32) v126_7 E126_ _ _ _ (iv_w ln_0 (by decide)) hv126_7 (by have h80 := ln_0; omega) (by have h9 := ln_0; first | exact ms_bu h9.1 (by decide) | omega) hI hKp hP hS (lv_sub hl [0, 1, 2, 3, 4, 5, 6, 7, 8, 9, 10, 11, 12] rfl)
                          · --160 not
                            exact absurd c34 (by decide)
                        · -- canBe, case 1
                          obtain rfl := hw
                          refine lv_if_ne (tgt := 166) hx hb dX13_findStates_160 (by decide) (fun c64 => ?_) (fun c64 => ?_)
                          · --160 taken
                            exact absurd c64 (by decide)
                          · --160 not
                            refine lv_goto (tgt := 234) hx hb dX13_findStates_163 (by decide) ?_
                            obtain ⟨y65, ey65⟩ : ∃ y : Int32, y = v126_11 + (1 : Int32) := ⟨_, rfl⟩
                            obtain ⟨ty65, iy65⟩ := ti_add (e := 1) (f := 100) i23 ln_1 ey65 (by decide)
                            have ty65 : y65.toInt = v126_11.toInt + 1 := ty65
                            have iy65 : 1 ≤ y65.toInt ∧ y65.toInt ≤ 100 := iy65
                            refine lv_iinc (v := y65) (lv' := [(11, .int y65), (10, .int v110_10), (9, .int v21_9), (8, .int v21_8), (7, .int v126_7), (6, .int y1), (0, .ref (ad 0)), (1, .int a0), (2, .int a1), (3, .int a2), (4, .int a3), (5, .int a4)]) hx hb dX13_findStates_234 hl (k := 0) rfl (by rw [ey65]; rfl) (by decide) rfl (fun ls hl => ?_)
                            refine lv_goto (tgt := 126) hx hb dX13_findStates_237 (by decide) ?_
                            exact ih126 y65 v126_7 E126_ _ _ _ (iv_w iy65 (by decide)) hv126_7 (by  omega) (by  omega) (by first | exact ms_su hx126_2 ty65 (by decide) | omega) hI hKp hP hS (lv_sub hl [0, 1, 2, 3, 4, 5, 6, 7, 8, 9, 10, 11] rfl)
                exact hL126 (101) (0 : Int32) v110_7 E110_ _ _ _ (iv_w ln_0 (by decide)) hv110_7 (by have h80 := ln_0; omega) (by have h80 := ln_0; omega) (by have h9 := ln_0; first | exact ms_bu h9.1 (by decide) | omega) hI hKp hP hS (lv_sub hl [0, 1, 2, 3, 4, 5, 6, 7, 8, 9, 10, 11] rfl)
        exact hL110 (101) (0 : Int32) (0 : Int32) E _ _ _ (iv_w ln_0 (by decide)) (iv_w ln_0 (by decide)) (by have h80 := ln_0; have h81 := ln_0; omega) (by have h9 := ln_0; first | exact ms_bu h9.1 (by decide) | omega) hI hKp hP hS (lv_sub hl [0, 1, 2, 3, 4, 5, 6, 7, 8, 9, 10] rfl)
      · --27 not
        have t66 : v21_10.toInt < (xi (E 0) 74).toInt := ti_nle c3
        have i67 : 0 ≤ v21_10.toInt ∧ v21_10.toInt ≤ 199 := iv_lt_l t66 hv21_10 i2 (by decide)
        have i68 : 1 ≤ (xi (E 0) 74).toInt ∧ (xi (E 0) 74).toInt ≤ 200 := iv_lt_r t66 hv21_10 i2 (by decide)
        refine lv_aload_n hx hb dX13_findStates_30 rfl (lv_at hl 5 rfl) ?_
        refine th_get (ci := 14) (C := RX13) (T := TX13) (N := 97) (v := .ref (ad 38)) hx hb hts hinX13 hown hK hP hI 0 (Nat.le_of_ble_eq_true rfl) rfl rfl 56 (Nat.le_of_ble_eq_true rfl) (hts _ (vA_in _ _ (in_25 _ (zs4 (zs4 (zs4 (zs0))))))) (fun _ h9 => h9) (hI.fr 0 (Nat.le_of_ble_eq_true rfl) rfl (Nat.le_of_ble_eq_true rfl) 38 rfl) dX13_findStates_31 ?_
        refine lv_iload hx hb dX13_findStates_34 (lv_at hl 0 rfl) ?_
        have n70 : vp_in v21_10 200 := (iv_in (n := 200) i67 (by decide))
        refine th_iald hx hb hK hP hI 38 (Nat.le_of_ble_eq_true rfl) rfl rfl n70 dX13_findStates_36 (fun y69 ey69 => ?_)
        have iy69 : 0 ≤ y69.toInt ∧ y69.toInt ≤ 19 := hI.el 38 (Nat.le_of_ble_eq_true rfl) rfl n70 (fun _ => rfl) ey69
        have ey69 := ey69.trans (hKp.ei 38 _ rfl)
        refine lv_iload_n hx hb dX13_findStates_37 rfl (lv_at hl 7 rfl) ?_
        refine lv_icmp_ne (tgt := 101) hx hb dX13_findStates_38 (by decide) (fun c71 => ?_) (fun c71 => ?_)
        · --38 taken
          have t72 : ¬ y69.toInt = a1.toInt := ti_ne c71
          obtain ⟨y73, ey73⟩ : ∃ y : Int32, y = v21_10 + (1 : Int32) := ⟨_, rfl⟩
          obtain ⟨ty73, iy73⟩ := ti_add (e := 1) (f := 200) i67 ln_1 ey73 (by decide)
          have ty73 : y73.toInt = v21_10.toInt + 1 := ty73
          have iy73 : 1 ≤ y73.toInt ∧ y73.toInt ≤ 200 := iy73
          refine lv_iinc (v := y73) (lv' := [(10, .int y73), (9, .int v21_9), (8, .int v21_8), (7, .int 0), (6, .int y1), (0, .ref (ad 0)), (1, .int a0), (2, .int a1), (3, .int a2), (4, .int a3), (5, .int a4)]) hx hb dX13_findStates_101 hl (k := 0) rfl (by rw [ey73]; rfl) (by decide) rfl (fun ls hl => ?_)
          refine lv_goto (tgt := 21) hx hb dX13_findStates_104 (by decide) ?_
          exact ih21 y73 v21_9 v21_8 _ _ _ (iv_w iy73 (by decide)) hv21_8 (by first | exact ms_su hx21_0 ty73 (by decide) | omega) hP hS (lv_sub hl [0, 1, 2, 3, 4, 5, 6, 7, 8, 9, 10] rfl)
        · --38 not
          have t74 : y69.toInt = a1.toInt := ti_eq c71
          refine lv_aload_n hx hb dX13_findStates_41 rfl (lv_at hl 5 rfl) ?_
          refine th_get (ci := 14) (C := RX13) (T := TX13) (N := 97) (v := .ref (ad 39)) hx hb hts hinX13 hown hK hP hI 0 (Nat.le_of_ble_eq_true rfl) rfl rfl 57 (Nat.le_of_ble_eq_true rfl) (hts _ (vA_in _ _ (in_25 _ (zs4 (zs4 (zs4 (zs1 (zs0)))))))) (fun _ h9 => h9) (hI.fr 0 (Nat.le_of_ble_eq_true rfl) rfl (Nat.le_of_ble_eq_true rfl) 39 rfl) dX13_findStates_42 ?_
          refine lv_iload hx hb dX13_findStates_45 (lv_at hl 0 rfl) ?_
          have n76 : vp_in v21_10 200 := (iv_in (n := 200) i67 (by decide))
          refine th_iald hx hb hK hP hI 39 (Nat.le_of_ble_eq_true rfl) rfl rfl n76 dX13_findStates_47 (fun y75 ey75 => ?_)
          have iy75 : 0 ≤ y75.toInt ∧ y75.toInt ≤ 15 := hI.el 39 (Nat.le_of_ble_eq_true rfl) rfl n76 (fun _ => rfl) ey75
          have ey75 := ey75.trans (hKp.ei 39 _ rfl)
          refine lv_iload_n hx hb dX13_findStates_48 rfl (lv_at hl 8 rfl) ?_
          refine lv_icmp_ne (tgt := 101) hx hb dX13_findStates_49 (by decide) (fun c77 => ?_) (fun c77 => ?_)
          · --49 taken
            have t78 : ¬ y75.toInt = a2.toInt := ti_ne c77
            obtain ⟨y79, ey79⟩ : ∃ y : Int32, y = v21_10 + (1 : Int32) := ⟨_, rfl⟩
            obtain ⟨ty79, iy79⟩ := ti_add (e := 1) (f := 200) i67 ln_1 ey79 (by decide)
            have ty79 : y79.toInt = v21_10.toInt + 1 := ty79
            have iy79 : 1 ≤ y79.toInt ∧ y79.toInt ≤ 200 := iy79
            refine lv_iinc (v := y79) (lv' := [(10, .int y79), (9, .int v21_9), (8, .int v21_8), (7, .int 0), (6, .int y1), (0, .ref (ad 0)), (1, .int a0), (2, .int a1), (3, .int a2), (4, .int a3), (5, .int a4)]) hx hb dX13_findStates_101 hl (k := 0) rfl (by rw [ey79]; rfl) (by decide) rfl (fun ls hl => ?_)
            refine lv_goto (tgt := 21) hx hb dX13_findStates_104 (by decide) ?_
            exact ih21 y79 v21_9 v21_8 _ _ _ (iv_w iy79 (by decide)) hv21_8 (by first | exact ms_su hx21_0 ty79 (by decide) | omega) hP hS (lv_sub hl [0, 1, 2, 3, 4, 5, 6, 7, 8, 9, 10] rfl)
          · --49 not
            have t80 : y75.toInt = a2.toInt := ti_eq c77
            have i81 : 0 ≤ a2.toInt ∧ a2.toInt ≤ 15 := iv_eqi t80.symm (iv_all _) iy75 (by decide)
            refine lv_aload_n hx hb dX13_findStates_52 rfl (lv_at hl 5 rfl) ?_
            refine th_get (ci := 14) (C := RX13) (T := TX13) (N := 97) (v := .ref (ad 45)) hx hb hts hinX13 hown hK hP hI 0 (Nat.le_of_ble_eq_true rfl) rfl rfl 63 (Nat.le_of_ble_eq_true rfl) (hts _ (vA_in _ _ (in_25 _ (zs4 (zs4 (zs4 (zs1 (zs1 (zs0))))))))) (fun _ h9 => h9) (hI.fr 0 (Nat.le_of_ble_eq_true rfl) rfl (Nat.le_of_ble_eq_true rfl) 45 rfl) dX13_findStates_53 ?_
            refine lv_iload hx hb dX13_findStates_56 (lv_at hl 0 rfl) ?_
            have n83 : vp_in v21_10 200 := (iv_in (n := 200) i67 (by decide))
            refine th_iald hx hb hK hP hI 45 (Nat.le_of_ble_eq_true rfl) rfl rfl n83 dX13_findStates_58 (fun y82 ey82 => ?_)
            have iy82 : 0 ≤ y82.toInt ∧ y82.toInt ≤ 400 := hI.el 45 (Nat.le_of_ble_eq_true rfl) rfl n83 (fun _ => rfl) ey82
            have ey82 := ey82.trans (hKp.ei 45 _ rfl)
            refine lv_iload hx hb dX13_findStates_59 (lv_at hl 10 rfl) ?_
            refine lv_icmp_gt (tgt := 101) hx hb dX13_findStates_61 (by decide) (fun c84 => ?_) (fun c84 => ?_)
            · --61 taken
              have t85 : a4.toInt < y82.toInt := ti_lt c84
              have i86 : -2147483648 ≤ a4.toInt ∧ a4.toInt ≤ 399 := iv_lt_l t85 (iv_all _) iy82 (by decide)
              obtain ⟨y87, ey87⟩ : ∃ y : Int32, y = v21_10 + (1 : Int32) := ⟨_, rfl⟩
              obtain ⟨ty87, iy87⟩ := ti_add (e := 1) (f := 200) i67 ln_1 ey87 (by decide)
              have ty87 : y87.toInt = v21_10.toInt + 1 := ty87
              have iy87 : 1 ≤ y87.toInt ∧ y87.toInt ≤ 200 := iy87
              refine lv_iinc (v := y87) (lv' := [(10, .int y87), (9, .int v21_9), (8, .int v21_8), (7, .int 0), (6, .int y1), (0, .ref (ad 0)), (1, .int a0), (2, .int a1), (3, .int a2), (4, .int a3), (5, .int a4)]) hx hb dX13_findStates_101 hl (k := 0) rfl (by rw [ey87]; rfl) (by decide) rfl (fun ls hl => ?_)
              refine lv_goto (tgt := 21) hx hb dX13_findStates_104 (by decide) ?_
              exact ih21 y87 v21_9 v21_8 _ _ _ (iv_w iy87 (by decide)) hv21_8 (by first | exact ms_su hx21_0 ty87 (by decide) | omega) hP hS (lv_sub hl [0, 1, 2, 3, 4, 5, 6, 7, 8, 9, 10] rfl)
            · --61 not
              have t88 : y82.toInt ≤ a4.toInt := ti_nlt c84
              have i89 : 0 ≤ a4.toInt ∧ a4.toInt ≤ 2147483647 := iv_le_r t88 iy82 (iv_all _) (by decide)
              refine lv_aload_n hx hb dX13_findStates_64 rfl (lv_at hl 5 rfl) ?_
              refine th_get (ci := 14) (C := RX13) (T := TX13) (N := 97) (v := .ref (ad 40)) hx hb hts hinX13 hown hK hP hI 0 (Nat.le_of_ble_eq_true rfl) rfl rfl 58 (Nat.le_of_ble_eq_true rfl) (hts _ (vA_in _ _ (in_25 _ (zs4 (zs4 (zs4 (zs1 (zs1 (zs1 (zs0)))))))))) (fun _ h9 => h9) (hI.fr 0 (Nat.le_of_ble_eq_true rfl) rfl (Nat.le_of_ble_eq_true rfl) 40 rfl) dX13_findStates_65 ?_
              refine lv_iload hx hb dX13_findStates_68 (lv_at hl 0 rfl) ?_
              have n91 : vp_in v21_10 200 := (iv_in (n := 200) i67 (by decide))
              refine th_iald hx hb hK hP hI 40 (Nat.le_of_ble_eq_true rfl) rfl rfl n91 dX13_findStates_70 (fun y90 ey90 => ?_)
              have iy90 : 0 ≤ y90.toInt ∧ y90.toInt ≤ 100000 := hI.el 40 (Nat.le_of_ble_eq_true rfl) rfl n91 (fun _ => rfl) ey90
              have ey90 := ey90.trans (hKp.ei 40 _ rfl)
              refine lv_iload hx hb dX13_findStates_71 (lv_at hl 9 rfl) ?_
              refine lv_icmp_eq (tgt := 79) hx hb dX13_findStates_73 (by decide) (fun c92 => ?_) (fun c92 => ?_)
              · --73 taken
                have t93 : y90.toInt = a3.toInt := ti_eq c92
                have i94 : 0 ≤ a3.toInt ∧ a3.toInt ≤ 100000 := iv_eqi t93.symm (iv_all _) iy90 (by decide)
                refine lv_iload hx hb dX13_findStates_79 (lv_at hl 1 rfl) ?_
                refine lv_aload_n hx hb dX13_findStates_81 rfl (lv_at hl 5 rfl) ?_
                refine th_get (ci := 14) (C := RX13) (T := TX13) (N := 97) (v := .ref (ad 44)) hx hb hts hinX13 hown hK hP hI 0 (Nat.le_of_ble_eq_true rfl) rfl rfl 62 (Nat.le_of_ble_eq_true rfl) (hts _ (vA_in _ _ (in_25 _ (zs16 (zs0))))) (fun _ h9 => h9) (hI.fr 0 (Nat.le_of_ble_eq_true rfl) rfl (Nat.le_of_ble_eq_true rfl) 44 rfl) dX13_findStates_82 ?_
                refine lv_iload hx hb dX13_findStates_85 (lv_at hl 0 rfl) ?_
                have n96 : vp_in v21_10 200 := (iv_in (n := 200) i67 (by decide))
                refine th_iald hx hb hK hP hI 44 (Nat.le_of_ble_eq_true rfl) rfl rfl n96 dX13_findStates_87 (fun y95 ey95 => ?_)
                have iy95 : 0 ≤ y95.toInt ∧ y95.toInt ≤ 255 := hI.el 44 (Nat.le_of_ble_eq_true rfl) rfl n96 (fun _ => rfl) ey95
                have ey95 := ey95.trans (hKp.ei 44 _ rfl)
                refine lv_iand hx hb dX13_findStates_88 ?_
                refine lv_topi (fun y97 ey97 => ?_)
                refine lv_istore (lv' := [(9, .int y97), (10, .int v21_10), (8, .int v21_8), (7, .int 0), (6, .int y1), (0, .ref (ad 0)), (1, .int a0), (2, .int a1), (3, .int a2), (4, .int a3), (5, .int a4)]) hx hb dX13_findStates_89 hl (by decide) rfl (fun ls hl => ?_)
                refine lv_iload hx hb dX13_findStates_91 (lv_at hl 2 rfl) ?_
                refine lv_iconst (v := -1) hx hb dX13_findStates_93 (by decide) ?_
                refine lv_icmp_ne (tgt := 101) hx hb dX13_findStates_94 (by decide) (fun c98 => ?_) (fun c98 => ?_)
                · --94 taken
                  have t99 : ¬ v21_8.toInt = -1 := ti_ne c98
                  have i100 : 0 ≤ v21_8.toInt ∧ v21_8.toInt ≤ 199 := iv_ne_l t99 hv21_8 (il_ (-1))
                  obtain ⟨y101, ey101⟩ : ∃ y : Int32, y = v21_10 + (1 : Int32) := ⟨_, rfl⟩
                  obtain ⟨ty101, iy101⟩ := ti_add (e := 1) (f := 200) i67 ln_1 ey101 (by decide)
                  have ty101 : y101.toInt = v21_10.toInt + 1 := ty101
                  have iy101 : 1 ≤ y101.toInt ∧ y101.toInt ≤ 200 := iy101
                  refine lv_iinc (v := y101) (lv' := [(10, .int y101), (9, .int y97), (8, .int v21_8), (7, .int 0), (6, .int y1), (0, .ref (ad 0)), (1, .int a0), (2, .int a1), (3, .int a2), (4, .int a3), (5, .int a4)]) hx hb dX13_findStates_101 hl (k := 1) rfl (by rw [ey101]; rfl) (by decide) rfl (fun ls hl => ?_)
                  refine lv_goto (tgt := 21) hx hb dX13_findStates_104 (by decide) ?_
                  exact ih21 y101 y97 v21_8 _ _ _ (iv_w iy101 (by decide)) (iv_w i100 (by decide)) (by first | exact ms_su hx21_0 ty101 (by decide) | omega) hP hS (lv_sub hl [0, 1, 2, 3, 4, 5, 6, 7, 8, 9, 10] rfl)
                · --94 not
                  have t102 : v21_8.toInt = -1 := ti_eq c98
                  have i103 : -1 ≤ v21_8.toInt ∧ v21_8.toInt ≤ -1 := iv_eqi t102 hv21_8 (il_ (-1)) (by decide)
                  refine lv_iload hx hb dX13_findStates_97 (lv_at hl 1 rfl) ?_
                  refine lv_istore (lv' := [(8, .int v21_10), (9, .int y97), (10, .int v21_10), (7, .int 0), (6, .int y1), (0, .ref (ad 0)), (1, .int a0), (2, .int a1), (3, .int a2), (4, .int a3), (5, .int a4)]) hx hb dX13_findStates_99 hl (by decide) rfl (fun ls hl => ?_)
                  obtain ⟨y104, ey104⟩ : ∃ y : Int32, y = v21_10 + (1 : Int32) := ⟨_, rfl⟩
                  obtain ⟨ty104, iy104⟩ := ti_add (e := 1) (f := 200) i67 ln_1 ey104 (by decide)
                  have ty104 : y104.toInt = v21_10.toInt + 1 := ty104
                  have iy104 : 1 ≤ y104.toInt ∧ y104.toInt ≤ 200 := iy104
                  refine lv_iinc (v := y104) (lv' := [(10, .int y104), (8, .int v21_10), (9, .int y97), (7, .int 0), (6, .int y1), (0, .ref (ad 0)), (1, .int a0), (2, .int a1), (3, .int a2), (4, .int a3), (5, .int a4)]) hx hb dX13_findStates_101 hl (k := 2) rfl (by rw [ey104]; rfl) (by decide) rfl (fun ls hl => ?_)
                  refine lv_goto (tgt := 21) hx hb dX13_findStates_104 (by decide) ?_
                  exact ih21 y104 y97 v21_10 _ _ _ (iv_w iy104 (by decide)) (iv_w i67 (by decide)) (by first | exact ms_su hx21_0 ty104 (by decide) | omega) hP hS (lv_sub hl [0, 2, 1, 3, 4, 5, 6, 7, 8, 9, 10] rfl)
              · --73 not
                have t105 : ¬ y90.toInt = a3.toInt := ti_ne c92
                refine lv_goto (tgt := 101) hx hb dX13_findStates_76 (by decide) ?_
                obtain ⟨y106, ey106⟩ : ∃ y : Int32, y = v21_10 + (1 : Int32) := ⟨_, rfl⟩
                obtain ⟨ty106, iy106⟩ := ti_add (e := 1) (f := 200) i67 ln_1 ey106 (by decide)
                have ty106 : y106.toInt = v21_10.toInt + 1 := ty106
                have iy106 : 1 ≤ y106.toInt ∧ y106.toInt ≤ 200 := iy106
                refine lv_iinc (v := y106) (lv' := [(10, .int y106), (9, .int v21_9), (8, .int v21_8), (7, .int 0), (6, .int y1), (0, .ref (ad 0)), (1, .int a0), (2, .int a1), (3, .int a2), (4, .int a3), (5, .int a4)]) hx hb dX13_findStates_101 hl (k := 0) rfl (by rw [ey106]; rfl) (by decide) rfl (fun ls hl => ?_)
                refine lv_goto (tgt := 21) hx hb dX13_findStates_104 (by decide) ?_
                exact ih21 y106 v21_9 v21_8 _ _ _ (iv_w iy106 (by decide)) hv21_8 (by first | exact ms_su hx21_0 ty106 (by decide) | omega) hP hS (lv_sub hl [0, 1, 2, 3, 4, 5, 6, 7, 8, 9, 10] rfl)
  exact hL21 (201) (0 : Int32) (255 : Int32) (-1 : Int32) _ _ _ (iv_w ln_0 (by decide)) (iv_w ln_m1 (by decide)) (by have h9 := ln_0; first | exact ms_bu h9.1 (by decide) | omega) hP hS (lv_sub hl [0, 1, 2, 3, 4, 5, 6, 7, 8, 9, 10] rfl)
def v_asksProtest : List Cond := .code yX13_asksProtest cX13_asksProtest 4 (some .boolean) :: vA
abbrev rm_asksProtest : Room := { frames := 4, cells := 0, slots := 0, locals := 160 }
def w_asksProtest : Nat → Nat → Bool := wl [56, 57, 58, 59] [(0, 0)]
set_option maxHeartbeats 4000000 in
set_option maxRecDepth 100000 in
theorem q_asksProtest (l : Launch) (dC : Nat → ClassId) (dI : Nat → Nat → Nat) (cT : Nat → ClassId) (ad : Nat → Nat) (E : Nat → va_E) (sz : Nat) (a0 : Int32) (a1 : Int32) (a2 : Int32) (hI0 : IX cT shM spM 72 ad E)  : Met l yX13_asksProtest v_asksProtest rm_asksProtest (va_Pc [.ref (ad 0), .int a0, .int a1, .int a2] (HW dC dI (TYM cT) 72 ad E sz)) (va_Qi (S := Nat → va_E) (fun r u => IX cT shM spM 72 ad u ∧ Kp w_asksProtest E u ∧ ((r = 1 ∧ (0 ≤ a0.toInt ∧ a0.toInt ≤ 29) ∧ (0 ≤ a1.toInt ∧ a1.toInt ≤ 1)) ∨ (r = 0))) (HB dC dI 72 ad) (va_A (WX 72 ad E) sz)) 0 0 (va_A (WX 72 ad E) sz) := by
  refine Met.ofW (cc := cX13_asksProtest) (maxL := 4) (ret := (some .boolean)) (by decide) rfl ?_
  intro p e s m args below meth c s₁ B hml hv
  obtain ⟨hargs, hsz, hP, hK, hD0, hEV⟩ := hv
  subst hsz
  have hx := B.exec
  have hb := B.bytes
  have hr := B.returns
  have hts := atoms_spec (ws := v_asksProtest) B.pre
  have hown : s.vm.findClass RX13 = some m.cls := findClass_of_methodNamed B.named
  have hlocks := B.notSynchronized
  have hinX13 : ∀ w ∈ u_ws RX13 TX13 97, w ∈ v_asksProtest := fun w h => vA_in _ w (in_X13 w h)
  generalize hAe : va_A (WX 72 ad E) s.heap.size = A at hEV ⊢
  have hA : ∀ q : Nat, s.heap.size ≤ q → A q := fun q h => by rw [← hAe]; exact Or.inr h
  have hD : va_D A (WX 72 ad E) := by rw [← hAe]; exact hD0.self
  have hS : va_S A s.heap s.heap [] := va_S.rf
  have hI := hI0
  have hKp : Kp w_asksProtest E E := Kp.rf
  have hl := lv_entry ([.ref (ad 0), .int a0, .int a1, .int a2]) (n := 4) (Nat.le_of_ble_eq_true rfl)
  obtain ⟨Q, hQ⟩ : ∃ Q, Q = MQ below (va_Qi (S := Nat → va_E) (fun r u => IX cT shM spM 72 ad u ∧ Kp w_asksProtest E u ∧ ((r = 1 ∧ (0 ≤ a0.toInt ∧ a0.toInt ≤ 29) ∧ (0 ≤ a1.toInt ∧ a1.toInt ≤ 1)) ∨ (r = 0))) (HB dC dI 72 ad) (A)) args s 0 0 (A) := ⟨_, rfl⟩
  rw [← hQ, show entryFrame m args 4 = _ from (congrArg (fun z => entryFrame m z 4) hargs).trans (lg_entry_eq _ _ _)]
  generalize (lg_sl ([.ref (ad 0), .int a0, .int a1, .int a2]) ++ List.replicate (4 - (lg_sl ([.ref (ad 0), .int a0, .int a1, .int a2])).length) Slot.unset).toArray = ls at hl ⊢
  have hl : lv_has ls 4 [(0, .ref (ad 0)), (1, .int a0), (2, .int a1), (3, .int a2)] := hl
  refine lv_aload_n hx hb dX13_asksProtest_0 rfl (lv_at hl 0 rfl) ?_
  refine lv_iconst (v := 0) hx hb dX13_asksProtest_1 (by decide) ?_
  refine th_put (ci := 14) (C := RX13) (T := TX13) (N := 97) (v := .int 0) (ty := .int) hx hb hts hinX13 tyX13 tyX13_ok nmX13 hown hK hP (WX_D hD) hS hI 0 (Nat.le_of_ble_eq_true rfl) rfl rfl 0 (Nat.le_of_ble_eq_true rfl) (hts _ (vA_in _ _ (in_24 _ (zs4 (zs4 (zs1 (zs1 (zs0)))))))) (fun _ h9 => h9) rfl (by decide +kernel) rfl rfl (okI rfl (iv_w ln_0 (by decide))) dX13_asksProtest_2 (fun H locs E1 pw2 hI hP hS => ?_)
  have hKp := hKp.pw pw2 rfl
  refine lv_iload_n hx hb dX13_asksProtest_5 rfl (lv_at hl 1 rfl) ?_
  refine lv_iconst (v := 0) hx hb dX13_asksProtest_6 (by decide) ?_
  refine lv_aload_n hx hb dX13_asksProtest_7 rfl (lv_at hl 0 rfl) ?_
  have i3 : 0 ≤ (xi (E 0) 75).toInt ∧ (xi (E 0) 75).toInt ≤ 30 := hI0.iv 0 (Nat.le_of_ble_eq_true rfl) rfl (Nat.le_of_ble_eq_true rfl) rfl
  refine th_get (ci := 14) (C := RX13) (T := TX13) (N := 97) (v := .int (xi (E 0) 75)) hx hb hts hinX13 hown hK hP hI 0 (Nat.le_of_ble_eq_true rfl) rfl rfl 75 (Nat.le_of_ble_eq_true rfl) (hts _ (vA_in _ _ (in_25 _ (zs1 (zs0))))) (fun _ h9 => h9) (th_v0 hKp hI0 0 (Nat.le_of_ble_eq_true rfl) rfl (Nat.le_of_ble_eq_true rfl) rfl rfl) dX13_asksProtest_8 ?_
  refine lv_iconst (v := 1) hx hb dX13_asksProtest_11 (by decide) ?_
  refine lv_isub hx hb dX13_asksProtest_12 ?_
  refine lv_topi (fun y4 ey4 => ?_)
  obtain ⟨ty4, iy4⟩ := ti_sub (e := (-1)) (f := 29) i3 ln_1 ey4 (by decide)
  have ty4 : y4.toInt = (xi (E 0) 75).toInt - 1 := ty4
  have iy4 : -1 ≤ y4.toInt ∧ y4.toInt ≤ 29 := iy4
  refine th_pi (va_runS (As := [.int a0, .int 0, .int y4]) (rest := []) ⟨hx, hb, hml, hown, hts⟩ (q_isIn l a0 (0 : Int32) y4) (va_cwS 3 hts (gi_S (in_24 _ (zs16 (zs4 (zs4 (zs4 (zs0)))))) (in_24 _ (zs16 (zs4 (zs4 (zs4 (zs1 (zs0))))))) (in_24 _ (zs4 (zs4 (zs4 (zs1 (zs1 (zs1 (zs0)))))))) (in_24 _ (zs16 (zs4 (zs4 (zs4 (zs1 (zs1 (zs0))))))))) rfl rfl rfl hz_yX13_isIn_3 ⟨Nat.le_of_ble_eq_true rfl, Nat.le_of_ble_eq_true rfl⟩) ⟨fun _ _ _ _ q => q, fun _ _ _ => ⟨rfl, trivial⟩⟩ rfl rfl hl.1 rfl (lv_room (Nat.le_of_ble_eq_true rfl)) dX13_asksProtest_13 ⟨Nat.le_of_ble_eq_true rfl, Nat.le_of_ble_eq_true rfl⟩) hS (fun r5 H1 locs1 hw hk1 hS => ?_)
  have hP := ub_keep hP hk1
  generalize H1 = H at hP hS ⊢
  generalize locs1 = locs at hS ⊢
  rcases hw with hw | hw
  · -- isIn, case 0
    obtain ⟨rfl, f6⟩ := hw
    have t7 : (0 : Int) ≤ a0.toInt := f6.1
    have t8 : a0.toInt ≤ y4.toInt := f6.2
    have i9 : 0 ≤ a0.toInt ∧ a0.toInt ≤ 2147483647 := iv_le_r t7 (il_ 0) (iv_all _) (by decide)
    have i10 : 0 ≤ a0.toInt ∧ a0.toInt ≤ 29 := iv_le_l t8 i9 iy4 (by decide)
    have i11 : 0 ≤ y4.toInt ∧ y4.toInt ≤ 29 := iv_le_r t8 i9 iy4 (by decide)
    refine lv_if_eq (tgt := 46) hx hb dX13_asksProtest_16 (by decide) (fun c12 => ?_) (fun c12 => ?_)
    · --16 taken
      exact absurd c12 (by decide)
    · --16 not
      refine lv_iload_n hx hb dX13_asksProtest_19 rfl (lv_at hl 2 rfl) ?_
      refine lv_iconst (v := 0) hx hb dX13_asksProtest_20 (by decide) ?_
      refine lv_iconst (v := 1) hx hb dX13_asksProtest_21 (by decide) ?_
      refine th_pi (va_runS (As := [.int a1, .int 0, .int 1]) (rest := []) ⟨hx, hb, hml, hown, hts⟩ (q_isIn l a1 (0 : Int32) (1 : Int32)) (va_cwS 3 hts (gi_S (in_24 _ (zs16 (zs4 (zs4 (zs4 (zs0)))))) (in_24 _ (zs16 (zs4 (zs4 (zs4 (zs1 (zs0))))))) (in_24 _ (zs4 (zs4 (zs4 (zs1 (zs1 (zs1 (zs0)))))))) (in_24 _ (zs16 (zs4 (zs4 (zs4 (zs1 (zs1 (zs0))))))))) rfl rfl rfl hz_yX13_isIn_3 ⟨Nat.le_of_ble_eq_true rfl, Nat.le_of_ble_eq_true rfl⟩) ⟨fun _ _ _ _ q => q, fun _ _ _ => ⟨rfl, trivial⟩⟩ rfl rfl hl.1 rfl (lv_room (Nat.le_of_ble_eq_true rfl)) dX13_asksProtest_22 ⟨Nat.le_of_ble_eq_true rfl, Nat.le_of_ble_eq_true rfl⟩) hS (fun r13 H1 locs1 hw hk1 hS => ?_)
      have hP := ub_keep hP hk1
      generalize H1 = H at hP hS ⊢
      generalize locs1 = locs at hS ⊢
      rcases hw with hw | hw
      · -- isIn, case 0
        obtain ⟨rfl, f14⟩ := hw
        have t15 : (0 : Int) ≤ a1.toInt := f14.1
        have t16 : a1.toInt ≤ 1 := f14.2
        have i17 : 0 ≤ a1.toInt ∧ a1.toInt ≤ 2147483647 := iv_le_r t15 (il_ 0) (iv_all _) (by decide)
        have i18 : 0 ≤ a1.toInt ∧ a1.toInt ≤ 1 := iv_le_l t16 i17 (il_ 1) (by decide)
        refine lv_if_eq (tgt := 46) hx hb dX13_asksProtest_25 (by decide) (fun c19 => ?_) (fun c19 => ?_)
        · --25 taken
          exact absurd c19 (by decide)
        · --25 not
          refine lv_aload_n hx hb dX13_asksProtest_28 rfl (lv_at hl 0 rfl) ?_
          refine lv_iload_n hx hb dX13_asksProtest_29 rfl (lv_at hl 3 rfl) ?_
          refine th_ri (va_runV (As := [.int a2]) (rest := []) ⟨hx, hb, hml, hown, hts⟩ (q_isKnown l dC dI cT ad E1 H.size a2 hI) (cwV 1 hts (gi_V (in_24 _ (zs16 (zs4 (zs1 (zs1 (zs1 (zs0))))))) (in_24 _ (zs16 (zs4 (zs4 (zs0))))) (in_24 _ (zs16 (zs4 (zs4 (zs1 (zs0)))))) (in_24 _ (zs4 (zs4 (zs4 (zs1 (zs1 (zs1 (zs0)))))))) (in_24 _ (zs16 (zs4 (zs4 (zs1 (zs1 (zs0)))))))) rfl rfl rfl ⟨rfl, hz_yX13_isKnown_1⟩ ⟨Nat.le_of_ble_eq_true rfl, Nat.le_of_ble_eq_true rfl⟩) ⟨HW_bl, va_recv hK hP (ci := 14) (q0 := 0) rfl (hI.ob 0 (Nat.le_of_ble_eq_true rfl) rfl), (HW_wi hP hK (WX_D hD) hS hA hEV)⟩ rfl rfl hl.1 rfl (lv_room (Nat.le_of_ble_eq_true rfl)) dX13_asksProtest_30 ⟨Nat.le_of_ble_eq_true rfl, Nat.le_of_ble_eq_true rfl⟩) hS hP (fun r20 H locs hw hP hS => ?_)
          rcases hw with hw | hw
          · -- isKnown, case 0
            obtain ⟨rfl, f21⟩ := hw
            have i22 : 0 ≤ (xi (E 0) 1).toInt ∧ (xi (E 0) 1).toInt ≤ 400 := (show 0 ≤ (xi (E 0) 1).toInt ∧ (xi (E 0) 1).toInt ≤ 400 from hI0.iv 0 (Nat.le_of_ble_eq_true rfl) rfl (Nat.le_of_ble_eq_true rfl) rfl)
            try rw [hKp.ei 0 1 rfl] at f21
            have t23 : (0 : Int) ≤ a2.toInt := f21.1
            have t24 : a2.toInt ≤ (xi (E 0) 1).toInt := f21.2
            have i25 : 0 ≤ a2.toInt ∧ a2.toInt ≤ 2147483647 := iv_le_r t23 (il_ 0) (iv_all _) (by decide)
            have i26 : 0 ≤ a2.toInt ∧ a2.toInt ≤ 400 := iv_le_l t24 i25 i22 (by decide)
            refine lv_if_eq (tgt := 46) hx hb dX13_asksProtest_33 (by decide) (fun c27 => ?_) (fun c27 => ?_)
            · --33 taken
              exact absurd c27 (by decide)
            · --33 not
              refine lv_aload_n hx hb dX13_asksProtest_36 rfl (lv_at hl 0 rfl) ?_
              refine th_get (ci := 14) (C := RX13) (T := TX13) (N := 97) (v := .ref (ad 50)) hx hb hts hinX13 hown hK hP hI 0 (Nat.le_of_ble_eq_true rfl) rfl rfl 68 (Nat.le_of_ble_eq_true rfl) (hts _ (vA_in _ _ (in_25 _ (zs1 (zs1 (zs0)))))) (fun _ h9 => h9) (hI.fr 0 (Nat.le_of_ble_eq_true rfl) rfl (Nat.le_of_ble_eq_true rfl) 50 rfl) dX13_asksProtest_37 ?_
              refine lv_iload_n hx hb dX13_asksProtest_40 rfl (lv_at hl 1 rfl) ?_
              have n29 : vp_in a0 30 := (iv_in (n := 30) i10 (by decide))
              refine th_iald hx hb hK hP hI 50 (Nat.le_of_ble_eq_true rfl) rfl rfl n29 dX13_asksProtest_41 (fun y28 ey28 => ?_)
              have iy28 : 0 ≤ y28.toInt ∧ y28.toInt ≤ 400 := hI.el 50 (Nat.le_of_ble_eq_true rfl) rfl n29 (fun _ => rfl) ey28
              have ey28 := ey28.trans (hKp.ei 50 _ rfl)
              refine lv_iload_n hx hb dX13_asksProtest_42 rfl (lv_at hl 3 rfl) ?_
              refine lv_icmp_le (tgt := 48) hx hb dX13_asksProtest_43 (by decide) (fun c30 => ?_) (fun c30 => ?_)
              · --43 taken
                have t31 : y28.toInt ≤ a2.toInt := ti_le c30
                refine lv_aload_n hx hb dX13_asksProtest_48 rfl (lv_at hl 0 rfl) ?_
                refine lv_iconst (v := 0) hx hb dX13_asksProtest_49 (by decide) ?_
                refine lv_aload_n hx hb dX13_asksProtest_50 rfl (lv_at hl 0 rfl) ?_
                refine th_get (ci := 14) (C := RX13) (T := TX13) (N := 97) (v := .ref (ad 46)) hx hb hts hinX13 hown hK hP hI 0 (Nat.le_of_ble_eq_true rfl) rfl rfl 64 (Nat.le_of_ble_eq_true rfl) (hts _ (vA_in _ _ (in_25 _ (zs1 (zs1 (zs1 (zs0))))))) (fun _ h9 => h9) (hI.fr 0 (Nat.le_of_ble_eq_true rfl) rfl (Nat.le_of_ble_eq_true rfl) 46 rfl) dX13_asksProtest_51 ?_
                refine lv_iload_n hx hb dX13_asksProtest_54 rfl (lv_at hl 1 rfl) ?_
                have n33 : vp_in a0 30 := (iv_in (n := 30) i10 (by decide))
                refine th_iald hx hb hK hP hI 46 (Nat.le_of_ble_eq_true rfl) rfl rfl n33 dX13_asksProtest_55 (fun y32 ey32 => ?_)
                have iy32 : 0 ≤ y32.toInt ∧ y32.toInt ≤ 19 := hI.el 46 (Nat.le_of_ble_eq_true rfl) rfl n33 (fun _ => rfl) ey32
                have ey32 := ey32.trans (hKp.ei 46 _ rfl)
                refine lv_aload_n hx hb dX13_asksProtest_56 rfl (lv_at hl 0 rfl) ?_
                refine th_get (ci := 14) (C := RX13) (T := TX13) (N := 97) (v := .ref (ad 47)) hx hb hts hinX13 hown hK hP hI 0 (Nat.le_of_ble_eq_true rfl) rfl rfl 65 (Nat.le_of_ble_eq_true rfl) (hts _ (vA_in _ _ (in_25 _ (zs4 (zs0))))) (fun _ h9 => h9) (hI.fr 0 (Nat.le_of_ble_eq_true rfl) rfl (Nat.le_of_ble_eq_true rfl) 47 rfl) dX13_asksProtest_57 ?_
                refine lv_iload_n hx hb dX13_asksProtest_60 rfl (lv_at hl 1 rfl) ?_
                have n35 : vp_in a0 30 := (iv_in (n := 30) i10 (by decide))
                refine th_iald hx hb hK hP hI 47 (Nat.le_of_ble_eq_true rfl) rfl rfl n35 dX13_asksProtest_61 (fun y34 ey34 => ?_)
                have iy34 : 0 ≤ y34.toInt ∧ y34.toInt ≤ 15 := hI.el 47 (Nat.le_of_ble_eq_true rfl) rfl n35 (fun _ => rfl) ey34
                have ey34 := ey34.trans (hKp.ei 47 _ rfl)
                refine lv_aload_n hx hb dX13_asksProtest_62 rfl (lv_at hl 0 rfl) ?_
                refine th_get (ci := 14) (C := RX13) (T := TX13) (N := 97) (v := .ref (ad 49)) hx hb hts hinX13 hown hK hP hI 0 (Nat.le_of_ble_eq_true rfl) rfl rfl 67 (Nat.le_of_ble_eq_true rfl) (hts _ (vA_in _ _ (in_25 _ (zs4 (zs1 (zs0)))))) (fun _ h9 => h9) (hI.fr 0 (Nat.le_of_ble_eq_true rfl) rfl (Nat.le_of_ble_eq_true rfl) 49 rfl) dX13_asksProtest_63 ?_
                refine lv_iload_n hx hb dX13_asksProtest_66 rfl (lv_at hl 1 rfl) ?_
                have n37 : vp_in a0 30 := (iv_in (n := 30) i10 (by decide))
                refine th_iald hx hb hK hP hI 49 (Nat.le_of_ble_eq_true rfl) rfl rfl n37 dX13_asksProtest_67 (fun y36 ey36 => ?_)
                have iy36 : 0 ≤ y36.toInt ∧ y36.toInt ≤ 100000 := hI.el 49 (Nat.le_of_ble_eq_true rfl) rfl n37 (fun _ => rfl) ey36
                have ey36 := ey36.trans (hKp.ei 49 _ rfl)
                refine lv_iload_n hx hb dX13_asksProtest_68 rfl (lv_at hl 3 rfl) ?_
                refine th_v (va_runV (As := [.int 0, .int y32, .int y34, .int y36, .int a2]) (rest := []) ⟨hx, hb, hml, hown, hts⟩ (q_findStates l dC dI cT ad E1 H.size (0 : Int32) y32 y34 y36 a2 hI (iv_w ln_0 (by decide)) iy32) (cwV 5 hts (gi_V (in_25 _ (zs4 (zs1 (zs1 (zs1 (zs0)))))) (in_25 _ (zs4 (zs4 (zs0)))) (in_25 _ (zs4 (zs4 (zs1 (zs0))))) (in_24 _ (zs4 (zs4 (zs4 (zs1 (zs1 (zs1 (zs0)))))))) (in_25 _ (zs4 (zs4 (zs1 (zs1 (zs0))))))) rfl rfl rfl ⟨rfl, hz_yX13_findStates_5⟩ ⟨Nat.le_of_ble_eq_true rfl, Nat.le_of_ble_eq_true rfl⟩) ⟨HW_bl, va_recv hK hP (ci := 14) (q0 := 0) rfl (hI.ob 0 (Nat.le_of_ble_eq_true rfl) rfl), (HW_wi hP hK (WX_D hD) hS hA hEV)⟩ rfl rfl hl.1 rfl (lv_room (Nat.le_of_ble_eq_true rfl)) dX13_asksProtest_69 ⟨Nat.le_of_ble_eq_true rfl, Nat.le_of_ble_eq_true rfl⟩) (WX_D hD) hS hA (fun E39 H locs hw hP hS => ?_)
                obtain ⟨hI, kq40, hw⟩ := hw
                have hKb := hKp
                have hKp := hKp.tr kq40 (wl_sub rfl rfl)
                refine lv_aload_n hx hb dX13_asksProtest_72 rfl (lv_at hl 0 rfl) ?_
                refine lv_iconst (v := 1) hx hb dX13_asksProtest_73 (by decide) ?_
                refine lv_aload_n hx hb dX13_asksProtest_74 rfl (lv_at hl 0 rfl) ?_
                refine th_get (ci := 14) (C := RX13) (T := TX13) (N := 97) (v := .ref (ad 46)) hx hb hts hinX13 hown hK hP hI 0 (Nat.le_of_ble_eq_true rfl) rfl rfl 64 (Nat.le_of_ble_eq_true rfl) (hts _ (vA_in _ _ (in_25 _ (zs1 (zs1 (zs1 (zs0))))))) (fun _ h9 => h9) (hI.fr 0 (Nat.le_of_ble_eq_true rfl) rfl (Nat.le_of_ble_eq_true rfl) 46 rfl) dX13_asksProtest_75 ?_
                refine lv_iload_n hx hb dX13_asksProtest_78 rfl (lv_at hl 1 rfl) ?_
                have n42 : vp_in a0 30 := (iv_in (n := 30) i10 (by decide))
                refine th_iald hx hb hK hP hI 46 (Nat.le_of_ble_eq_true rfl) rfl rfl n42 dX13_asksProtest_79 (fun y41 ey41 => ?_)
                have iy41 : 0 ≤ y41.toInt ∧ y41.toInt ≤ 19 := hI.el 46 (Nat.le_of_ble_eq_true rfl) rfl n42 (fun _ => rfl) ey41
                have ey41 := ey41.trans (hKp.ei 46 _ rfl)
                refine lv_aload_n hx hb dX13_asksProtest_80 rfl (lv_at hl 0 rfl) ?_
                refine th_get (ci := 14) (C := RX13) (T := TX13) (N := 97) (v := .ref (ad 48)) hx hb hts hinX13 hown hK hP hI 0 (Nat.le_of_ble_eq_true rfl) rfl rfl 66 (Nat.le_of_ble_eq_true rfl) (hts _ (vA_in _ _ (in_25 _ (zs4 (zs1 (zs1 (zs0))))))) (fun _ h9 => h9) (hI.fr 0 (Nat.le_of_ble_eq_true rfl) rfl (Nat.le_of_ble_eq_true rfl) 48 rfl) dX13_asksProtest_81 ?_
                refine lv_iload_n hx hb dX13_asksProtest_84 rfl (lv_at hl 1 rfl) ?_
                have n44 : vp_in a0 30 := (iv_in (n := 30) i10 (by decide))
                refine th_iald hx hb hK hP hI 48 (Nat.le_of_ble_eq_true rfl) rfl rfl n44 dX13_asksProtest_85 (fun y43 ey43 => ?_)
                have iy43 : 0 ≤ y43.toInt ∧ y43.toInt ≤ 15 := hI.el 48 (Nat.le_of_ble_eq_true rfl) rfl n44 (fun _ => rfl) ey43
                have ey43 := ey43.trans (hKp.ei 48 _ rfl)
                refine lv_aload_n hx hb dX13_asksProtest_86 rfl (lv_at hl 0 rfl) ?_
                refine th_get (ci := 14) (C := RX13) (T := TX13) (N := 97) (v := .ref (ad 49)) hx hb hts hinX13 hown hK hP hI 0 (Nat.le_of_ble_eq_true rfl) rfl rfl 67 (Nat.le_of_ble_eq_true rfl) (hts _ (vA_in _ _ (in_25 _ (zs4 (zs1 (zs0)))))) (fun _ h9 => h9) (hI.fr 0 (Nat.le_of_ble_eq_true rfl) rfl (Nat.le_of_ble_eq_true rfl) 49 rfl) dX13_asksProtest_87 ?_
                refine lv_iload_n hx hb dX13_asksProtest_90 rfl (lv_at hl 1 rfl) ?_
                have n46 : vp_in a0 30 := (iv_in (n := 30) i10 (by decide))
                refine th_iald hx hb hK hP hI 49 (Nat.le_of_ble_eq_true rfl) rfl rfl n46 dX13_asksProtest_91 (fun y45 ey45 => ?_)
                have iy45 : 0 ≤ y45.toInt ∧ y45.toInt ≤ 100000 := hI.el 49 (Nat.le_of_ble_eq_true rfl) rfl n46 (fun _ => rfl) ey45
                have ey45 := ey45.trans (hKp.ei 49 _ rfl)
                refine lv_iload_n hx hb dX13_asksProtest_92 rfl (lv_at hl 3 rfl) ?_
                refine th_v (va_runV (As := [.int 1, .int y41, .int y43, .int y45, .int a2]) (rest := []) ⟨hx, hb, hml, hown, hts⟩ (q_findStates l dC dI cT ad E39 H.size (1 : Int32) y41 y43 y45 a2 hI (iv_w ln_1 (by decide)) iy41) (cwV 5 hts (gi_V (in_25 _ (zs4 (zs1 (zs1 (zs1 (zs0)))))) (in_25 _ (zs4 (zs4 (zs0)))) (in_25 _ (zs4 (zs4 (zs1 (zs0))))) (in_24 _ (zs4 (zs4 (zs4 (zs1 (zs1 (zs1 (zs0)))))))) (in_25 _ (zs4 (zs4 (zs1 (zs1 (zs0))))))) rfl rfl rfl ⟨rfl, hz_yX13_findStates_5⟩ ⟨Nat.le_of_ble_eq_true rfl, Nat.le_of_ble_eq_true rfl⟩) ⟨HW_bl, va_recv hK hP (ci := 14) (q0 := 0) rfl (hI.ob 0 (Nat.le_of_ble_eq_true rfl) rfl), (HW_wi hP hK (WX_D hD) hS hA hEV)⟩ rfl rfl hl.1 rfl (lv_room (Nat.le_of_ble_eq_true rfl)) dX13_asksProtest_93 ⟨Nat.le_of_ble_eq_true rfl, Nat.le_of_ble_eq_true rfl⟩) (WX_D hD) hS hA (fun E48 H locs hw hP hS => ?_)
                obtain ⟨hI, kq49, hw⟩ := hw
                have hKb := hKp
                have hKp := hKp.tr kq49 (wl_sub rfl rfl)
                refine lv_iconst (v := 1) hx hb dX13_asksProtest_96 (by decide) ?_
                rw [hQ]
                exact W.zret (v := 1) hx hb hr rfl (fun t ht hW => ⟨⟨1, E48, rfl, ⟨hI, hKp, Or.inl ⟨rfl, i10, i18⟩⟩, by show va_P (dC, dI) vwCl (WX 72 ad E48) t.heap; rw [ht]; exact hP⟩, hS.F ht⟩) hS.2.2 dX13_asksProtest_97
              · --43 not
                have t50 : a2.toInt < y28.toInt := ti_nle c30
                have i51 : 0 ≤ a2.toInt ∧ a2.toInt ≤ 399 := iv_lt_l t50 i26 iy28 (by decide)
                have i52 : 1 ≤ y28.toInt ∧ y28.toInt ≤ 400 := iv_lt_r t50 i26 iy28 (by decide)
                refine lv_iconst (v := 0) hx hb dX13_asksProtest_46 (by decide) ?_
                rw [hQ]
                exact W.zret (v := 0) hx hb hr rfl (fun t ht hW => ⟨⟨0, E1, rfl, ⟨hI, hKp, Or.inr (rfl)⟩, by show va_P (dC, dI) vwCl (WX 72 ad E1) t.heap; rw [ht]; exact hP⟩, hS.F ht⟩) hS.2.2 dX13_asksProtest_47
          · -- isKnown, case 1
            obtain ⟨rfl, f53⟩ := hw
            have i54 : 0 ≤ (xi (E 0) 1).toInt ∧ (xi (E 0) 1).toInt ≤ 400 := (show 0 ≤ (xi (E 0) 1).toInt ∧ (xi (E 0) 1).toInt ≤ 400 from hI0.iv 0 (Nat.le_of_ble_eq_true rfl) rfl (Nat.le_of_ble_eq_true rfl) rfl)
            try rw [hKp.ei 0 1 rfl] at f53
            have t55 : ¬ ((0 : Int) ≤ a2.toInt ∧ a2.toInt ≤ (xi (E 0) 1).toInt) := f53
            refine lv_if_eq (tgt := 46) hx hb dX13_asksProtest_33 (by decide) (fun c56 => ?_) (fun c56 => ?_)
            · --33 taken
              refine lv_iconst (v := 0) hx hb dX13_asksProtest_46 (by decide) ?_
              rw [hQ]
              exact W.zret (v := 0) hx hb hr rfl (fun t ht hW => ⟨⟨0, E1, rfl, ⟨hI, hKp, Or.inr (rfl)⟩, by show va_P (dC, dI) vwCl (WX 72 ad E1) t.heap; rw [ht]; exact hP⟩, hS.F ht⟩) hS.2.2 dX13_asksProtest_47
            · --33 not
              exact absurd c56 (by decide)
      · -- isIn, case 1
        obtain ⟨rfl, f57⟩ := hw
        have t58 : ¬ ((0 : Int) ≤ a1.toInt ∧ a1.toInt ≤ 1) := f57
        refine lv_if_eq (tgt := 46) hx hb dX13_asksProtest_25 (by decide) (fun c59 => ?_) (fun c59 => ?_)
        · --25 taken
          refine lv_iconst (v := 0) hx hb dX13_asksProtest_46 (by decide) ?_
          rw [hQ]
          exact W.zret (v := 0) hx hb hr rfl (fun t ht hW => ⟨⟨0, E1, rfl, ⟨hI, hKp, Or.inr (rfl)⟩, by show va_P (dC, dI) vwCl (WX 72 ad E1) t.heap; rw [ht]; exact hP⟩, hS.F ht⟩) hS.2.2 dX13_asksProtest_47
        · --25 not
          exact absurd c59 (by decide)
  · -- isIn, case 1
    obtain ⟨rfl, f60⟩ := hw
    have t61 : ¬ ((0 : Int) ≤ a0.toInt ∧ a0.toInt ≤ y4.toInt) := f60
    refine lv_if_eq (tgt := 46) hx hb dX13_asksProtest_16 (by decide) (fun c62 => ?_) (fun c62 => ?_)
    · --16 taken
      refine lv_iconst (v := 0) hx hb dX13_asksProtest_46 (by decide) ?_
      rw [hQ]
      exact W.zret (v := 0) hx hb hr rfl (fun t ht hW => ⟨⟨0, E1, rfl, ⟨hI, hKp, Or.inr (rfl)⟩, by show va_P (dC, dI) vwCl (WX 72 ad E1) t.heap; rw [ht]; exact hP⟩, hS.F ht⟩) hS.2.2 dX13_asksProtest_47
    · --16 not
      exact absurd c62 (by decide)
def v_states : List Cond := .code yX13_states cX13_states 4 (some .int) :: vA
abbrev rm_states : Room := { frames := 5, cells := 0, slots := 0, locals := 200 }
def w_states : Nat → Nat → Bool := wl [56, 57, 58, 59] [(0, 0)]
set_option maxHeartbeats 4000000 in
set_option maxRecDepth 100000 in
theorem q_states (l : Launch) (dC : Nat → ClassId) (dI : Nat → Nat → Nat) (cT : Nat → ClassId) (ad : Nat → Nat) (E : Nat → va_E) (sz : Nat) (a0 : Int32) (a1 : Int32) (a2 : Int32) (hI0 : IX cT shM spM 72 ad E)  : Met l yX13_states v_states rm_states (va_Pc [.ref (ad 0), .int a0, .int a1, .int a2] (HW dC dI (TYM cT) 72 ad E sz)) (va_Qi (S := Nat → va_E) (fun r u => IX cT shM spM 72 ad u ∧ Kp w_states E u ∧ (True)) (HB dC dI 72 ad) (va_A (WX 72 ad E) sz)) 0 0 (va_A (WX 72 ad E) sz) := by
  refine Met.ofW (cc := cX13_states) (maxL := 4) (ret := (some .int)) (by decide) rfl ?_
  intro p e s m args below meth c s₁ B hml hv
  obtain ⟨hargs, hsz, hP, hK, hD0, hEV⟩ := hv
  subst hsz
  have hx := B.exec
  have hb := B.bytes
  have hr := B.returns
  have hts := atoms_spec (ws := v_states) B.pre
  have hown : s.vm.findClass RX13 = some m.cls := findClass_of_methodNamed B.named
  have hlocks := B.notSynchronized
  have hinX13 : ∀ w ∈ u_ws RX13 TX13 97, w ∈ v_states := fun w h => vA_in _ w (in_X13 w h)
  generalize hAe : va_A (WX 72 ad E) s.heap.size = A at hEV ⊢
  have hA : ∀ q : Nat, s.heap.size ≤ q → A q := fun q h => by rw [← hAe]; exact Or.inr h
  have hD : va_D A (WX 72 ad E) := by rw [← hAe]; exact hD0.self
  have hS : va_S A s.heap s.heap [] := va_S.rf
  have hI := hI0
  have hKp : Kp w_states E E := Kp.rf
  have hl := lv_entry ([.ref (ad 0), .int a0, .int a1, .int a2]) (n := 4) (Nat.le_of_ble_eq_true rfl)
  obtain ⟨Q, hQ⟩ : ∃ Q, Q = MQ below (va_Qi (S := Nat → va_E) (fun r u => IX cT shM spM 72 ad u ∧ Kp w_states E u ∧ (True)) (HB dC dI 72 ad) (A)) args s 0 0 (A) := ⟨_, rfl⟩
  rw [← hQ, show entryFrame m args 4 = _ from (congrArg (fun z => entryFrame m z 4) hargs).trans (lg_entry_eq _ _ _)]
  generalize (lg_sl ([.ref (ad 0), .int a0, .int a1, .int a2]) ++ List.replicate (4 - (lg_sl ([.ref (ad 0), .int a0, .int a1, .int a2])).length) Slot.unset).toArray = ls at hl ⊢
  have hl : lv_has ls 4 [(0, .ref (ad 0)), (1, .int a0), (2, .int a1), (3, .int a2)] := hl
  refine lv_aload_n hx hb dX13_states_0 rfl (lv_at hl 0 rfl) ?_
  refine lv_iload_n hx hb dX13_states_1 rfl (lv_at hl 1 rfl) ?_
  refine lv_iload_n hx hb dX13_states_2 rfl (lv_at hl 2 rfl) ?_
  refine lv_iload_n hx hb dX13_states_3 rfl (lv_at hl 3 rfl) ?_
  refine th_i (va_runV (As := [.int a0, .int a1, .int a2]) (rest := []) ⟨hx, hb, hml, hown, hts⟩ (q_asksProtest l dC dI cT ad E s.heap.size a0 a1 a2 hI) (cwV 3 hts (gi_V (in_30 _ (zs16 (zs4 (zs4 (zs1 (zs0)))))) (in_30 _ (zs16 (zs4 (zs4 (zs1 (zs1 (zs0))))))) (in_30 _ (zs16 (zs4 (zs4 (zs1 (zs1 (zs1 (zs0)))))))) (in_24 _ (zs4 (zs4 (zs4 (zs1 (zs1 (zs1 (zs0)))))))) (in_25 _ zs0)) rfl rfl rfl ⟨rfl, hz_yX13_asksProtest_3⟩ ⟨Nat.le_of_ble_eq_true rfl, Nat.le_of_ble_eq_true rfl⟩) ⟨HW_bl, va_recv hK hP (ci := 14) (q0 := 0) rfl (hI.ob 0 (Nat.le_of_ble_eq_true rfl) rfl), (HW_wi hP hK (WX_D hD) hS hA hEV)⟩ rfl rfl hl.1 rfl (lv_room (Nat.le_of_ble_eq_true rfl)) dX13_states_4 ⟨Nat.le_of_ble_eq_true rfl, Nat.le_of_ble_eq_true rfl⟩) (WX_D hD) hS hA (fun r1 E2 H locs hw hP hS => ?_)
  obtain ⟨hI, kq3, hw⟩ := hw
  have hKb := hKp
  have hKp := hKp.tr kq3 (wl_sub rfl rfl)
  rcases hw with hw | hw
  · -- asksProtest, case 0
    obtain ⟨rfl, f4, f5⟩ := hw
    refine lv_if_eq (tgt := 19) hx hb dX13_states_7 (by decide) (fun c6 => ?_) (fun c6 => ?_)
    · --7 taken
      exact absurd c6 (by decide)
    · --7 not
      refine lv_aload_n hx hb dX13_states_10 rfl (lv_at hl 0 rfl) ?_
      refine th_get (ci := 14) (C := RX13) (T := TX13) (N := 97) (v := .ref (ad 59)) hx hb hts hinX13 hown hK hP hI 0 (Nat.le_of_ble_eq_true rfl) rfl rfl 79 (Nat.le_of_ble_eq_true rfl) (hts _ (vA_in _ _ (in_25 _ (zs16 (zs4 (zs0)))))) (fun _ h9 => h9) (hI.fr 0 (Nat.le_of_ble_eq_true rfl) rfl (Nat.le_of_ble_eq_true rfl) 59 rfl) dX13_states_11 ?_
      refine lv_iload_n hx hb dX13_states_14 rfl (lv_at hl 2 rfl) ?_
      have n8 : vp_in a1 2 := (iv_in (n := 2) f5 (by decide))
      refine th_iald hx hb hK hP hI 59 (Nat.le_of_ble_eq_true rfl) rfl rfl n8 dX13_states_15 (fun y7 ey7 => ?_)
      have iy7 : 0 ≤ y7.toInt ∧ y7.toInt ≤ 128 := hI.el 59 (Nat.le_of_ble_eq_true rfl) rfl n8 (fun _ => rfl) ey7
      refine lv_goto (tgt := 20) hx hb dX13_states_16 (by decide) ?_
      rw [hQ]
      exact W.iret (v := y7) hx hb hr (fun t ht hW => ⟨⟨y7, E2, rfl, ⟨hI, hKp, trivial⟩, by show va_P (dC, dI) vwCl (WX 72 ad E2) t.heap; rw [ht]; exact hP⟩, hS.F ht⟩) hS.2.2 dX13_states_20
  · -- asksProtest, case 1
    obtain rfl := hw
    refine lv_if_eq (tgt := 19) hx hb dX13_states_7 (by decide) (fun c9 => ?_) (fun c9 => ?_)
    · --7 taken
      refine lv_iconst (v := -1) hx hb dX13_states_19 (by decide) ?_
      rw [hQ]
      exact W.iret (v := (-1)) hx hb hr (fun t ht hW => ⟨⟨(-1), E2, rfl, ⟨hI, hKp, trivial⟩, by show va_P (dC, dI) vwCl (WX 72 ad E2) t.heap; rw [ht]; exact hP⟩, hS.F ht⟩) hS.2.2 dX13_states_20
    · --7 not
      exact absurd c9 (by decide)
