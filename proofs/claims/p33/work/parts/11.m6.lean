set_option maxRecDepth 100000 in
theorem zh_dX13_fitOf_0_0 : zc cX13_fitOf 0 [3, 61, 3, 62, 29, 42, 180, 1, 134, 162, 0, 55, 42, 29, 27, 182] = true := by decide +kernel
set_option maxRecDepth 100000 in
theorem zh_dX13_fitOf_15_16 : zc cX13_fitOf 16 [2, 16, 54, 4, 21, 4, 19, 1, 175, 160, 0, 6, 167, 0, 30, 42] = true := by decide +kernel
set_option maxRecDepth 100000 in
theorem zh_dX13_fitOf_32_32 : zc cX13_fitOf 32 [180, 0, 213, 28, 42, 29, 27, 42, 180, 0, 232, 182, 1, 166, 79, 42] = true := by decide +kernel
set_option maxRecDepth 100000 in
theorem zh_dX13_fitOf_48_48 : zc cX13_fitOf 48 [180, 0, 216, 28, 21, 4, 79, 132, 2, 1, 132, 3, 1, 167, 255, 199] = true := by decide +kernel
set_option maxRecDepth 100000 in
theorem zh_dX13_fitOf_64_64 : zc cX13_fitOf 64 [28, 154, 0, 5, 2, 172, 2, 62, 3, 54, 4, 17, 1, 244, 54, 5] = true := by decide +kernel
set_option maxRecDepth 100000 in
theorem zh_dX13_fitOf_80_80 : zc cX13_fitOf 80 [21, 5, 17, 7, 208, 163, 0, 79, 3, 54, 6, 3, 54, 7, 21, 7] = true := by decide +kernel
set_option maxRecDepth 100000 in
theorem zh_dX13_fitOf_96_96 : zc cX13_fitOf 96 [28, 162, 0, 39, 21, 6, 42, 180, 0, 213, 21, 7, 46, 21, 5, 104] = true := by decide +kernel
set_option maxRecDepth 100000 in
theorem zh_dX13_fitOf_112_112 : zc cX13_fitOf 112 [17, 3, 232, 108, 42, 180, 0, 216, 21, 7, 46, 100, 184, 1, 218, 96] = true := by decide +kernel
set_option maxRecDepth 100000 in
theorem zh_dX13_fitOf_128_128 : zc cX13_fitOf 128 [54, 6, 132, 7, 1, 167, 255, 217, 29, 2, 159, 0, 13, 21, 6, 21] = true := by decide +kernel
set_option maxRecDepth 100000 in
theorem zh_dX13_fitOf_143_144 : zc cX13_fitOf 144 [4, 161, 0, 6, 167, 0, 10, 21, 5, 62, 21, 6, 54, 4, 132, 5] = true := by decide +kernel
set_option maxRecDepth 100000 in
theorem zh_dX13_fitOf_158_160 : zc cX13_fitOf 160 [1, 167, 255, 175, 29, 172] = true := by decide +kernel
set_option maxRecDepth 100000 in
theorem zh_dX13_suspected_0_0 : zc cX13_suspected 0 [3, 61, 3, 62, 29, 42, 180, 0, 232, 163, 0, 106, 3, 54, 4, 21] = true := by decide +kernel
set_option maxRecDepth 100000 in
theorem zh_dX13_suspected_15_16 : zc cX13_suspected 16 [4, 42, 180, 1, 134, 162, 0, 88, 42, 180, 0, 50, 21, 4, 46, 29] = true := by decide +kernel
set_option maxRecDepth 100000 in
theorem zh_dX13_suspected_32_32 : zc cX13_suspected 32 [160, 0, 13, 42, 21, 4, 27, 182, 2, 16, 167, 0, 6, 19, 1, 175] = true := by decide +kernel
set_option maxRecDepth 100000 in
theorem zh_dX13_suspected_48_48 : zc cX13_suspected 48 [54, 5, 21, 5, 19, 1, 175, 160, 0, 6, 167, 0, 45, 42, 180, 0] = true := by decide +kernel
set_option maxRecDepth 100000 in
theorem zh_dX13_suspected_62_64 : zc cX13_suspected 64 [219, 28, 21, 4, 79, 42, 180, 0, 222, 28, 20, 2, 22, 21, 5, 133] = true := by decide +kernel
set_option maxRecDepth 100000 in
theorem zh_dX13_suspected_80_80 : zc cX13_suspected 80 [105, 4, 42, 21, 4, 27, 42, 180, 0, 232, 182, 1, 172, 184, 1, 129] = true := by decide +kernel
set_option maxRecDepth 100000 in
theorem zh_dX13_suspected_96_96 : zc cX13_suspected 96 [133, 109, 136, 79, 132, 2, 1, 132, 4, 1, 167, 255, 165, 132, 3, 1] = true := by decide +kernel
set_option maxRecDepth 100000 in
theorem zh_dX13_suspected_112_112 : zc cX13_suspected 112 [167, 255, 148, 2, 62, 5, 54, 4, 21, 4, 28, 5, 100, 163, 0, 121] = true := by decide +kernel
set_option maxRecDepth 100000 in
theorem zh_dX13_suspected_128_128 : zc cX13_suspected 128 [9, 55, 5, 9, 55, 7, 3, 54, 9, 21, 9, 28, 162, 0, 45, 21] = true := by decide +kernel
set_option maxRecDepth 100000 in
theorem zh_dX13_suspected_143_144 : zc cX13_suspected 144 [9, 21, 4, 162, 0, 19, 22, 5, 42, 180, 0, 222, 21, 9, 46, 133] = true := by decide +kernel
set_option maxRecDepth 100000 in
theorem zh_dX13_suspected_160_160 : zc cX13_suspected 160 [97, 55, 5, 167, 0, 16, 22, 7, 42, 180, 0, 222, 21, 9, 46, 133] = true := by decide +kernel
set_option maxRecDepth 100000 in
theorem zh_dX13_suspected_176_176 : zc cX13_suspected 176 [97, 55, 7, 132, 9, 1, 167, 255, 211, 22, 7, 28, 21, 4, 100, 133] = true := by decide +kernel
set_option maxRecDepth 100000 in
theorem zh_dX13_suspected_192_192 : zc cX13_suspected 192 [109, 22, 5, 21, 4, 133, 109, 101, 136, 54, 9, 29, 2, 159, 0, 21] = true := by decide +kernel
set_option maxRecDepth 100000 in
theorem zh_dX13_suspected_208_208 : zc cX13_suspected 208 [21, 9, 184, 1, 218, 42, 180, 2, 24, 184, 1, 218, 163, 0, 6, 167] = true := by decide +kernel
set_option maxRecDepth 100000 in
theorem zh_dX13_suspected_223_224 : zc cX13_suspected 224 [0, 17, 42, 180, 0, 219, 21, 4, 46, 62, 42, 21, 9, 181, 2, 24] = true := by decide +kernel
set_option maxRecDepth 100000 in
theorem zh_dX13_suspected_240_240 : zc cX13_suspected 240 [132, 4, 1, 167, 255, 133, 29, 172] = true := by decide +kernel
set_option maxRecDepth 100000 in
theorem zh_dX13_suspect_0_0 : zc cX13_suspect 0 [42, 3, 181, 0, 228, 42, 27, 182, 0, 245, 153, 0, 12, 28, 3, 4] = true := by decide +kernel
set_option maxRecDepth 100000 in
theorem zh_dX13_suspect_16_16 : zc cX13_suspect 16 [184, 0, 235, 154, 0, 7, 19, 1, 175, 172, 42, 27, 182, 2, 27, 62] = true := by decide +kernel
set_option maxRecDepth 100000 in
theorem zh_dX13_suspect_32_32 : zc cX13_suspect 32 [29, 2, 160, 0, 9, 19, 1, 175, 167, 0, 15, 28, 154, 0, 7, 29] = true := by decide +kernel
set_option maxRecDepth 100000 in
theorem zh_dX13_suspect_48_48 : zc cX13_suspect 48 [167, 0, 7, 42, 180, 2, 24, 172] = true := by decide +kernel
theorem dX13_fitOf_0 : decode cX13_fitOf 0 = .ok (.iconst 0, 1) := zo_3 (zi_at zh_dX13_fitOf_0_0 0 rfl)
theorem dX13_fitOf_1 : decode cX13_fitOf 1 = .ok (.istore_n 2, 1) := zo_61 (zi_at zh_dX13_fitOf_0_0 1 rfl)
theorem dX13_fitOf_2 : decode cX13_fitOf 2 = .ok (.iconst 0, 1) := zo_3 (zi_at zh_dX13_fitOf_0_0 2 rfl)
theorem dX13_fitOf_3 : decode cX13_fitOf 3 = .ok (.istore_n 3, 1) := zo_62 (zi_at zh_dX13_fitOf_0_0 3 rfl)
theorem dX13_fitOf_4 : decode cX13_fitOf 4 = .ok (.iload_n 3, 1) := zo_29 (zi_at zh_dX13_fitOf_0_0 4 rfl)
theorem dX13_fitOf_5 : decode cX13_fitOf 5 = .ok (.aload_n 0, 1) := zo_42 (zi_at zh_dX13_fitOf_0_0 5 rfl)
theorem dX13_fitOf_6 : decode cX13_fitOf 6 = .ok (.getfield 390, 3) := zo_180 (zi_at zh_dX13_fitOf_0_0 6 rfl) (zi_at zh_dX13_fitOf_0_0 7 rfl) (zi_at zh_dX13_fitOf_0_0 8 rfl) rfl
theorem dX13_fitOf_9 : decode cX13_fitOf 9 = .ok (.if_icmp .ge 55, 3) := zo_162 (zi_at zh_dX13_fitOf_0_0 9 rfl) (zi_at zh_dX13_fitOf_0_0 10 rfl) (zi_at zh_dX13_fitOf_0_0 11 rfl) rfl
theorem dX13_fitOf_12 : decode cX13_fitOf 12 = .ok (.aload_n 0, 1) := zo_42 (zi_at zh_dX13_fitOf_0_0 12 rfl)
theorem dX13_fitOf_13 : decode cX13_fitOf 13 = .ok (.iload_n 3, 1) := zo_29 (zi_at zh_dX13_fitOf_0_0 13 rfl)
theorem dX13_fitOf_14 : decode cX13_fitOf 14 = .ok (.iload_n 1, 1) := zo_27 (zi_at zh_dX13_fitOf_0_0 14 rfl)
theorem dX13_fitOf_15 : decode cX13_fitOf 15 = .ok (.invokevirtual 528, 3) := zo_182 (zi_at zh_dX13_fitOf_0_0 15 rfl) (zi_at zh_dX13_fitOf_15_16 0 rfl) (zi_at zh_dX13_fitOf_15_16 1 rfl) rfl
theorem dX13_fitOf_18 : decode cX13_fitOf 18 = .ok (.istore 4, 2) := zo_54 (zi_at zh_dX13_fitOf_15_16 2 rfl) (zi_at zh_dX13_fitOf_15_16 3 rfl)
theorem dX13_fitOf_20 : decode cX13_fitOf 20 = .ok (.iload 4, 2) := zo_21 (zi_at zh_dX13_fitOf_15_16 4 rfl) (zi_at zh_dX13_fitOf_15_16 5 rfl)
theorem dX13_fitOf_22 : decode cX13_fitOf 22 = .ok (.ldc_w 431, 3) := zo_19 (zi_at zh_dX13_fitOf_15_16 6 rfl) (zi_at zh_dX13_fitOf_15_16 7 rfl) (zi_at zh_dX13_fitOf_15_16 8 rfl) rfl
theorem dX13_fitOf_25 : decode cX13_fitOf 25 = .ok (.if_icmp .ne 6, 3) := zo_160 (zi_at zh_dX13_fitOf_15_16 9 rfl) (zi_at zh_dX13_fitOf_15_16 10 rfl) (zi_at zh_dX13_fitOf_15_16 11 rfl) rfl
theorem dX13_fitOf_28 : decode cX13_fitOf 28 = .ok (.goto 30, 3) := zo_167 (zi_at zh_dX13_fitOf_15_16 12 rfl) (zi_at zh_dX13_fitOf_15_16 13 rfl) (zi_at zh_dX13_fitOf_15_16 14 rfl) rfl
theorem dX13_fitOf_31 : decode cX13_fitOf 31 = .ok (.aload_n 0, 1) := zo_42 (zi_at zh_dX13_fitOf_15_16 15 rfl)
theorem dX13_fitOf_32 : decode cX13_fitOf 32 = .ok (.getfield 213, 3) := zo_180 (zi_at zh_dX13_fitOf_32_32 0 rfl) (zi_at zh_dX13_fitOf_32_32 1 rfl) (zi_at zh_dX13_fitOf_32_32 2 rfl) rfl
theorem dX13_fitOf_35 : decode cX13_fitOf 35 = .ok (.iload_n 2, 1) := zo_28 (zi_at zh_dX13_fitOf_32_32 3 rfl)
theorem dX13_fitOf_36 : decode cX13_fitOf 36 = .ok (.aload_n 0, 1) := zo_42 (zi_at zh_dX13_fitOf_32_32 4 rfl)
theorem dX13_fitOf_37 : decode cX13_fitOf 37 = .ok (.iload_n 3, 1) := zo_29 (zi_at zh_dX13_fitOf_32_32 5 rfl)
theorem dX13_fitOf_38 : decode cX13_fitOf 38 = .ok (.iload_n 1, 1) := zo_27 (zi_at zh_dX13_fitOf_32_32 6 rfl)
theorem dX13_fitOf_39 : decode cX13_fitOf 39 = .ok (.aload_n 0, 1) := zo_42 (zi_at zh_dX13_fitOf_32_32 7 rfl)
theorem dX13_fitOf_40 : decode cX13_fitOf 40 = .ok (.getfield 232, 3) := zo_180 (zi_at zh_dX13_fitOf_32_32 8 rfl) (zi_at zh_dX13_fitOf_32_32 9 rfl) (zi_at zh_dX13_fitOf_32_32 10 rfl) rfl
theorem dX13_fitOf_43 : decode cX13_fitOf 43 = .ok (.invokevirtual 422, 3) := zo_182 (zi_at zh_dX13_fitOf_32_32 11 rfl) (zi_at zh_dX13_fitOf_32_32 12 rfl) (zi_at zh_dX13_fitOf_32_32 13 rfl) rfl
theorem dX13_fitOf_46 : decode cX13_fitOf 46 = .ok (.iastore, 1) := zo_79 (zi_at zh_dX13_fitOf_32_32 14 rfl)
theorem dX13_fitOf_47 : decode cX13_fitOf 47 = .ok (.aload_n 0, 1) := zo_42 (zi_at zh_dX13_fitOf_32_32 15 rfl)
theorem dX13_fitOf_48 : decode cX13_fitOf 48 = .ok (.getfield 216, 3) := zo_180 (zi_at zh_dX13_fitOf_48_48 0 rfl) (zi_at zh_dX13_fitOf_48_48 1 rfl) (zi_at zh_dX13_fitOf_48_48 2 rfl) rfl
theorem dX13_fitOf_51 : decode cX13_fitOf 51 = .ok (.iload_n 2, 1) := zo_28 (zi_at zh_dX13_fitOf_48_48 3 rfl)
theorem dX13_fitOf_52 : decode cX13_fitOf 52 = .ok (.iload 4, 2) := zo_21 (zi_at zh_dX13_fitOf_48_48 4 rfl) (zi_at zh_dX13_fitOf_48_48 5 rfl)
theorem dX13_fitOf_54 : decode cX13_fitOf 54 = .ok (.iastore, 1) := zo_79 (zi_at zh_dX13_fitOf_48_48 6 rfl)
theorem dX13_fitOf_55 : decode cX13_fitOf 55 = .ok (.iinc 2 1, 3) := zo_132 (zi_at zh_dX13_fitOf_48_48 7 rfl) (zi_at zh_dX13_fitOf_48_48 8 rfl) (zi_at zh_dX13_fitOf_48_48 9 rfl) rfl
theorem dX13_fitOf_58 : decode cX13_fitOf 58 = .ok (.iinc 3 1, 3) := zo_132 (zi_at zh_dX13_fitOf_48_48 10 rfl) (zi_at zh_dX13_fitOf_48_48 11 rfl) (zi_at zh_dX13_fitOf_48_48 12 rfl) rfl
theorem dX13_fitOf_61 : decode cX13_fitOf 61 = .ok (.goto (-57), 3) := zo_167 (zi_at zh_dX13_fitOf_48_48 13 rfl) (zi_at zh_dX13_fitOf_48_48 14 rfl) (zi_at zh_dX13_fitOf_48_48 15 rfl) rfl
theorem dX13_fitOf_64 : decode cX13_fitOf 64 = .ok (.iload_n 2, 1) := zo_28 (zi_at zh_dX13_fitOf_64_64 0 rfl)
theorem dX13_fitOf_65 : decode cX13_fitOf 65 = .ok (.ifCond .ne 5, 3) := zo_154 (zi_at zh_dX13_fitOf_64_64 1 rfl) (zi_at zh_dX13_fitOf_64_64 2 rfl) (zi_at zh_dX13_fitOf_64_64 3 rfl) rfl
theorem dX13_fitOf_68 : decode cX13_fitOf 68 = .ok (.iconst (-1), 1) := zo_2 (zi_at zh_dX13_fitOf_64_64 4 rfl)
theorem dX13_fitOf_69 : decode cX13_fitOf 69 = .ok (.ireturn, 1) := zo_172 (zi_at zh_dX13_fitOf_64_64 5 rfl)
theorem dX13_fitOf_70 : decode cX13_fitOf 70 = .ok (.iconst (-1), 1) := zo_2 (zi_at zh_dX13_fitOf_64_64 6 rfl)
theorem dX13_fitOf_71 : decode cX13_fitOf 71 = .ok (.istore_n 3, 1) := zo_62 (zi_at zh_dX13_fitOf_64_64 7 rfl)
theorem dX13_fitOf_72 : decode cX13_fitOf 72 = .ok (.iconst 0, 1) := zo_3 (zi_at zh_dX13_fitOf_64_64 8 rfl)
theorem dX13_fitOf_73 : decode cX13_fitOf 73 = .ok (.istore 4, 2) := zo_54 (zi_at zh_dX13_fitOf_64_64 9 rfl) (zi_at zh_dX13_fitOf_64_64 10 rfl)
theorem dX13_fitOf_75 : decode cX13_fitOf 75 = .ok (.sipush 500, 3) := zo_17 (zi_at zh_dX13_fitOf_64_64 11 rfl) (zi_at zh_dX13_fitOf_64_64 12 rfl) (zi_at zh_dX13_fitOf_64_64 13 rfl) rfl
theorem dX13_fitOf_78 : decode cX13_fitOf 78 = .ok (.istore 5, 2) := zo_54 (zi_at zh_dX13_fitOf_64_64 14 rfl) (zi_at zh_dX13_fitOf_64_64 15 rfl)
theorem dX13_fitOf_80 : decode cX13_fitOf 80 = .ok (.iload 5, 2) := zo_21 (zi_at zh_dX13_fitOf_80_80 0 rfl) (zi_at zh_dX13_fitOf_80_80 1 rfl)
theorem dX13_fitOf_82 : decode cX13_fitOf 82 = .ok (.sipush 2000, 3) := zo_17 (zi_at zh_dX13_fitOf_80_80 2 rfl) (zi_at zh_dX13_fitOf_80_80 3 rfl) (zi_at zh_dX13_fitOf_80_80 4 rfl) rfl
theorem dX13_fitOf_85 : decode cX13_fitOf 85 = .ok (.if_icmp .gt 79, 3) := zo_163 (zi_at zh_dX13_fitOf_80_80 5 rfl) (zi_at zh_dX13_fitOf_80_80 6 rfl) (zi_at zh_dX13_fitOf_80_80 7 rfl) rfl
theorem dX13_fitOf_88 : decode cX13_fitOf 88 = .ok (.iconst 0, 1) := zo_3 (zi_at zh_dX13_fitOf_80_80 8 rfl)
theorem dX13_fitOf_89 : decode cX13_fitOf 89 = .ok (.istore 6, 2) := zo_54 (zi_at zh_dX13_fitOf_80_80 9 rfl) (zi_at zh_dX13_fitOf_80_80 10 rfl)
theorem dX13_fitOf_91 : decode cX13_fitOf 91 = .ok (.iconst 0, 1) := zo_3 (zi_at zh_dX13_fitOf_80_80 11 rfl)
theorem dX13_fitOf_92 : decode cX13_fitOf 92 = .ok (.istore 7, 2) := zo_54 (zi_at zh_dX13_fitOf_80_80 12 rfl) (zi_at zh_dX13_fitOf_80_80 13 rfl)
theorem dX13_fitOf_94 : decode cX13_fitOf 94 = .ok (.iload 7, 2) := zo_21 (zi_at zh_dX13_fitOf_80_80 14 rfl) (zi_at zh_dX13_fitOf_80_80 15 rfl)
theorem dX13_fitOf_96 : decode cX13_fitOf 96 = .ok (.iload_n 2, 1) := zo_28 (zi_at zh_dX13_fitOf_96_96 0 rfl)
theorem dX13_fitOf_97 : decode cX13_fitOf 97 = .ok (.if_icmp .ge 39, 3) := zo_162 (zi_at zh_dX13_fitOf_96_96 1 rfl) (zi_at zh_dX13_fitOf_96_96 2 rfl) (zi_at zh_dX13_fitOf_96_96 3 rfl) rfl
theorem dX13_fitOf_100 : decode cX13_fitOf 100 = .ok (.iload 6, 2) := zo_21 (zi_at zh_dX13_fitOf_96_96 4 rfl) (zi_at zh_dX13_fitOf_96_96 5 rfl)
theorem dX13_fitOf_102 : decode cX13_fitOf 102 = .ok (.aload_n 0, 1) := zo_42 (zi_at zh_dX13_fitOf_96_96 6 rfl)
theorem dX13_fitOf_103 : decode cX13_fitOf 103 = .ok (.getfield 213, 3) := zo_180 (zi_at zh_dX13_fitOf_96_96 7 rfl) (zi_at zh_dX13_fitOf_96_96 8 rfl) (zi_at zh_dX13_fitOf_96_96 9 rfl) rfl
theorem dX13_fitOf_106 : decode cX13_fitOf 106 = .ok (.iload 7, 2) := zo_21 (zi_at zh_dX13_fitOf_96_96 10 rfl) (zi_at zh_dX13_fitOf_96_96 11 rfl)
theorem dX13_fitOf_108 : decode cX13_fitOf 108 = .ok (.iaload, 1) := zo_46 (zi_at zh_dX13_fitOf_96_96 12 rfl)
theorem dX13_fitOf_109 : decode cX13_fitOf 109 = .ok (.iload 5, 2) := zo_21 (zi_at zh_dX13_fitOf_96_96 13 rfl) (zi_at zh_dX13_fitOf_96_96 14 rfl)
theorem dX13_fitOf_111 : decode cX13_fitOf 111 = .ok (.imul, 1) := zo_104 (zi_at zh_dX13_fitOf_96_96 15 rfl)
theorem dX13_fitOf_112 : decode cX13_fitOf 112 = .ok (.sipush 1000, 3) := zo_17 (zi_at zh_dX13_fitOf_112_112 0 rfl) (zi_at zh_dX13_fitOf_112_112 1 rfl) (zi_at zh_dX13_fitOf_112_112 2 rfl) rfl
theorem dX13_fitOf_115 : decode cX13_fitOf 115 = .ok (.idiv, 1) := zo_108 (zi_at zh_dX13_fitOf_112_112 3 rfl)
theorem dX13_fitOf_116 : decode cX13_fitOf 116 = .ok (.aload_n 0, 1) := zo_42 (zi_at zh_dX13_fitOf_112_112 4 rfl)
theorem dX13_fitOf_117 : decode cX13_fitOf 117 = .ok (.getfield 216, 3) := zo_180 (zi_at zh_dX13_fitOf_112_112 5 rfl) (zi_at zh_dX13_fitOf_112_112 6 rfl) (zi_at zh_dX13_fitOf_112_112 7 rfl) rfl
theorem dX13_fitOf_120 : decode cX13_fitOf 120 = .ok (.iload 7, 2) := zo_21 (zi_at zh_dX13_fitOf_112_112 8 rfl) (zi_at zh_dX13_fitOf_112_112 9 rfl)
theorem dX13_fitOf_122 : decode cX13_fitOf 122 = .ok (.iaload, 1) := zo_46 (zi_at zh_dX13_fitOf_112_112 10 rfl)
theorem dX13_fitOf_123 : decode cX13_fitOf 123 = .ok (.isub, 1) := zo_100 (zi_at zh_dX13_fitOf_112_112 11 rfl)
theorem dX13_fitOf_124 : decode cX13_fitOf 124 = .ok (.invokestatic 474, 3) := zo_184 (zi_at zh_dX13_fitOf_112_112 12 rfl) (zi_at zh_dX13_fitOf_112_112 13 rfl) (zi_at zh_dX13_fitOf_112_112 14 rfl) rfl
theorem dX13_fitOf_127 : decode cX13_fitOf 127 = .ok (.iadd, 1) := zo_96 (zi_at zh_dX13_fitOf_112_112 15 rfl)
theorem dX13_fitOf_128 : decode cX13_fitOf 128 = .ok (.istore 6, 2) := zo_54 (zi_at zh_dX13_fitOf_128_128 0 rfl) (zi_at zh_dX13_fitOf_128_128 1 rfl)
theorem dX13_fitOf_130 : decode cX13_fitOf 130 = .ok (.iinc 7 1, 3) := zo_132 (zi_at zh_dX13_fitOf_128_128 2 rfl) (zi_at zh_dX13_fitOf_128_128 3 rfl) (zi_at zh_dX13_fitOf_128_128 4 rfl) rfl
theorem dX13_fitOf_133 : decode cX13_fitOf 133 = .ok (.goto (-39), 3) := zo_167 (zi_at zh_dX13_fitOf_128_128 5 rfl) (zi_at zh_dX13_fitOf_128_128 6 rfl) (zi_at zh_dX13_fitOf_128_128 7 rfl) rfl
theorem dX13_fitOf_136 : decode cX13_fitOf 136 = .ok (.iload_n 3, 1) := zo_29 (zi_at zh_dX13_fitOf_128_128 8 rfl)
theorem dX13_fitOf_137 : decode cX13_fitOf 137 = .ok (.iconst (-1), 1) := zo_2 (zi_at zh_dX13_fitOf_128_128 9 rfl)
theorem dX13_fitOf_138 : decode cX13_fitOf 138 = .ok (.if_icmp .eq 13, 3) := zo_159 (zi_at zh_dX13_fitOf_128_128 10 rfl) (zi_at zh_dX13_fitOf_128_128 11 rfl) (zi_at zh_dX13_fitOf_128_128 12 rfl) rfl
theorem dX13_fitOf_141 : decode cX13_fitOf 141 = .ok (.iload 6, 2) := zo_21 (zi_at zh_dX13_fitOf_128_128 13 rfl) (zi_at zh_dX13_fitOf_128_128 14 rfl)
theorem dX13_fitOf_143 : decode cX13_fitOf 143 = .ok (.iload 4, 2) := zo_21 (zi_at zh_dX13_fitOf_128_128 15 rfl) (zi_at zh_dX13_fitOf_143_144 0 rfl)
theorem dX13_fitOf_145 : decode cX13_fitOf 145 = .ok (.if_icmp .lt 6, 3) := zo_161 (zi_at zh_dX13_fitOf_143_144 1 rfl) (zi_at zh_dX13_fitOf_143_144 2 rfl) (zi_at zh_dX13_fitOf_143_144 3 rfl) rfl
theorem dX13_fitOf_148 : decode cX13_fitOf 148 = .ok (.goto 10, 3) := zo_167 (zi_at zh_dX13_fitOf_143_144 4 rfl) (zi_at zh_dX13_fitOf_143_144 5 rfl) (zi_at zh_dX13_fitOf_143_144 6 rfl) rfl
theorem dX13_fitOf_151 : decode cX13_fitOf 151 = .ok (.iload 5, 2) := zo_21 (zi_at zh_dX13_fitOf_143_144 7 rfl) (zi_at zh_dX13_fitOf_143_144 8 rfl)
theorem dX13_fitOf_153 : decode cX13_fitOf 153 = .ok (.istore_n 3, 1) := zo_62 (zi_at zh_dX13_fitOf_143_144 9 rfl)
theorem dX13_fitOf_154 : decode cX13_fitOf 154 = .ok (.iload 6, 2) := zo_21 (zi_at zh_dX13_fitOf_143_144 10 rfl) (zi_at zh_dX13_fitOf_143_144 11 rfl)
theorem dX13_fitOf_156 : decode cX13_fitOf 156 = .ok (.istore 4, 2) := zo_54 (zi_at zh_dX13_fitOf_143_144 12 rfl) (zi_at zh_dX13_fitOf_143_144 13 rfl)
theorem dX13_fitOf_158 : decode cX13_fitOf 158 = .ok (.iinc 5 1, 3) := zo_132 (zi_at zh_dX13_fitOf_143_144 14 rfl) (zi_at zh_dX13_fitOf_143_144 15 rfl) (zi_at zh_dX13_fitOf_158_160 0 rfl) rfl
theorem dX13_fitOf_161 : decode cX13_fitOf 161 = .ok (.goto (-81), 3) := zo_167 (zi_at zh_dX13_fitOf_158_160 1 rfl) (zi_at zh_dX13_fitOf_158_160 2 rfl) (zi_at zh_dX13_fitOf_158_160 3 rfl) rfl
theorem dX13_fitOf_164 : decode cX13_fitOf 164 = .ok (.iload_n 3, 1) := zo_29 (zi_at zh_dX13_fitOf_158_160 4 rfl)
theorem dX13_fitOf_165 : decode cX13_fitOf 165 = .ok (.ireturn, 1) := zo_172 (zi_at zh_dX13_fitOf_158_160 5 rfl)
theorem dX13_suspected_0 : decode cX13_suspected 0 = .ok (.iconst 0, 1) := zo_3 (zi_at zh_dX13_suspected_0_0 0 rfl)
theorem dX13_suspected_1 : decode cX13_suspected 1 = .ok (.istore_n 2, 1) := zo_61 (zi_at zh_dX13_suspected_0_0 1 rfl)
theorem dX13_suspected_2 : decode cX13_suspected 2 = .ok (.iconst 0, 1) := zo_3 (zi_at zh_dX13_suspected_0_0 2 rfl)
theorem dX13_suspected_3 : decode cX13_suspected 3 = .ok (.istore_n 3, 1) := zo_62 (zi_at zh_dX13_suspected_0_0 3 rfl)
theorem dX13_suspected_4 : decode cX13_suspected 4 = .ok (.iload_n 3, 1) := zo_29 (zi_at zh_dX13_suspected_0_0 4 rfl)
theorem dX13_suspected_5 : decode cX13_suspected 5 = .ok (.aload_n 0, 1) := zo_42 (zi_at zh_dX13_suspected_0_0 5 rfl)
theorem dX13_suspected_6 : decode cX13_suspected 6 = .ok (.getfield 232, 3) := zo_180 (zi_at zh_dX13_suspected_0_0 6 rfl) (zi_at zh_dX13_suspected_0_0 7 rfl) (zi_at zh_dX13_suspected_0_0 8 rfl) rfl
theorem dX13_suspected_9 : decode cX13_suspected 9 = .ok (.if_icmp .gt 106, 3) := zo_163 (zi_at zh_dX13_suspected_0_0 9 rfl) (zi_at zh_dX13_suspected_0_0 10 rfl) (zi_at zh_dX13_suspected_0_0 11 rfl) rfl
theorem dX13_suspected_12 : decode cX13_suspected 12 = .ok (.iconst 0, 1) := zo_3 (zi_at zh_dX13_suspected_0_0 12 rfl)
theorem dX13_suspected_13 : decode cX13_suspected 13 = .ok (.istore 4, 2) := zo_54 (zi_at zh_dX13_suspected_0_0 13 rfl) (zi_at zh_dX13_suspected_0_0 14 rfl)
theorem dX13_suspected_15 : decode cX13_suspected 15 = .ok (.iload 4, 2) := zo_21 (zi_at zh_dX13_suspected_0_0 15 rfl) (zi_at zh_dX13_suspected_15_16 0 rfl)
theorem dX13_suspected_17 : decode cX13_suspected 17 = .ok (.aload_n 0, 1) := zo_42 (zi_at zh_dX13_suspected_15_16 1 rfl)
theorem dX13_suspected_18 : decode cX13_suspected 18 = .ok (.getfield 390, 3) := zo_180 (zi_at zh_dX13_suspected_15_16 2 rfl) (zi_at zh_dX13_suspected_15_16 3 rfl) (zi_at zh_dX13_suspected_15_16 4 rfl) rfl
theorem dX13_suspected_21 : decode cX13_suspected 21 = .ok (.if_icmp .ge 88, 3) := zo_162 (zi_at zh_dX13_suspected_15_16 5 rfl) (zi_at zh_dX13_suspected_15_16 6 rfl) (zi_at zh_dX13_suspected_15_16 7 rfl) rfl
theorem dX13_suspected_24 : decode cX13_suspected 24 = .ok (.aload_n 0, 1) := zo_42 (zi_at zh_dX13_suspected_15_16 8 rfl)
theorem dX13_suspected_25 : decode cX13_suspected 25 = .ok (.getfield 50, 3) := zo_180 (zi_at zh_dX13_suspected_15_16 9 rfl) (zi_at zh_dX13_suspected_15_16 10 rfl) (zi_at zh_dX13_suspected_15_16 11 rfl) rfl
theorem dX13_suspected_28 : decode cX13_suspected 28 = .ok (.iload 4, 2) := zo_21 (zi_at zh_dX13_suspected_15_16 12 rfl) (zi_at zh_dX13_suspected_15_16 13 rfl)
theorem dX13_suspected_30 : decode cX13_suspected 30 = .ok (.iaload, 1) := zo_46 (zi_at zh_dX13_suspected_15_16 14 rfl)
theorem dX13_suspected_31 : decode cX13_suspected 31 = .ok (.iload_n 3, 1) := zo_29 (zi_at zh_dX13_suspected_15_16 15 rfl)
theorem dX13_suspected_32 : decode cX13_suspected 32 = .ok (.if_icmp .ne 13, 3) := zo_160 (zi_at zh_dX13_suspected_32_32 0 rfl) (zi_at zh_dX13_suspected_32_32 1 rfl) (zi_at zh_dX13_suspected_32_32 2 rfl) rfl
theorem dX13_suspected_35 : decode cX13_suspected 35 = .ok (.aload_n 0, 1) := zo_42 (zi_at zh_dX13_suspected_32_32 3 rfl)
theorem dX13_suspected_36 : decode cX13_suspected 36 = .ok (.iload 4, 2) := zo_21 (zi_at zh_dX13_suspected_32_32 4 rfl) (zi_at zh_dX13_suspected_32_32 5 rfl)
theorem dX13_suspected_38 : decode cX13_suspected 38 = .ok (.iload_n 1, 1) := zo_27 (zi_at zh_dX13_suspected_32_32 6 rfl)
theorem dX13_suspected_39 : decode cX13_suspected 39 = .ok (.invokevirtual 528, 3) := zo_182 (zi_at zh_dX13_suspected_32_32 7 rfl) (zi_at zh_dX13_suspected_32_32 8 rfl) (zi_at zh_dX13_suspected_32_32 9 rfl) rfl
theorem dX13_suspected_42 : decode cX13_suspected 42 = .ok (.goto 6, 3) := zo_167 (zi_at zh_dX13_suspected_32_32 10 rfl) (zi_at zh_dX13_suspected_32_32 11 rfl) (zi_at zh_dX13_suspected_32_32 12 rfl) rfl
theorem dX13_suspected_45 : decode cX13_suspected 45 = .ok (.ldc_w 431, 3) := zo_19 (zi_at zh_dX13_suspected_32_32 13 rfl) (zi_at zh_dX13_suspected_32_32 14 rfl) (zi_at zh_dX13_suspected_32_32 15 rfl) rfl
theorem dX13_suspected_48 : decode cX13_suspected 48 = .ok (.istore 5, 2) := zo_54 (zi_at zh_dX13_suspected_48_48 0 rfl) (zi_at zh_dX13_suspected_48_48 1 rfl)
theorem dX13_suspected_50 : decode cX13_suspected 50 = .ok (.iload 5, 2) := zo_21 (zi_at zh_dX13_suspected_48_48 2 rfl) (zi_at zh_dX13_suspected_48_48 3 rfl)
theorem dX13_suspected_52 : decode cX13_suspected 52 = .ok (.ldc_w 431, 3) := zo_19 (zi_at zh_dX13_suspected_48_48 4 rfl) (zi_at zh_dX13_suspected_48_48 5 rfl) (zi_at zh_dX13_suspected_48_48 6 rfl) rfl
theorem dX13_suspected_55 : decode cX13_suspected 55 = .ok (.if_icmp .ne 6, 3) := zo_160 (zi_at zh_dX13_suspected_48_48 7 rfl) (zi_at zh_dX13_suspected_48_48 8 rfl) (zi_at zh_dX13_suspected_48_48 9 rfl) rfl
theorem dX13_suspected_58 : decode cX13_suspected 58 = .ok (.goto 45, 3) := zo_167 (zi_at zh_dX13_suspected_48_48 10 rfl) (zi_at zh_dX13_suspected_48_48 11 rfl) (zi_at zh_dX13_suspected_48_48 12 rfl) rfl
theorem dX13_suspected_61 : decode cX13_suspected 61 = .ok (.aload_n 0, 1) := zo_42 (zi_at zh_dX13_suspected_48_48 13 rfl)
theorem dX13_suspected_62 : decode cX13_suspected 62 = .ok (.getfield 219, 3) := zo_180 (zi_at zh_dX13_suspected_48_48 14 rfl) (zi_at zh_dX13_suspected_48_48 15 rfl) (zi_at zh_dX13_suspected_62_64 0 rfl) rfl
theorem dX13_suspected_65 : decode cX13_suspected 65 = .ok (.iload_n 2, 1) := zo_28 (zi_at zh_dX13_suspected_62_64 1 rfl)
theorem dX13_suspected_66 : decode cX13_suspected 66 = .ok (.iload 4, 2) := zo_21 (zi_at zh_dX13_suspected_62_64 2 rfl) (zi_at zh_dX13_suspected_62_64 3 rfl)
theorem dX13_suspected_68 : decode cX13_suspected 68 = .ok (.iastore, 1) := zo_79 (zi_at zh_dX13_suspected_62_64 4 rfl)
theorem dX13_suspected_69 : decode cX13_suspected 69 = .ok (.aload_n 0, 1) := zo_42 (zi_at zh_dX13_suspected_62_64 5 rfl)
theorem dX13_suspected_70 : decode cX13_suspected 70 = .ok (.getfield 222, 3) := zo_180 (zi_at zh_dX13_suspected_62_64 6 rfl) (zi_at zh_dX13_suspected_62_64 7 rfl) (zi_at zh_dX13_suspected_62_64 8 rfl) rfl
theorem dX13_suspected_73 : decode cX13_suspected 73 = .ok (.iload_n 2, 1) := zo_28 (zi_at zh_dX13_suspected_62_64 9 rfl)
theorem dX13_suspected_74 : decode cX13_suspected 74 = .ok (.ldc2_w 534, 3) := zo_20 (zi_at zh_dX13_suspected_62_64 10 rfl) (zi_at zh_dX13_suspected_62_64 11 rfl) (zi_at zh_dX13_suspected_62_64 12 rfl) rfl
theorem dX13_suspected_77 : decode cX13_suspected 77 = .ok (.iload 5, 2) := zo_21 (zi_at zh_dX13_suspected_62_64 13 rfl) (zi_at zh_dX13_suspected_62_64 14 rfl)
theorem dX13_suspected_79 : decode cX13_suspected 79 = .ok (.i2l, 1) := zo_133 (zi_at zh_dX13_suspected_62_64 15 rfl)
theorem dX13_suspected_80 : decode cX13_suspected 80 = .ok (.lmul, 1) := zo_105 (zi_at zh_dX13_suspected_80_80 0 rfl)
theorem dX13_suspected_81 : decode cX13_suspected 81 = .ok (.iconst 1, 1) := zo_4 (zi_at zh_dX13_suspected_80_80 1 rfl)
theorem dX13_suspected_82 : decode cX13_suspected 82 = .ok (.aload_n 0, 1) := zo_42 (zi_at zh_dX13_suspected_80_80 2 rfl)
theorem dX13_suspected_83 : decode cX13_suspected 83 = .ok (.iload 4, 2) := zo_21 (zi_at zh_dX13_suspected_80_80 3 rfl) (zi_at zh_dX13_suspected_80_80 4 rfl)
theorem dX13_suspected_85 : decode cX13_suspected 85 = .ok (.iload_n 1, 1) := zo_27 (zi_at zh_dX13_suspected_80_80 5 rfl)
theorem dX13_suspected_86 : decode cX13_suspected 86 = .ok (.aload_n 0, 1) := zo_42 (zi_at zh_dX13_suspected_80_80 6 rfl)
theorem dX13_suspected_87 : decode cX13_suspected 87 = .ok (.getfield 232, 3) := zo_180 (zi_at zh_dX13_suspected_80_80 7 rfl) (zi_at zh_dX13_suspected_80_80 8 rfl) (zi_at zh_dX13_suspected_80_80 9 rfl) rfl
theorem dX13_suspected_90 : decode cX13_suspected 90 = .ok (.invokevirtual 428, 3) := zo_182 (zi_at zh_dX13_suspected_80_80 10 rfl) (zi_at zh_dX13_suspected_80_80 11 rfl) (zi_at zh_dX13_suspected_80_80 12 rfl) rfl
theorem dX13_suspected_93 : decode cX13_suspected 93 = .ok (.invokestatic 385, 3) := zo_184 (zi_at zh_dX13_suspected_80_80 13 rfl) (zi_at zh_dX13_suspected_80_80 14 rfl) (zi_at zh_dX13_suspected_80_80 15 rfl) rfl
theorem dX13_suspected_96 : decode cX13_suspected 96 = .ok (.i2l, 1) := zo_133 (zi_at zh_dX13_suspected_96_96 0 rfl)
theorem dX13_suspected_97 : decode cX13_suspected 97 = .ok (.ldiv, 1) := zo_109 (zi_at zh_dX13_suspected_96_96 1 rfl)
theorem dX13_suspected_98 : decode cX13_suspected 98 = .ok (.l2i, 1) := zo_136 (zi_at zh_dX13_suspected_96_96 2 rfl)
theorem dX13_suspected_99 : decode cX13_suspected 99 = .ok (.iastore, 1) := zo_79 (zi_at zh_dX13_suspected_96_96 3 rfl)
theorem dX13_suspected_100 : decode cX13_suspected 100 = .ok (.iinc 2 1, 3) := zo_132 (zi_at zh_dX13_suspected_96_96 4 rfl) (zi_at zh_dX13_suspected_96_96 5 rfl) (zi_at zh_dX13_suspected_96_96 6 rfl) rfl
theorem dX13_suspected_103 : decode cX13_suspected 103 = .ok (.iinc 4 1, 3) := zo_132 (zi_at zh_dX13_suspected_96_96 7 rfl) (zi_at zh_dX13_suspected_96_96 8 rfl) (zi_at zh_dX13_suspected_96_96 9 rfl) rfl
theorem dX13_suspected_106 : decode cX13_suspected 106 = .ok (.goto (-91), 3) := zo_167 (zi_at zh_dX13_suspected_96_96 10 rfl) (zi_at zh_dX13_suspected_96_96 11 rfl) (zi_at zh_dX13_suspected_96_96 12 rfl) rfl
theorem dX13_suspected_109 : decode cX13_suspected 109 = .ok (.iinc 3 1, 3) := zo_132 (zi_at zh_dX13_suspected_96_96 13 rfl) (zi_at zh_dX13_suspected_96_96 14 rfl) (zi_at zh_dX13_suspected_96_96 15 rfl) rfl
theorem dX13_suspected_112 : decode cX13_suspected 112 = .ok (.goto (-108), 3) := zo_167 (zi_at zh_dX13_suspected_112_112 0 rfl) (zi_at zh_dX13_suspected_112_112 1 rfl) (zi_at zh_dX13_suspected_112_112 2 rfl) rfl
theorem dX13_suspected_115 : decode cX13_suspected 115 = .ok (.iconst (-1), 1) := zo_2 (zi_at zh_dX13_suspected_112_112 3 rfl)
theorem dX13_suspected_116 : decode cX13_suspected 116 = .ok (.istore_n 3, 1) := zo_62 (zi_at zh_dX13_suspected_112_112 4 rfl)
theorem dX13_suspected_117 : decode cX13_suspected 117 = .ok (.iconst 2, 1) := zo_5 (zi_at zh_dX13_suspected_112_112 5 rfl)
theorem dX13_suspected_118 : decode cX13_suspected 118 = .ok (.istore 4, 2) := zo_54 (zi_at zh_dX13_suspected_112_112 6 rfl) (zi_at zh_dX13_suspected_112_112 7 rfl)
theorem dX13_suspected_120 : decode cX13_suspected 120 = .ok (.iload 4, 2) := zo_21 (zi_at zh_dX13_suspected_112_112 8 rfl) (zi_at zh_dX13_suspected_112_112 9 rfl)
theorem dX13_suspected_122 : decode cX13_suspected 122 = .ok (.iload_n 2, 1) := zo_28 (zi_at zh_dX13_suspected_112_112 10 rfl)
theorem dX13_suspected_123 : decode cX13_suspected 123 = .ok (.iconst 2, 1) := zo_5 (zi_at zh_dX13_suspected_112_112 11 rfl)
theorem dX13_suspected_124 : decode cX13_suspected 124 = .ok (.isub, 1) := zo_100 (zi_at zh_dX13_suspected_112_112 12 rfl)
theorem dX13_suspected_125 : decode cX13_suspected 125 = .ok (.if_icmp .gt 121, 3) := zo_163 (zi_at zh_dX13_suspected_112_112 13 rfl) (zi_at zh_dX13_suspected_112_112 14 rfl) (zi_at zh_dX13_suspected_112_112 15 rfl) rfl
theorem dX13_suspected_128 : decode cX13_suspected 128 = .ok (.lconst 0, 1) := zo_9 (zi_at zh_dX13_suspected_128_128 0 rfl)
theorem dX13_suspected_129 : decode cX13_suspected 129 = .ok (.lstore 5, 2) := zo_55 (zi_at zh_dX13_suspected_128_128 1 rfl) (zi_at zh_dX13_suspected_128_128 2 rfl)
theorem dX13_suspected_131 : decode cX13_suspected 131 = .ok (.lconst 0, 1) := zo_9 (zi_at zh_dX13_suspected_128_128 3 rfl)
theorem dX13_suspected_132 : decode cX13_suspected 132 = .ok (.lstore 7, 2) := zo_55 (zi_at zh_dX13_suspected_128_128 4 rfl) (zi_at zh_dX13_suspected_128_128 5 rfl)
theorem dX13_suspected_134 : decode cX13_suspected 134 = .ok (.iconst 0, 1) := zo_3 (zi_at zh_dX13_suspected_128_128 6 rfl)
theorem dX13_suspected_135 : decode cX13_suspected 135 = .ok (.istore 9, 2) := zo_54 (zi_at zh_dX13_suspected_128_128 7 rfl) (zi_at zh_dX13_suspected_128_128 8 rfl)
theorem dX13_suspected_137 : decode cX13_suspected 137 = .ok (.iload 9, 2) := zo_21 (zi_at zh_dX13_suspected_128_128 9 rfl) (zi_at zh_dX13_suspected_128_128 10 rfl)
theorem dX13_suspected_139 : decode cX13_suspected 139 = .ok (.iload_n 2, 1) := zo_28 (zi_at zh_dX13_suspected_128_128 11 rfl)
theorem dX13_suspected_140 : decode cX13_suspected 140 = .ok (.if_icmp .ge 45, 3) := zo_162 (zi_at zh_dX13_suspected_128_128 12 rfl) (zi_at zh_dX13_suspected_128_128 13 rfl) (zi_at zh_dX13_suspected_128_128 14 rfl) rfl
theorem dX13_suspected_143 : decode cX13_suspected 143 = .ok (.iload 9, 2) := zo_21 (zi_at zh_dX13_suspected_128_128 15 rfl) (zi_at zh_dX13_suspected_143_144 0 rfl)
theorem dX13_suspected_145 : decode cX13_suspected 145 = .ok (.iload 4, 2) := zo_21 (zi_at zh_dX13_suspected_143_144 1 rfl) (zi_at zh_dX13_suspected_143_144 2 rfl)
theorem dX13_suspected_147 : decode cX13_suspected 147 = .ok (.if_icmp .ge 19, 3) := zo_162 (zi_at zh_dX13_suspected_143_144 3 rfl) (zi_at zh_dX13_suspected_143_144 4 rfl) (zi_at zh_dX13_suspected_143_144 5 rfl) rfl
theorem dX13_suspected_150 : decode cX13_suspected 150 = .ok (.lload 5, 2) := zo_22 (zi_at zh_dX13_suspected_143_144 6 rfl) (zi_at zh_dX13_suspected_143_144 7 rfl)
theorem dX13_suspected_152 : decode cX13_suspected 152 = .ok (.aload_n 0, 1) := zo_42 (zi_at zh_dX13_suspected_143_144 8 rfl)
theorem dX13_suspected_153 : decode cX13_suspected 153 = .ok (.getfield 222, 3) := zo_180 (zi_at zh_dX13_suspected_143_144 9 rfl) (zi_at zh_dX13_suspected_143_144 10 rfl) (zi_at zh_dX13_suspected_143_144 11 rfl) rfl
theorem dX13_suspected_156 : decode cX13_suspected 156 = .ok (.iload 9, 2) := zo_21 (zi_at zh_dX13_suspected_143_144 12 rfl) (zi_at zh_dX13_suspected_143_144 13 rfl)
theorem dX13_suspected_158 : decode cX13_suspected 158 = .ok (.iaload, 1) := zo_46 (zi_at zh_dX13_suspected_143_144 14 rfl)
theorem dX13_suspected_159 : decode cX13_suspected 159 = .ok (.i2l, 1) := zo_133 (zi_at zh_dX13_suspected_143_144 15 rfl)
theorem dX13_suspected_160 : decode cX13_suspected 160 = .ok (.ladd, 1) := zo_97 (zi_at zh_dX13_suspected_160_160 0 rfl)
theorem dX13_suspected_161 : decode cX13_suspected 161 = .ok (.lstore 5, 2) := zo_55 (zi_at zh_dX13_suspected_160_160 1 rfl) (zi_at zh_dX13_suspected_160_160 2 rfl)
theorem dX13_suspected_163 : decode cX13_suspected 163 = .ok (.goto 16, 3) := zo_167 (zi_at zh_dX13_suspected_160_160 3 rfl) (zi_at zh_dX13_suspected_160_160 4 rfl) (zi_at zh_dX13_suspected_160_160 5 rfl) rfl
theorem dX13_suspected_166 : decode cX13_suspected 166 = .ok (.lload 7, 2) := zo_22 (zi_at zh_dX13_suspected_160_160 6 rfl) (zi_at zh_dX13_suspected_160_160 7 rfl)
theorem dX13_suspected_168 : decode cX13_suspected 168 = .ok (.aload_n 0, 1) := zo_42 (zi_at zh_dX13_suspected_160_160 8 rfl)
theorem dX13_suspected_169 : decode cX13_suspected 169 = .ok (.getfield 222, 3) := zo_180 (zi_at zh_dX13_suspected_160_160 9 rfl) (zi_at zh_dX13_suspected_160_160 10 rfl) (zi_at zh_dX13_suspected_160_160 11 rfl) rfl
theorem dX13_suspected_172 : decode cX13_suspected 172 = .ok (.iload 9, 2) := zo_21 (zi_at zh_dX13_suspected_160_160 12 rfl) (zi_at zh_dX13_suspected_160_160 13 rfl)
theorem dX13_suspected_174 : decode cX13_suspected 174 = .ok (.iaload, 1) := zo_46 (zi_at zh_dX13_suspected_160_160 14 rfl)
theorem dX13_suspected_175 : decode cX13_suspected 175 = .ok (.i2l, 1) := zo_133 (zi_at zh_dX13_suspected_160_160 15 rfl)
theorem dX13_suspected_176 : decode cX13_suspected 176 = .ok (.ladd, 1) := zo_97 (zi_at zh_dX13_suspected_176_176 0 rfl)
theorem dX13_suspected_177 : decode cX13_suspected 177 = .ok (.lstore 7, 2) := zo_55 (zi_at zh_dX13_suspected_176_176 1 rfl) (zi_at zh_dX13_suspected_176_176 2 rfl)
theorem dX13_suspected_179 : decode cX13_suspected 179 = .ok (.iinc 9 1, 3) := zo_132 (zi_at zh_dX13_suspected_176_176 3 rfl) (zi_at zh_dX13_suspected_176_176 4 rfl) (zi_at zh_dX13_suspected_176_176 5 rfl) rfl
theorem dX13_suspected_182 : decode cX13_suspected 182 = .ok (.goto (-45), 3) := zo_167 (zi_at zh_dX13_suspected_176_176 6 rfl) (zi_at zh_dX13_suspected_176_176 7 rfl) (zi_at zh_dX13_suspected_176_176 8 rfl) rfl
theorem dX13_suspected_185 : decode cX13_suspected 185 = .ok (.lload 7, 2) := zo_22 (zi_at zh_dX13_suspected_176_176 9 rfl) (zi_at zh_dX13_suspected_176_176 10 rfl)
theorem dX13_suspected_187 : decode cX13_suspected 187 = .ok (.iload_n 2, 1) := zo_28 (zi_at zh_dX13_suspected_176_176 11 rfl)
theorem dX13_suspected_188 : decode cX13_suspected 188 = .ok (.iload 4, 2) := zo_21 (zi_at zh_dX13_suspected_176_176 12 rfl) (zi_at zh_dX13_suspected_176_176 13 rfl)
theorem dX13_suspected_190 : decode cX13_suspected 190 = .ok (.isub, 1) := zo_100 (zi_at zh_dX13_suspected_176_176 14 rfl)
theorem dX13_suspected_191 : decode cX13_suspected 191 = .ok (.i2l, 1) := zo_133 (zi_at zh_dX13_suspected_176_176 15 rfl)
theorem dX13_suspected_192 : decode cX13_suspected 192 = .ok (.ldiv, 1) := zo_109 (zi_at zh_dX13_suspected_192_192 0 rfl)
theorem dX13_suspected_193 : decode cX13_suspected 193 = .ok (.lload 5, 2) := zo_22 (zi_at zh_dX13_suspected_192_192 1 rfl) (zi_at zh_dX13_suspected_192_192 2 rfl)
theorem dX13_suspected_195 : decode cX13_suspected 195 = .ok (.iload 4, 2) := zo_21 (zi_at zh_dX13_suspected_192_192 3 rfl) (zi_at zh_dX13_suspected_192_192 4 rfl)
theorem dX13_suspected_197 : decode cX13_suspected 197 = .ok (.i2l, 1) := zo_133 (zi_at zh_dX13_suspected_192_192 5 rfl)
theorem dX13_suspected_198 : decode cX13_suspected 198 = .ok (.ldiv, 1) := zo_109 (zi_at zh_dX13_suspected_192_192 6 rfl)
theorem dX13_suspected_199 : decode cX13_suspected 199 = .ok (.lsub, 1) := zo_101 (zi_at zh_dX13_suspected_192_192 7 rfl)
theorem dX13_suspected_200 : decode cX13_suspected 200 = .ok (.l2i, 1) := zo_136 (zi_at zh_dX13_suspected_192_192 8 rfl)
theorem dX13_suspected_201 : decode cX13_suspected 201 = .ok (.istore 9, 2) := zo_54 (zi_at zh_dX13_suspected_192_192 9 rfl) (zi_at zh_dX13_suspected_192_192 10 rfl)
theorem dX13_suspected_203 : decode cX13_suspected 203 = .ok (.iload_n 3, 1) := zo_29 (zi_at zh_dX13_suspected_192_192 11 rfl)
theorem dX13_suspected_204 : decode cX13_suspected 204 = .ok (.iconst (-1), 1) := zo_2 (zi_at zh_dX13_suspected_192_192 12 rfl)
theorem dX13_suspected_205 : decode cX13_suspected 205 = .ok (.if_icmp .eq 21, 3) := zo_159 (zi_at zh_dX13_suspected_192_192 13 rfl) (zi_at zh_dX13_suspected_192_192 14 rfl) (zi_at zh_dX13_suspected_192_192 15 rfl) rfl
theorem dX13_suspected_208 : decode cX13_suspected 208 = .ok (.iload 9, 2) := zo_21 (zi_at zh_dX13_suspected_208_208 0 rfl) (zi_at zh_dX13_suspected_208_208 1 rfl)
theorem dX13_suspected_210 : decode cX13_suspected 210 = .ok (.invokestatic 474, 3) := zo_184 (zi_at zh_dX13_suspected_208_208 2 rfl) (zi_at zh_dX13_suspected_208_208 3 rfl) (zi_at zh_dX13_suspected_208_208 4 rfl) rfl
theorem dX13_suspected_213 : decode cX13_suspected 213 = .ok (.aload_n 0, 1) := zo_42 (zi_at zh_dX13_suspected_208_208 5 rfl)
theorem dX13_suspected_214 : decode cX13_suspected 214 = .ok (.getfield 536, 3) := zo_180 (zi_at zh_dX13_suspected_208_208 6 rfl) (zi_at zh_dX13_suspected_208_208 7 rfl) (zi_at zh_dX13_suspected_208_208 8 rfl) rfl
theorem dX13_suspected_217 : decode cX13_suspected 217 = .ok (.invokestatic 474, 3) := zo_184 (zi_at zh_dX13_suspected_208_208 9 rfl) (zi_at zh_dX13_suspected_208_208 10 rfl) (zi_at zh_dX13_suspected_208_208 11 rfl) rfl
theorem dX13_suspected_220 : decode cX13_suspected 220 = .ok (.if_icmp .gt 6, 3) := zo_163 (zi_at zh_dX13_suspected_208_208 12 rfl) (zi_at zh_dX13_suspected_208_208 13 rfl) (zi_at zh_dX13_suspected_208_208 14 rfl) rfl
theorem dX13_suspected_223 : decode cX13_suspected 223 = .ok (.goto 17, 3) := zo_167 (zi_at zh_dX13_suspected_208_208 15 rfl) (zi_at zh_dX13_suspected_223_224 0 rfl) (zi_at zh_dX13_suspected_223_224 1 rfl) rfl
theorem dX13_suspected_226 : decode cX13_suspected 226 = .ok (.aload_n 0, 1) := zo_42 (zi_at zh_dX13_suspected_223_224 2 rfl)
theorem dX13_suspected_227 : decode cX13_suspected 227 = .ok (.getfield 219, 3) := zo_180 (zi_at zh_dX13_suspected_223_224 3 rfl) (zi_at zh_dX13_suspected_223_224 4 rfl) (zi_at zh_dX13_suspected_223_224 5 rfl) rfl
theorem dX13_suspected_230 : decode cX13_suspected 230 = .ok (.iload 4, 2) := zo_21 (zi_at zh_dX13_suspected_223_224 6 rfl) (zi_at zh_dX13_suspected_223_224 7 rfl)
theorem dX13_suspected_232 : decode cX13_suspected 232 = .ok (.iaload, 1) := zo_46 (zi_at zh_dX13_suspected_223_224 8 rfl)
theorem dX13_suspected_233 : decode cX13_suspected 233 = .ok (.istore_n 3, 1) := zo_62 (zi_at zh_dX13_suspected_223_224 9 rfl)
theorem dX13_suspected_234 : decode cX13_suspected 234 = .ok (.aload_n 0, 1) := zo_42 (zi_at zh_dX13_suspected_223_224 10 rfl)
theorem dX13_suspected_235 : decode cX13_suspected 235 = .ok (.iload 9, 2) := zo_21 (zi_at zh_dX13_suspected_223_224 11 rfl) (zi_at zh_dX13_suspected_223_224 12 rfl)
theorem dX13_suspected_237 : decode cX13_suspected 237 = .ok (.putfield 536, 3) := zo_181 (zi_at zh_dX13_suspected_223_224 13 rfl) (zi_at zh_dX13_suspected_223_224 14 rfl) (zi_at zh_dX13_suspected_223_224 15 rfl) rfl
theorem dX13_suspected_240 : decode cX13_suspected 240 = .ok (.iinc 4 1, 3) := zo_132 (zi_at zh_dX13_suspected_240_240 0 rfl) (zi_at zh_dX13_suspected_240_240 1 rfl) (zi_at zh_dX13_suspected_240_240 2 rfl) rfl
theorem dX13_suspected_243 : decode cX13_suspected 243 = .ok (.goto (-123), 3) := zo_167 (zi_at zh_dX13_suspected_240_240 3 rfl) (zi_at zh_dX13_suspected_240_240 4 rfl) (zi_at zh_dX13_suspected_240_240 5 rfl) rfl
theorem dX13_suspected_246 : decode cX13_suspected 246 = .ok (.iload_n 3, 1) := zo_29 (zi_at zh_dX13_suspected_240_240 6 rfl)
theorem dX13_suspected_247 : decode cX13_suspected 247 = .ok (.ireturn, 1) := zo_172 (zi_at zh_dX13_suspected_240_240 7 rfl)
theorem dX13_suspect_0 : decode cX13_suspect 0 = .ok (.aload_n 0, 1) := zo_42 (zi_at zh_dX13_suspect_0_0 0 rfl)
theorem dX13_suspect_1 : decode cX13_suspect 1 = .ok (.iconst 0, 1) := zo_3 (zi_at zh_dX13_suspect_0_0 1 rfl)
theorem dX13_suspect_2 : decode cX13_suspect 2 = .ok (.putfield 228, 3) := zo_181 (zi_at zh_dX13_suspect_0_0 2 rfl) (zi_at zh_dX13_suspect_0_0 3 rfl) (zi_at zh_dX13_suspect_0_0 4 rfl) rfl
theorem dX13_suspect_5 : decode cX13_suspect 5 = .ok (.aload_n 0, 1) := zo_42 (zi_at zh_dX13_suspect_0_0 5 rfl)
theorem dX13_suspect_6 : decode cX13_suspect 6 = .ok (.iload_n 1, 1) := zo_27 (zi_at zh_dX13_suspect_0_0 6 rfl)
theorem dX13_suspect_7 : decode cX13_suspect 7 = .ok (.invokevirtual 245, 3) := zo_182 (zi_at zh_dX13_suspect_0_0 7 rfl) (zi_at zh_dX13_suspect_0_0 8 rfl) (zi_at zh_dX13_suspect_0_0 9 rfl) rfl
theorem dX13_suspect_10 : decode cX13_suspect 10 = .ok (.ifCond .eq 12, 3) := zo_153 (zi_at zh_dX13_suspect_0_0 10 rfl) (zi_at zh_dX13_suspect_0_0 11 rfl) (zi_at zh_dX13_suspect_0_0 12 rfl) rfl
theorem dX13_suspect_13 : decode cX13_suspect 13 = .ok (.iload_n 2, 1) := zo_28 (zi_at zh_dX13_suspect_0_0 13 rfl)
theorem dX13_suspect_14 : decode cX13_suspect 14 = .ok (.iconst 0, 1) := zo_3 (zi_at zh_dX13_suspect_0_0 14 rfl)
theorem dX13_suspect_15 : decode cX13_suspect 15 = .ok (.iconst 1, 1) := zo_4 (zi_at zh_dX13_suspect_0_0 15 rfl)
theorem dX13_suspect_16 : decode cX13_suspect 16 = .ok (.invokestatic 235, 3) := zo_184 (zi_at zh_dX13_suspect_16_16 0 rfl) (zi_at zh_dX13_suspect_16_16 1 rfl) (zi_at zh_dX13_suspect_16_16 2 rfl) rfl
theorem dX13_suspect_19 : decode cX13_suspect 19 = .ok (.ifCond .ne 7, 3) := zo_154 (zi_at zh_dX13_suspect_16_16 3 rfl) (zi_at zh_dX13_suspect_16_16 4 rfl) (zi_at zh_dX13_suspect_16_16 5 rfl) rfl
theorem dX13_suspect_22 : decode cX13_suspect 22 = .ok (.ldc_w 431, 3) := zo_19 (zi_at zh_dX13_suspect_16_16 6 rfl) (zi_at zh_dX13_suspect_16_16 7 rfl) (zi_at zh_dX13_suspect_16_16 8 rfl) rfl
theorem dX13_suspect_25 : decode cX13_suspect 25 = .ok (.ireturn, 1) := zo_172 (zi_at zh_dX13_suspect_16_16 9 rfl)
theorem dX13_suspect_26 : decode cX13_suspect 26 = .ok (.aload_n 0, 1) := zo_42 (zi_at zh_dX13_suspect_16_16 10 rfl)
theorem dX13_suspect_27 : decode cX13_suspect 27 = .ok (.iload_n 1, 1) := zo_27 (zi_at zh_dX13_suspect_16_16 11 rfl)
theorem dX13_suspect_28 : decode cX13_suspect 28 = .ok (.invokevirtual 539, 3) := zo_182 (zi_at zh_dX13_suspect_16_16 12 rfl) (zi_at zh_dX13_suspect_16_16 13 rfl) (zi_at zh_dX13_suspect_16_16 14 rfl) rfl
theorem dX13_suspect_31 : decode cX13_suspect 31 = .ok (.istore_n 3, 1) := zo_62 (zi_at zh_dX13_suspect_16_16 15 rfl)
theorem dX13_suspect_32 : decode cX13_suspect 32 = .ok (.iload_n 3, 1) := zo_29 (zi_at zh_dX13_suspect_32_32 0 rfl)
theorem dX13_suspect_33 : decode cX13_suspect 33 = .ok (.iconst (-1), 1) := zo_2 (zi_at zh_dX13_suspect_32_32 1 rfl)
theorem dX13_suspect_34 : decode cX13_suspect 34 = .ok (.if_icmp .ne 9, 3) := zo_160 (zi_at zh_dX13_suspect_32_32 2 rfl) (zi_at zh_dX13_suspect_32_32 3 rfl) (zi_at zh_dX13_suspect_32_32 4 rfl) rfl
theorem dX13_suspect_37 : decode cX13_suspect 37 = .ok (.ldc_w 431, 3) := zo_19 (zi_at zh_dX13_suspect_32_32 5 rfl) (zi_at zh_dX13_suspect_32_32 6 rfl) (zi_at zh_dX13_suspect_32_32 7 rfl) rfl
theorem dX13_suspect_40 : decode cX13_suspect 40 = .ok (.goto 15, 3) := zo_167 (zi_at zh_dX13_suspect_32_32 8 rfl) (zi_at zh_dX13_suspect_32_32 9 rfl) (zi_at zh_dX13_suspect_32_32 10 rfl) rfl
theorem dX13_suspect_43 : decode cX13_suspect 43 = .ok (.iload_n 2, 1) := zo_28 (zi_at zh_dX13_suspect_32_32 11 rfl)
theorem dX13_suspect_44 : decode cX13_suspect 44 = .ok (.ifCond .ne 7, 3) := zo_154 (zi_at zh_dX13_suspect_32_32 12 rfl) (zi_at zh_dX13_suspect_32_32 13 rfl) (zi_at zh_dX13_suspect_32_32 14 rfl) rfl
theorem dX13_suspect_47 : decode cX13_suspect 47 = .ok (.iload_n 3, 1) := zo_29 (zi_at zh_dX13_suspect_32_32 15 rfl)
theorem dX13_suspect_48 : decode cX13_suspect 48 = .ok (.goto 7, 3) := zo_167 (zi_at zh_dX13_suspect_48_48 0 rfl) (zi_at zh_dX13_suspect_48_48 1 rfl) (zi_at zh_dX13_suspect_48_48 2 rfl) rfl
theorem dX13_suspect_51 : decode cX13_suspect 51 = .ok (.aload_n 0, 1) := zo_42 (zi_at zh_dX13_suspect_48_48 3 rfl)
theorem dX13_suspect_52 : decode cX13_suspect 52 = .ok (.getfield 536, 3) := zo_180 (zi_at zh_dX13_suspect_48_48 4 rfl) (zi_at zh_dX13_suspect_48_48 5 rfl) (zi_at zh_dX13_suspect_48_48 6 rfl) rfl
theorem dX13_suspect_55 : decode cX13_suspect 55 = .ok (.ireturn, 1) := zo_172 (zi_at zh_dX13_suspect_48_48 7 rfl)
theorem hz_yX13_middleOf_2 : yX13_middleOf.cls ≠ "java/lang/invoke/MethodHandle" ∧ yX13_middleOf.cls ≠ "java/lang/invoke/VarHandle" ∧ (parseMethodDescriptor yX13_middleOf.desc).map (fun d => d.parameters.length) = some 2 := by decide +kernel
theorem hz_yX13_suspected_1 : yX13_suspected.cls ≠ "java/lang/invoke/MethodHandle" ∧ yX13_suspected.cls ≠ "java/lang/invoke/VarHandle" ∧ (parseMethodDescriptor yX13_suspected.desc).map (fun d => d.parameters.length) = some 1 := by decide +kernel
def v_fitOf : List Cond := .code yX13_fitOf cX13_fitOf 8 (some .int) :: vA
abbrev rm_fitOf : Room := { frames := 74, cells := 0, slots := 0, locals := 2960 }
def w_fitOf : Nat → Nat → Bool := wl [12, 66, 67, 68] [(0, 18), (0, 19), (0, 20), (0, 21), (0, 22), (0, 23), (0, 24), (0, 25), (0, 26)]
set_option maxHeartbeats 4000000 in
set_option maxRecDepth 100000 in
theorem q_fitOf (l : Launch) (dC : Nat → ClassId) (dI : Nat → Nat → Nat) (cT : Nat → ClassId) (ad : Nat → Nat) (E : Nat → va_E) (sz : Nat) (a0 : Int32) (hI0 : IX cT shM spM 72 ad E) (hh0 : 0 ≤ a0.toInt ∧ a0.toInt ≤ 15) : Met l yX13_fitOf v_fitOf rm_fitOf (va_Pc [.ref (ad 0), .int a0] (HW dC dI (TYM cT) 72 ad E sz)) (va_Qi (S := Nat → va_E) (fun r u => IX cT shM spM 72 ad u ∧ Kp w_fitOf E u ∧ ((-1 ≤ r.toInt ∧ r.toInt ≤ 2000))) (HB dC dI 72 ad) (va_A (WX 72 ad E) sz)) 0 0 (va_A (WX 72 ad E) sz) := by
  refine Met.ofW (cc := cX13_fitOf) (maxL := 8) (ret := (some .int)) (by decide) rfl ?_
  intro p e s m args below meth c s₁ B hml hv
  obtain ⟨hargs, hsz, hP, hK, hD0, hEV⟩ := hv
  subst hsz
  have hx := B.exec
  have hb := B.bytes
  have hr := B.returns
  have hts := atoms_spec (ws := v_fitOf) B.pre
  have hown : s.vm.findClass RX13 = some m.cls := findClass_of_methodNamed B.named
  have hlocks := B.notSynchronized
  have hinX13 : ∀ w ∈ u_ws RX13 TX13 97, w ∈ v_fitOf := fun w h => vA_in _ w (in_X13 w h)
  generalize hAe : va_A (WX 72 ad E) s.heap.size = A at hEV ⊢
  have hA : ∀ q : Nat, s.heap.size ≤ q → A q := fun q h => by rw [← hAe]; exact Or.inr h
  have hD : va_D A (WX 72 ad E) := by rw [← hAe]; exact hD0.self
  have hS : va_S A s.heap s.heap [] := va_S.rf
  have hI := hI0
  have hKp : Kp w_fitOf E E := Kp.rf
  have hl := lv_entry ([.ref (ad 0), .int a0]) (n := 8) (Nat.le_of_ble_eq_true rfl)
  obtain ⟨Q, hQ⟩ : ∃ Q, Q = MQ below (va_Qi (S := Nat → va_E) (fun r u => IX cT shM spM 72 ad u ∧ Kp w_fitOf E u ∧ ((-1 ≤ r.toInt ∧ r.toInt ≤ 2000))) (HB dC dI 72 ad) (A)) args s 0 0 (A) := ⟨_, rfl⟩
  rw [← hQ, show entryFrame m args 8 = _ from (congrArg (fun z => entryFrame m z 8) hargs).trans (lg_entry_eq _ _ _)]
  generalize (lg_sl ([.ref (ad 0), .int a0]) ++ List.replicate (8 - (lg_sl ([.ref (ad 0), .int a0])).length) Slot.unset).toArray = ls at hl ⊢
  have hl : lv_has ls 8 [(0, .ref (ad 0)), (1, .int a0)] := hl
  refine lv_iconst (v := 0) hx hb dX13_fitOf_0 (by decide) ?_
  refine lv_istore_n (lv' := [(2, .int 0), (0, .ref (ad 0)), (1, .int a0)]) hx hb dX13_fitOf_1 rfl hl (by decide) rfl (fun ls hl => ?_)
  refine lv_iconst (v := 0) hx hb dX13_fitOf_2 (by decide) ?_
  refine lv_istore_n (lv' := [(3, .int 0), (2, .int 0), (0, .ref (ad 0)), (1, .int a0)]) hx hb dX13_fitOf_3 rfl hl (by decide) rfl (fun ls hl => ?_)
  have hL4 : ∀ d : Nat, ∀ (v4_3 : Int32) (v4_2 : Int32) (E4_ : Nat → va_E) (H : Heap) (locs : List Loc) (ls : Array Slot), 0 ≤ v4_3.toInt ∧ v4_3.toInt ≤ 20 → 0 ≤ v4_2.toInt ∧ v4_2.toInt ≤ 20 → v4_2.toInt ≤ v4_3.toInt → 20 - v4_3.toInt < (d : Int) → IX cT shM spM 72 ad E4_ → Kp w_fitOf E E4_ → va_P (dC, dI) vwCl (WX 72 ad E4_) H → va_S A s.heap H locs → lv_has ls 8 [(3, .int v4_3), (2, .int v4_2), (0, .ref (ad 0)), (1, .int a0)] → W p l e (headSpec v_fitOf rm_fitOf).room s m args below meth c H locs 0 0 Q (F0 m 4 ls []) := by
    intro d
    induction d with
    | zero =>
      intro v4_3 v4_2 E4_ H locs ls hv4_3 hv4_2 hx4_0 hx4_1 hI hKp hP hS hl
      exact absurd hx4_1 (by first | exact ms_zu hv4_3.2 | omega)
    | succ d ih4 =>
      intro v4_3 v4_2 E4_ H locs ls hv4_3 hv4_2 hx4_0 hx4_1 hI hKp hP hS hl
      refine lv_iload_n hx hb dX13_fitOf_4 rfl (lv_at hl 0 rfl) ?_
      refine lv_aload_n hx hb dX13_fitOf_5 rfl (lv_at hl 2 rfl) ?_
      have i1 : 0 ≤ (xi (E 0) 46).toInt ∧ (xi (E 0) 46).toInt ≤ 20 := hI0.iv 0 (Nat.le_of_ble_eq_true rfl) rfl (Nat.le_of_ble_eq_true rfl) rfl
      refine th_get (ci := 14) (C := RX13) (T := TX13) (N := 97) (v := .int (xi (E 0) 46)) hx hb hts hinX13 hown hK hP hI 0 (Nat.le_of_ble_eq_true rfl) rfl rfl 46 (Nat.le_of_ble_eq_true rfl) (hts _ (vA_in _ _ (in_24 _ (zs16 (zs1 (zs0)))))) (fun _ h9 => h9) (th_v0 hKp hI0 0 (Nat.le_of_ble_eq_true rfl) rfl (Nat.le_of_ble_eq_true rfl) rfl rfl) dX13_fitOf_6 ?_
      refine lv_icmp_ge (tgt := 64) hx hb dX13_fitOf_9 (by decide) (fun c2 => ?_) (fun c2 => ?_)
      · --9 taken
        have t3 : (xi (E 0) 46).toInt ≤ v4_3.toInt := ti_le c2
        refine lv_iload_n hx hb dX13_fitOf_64 rfl (lv_at hl 1 rfl) ?_
        refine lv_if_ne (tgt := 70) hx hb dX13_fitOf_65 (by decide) (fun c4 => ?_) (fun c4 => ?_)
        · --65 taken
          have t5 : ¬ v4_2.toInt = 0 := ti_ne c4
          have i6 : 1 ≤ v4_2.toInt ∧ v4_2.toInt ≤ 20 := iv_ne_l t5 hv4_2 (il_ 0)
          refine lv_iconst (v := -1) hx hb dX13_fitOf_70 (by decide) ?_
          refine lv_istore_n (lv' := [(3, .int (-1)), (2, .int v4_2), (0, .ref (ad 0)), (1, .int a0)]) hx hb dX13_fitOf_71 rfl hl (by decide) rfl (fun ls hl => ?_)
          refine lv_iconst (v := 0) hx hb dX13_fitOf_72 (by decide) ?_
          refine lv_istore (lv' := [(4, .int 0), (3, .int (-1)), (2, .int v4_2), (0, .ref (ad 0)), (1, .int a0)]) hx hb dX13_fitOf_73 hl (by decide) rfl (fun ls hl => ?_)
          refine lv_sipush (v := 500) hx hb dX13_fitOf_75 (by decide) ?_
          refine lv_istore (lv' := [(5, .int 500), (4, .int 0), (3, .int (-1)), (2, .int v4_2), (0, .ref (ad 0)), (1, .int a0)]) hx hb dX13_fitOf_78 hl (by decide) rfl (fun ls hl => ?_)
          have hL80 : ∀ d : Nat, ∀ (v80_5 : Int32) (v80_4 : Int32) (v80_3 : Int32) (H : Heap) (locs : List Loc) (ls : Array Slot), 500 ≤ v80_5.toInt ∧ v80_5.toInt ≤ 2001 → -1 ≤ v80_3.toInt ∧ v80_3.toInt ≤ 2000 → 2001 - v80_5.toInt < (d : Int) → va_P (dC, dI) vwCl (WX 72 ad E4_) H → va_S A s.heap H locs → lv_has ls 8 [(5, .int v80_5), (4, .int v80_4), (3, .int v80_3), (2, .int v4_2), (0, .ref (ad 0)), (1, .int a0)] → W p l e (headSpec v_fitOf rm_fitOf).room s m args below meth c H locs 0 0 Q (F0 m 80 ls []) := by
            intro d
            induction d with
            | zero =>
              intro v80_5 v80_4 v80_3 H locs ls hv80_5 hv80_3 hx80_0 hP hS hl
              exact absurd hx80_0 (by first | exact ms_zu hv80_5.2 | omega)
            | succ d ih80 =>
              intro v80_5 v80_4 v80_3 H locs ls hv80_5 hv80_3 hx80_0 hP hS hl
              refine lv_iload hx hb dX13_fitOf_80 (lv_at hl 0 rfl) ?_
              refine lv_sipush (v := 2000) hx hb dX13_fitOf_82 (by decide) ?_
              refine lv_icmp_gt (tgt := 164) hx hb dX13_fitOf_85 (by decide) (fun c7 => ?_) (fun c7 => ?_)
              · --85 taken
                have t8 : (2000 : Int) < v80_5.toInt := ti_lt c7
                have i9 : 2001 ≤ v80_5.toInt ∧ v80_5.toInt ≤ 2001 := iv_lt_r t8 (il_ 2000) hv80_5 (by decide)
                refine lv_iload_n hx hb dX13_fitOf_164 rfl (lv_at hl 2 rfl) ?_
                rw [hQ]
                exact W.iret (v := v80_3) hx hb hr (fun t ht hW => ⟨⟨v80_3, E4_, rfl, ⟨hI, hKp, hv80_3⟩, by show va_P (dC, dI) vwCl (WX 72 ad E4_) t.heap; rw [ht]; exact hP⟩, hS.F ht⟩) hS.2.2 dX13_fitOf_165
              · --85 not
                have t10 : v80_5.toInt ≤ 2000 := ti_nlt c7
                have i11 : 500 ≤ v80_5.toInt ∧ v80_5.toInt ≤ 2000 := iv_le_l t10 hv80_5 (il_ 2000) (by decide)
                refine lv_iconst (v := 0) hx hb dX13_fitOf_88 (by decide) ?_
                refine lv_istore (lv' := [(6, .int 0), (5, .int v80_5), (4, .int v80_4), (3, .int v80_3), (2, .int v4_2), (0, .ref (ad 0)), (1, .int a0)]) hx hb dX13_fitOf_89 hl (by decide) rfl (fun ls hl => ?_)
                refine lv_iconst (v := 0) hx hb dX13_fitOf_91 (by decide) ?_
                refine lv_istore (lv' := [(7, .int 0), (6, .int 0), (5, .int v80_5), (4, .int v80_4), (3, .int v80_3), (2, .int v4_2), (0, .ref (ad 0)), (1, .int a0)]) hx hb dX13_fitOf_92 hl (by decide) rfl (fun ls hl => ?_)
                have hL94 : ∀ d : Nat, ∀ (v94_7 : Int32) (v94_6 : Int32) (H : Heap) (locs : List Loc) (ls : Array Slot), 0 ≤ v94_7.toInt ∧ v94_7.toInt ≤ 20 → v94_7.toInt ≤ v4_2.toInt → 20 - v94_7.toInt < (d : Int) → va_P (dC, dI) vwCl (WX 72 ad E4_) H → va_S A s.heap H locs → lv_has ls 8 [(7, .int v94_7), (6, .int v94_6), (5, .int v80_5), (4, .int v80_4), (3, .int v80_3), (2, .int v4_2), (0, .ref (ad 0)), (1, .int a0)] → W p l e (headSpec v_fitOf rm_fitOf).room s m args below meth c H locs 0 0 Q (F0 m 94 ls []) := by
                  intro d
                  induction d with
                  | zero =>
                    intro v94_7 v94_6 H locs ls hv94_7 hx94_0 hx94_1 hP hS hl
                    exact absurd hx94_1 (by first | exact ms_zu hv94_7.2 | omega)
                  | succ d ih94 =>
                    intro v94_7 v94_6 H locs ls hv94_7 hx94_0 hx94_1 hP hS hl
                    refine lv_iload hx hb dX13_fitOf_94 (lv_at hl 0 rfl) ?_
                    refine lv_iload_n hx hb dX13_fitOf_96 rfl (lv_at hl 5 rfl) ?_
                    refine lv_icmp_ge (tgt := 136) hx hb dX13_fitOf_97 (by decide) (fun c12 => ?_) (fun c12 => ?_)
                    · --97 taken
                      have t13 : v4_2.toInt ≤ v94_7.toInt := ti_le c12
                      have i14 : 1 ≤ v94_7.toInt ∧ v94_7.toInt ≤ 20 := iv_le_r t13 i6 hv94_7 (by decide)
                      refine lv_iload_n hx hb dX13_fitOf_136 rfl (lv_at hl 4 rfl) ?_
                      refine lv_iconst (v := -1) hx hb dX13_fitOf_137 (by decide) ?_
                      refine lv_icmp_eq (tgt := 151) hx hb dX13_fitOf_138 (by decide) (fun c15 => ?_) (fun c15 => ?_)
                      · --138 taken
                        have t16 : v80_3.toInt = -1 := ti_eq c15
                        have i17 : -1 ≤ v80_3.toInt ∧ v80_3.toInt ≤ -1 := iv_eqi t16 hv80_3 (il_ (-1)) (by decide)
                        refine lv_iload hx hb dX13_fitOf_151 (lv_at hl 2 rfl) ?_
                        refine lv_istore_n (lv' := [(3, .int v80_5), (7, .int v94_7), (6, .int v94_6), (5, .int v80_5), (4, .int v80_4), (2, .int v4_2), (0, .ref (ad 0)), (1, .int a0)]) hx hb dX13_fitOf_153 rfl hl (by decide) rfl (fun ls hl => ?_)
                        refine lv_iload hx hb dX13_fitOf_154 (lv_at hl 2 rfl) ?_
                        refine lv_istore (lv' := [(4, .int v94_6), (3, .int v80_5), (7, .int v94_7), (6, .int v94_6), (5, .int v80_5), (2, .int v4_2), (0, .ref (ad 0)), (1, .int a0)]) hx hb dX13_fitOf_156 hl (by decide) rfl (fun ls hl => ?_)
                        obtain ⟨y18, ey18⟩ : ∃ y : Int32, y = v80_5 + (1 : Int32) := ⟨_, rfl⟩
                        obtain ⟨ty18, iy18⟩ := ti_add (e := 501) (f := 2001) i11 ln_1 ey18 (by decide)
                        have ty18 : y18.toInt = v80_5.toInt + 1 := ty18
                        have iy18 : 501 ≤ y18.toInt ∧ y18.toInt ≤ 2001 := iy18
                        refine lv_iinc (v := y18) (lv' := [(5, .int y18), (4, .int v94_6), (3, .int v80_5), (7, .int v94_7), (6, .int v94_6), (2, .int v4_2), (0, .ref (ad 0)), (1, .int a0)]) hx hb dX13_fitOf_158 hl (k := 4) rfl (by rw [ey18]; rfl) (by decide) rfl (fun ls hl => ?_)
                        refine lv_goto (tgt := 80) hx hb dX13_fitOf_161 (by decide) ?_
                        exact ih80 y18 v94_6 v80_5 _ _ _ (iv_w iy18 (by decide)) (iv_w i11 (by decide)) (by first | exact ms_su hx80_0 ty18 (by decide) | omega) hP hS (lv_sub hl [0, 1, 2, 5, 6, 7] rfl)
                      · --138 not
                        have t19 : ¬ v80_3.toInt = -1 := ti_ne c15
                        have i20 : 0 ≤ v80_3.toInt ∧ v80_3.toInt ≤ 2000 := iv_ne_l t19 hv80_3 (il_ (-1))
                        refine lv_iload hx hb dX13_fitOf_141 (lv_at hl 1 rfl) ?_
                        refine lv_iload hx hb dX13_fitOf_143 (lv_at hl 3 rfl) ?_
                        refine lv_icmp_lt (tgt := 151) hx hb dX13_fitOf_145 (by decide) (fun c21 => ?_) (fun c21 => ?_)
                        · --145 taken
                          have t22 : v94_6.toInt < v80_4.toInt := ti_lt c21
                          have i23 : -2147483648 ≤ v94_6.toInt ∧ v94_6.toInt ≤ 2147483646 := iv_lt_l t22 (iv_all _) (iv_all _) (by decide)
                          have i24 : -2147483647 ≤ v80_4.toInt ∧ v80_4.toInt ≤ 2147483647 := iv_lt_r t22 (iv_all _) (iv_all _) (by decide)
                          refine lv_iload hx hb dX13_fitOf_151 (lv_at hl 2 rfl) ?_
                          refine lv_istore_n (lv' := [(3, .int v80_5), (7, .int v94_7), (6, .int v94_6), (5, .int v80_5), (4, .int v80_4), (2, .int v4_2), (0, .ref (ad 0)), (1, .int a0)]) hx hb dX13_fitOf_153 rfl hl (by decide) rfl (fun ls hl => ?_)
                          refine lv_iload hx hb dX13_fitOf_154 (lv_at hl 2 rfl) ?_
                          refine lv_istore (lv' := [(4, .int v94_6), (3, .int v80_5), (7, .int v94_7), (6, .int v94_6), (5, .int v80_5), (2, .int v4_2), (0, .ref (ad 0)), (1, .int a0)]) hx hb dX13_fitOf_156 hl (by decide) rfl (fun ls hl => ?_)
                          obtain ⟨y25, ey25⟩ : ∃ y : Int32, y = v80_5 + (1 : Int32) := ⟨_, rfl⟩
                          obtain ⟨ty25, iy25⟩ := ti_add (e := 501) (f := 2001) i11 ln_1 ey25 (by decide)
                          have ty25 : y25.toInt = v80_5.toInt + 1 := ty25
                          have iy25 : 501 ≤ y25.toInt ∧ y25.toInt ≤ 2001 := iy25
                          refine lv_iinc (v := y25) (lv' := [(5, .int y25), (4, .int v94_6), (3, .int v80_5), (7, .int v94_7), (6, .int v94_6), (2, .int v4_2), (0, .ref (ad 0)), (1, .int a0)]) hx hb dX13_fitOf_158 hl (k := 4) rfl (by rw [ey25]; rfl) (by decide) rfl (fun ls hl => ?_)
                          refine lv_goto (tgt := 80) hx hb dX13_fitOf_161 (by decide) ?_
                          exact ih80 y25 v94_6 v80_5 _ _ _ (iv_w iy25 (by decide)) (iv_w i11 (by decide)) (by first | exact ms_su hx80_0 ty25 (by decide) | omega) hP hS (lv_sub hl [0, 1, 2, 5, 6, 7] rfl)
                        · --145 not
                          have t26 : v80_4.toInt ≤ v94_6.toInt := ti_nlt c21
                          refine lv_goto (tgt := 158) hx hb dX13_fitOf_148 (by decide) ?_
                          obtain ⟨y27, ey27⟩ : ∃ y : Int32, y = v80_5 + (1 : Int32) := ⟨_, rfl⟩
                          obtain ⟨ty27, iy27⟩ := ti_add (e := 501) (f := 2001) i11 ln_1 ey27 (by decide)
                          have ty27 : y27.toInt = v80_5.toInt + 1 := ty27
                          have iy27 : 501 ≤ y27.toInt ∧ y27.toInt ≤ 2001 := iy27
                          refine lv_iinc (v := y27) (lv' := [(5, .int y27), (7, .int v94_7), (6, .int v94_6), (4, .int v80_4), (3, .int v80_3), (2, .int v4_2), (0, .ref (ad 0)), (1, .int a0)]) hx hb dX13_fitOf_158 hl (k := 2) rfl (by rw [ey27]; rfl) (by decide) rfl (fun ls hl => ?_)
                          refine lv_goto (tgt := 80) hx hb dX13_fitOf_161 (by decide) ?_
                          exact ih80 y27 v80_4 v80_3 _ _ _ (iv_w iy27 (by decide)) (iv_w i20 (by decide)) (by first | exact ms_su hx80_0 ty27 (by decide) | omega) hP hS (lv_sub hl [0, 3, 4, 5, 6, 7] rfl)
                    · --97 not
                      have t28 : v94_7.toInt < v4_2.toInt := ti_nle c12
                      have i29 : 0 ≤ v94_7.toInt ∧ v94_7.toInt ≤ 19 := iv_lt_l t28 hv94_7 i6 (by decide)
                      refine lv_iload hx hb dX13_fitOf_100 (lv_at hl 1 rfl) ?_
                      refine lv_aload_n hx hb dX13_fitOf_102 rfl (lv_at hl 6 rfl) ?_
                      refine th_get (ci := 14) (C := RX13) (T := TX13) (N := 97) (v := .ref (ad 67)) hx hb hts hinX13 hown hK hP hI 0 (Nat.le_of_ble_eq_true rfl) rfl rfl 91 (Nat.le_of_ble_eq_true rfl) (hts _ (vA_in _ _ (in_31 _ (zs16 (zs1 (zs1 (zs0))))))) (fun _ h9 => h9) (hI.fr 0 (Nat.le_of_ble_eq_true rfl) rfl (Nat.le_of_ble_eq_true rfl) 67 rfl) dX13_fitOf_103 ?_
                      refine lv_iload hx hb dX13_fitOf_106 (lv_at hl 0 rfl) ?_
                      have n31 : vp_in v94_7 20 := (iv_in (n := 20) i29 (by decide))
                      refine th_iald hx hb hK hP hI 67 (Nat.le_of_ble_eq_true rfl) rfl rfl n31 dX13_fitOf_108 (fun y30 ey30 => ?_)
                      have iy30 : 0 ≤ y30.toInt ∧ y30.toInt ≤ 200000 := hI.el 67 (Nat.le_of_ble_eq_true rfl) rfl n31 (fun _ => rfl) ey30
                      refine lv_iload hx hb dX13_fitOf_109 (lv_at hl 2 rfl) ?_
                      refine lv_imul hx hb dX13_fitOf_111 ?_
                      refine lv_topi (fun y32 ey32 => ?_)
                      obtain ⟨ty32, iy32⟩ := ti_mul (e := 0) (f := 400000000) iy30 i11 ey32 (by decide)
                      have ty32 : y32.toInt = y30.toInt * v80_5.toInt := ty32
                      have iy32 : 0 ≤ y32.toInt ∧ y32.toInt ≤ 400000000 := iy32
                      refine lv_sipush (v := 1000) hx hb dX13_fitOf_112 (by decide) ?_
                      refine lv_idiv hx hb dX13_fitOf_115 (by decide) ?_
                      refine lv_topi (fun y33 ey33 => ?_)
                      obtain ⟨ty33, iy33⟩ := ti_div (e := 0) (f := 400000) iy32 ln_1000 ey33 (by decide)
                      have iy33 : 0 ≤ y33.toInt ∧ y33.toInt ≤ 400000 := iy33
                      refine lv_aload_n hx hb dX13_fitOf_116 rfl (lv_at hl 6 rfl) ?_
                      refine th_get (ci := 14) (C := RX13) (T := TX13) (N := 97) (v := .ref (ad 68)) hx hb hts hinX13 hown hK hP hI 0 (Nat.le_of_ble_eq_true rfl) rfl rfl 92 (Nat.le_of_ble_eq_true rfl) (hts _ (vA_in _ _ (in_31 _ (zs16 (zs1 (zs1 (zs1 (zs0)))))))) (fun _ h9 => h9) (hI.fr 0 (Nat.le_of_ble_eq_true rfl) rfl (Nat.le_of_ble_eq_true rfl) 68 rfl) dX13_fitOf_117 ?_
                      refine lv_iload hx hb dX13_fitOf_120 (lv_at hl 0 rfl) ?_
                      have n35 : vp_in v94_7 20 := (iv_in (n := 20) i29 (by decide))
                      refine th_iald hx hb hK hP hI 68 (Nat.le_of_ble_eq_true rfl) rfl rfl n35 dX13_fitOf_122 (fun y34 ey34 => ?_)
                      refine lv_isub hx hb dX13_fitOf_123 ?_
                      refine lv_topi (fun y36 ey36 => ?_)
                      refine va_mabs hx hb (by rw [hml]; exact hl.1.symm) hown (hts _ (vA_in _ _ (in_25 _ (zs16 (zs16 (zs1 (zs1 (zs0)))))))) (hts _ (vA_in _ _ (in_23 _ (zs4 (zs4 (zs1 (zs1 (zs0)))))))) (hts _ (vA_in _ _ (in_0 _ (zs16 (zs16 (zs1 (zs0))))))) (hts _ (vA_in _ _ (in_23 _ (zs4 (zs4 (zs1 (zs1 (zs1 (zs0))))))))) (Nat.le_of_ble_eq_true rfl) (Nat.le_of_ble_eq_true rfl) (Nat.le_of_ble_eq_true rfl) (Nat.le_of_ble_eq_true rfl) dX13_fitOf_124 ?_
                      refine lv_topi (fun y37 ey37 => ?_)
                      refine lv_iadd hx hb dX13_fitOf_127 ?_
                      refine lv_topi (fun y38 ey38 => ?_)
                      refine lv_istore (lv' := [(6, .int y38), (7, .int v94_7), (5, .int v80_5), (4, .int v80_4), (3, .int v80_3), (2, .int v4_2), (0, .ref (ad 0)), (1, .int a0)]) hx hb dX13_fitOf_128 hl (by decide) rfl (fun ls hl => ?_)
                      obtain ⟨y39, ey39⟩ : ∃ y : Int32, y = v94_7 + (1 : Int32) := ⟨_, rfl⟩
                      obtain ⟨ty39, iy39⟩ := ti_add (e := 1) (f := 20) i29 ln_1 ey39 (by decide)
                      have ty39 : y39.toInt = v94_7.toInt + 1 := ty39
                      have iy39 : 1 ≤ y39.toInt ∧ y39.toInt ≤ 20 := iy39
                      refine lv_iinc (v := y39) (lv' := [(7, .int y39), (6, .int y38), (5, .int v80_5), (4, .int v80_4), (3, .int v80_3), (2, .int v4_2), (0, .ref (ad 0)), (1, .int a0)]) hx hb dX13_fitOf_130 hl (k := 1) rfl (by rw [ey39]; rfl) (by decide) rfl (fun ls hl => ?_)
                      refine lv_goto (tgt := 94) hx hb dX13_fitOf_133 (by decide) ?_
                      exact ih94 y39 y38 _ _ _ (iv_w iy39 (by decide)) (by have h9 := iy39; omega) (by first | exact ms_su hx94_1 ty39 (by decide) | omega) hP hS (lv_sub hl [0, 1, 2, 3, 4, 5, 6, 7] rfl)
                exact hL94 (21) (0 : Int32) (0 : Int32) _ _ _ (iv_w ln_0 (by decide)) (by have h9 := ln_0; omega) (by have h9 := ln_0; first | exact ms_bu h9.1 (by decide) | omega) hP hS (lv_sub hl [0, 1, 2, 3, 4, 5, 6, 7] rfl)
          exact hL80 (1502) (500 : Int32) (0 : Int32) (-1 : Int32) _ _ _ (iv_w ln_500 (by decide)) (iv_w ln_m1 (by decide)) (by have h9 := ln_500; first | exact ms_bu h9.1 (by decide) | omega) hP hS (lv_sub hl [0, 1, 2, 3, 4, 5] rfl)
        · --65 not
          have t40 : v4_2.toInt = 0 := ti_eq c4
          have i41 : 0 ≤ v4_2.toInt ∧ v4_2.toInt ≤ 0 := iv_eqi t40 hv4_2 (il_ 0) (by decide)
          refine lv_iconst (v := -1) hx hb dX13_fitOf_68 (by decide) ?_
          rw [hQ]
          exact W.iret (v := (-1)) hx hb hr (fun t ht hW => ⟨⟨(-1), E4_, rfl, ⟨hI, hKp, (iv_w ln_m1 (by decide))⟩, by show va_P (dC, dI) vwCl (WX 72 ad E4_) t.heap; rw [ht]; exact hP⟩, hS.F ht⟩) hS.2.2 dX13_fitOf_69
      · --9 not
        have t42 : v4_3.toInt < (xi (E 0) 46).toInt := ti_nle c2
        have i43 : 0 ≤ v4_3.toInt ∧ v4_3.toInt ≤ 19 := iv_lt_l t42 hv4_3 i1 (by decide)
        have i44 : 1 ≤ (xi (E 0) 46).toInt ∧ (xi (E 0) 46).toInt ≤ 20 := iv_lt_r t42 hv4_3 i1 (by decide)
        refine lv_aload_n hx hb dX13_fitOf_12 rfl (lv_at hl 2 rfl) ?_
        refine lv_iload_n hx hb dX13_fitOf_13 rfl (lv_at hl 0 rfl) ?_
        refine lv_iload_n hx hb dX13_fitOf_14 rfl (lv_at hl 3 rfl) ?_
        refine th_i (va_runV (As := [.int v4_3, .int a0]) (rest := []) ⟨hx, hb, hml, hown, hts⟩ (q_middleOf l dC dI cT ad E4_ H.size v4_3 a0 hI i43 hh0) (cwV 2 hts (gi_V (in_31 _ (zs16 (zs4 (zs0)))) (in_31 _ (zs16 (zs4 (zs1 (zs0))))) (in_31 _ (zs16 (zs4 (zs1 (zs1 (zs0)))))) (in_24 _ (zs4 (zs4 (zs4 (zs1 (zs1 (zs1 (zs0)))))))) (in_31 _ (zs16 (zs4 (zs1 (zs1 (zs1 (zs0)))))))) rfl rfl rfl ⟨rfl, hz_yX13_middleOf_2⟩ ⟨Nat.le_of_ble_eq_true rfl, Nat.le_of_ble_eq_true rfl⟩) ⟨HW_bl, va_recv hK hP (ci := 14) (q0 := 0) rfl (hI.ob 0 (Nat.le_of_ble_eq_true rfl) rfl), (HW_wi hP hK (WX_D hD) hS hA hEV)⟩ rfl rfl hl.1 rfl (lv_room (Nat.le_of_ble_eq_true rfl)) dX13_fitOf_15 ⟨Nat.le_of_ble_eq_true rfl, Nat.le_of_ble_eq_true rfl⟩) (WX_D hD) hS hA (fun r45 E46 H locs hw hP hS => ?_)
        obtain ⟨hI, kq47, hw⟩ := hw
        have hKb := hKp
        have hKp := hKp.tr kq47 (wl_sub rfl rfl)
        have f48 := hw
        have i49 : 0 ≤ (xi (E 0) 47).toInt ∧ (xi (E 0) 47).toInt ≤ 300 := (show 0 ≤ (xi (E 0) 47).toInt ∧ (xi (E 0) 47).toInt ≤ 300 from hI0.iv 0 (Nat.le_of_ble_eq_true rfl) rfl (Nat.le_of_ble_eq_true rfl) rfl)
        have i50 : 0 ≤ (xi (E 0) 1).toInt ∧ (xi (E 0) 1).toInt ≤ 400 := (show 0 ≤ (xi (E 0) 1).toInt ∧ (xi (E 0) 1).toInt ≤ 400 from hI0.iv 0 (Nat.le_of_ble_eq_true rfl) rfl (Nat.le_of_ble_eq_true rfl) rfl)
        try rw [hKb.ei 0 47 rfl] at f48
        try rw [hKb.ef 24 (fun _ => rfl)] at f48
        try rw [hKb.ef 25 (fun _ => rfl)] at f48
        try rw [hKb.ef 28 (fun _ => rfl)] at f48
        try rw [hKb.ei 0 1 rfl] at f48
        refine lv_istore (lv' := [(4, .int r45), (3, .int v4_3), (2, .int v4_2), (0, .ref (ad 0)), (1, .int a0)]) hx hb dX13_fitOf_18 hl (by decide) rfl (fun ls hl => ?_)
        refine lv_iload hx hb dX13_fitOf_20 (lv_at hl 0 rfl) ?_
        refine lv_ldcw hx hb hown (hts _ (vA_in _ _ (in_27 _ (zs16 (zs4 (zs1 (zs0))))))) dX13_fitOf_22 ?_
        refine lv_icmp_ne (tgt := 31) hx hb dX13_fitOf_25 (by decide) (fun c51 => ?_) (fun c51 => ?_)
        · --25 taken
          have t52 : ¬ r45.toInt = -1000000000 := ti_ne c51
          have i53 : 0 ≤ v4_2.toInt ∧ v4_2.toInt ≤ 19 := by omega
          refine lv_aload_n hx hb dX13_fitOf_31 rfl (lv_at hl 3 rfl) ?_
          refine th_get (ci := 14) (C := RX13) (T := TX13) (N := 97) (v := .ref (ad 67)) hx hb hts hinX13 hown hK hP hI 0 (Nat.le_of_ble_eq_true rfl) rfl rfl 91 (Nat.le_of_ble_eq_true rfl) (hts _ (vA_in _ _ (in_31 _ (zs16 (zs1 (zs1 (zs0))))))) (fun _ h9 => h9) (hI.fr 0 (Nat.le_of_ble_eq_true rfl) rfl (Nat.le_of_ble_eq_true rfl) 67 rfl) dX13_fitOf_32 ?_
          refine lv_iload_n hx hb dX13_fitOf_35 rfl (lv_at hl 2 rfl) ?_
          refine lv_aload_n hx hb dX13_fitOf_36 rfl (lv_at hl 3 rfl) ?_
          refine lv_iload_n hx hb dX13_fitOf_37 rfl (lv_at hl 1 rfl) ?_
          refine lv_iload_n hx hb dX13_fitOf_38 rfl (lv_at hl 4 rfl) ?_
          refine lv_aload_n hx hb dX13_fitOf_39 rfl (lv_at hl 3 rfl) ?_
          refine th_get (ci := 14) (C := RX13) (T := TX13) (N := 97) (v := .int (xi (E 0) 1)) hx hb hts hinX13 hown hK hP hI 0 (Nat.le_of_ble_eq_true rfl) rfl rfl 1 (Nat.le_of_ble_eq_true rfl) (hts _ (vA_in _ _ (in_24 _ (zs16 (zs4 (zs4 (zs1 (zs1 (zs1 (zs0)))))))))) (fun _ h9 => h9) (th_v0 hKp hI0 0 (Nat.le_of_ble_eq_true rfl) rfl (Nat.le_of_ble_eq_true rfl) rfl rfl) dX13_fitOf_40 ?_
          refine th_ri (va_runV (As := [.int v4_3, .int a0, .int (xi (E 0) 1)]) (rest := [.int v4_2, .ref (ad 67)]) ⟨hx, hb, hml, hown, hts⟩ (q_secondsOf l dC dI cT ad E46 H.size v4_3 a0 (xi (E 0) 1) hI (by (try rw [hKp.ei 0 47 rfl]); (try rw [hKp.ef 24 (fun _ => rfl)]); (try rw [hKp.ef 25 (fun _ => rfl)]); (try rw [hKp.ef 28 (fun _ => rfl)]); exact f48 t52)) (cwV 3 hts (gi_V (in_28 _ (zs16 (zs1 (zs0)))) (in_28 _ (zs16 (zs1 (zs1 (zs0))))) (in_28 _ (zs16 (zs1 (zs1 (zs1 (zs0)))))) (in_24 _ (zs4 (zs4 (zs4 (zs1 (zs1 (zs1 (zs0)))))))) (in_28 _ (zs16 (zs4 (zs0))))) rfl rfl rfl ⟨rfl, hz_yX13_secondsOf_3⟩ ⟨Nat.le_of_ble_eq_true rfl, Nat.le_of_ble_eq_true rfl⟩) ⟨HW_bl, va_recv hK hP (ci := 14) (q0 := 0) rfl (hI.ob 0 (Nat.le_of_ble_eq_true rfl) rfl), (HW_wi hP hK (WX_D hD) hS hA hEV)⟩ rfl rfl hl.1 rfl (lv_room (Nat.le_of_ble_eq_true rfl)) dX13_fitOf_43 ⟨Nat.le_of_ble_eq_true rfl, Nat.le_of_ble_eq_true rfl⟩) hS hP (fun r54 H locs hw hP hS => ?_)
          have f55 := hw
          have n56 : vp_in v4_2 20 := (iv_in (n := 20) i53 (by decide))
          refine th_iast hx hb hK hP (WX_D hD) hS hI 67 (Nat.le_of_ble_eq_true rfl) rfl rfl n56 (okI rfl f55) dX13_fitOf_46 (fun H locs E57 pw58 hI hP hS => ?_)
          have hKp := hKp.pw pw58 rfl
          refine lv_aload_n hx hb dX13_fitOf_47 rfl (lv_at hl 3 rfl) ?_
          refine th_get (ci := 14) (C := RX13) (T := TX13) (N := 97) (v := .ref (ad 68)) hx hb hts hinX13 hown hK hP hI 0 (Nat.le_of_ble_eq_true rfl) rfl rfl 92 (Nat.le_of_ble_eq_true rfl) (hts _ (vA_in _ _ (in_31 _ (zs16 (zs1 (zs1 (zs1 (zs0)))))))) (fun _ h9 => h9) (hI.fr 0 (Nat.le_of_ble_eq_true rfl) rfl (Nat.le_of_ble_eq_true rfl) 68 rfl) dX13_fitOf_48 ?_
          refine lv_iload_n hx hb dX13_fitOf_51 rfl (lv_at hl 2 rfl) ?_
          refine lv_iload hx hb dX13_fitOf_52 (lv_at hl 0 rfl) ?_
          have n59 : vp_in v4_2 20 := (iv_in (n := 20) i53 (by decide))
          refine th_iast hx hb hK hP (WX_D hD) hS hI 68 (Nat.le_of_ble_eq_true rfl) rfl rfl n59 (okI rfl (iv_all _)) dX13_fitOf_54 (fun H locs E60 pw61 hI hP hS => ?_)
          have hKp := hKp.pw pw61 rfl
          obtain ⟨y62, ey62⟩ : ∃ y : Int32, y = v4_2 + (1 : Int32) := ⟨_, rfl⟩
          obtain ⟨ty62, iy62⟩ := ti_add (e := 1) (f := 20) i53 ln_1 ey62 (by decide)
          have ty62 : y62.toInt = v4_2.toInt + 1 := ty62
          have iy62 : 1 ≤ y62.toInt ∧ y62.toInt ≤ 20 := iy62
          refine lv_iinc (v := y62) (lv' := [(2, .int y62), (4, .int r45), (3, .int v4_3), (0, .ref (ad 0)), (1, .int a0)]) hx hb dX13_fitOf_55 hl (k := 2) rfl (by rw [ey62]; rfl) (by decide) rfl (fun ls hl => ?_)
          obtain ⟨y63, ey63⟩ : ∃ y : Int32, y = v4_3 + (1 : Int32) := ⟨_, rfl⟩
          obtain ⟨ty63, iy63⟩ := ti_add (e := 1) (f := 20) i43 ln_1 ey63 (by decide)
          have ty63 : y63.toInt = v4_3.toInt + 1 := ty63
          have iy63 : 1 ≤ y63.toInt ∧ y63.toInt ≤ 20 := iy63
          refine lv_iinc (v := y63) (lv' := [(3, .int y63), (2, .int y62), (4, .int r45), (0, .ref (ad 0)), (1, .int a0)]) hx hb dX13_fitOf_58 hl (k := 2) rfl (by rw [ey63]; rfl) (by decide) rfl (fun ls hl => ?_)
          refine lv_goto (tgt := 4) hx hb dX13_fitOf_61 (by decide) ?_
          exact ih4 y63 y62 E60 _ _ _ (iv_w iy63 (by decide)) (iv_w iy62 (by decide)) (by have h9 := iy62; have h8 := iy63; omega) (by first | exact ms_su hx4_1 ty63 (by decide) | omega) hI hKp hP hS (lv_sub hl [0, 1, 3, 4] rfl)
        · --25 not
          have t64 : r45.toInt = -1000000000 := ti_eq c51
          have i65 : -1000000000 ≤ r45.toInt ∧ r45.toInt ≤ -1000000000 := iv_eqi t64 (iv_all _) (il_ (-1000000000)) (by decide)
          refine lv_goto (tgt := 58) hx hb dX13_fitOf_28 (by decide) ?_
          obtain ⟨y66, ey66⟩ : ∃ y : Int32, y = v4_3 + (1 : Int32) := ⟨_, rfl⟩
          obtain ⟨ty66, iy66⟩ := ti_add (e := 1) (f := 20) i43 ln_1 ey66 (by decide)
          have ty66 : y66.toInt = v4_3.toInt + 1 := ty66
          have iy66 : 1 ≤ y66.toInt ∧ y66.toInt ≤ 20 := iy66
          refine lv_iinc (v := y66) (lv' := [(3, .int y66), (4, .int r45), (2, .int v4_2), (0, .ref (ad 0)), (1, .int a0)]) hx hb dX13_fitOf_58 hl (k := 1) rfl (by rw [ey66]; rfl) (by decide) rfl (fun ls hl => ?_)
          refine lv_goto (tgt := 4) hx hb dX13_fitOf_61 (by decide) ?_
          exact ih4 y66 v4_2 E46 _ _ _ (iv_w iy66 (by decide)) hv4_2 (by have h9 := hv4_2; have h8 := iy66; omega) (by first | exact ms_su hx4_1 ty66 (by decide) | omega) hI hKp hP hS (lv_sub hl [0, 2, 3, 4] rfl)
  exact hL4 (21) (0 : Int32) (0 : Int32) E _ _ _ (iv_w ln_0 (by decide)) (iv_w ln_0 (by decide)) (by have h9 := ln_0; have h8 := ln_0; omega) (by have h9 := ln_0; first | exact ms_bu h9.1 (by decide) | omega) hI hKp hP hS (lv_sub hl [0, 1, 2, 3] rfl)
def v_suspected : List Cond := .code yX13_suspected cX13_suspected 10 (some .int) :: vA
abbrev rm_suspected : Room := { frames := 74, cells := 0, slots := 0, locals := 2960 }
def w_suspected : Nat → Nat → Bool := wl [12, 66, 69, 70] [(0, 18), (0, 19), (0, 20), (0, 21), (0, 22), (0, 23), (0, 24), (0, 25), (0, 26), (0, 95)]
set_option maxHeartbeats 4000000 in
set_option maxRecDepth 100000 in
theorem q_suspected (l : Launch) (dC : Nat → ClassId) (dI : Nat → Nat → Nat) (cT : Nat → ClassId) (ad : Nat → Nat) (E : Nat → va_E) (sz : Nat) (a0 : Int32) (hI0 : IX cT shM spM 72 ad E) (hh0 : 0 ≤ a0.toInt ∧ a0.toInt ≤ 15) : Met l yX13_suspected v_suspected rm_suspected (va_Pc [.ref (ad 0), .int a0] (HW dC dI (TYM cT) 72 ad E sz)) (va_Qi (S := Nat → va_E) (fun r u => IX cT shM spM 72 ad u ∧ Kp w_suspected E u ∧ ((-1 ≤ r.toInt ∧ r.toInt ≤ 19))) (HB dC dI 72 ad) (va_A (WX 72 ad E) sz)) 0 0 (va_A (WX 72 ad E) sz) := by
  refine Met.ofW (cc := cX13_suspected) (maxL := 10) (ret := (some .int)) (by decide) rfl ?_
  intro p e s m args below meth c s₁ B hml hv
  obtain ⟨hargs, hsz, hP, hK, hD0, hEV⟩ := hv
  subst hsz
  have hx := B.exec
  have hb := B.bytes
  have hr := B.returns
  have hts := atoms_spec (ws := v_suspected) B.pre
  have hown : s.vm.findClass RX13 = some m.cls := findClass_of_methodNamed B.named
  have hlocks := B.notSynchronized
  have hinX13 : ∀ w ∈ u_ws RX13 TX13 97, w ∈ v_suspected := fun w h => vA_in _ w (in_X13 w h)
  generalize hAe : va_A (WX 72 ad E) s.heap.size = A at hEV ⊢
  have hA : ∀ q : Nat, s.heap.size ≤ q → A q := fun q h => by rw [← hAe]; exact Or.inr h
  have hD : va_D A (WX 72 ad E) := by rw [← hAe]; exact hD0.self
  have hS : va_S A s.heap s.heap [] := va_S.rf
  have hI := hI0
  have hKp : Kp w_suspected E E := Kp.rf
  have hl := lv_entry ([.ref (ad 0), .int a0]) (n := 10) (Nat.le_of_ble_eq_true rfl)
  obtain ⟨Q, hQ⟩ : ∃ Q, Q = MQ below (va_Qi (S := Nat → va_E) (fun r u => IX cT shM spM 72 ad u ∧ Kp w_suspected E u ∧ ((-1 ≤ r.toInt ∧ r.toInt ≤ 19))) (HB dC dI 72 ad) (A)) args s 0 0 (A) := ⟨_, rfl⟩
  rw [← hQ, show entryFrame m args 10 = _ from (congrArg (fun z => entryFrame m z 10) hargs).trans (lg_entry_eq _ _ _)]
  generalize (lg_sl ([.ref (ad 0), .int a0]) ++ List.replicate (10 - (lg_sl ([.ref (ad 0), .int a0])).length) Slot.unset).toArray = ls at hl ⊢
  have hl : lv_has ls 10 [(0, .ref (ad 0)), (1, .int a0)] := hl
  refine lv_iconst (v := 0) hx hb dX13_suspected_0 (by decide) ?_
  refine lv_istore_n (lv' := [(2, .int 0), (0, .ref (ad 0)), (1, .int a0)]) hx hb dX13_suspected_1 rfl hl (by decide) rfl (fun ls hl => ?_)
  refine lv_iconst (v := 0) hx hb dX13_suspected_2 (by decide) ?_
  refine lv_istore_n (lv' := [(3, .int 0), (2, .int 0), (0, .ref (ad 0)), (1, .int a0)]) hx hb dX13_suspected_3 rfl hl (by decide) rfl (fun ls hl => ?_)
  have hL4 : ∀ d : Nat, ∀ (v4_3 : Int32) (v4_2 : Int32) (E4_ : Nat → va_E) (H : Heap) (locs : List Loc) (ls : Array Slot), 0 ≤ v4_3.toInt ∧ v4_3.toInt ≤ 401 → 0 ≤ v4_2.toInt ∧ v4_2.toInt ≤ 20 → v4_2.toInt ≤ (cLt (xi (E 13)) v4_3.toInt (xi (E 0) 46).toNatClampNeg : Int) → 401 - v4_3.toInt < (d : Int) → IX cT shM spM 72 ad E4_ → Kp w_suspected E E4_ → va_P (dC, dI) vwCl (WX 72 ad E4_) H → va_S A s.heap H locs → lv_has ls 10 [(3, .int v4_3), (2, .int v4_2), (0, .ref (ad 0)), (1, .int a0)] → W p l e (headSpec v_suspected rm_suspected).room s m args below meth c H locs 0 0 Q (F0 m 4 ls []) := by
    intro d
    induction d with
    | zero =>
      intro v4_3 v4_2 E4_ H locs ls hv4_3 hv4_2 hx4_0 hx4_1 hI hKp hP hS hl
      exact absurd hx4_1 (by first | exact ms_zu hv4_3.2 | omega)
    | succ d ih4 =>
      intro v4_3 v4_2 E4_ H locs ls hv4_3 hv4_2 hx4_0 hx4_1 hI hKp hP hS hl
      refine lv_iload_n hx hb dX13_suspected_4 rfl (lv_at hl 0 rfl) ?_
      refine lv_aload_n hx hb dX13_suspected_5 rfl (lv_at hl 2 rfl) ?_
      have i1 : 0 ≤ (xi (E 0) 1).toInt ∧ (xi (E 0) 1).toInt ≤ 400 := hI0.iv 0 (Nat.le_of_ble_eq_true rfl) rfl (Nat.le_of_ble_eq_true rfl) rfl
      refine th_get (ci := 14) (C := RX13) (T := TX13) (N := 97) (v := .int (xi (E 0) 1)) hx hb hts hinX13 hown hK hP hI 0 (Nat.le_of_ble_eq_true rfl) rfl rfl 1 (Nat.le_of_ble_eq_true rfl) (hts _ (vA_in _ _ (in_24 _ (zs16 (zs4 (zs4 (zs1 (zs1 (zs1 (zs0)))))))))) (fun _ h9 => h9) (th_v0 hKp hI0 0 (Nat.le_of_ble_eq_true rfl) rfl (Nat.le_of_ble_eq_true rfl) rfl rfl) dX13_suspected_6 ?_
      refine lv_icmp_gt (tgt := 115) hx hb dX13_suspected_9 (by decide) (fun c2 => ?_) (fun c2 => ?_)
      · --9 taken
        have t3 : (xi (E 0) 1).toInt < v4_3.toInt := ti_lt c2
        have i4 : 1 ≤ v4_3.toInt ∧ v4_3.toInt ≤ 401 := iv_lt_r t3 i1 hv4_3 (by decide)
        refine lv_iconst (v := -1) hx hb dX13_suspected_115 (by decide) ?_
        refine lv_istore_n (lv' := [(3, .int (-1)), (2, .int v4_2), (0, .ref (ad 0)), (1, .int a0)]) hx hb dX13_suspected_116 rfl hl (by decide) rfl (fun ls hl => ?_)
        refine lv_iconst (v := 2) hx hb dX13_suspected_117 (by decide) ?_
        refine lv_istore (lv' := [(4, .int 2), (3, .int (-1)), (2, .int v4_2), (0, .ref (ad 0)), (1, .int a0)]) hx hb dX13_suspected_118 hl (by decide) rfl (fun ls hl => ?_)
        have hL120 : ∀ d : Nat, ∀ (v120_4 : Int32) (v120_3 : Int32) (E120_ : Nat → va_E) (H : Heap) (locs : List Loc) (ls : Array Slot), 2 ≤ v120_4.toInt ∧ v120_4.toInt ≤ 19 → -1 ≤ v120_3.toInt ∧ v120_3.toInt ≤ 19 → 19 - v120_4.toInt < (d : Int) → IX cT shM spM 72 ad E120_ → Kp w_suspected E E120_ → va_P (dC, dI) vwCl (WX 72 ad E120_) H → va_S A s.heap H locs → lv_has ls 10 [(4, .int v120_4), (3, .int v120_3), (2, .int v4_2), (0, .ref (ad 0)), (1, .int a0)] → W p l e (headSpec v_suspected rm_suspected).room s m args below meth c H locs 0 0 Q (F0 m 120 ls []) := by
          intro d
          induction d with
          | zero =>
            intro v120_4 v120_3 E120_ H locs ls hv120_4 hv120_3 hx120_0 hI hKp hP hS hl
            exact absurd hx120_0 (by first | exact ms_zu hv120_4.2 | omega)
          | succ d ih120 =>
            intro v120_4 v120_3 E120_ H locs ls hv120_4 hv120_3 hx120_0 hI hKp hP hS hl
            refine lv_iload hx hb dX13_suspected_120 (lv_at hl 0 rfl) ?_
            refine lv_iload_n hx hb dX13_suspected_122 rfl (lv_at hl 2 rfl) ?_
            refine lv_iconst (v := 2) hx hb dX13_suspected_123 (by decide) ?_
            refine lv_isub hx hb dX13_suspected_124 ?_
            refine lv_topi (fun y5 ey5 => ?_)
            obtain ⟨ty5, iy5⟩ := ti_sub (e := (-2)) (f := 18) hv4_2 ln_2 ey5 (by decide)
            have ty5 : y5.toInt = v4_2.toInt - 2 := ty5
            have iy5 : -2 ≤ y5.toInt ∧ y5.toInt ≤ 18 := iy5
            refine lv_icmp_gt (tgt := 246) hx hb dX13_suspected_125 (by decide) (fun c6 => ?_) (fun c6 => ?_)
            · --125 taken
              have t7 : y5.toInt < v120_4.toInt := ti_lt c6
              refine lv_iload_n hx hb dX13_suspected_246 rfl (lv_at hl 1 rfl) ?_
              rw [hQ]
              exact W.iret (v := v120_3) hx hb hr (fun t ht hW => ⟨⟨v120_3, E120_, rfl, ⟨hI, hKp, hv120_3⟩, by show va_P (dC, dI) vwCl (WX 72 ad E120_) t.heap; rw [ht]; exact hP⟩, hS.F ht⟩) hS.2.2 dX13_suspected_247
            · --125 not
              have t8 : v120_4.toInt ≤ y5.toInt := ti_nlt c6
              have i9 : 2 ≤ v120_4.toInt ∧ v120_4.toInt ≤ 18 := iv_le_l t8 hv120_4 iy5 (by decide)
              have i10 : 2 ≤ y5.toInt ∧ y5.toInt ≤ 18 := iv_le_r t8 hv120_4 iy5 (by decide)
              refine lv_lconst hx hb dX13_suspected_128 rfl ?_
              refine lv_topl (fun y11 ey11 => ?_)
              refine lv_lstore (lv' := [(5, .long y11), (4, .int v120_4), (3, .int v120_3), (2, .int v4_2), (0, .ref (ad 0)), (1, .int a0)]) hx hb dX13_suspected_129 hl (by decide) rfl (fun ls hl => ?_)
              refine lv_lconst hx hb dX13_suspected_131 rfl ?_
              refine lv_topl (fun y12 ey12 => ?_)
              refine lv_lstore (lv' := [(7, .long y12), (5, .long y11), (4, .int v120_4), (3, .int v120_3), (2, .int v4_2), (0, .ref (ad 0)), (1, .int a0)]) hx hb dX13_suspected_132 hl (by decide) rfl (fun ls hl => ?_)
              refine lv_iconst (v := 0) hx hb dX13_suspected_134 (by decide) ?_
              refine lv_istore (lv' := [(9, .int 0), (7, .long y12), (5, .long y11), (4, .int v120_4), (3, .int v120_3), (2, .int v4_2), (0, .ref (ad 0)), (1, .int a0)]) hx hb dX13_suspected_135 hl (by decide) rfl (fun ls hl => ?_)
              have hL137 : ∀ d : Nat, ∀ (v137_9 : Int32) (v137_7 : Int64) (v137_5 : Int64) (H : Heap) (locs : List Loc) (ls : Array Slot), 0 ≤ v137_9.toInt ∧ v137_9.toInt ≤ 20 → 20 - v137_9.toInt < (d : Int) → va_P (dC, dI) vwCl (WX 72 ad E120_) H → va_S A s.heap H locs → lv_has ls 10 [(9, .int v137_9), (7, .long v137_7), (5, .long v137_5), (4, .int v120_4), (3, .int v120_3), (2, .int v4_2), (0, .ref (ad 0)), (1, .int a0)] → W p l e (headSpec v_suspected rm_suspected).room s m args below meth c H locs 0 0 Q (F0 m 137 ls []) := by
                intro d
                induction d with
                | zero =>
                  intro v137_9 v137_7 v137_5 H locs ls hv137_9 hx137_0 hP hS hl
                  exact absurd hx137_0 (by first | exact ms_zu hv137_9.2 | omega)
                | succ d ih137 =>
                  intro v137_9 v137_7 v137_5 H locs ls hv137_9 hx137_0 hP hS hl
                  refine lv_iload hx hb dX13_suspected_137 (lv_at hl 0 rfl) ?_
                  refine lv_iload_n hx hb dX13_suspected_139 rfl (lv_at hl 5 rfl) ?_
                  refine lv_icmp_ge (tgt := 185) hx hb dX13_suspected_140 (by decide) (fun c13 => ?_) (fun c13 => ?_)
                  · --140 taken
                    have t14 : v4_2.toInt ≤ v137_9.toInt := ti_le c13
                    refine lv_lload hx hb dX13_suspected_185 (lv_at hl 1 rfl) ?_
                    refine lv_iload_n hx hb dX13_suspected_187 rfl (lv_at hl 5 rfl) ?_
                    refine lv_iload hx hb dX13_suspected_188 (lv_at hl 3 rfl) ?_
                    refine lv_isub hx hb dX13_suspected_190 ?_
                    refine lv_topi (fun y15 ey15 => ?_)
                    obtain ⟨ty15, iy15⟩ := ti_sub (e := (-18)) (f := 18) hv4_2 i9 ey15 (by decide)
                    have ty15 : y15.toInt = v4_2.toInt - v120_4.toInt := ty15
                    have iy15 : -18 ≤ y15.toInt ∧ y15.toInt ≤ 18 := iy15
                    refine lv_i2l hx hb dX13_suspected_191 rfl ?_
                    refine lv_topl (fun y16 ey16 => ?_)
                    refine lv_ldiv hx hb dX13_suspected_192 (i2l_n0 ey16 (by omega)) ?_
                    refine lv_topl (fun y17 ey17 => ?_)
                    refine lv_lload hx hb dX13_suspected_193 (lv_at hl 2 rfl) ?_
                    refine lv_iload hx hb dX13_suspected_195 (lv_at hl 3 rfl) ?_
                    refine lv_i2l hx hb dX13_suspected_197 rfl ?_
                    refine lv_topl (fun y18 ey18 => ?_)
                    refine lv_ldiv hx hb dX13_suspected_198 (i2l_n0 ey18 (by omega)) ?_
                    refine lv_topl (fun y19 ey19 => ?_)
                    refine lv_lsub hx hb dX13_suspected_199 ?_
                    refine lv_topl (fun y20 ey20 => ?_)
                    refine lv_l2i hx hb dX13_suspected_200 rfl ?_
                    refine lv_topi (fun y21 ey21 => ?_)
                    refine lv_istore (lv' := [(9, .int y21), (7, .long v137_7), (5, .long v137_5), (4, .int v120_4), (3, .int v120_3), (2, .int v4_2), (0, .ref (ad 0)), (1, .int a0)]) hx hb dX13_suspected_201 hl (by decide) rfl (fun ls hl => ?_)
                    refine lv_iload_n hx hb dX13_suspected_203 rfl (lv_at hl 4 rfl) ?_
                    refine lv_iconst (v := -1) hx hb dX13_suspected_204 (by decide) ?_
                    refine lv_icmp_eq (tgt := 226) hx hb dX13_suspected_205 (by decide) (fun c22 => ?_) (fun c22 => ?_)
                    · --205 taken
                      have t23 : v120_3.toInt = -1 := ti_eq c22
                      have i24 : -1 ≤ v120_3.toInt ∧ v120_3.toInt ≤ -1 := iv_eqi t23 hv120_3 (il_ (-1)) (by decide)
                      refine lv_aload_n hx hb dX13_suspected_226 rfl (lv_at hl 6 rfl) ?_
                      refine th_get (ci := 14) (C := RX13) (T := TX13) (N := 97) (v := .ref (ad 69)) hx hb hts hinX13 hown hK hP hI 0 (Nat.le_of_ble_eq_true rfl) rfl rfl 93 (Nat.le_of_ble_eq_true rfl) (hts _ (vA_in _ _ (in_32 _ (zs16 (zs0))))) (fun _ h9 => h9) (hI.fr 0 (Nat.le_of_ble_eq_true rfl) rfl (Nat.le_of_ble_eq_true rfl) 69 rfl) dX13_suspected_227 ?_
                      refine lv_iload hx hb dX13_suspected_230 (lv_at hl 3 rfl) ?_
                      have n26 : vp_in v120_4 20 := (iv_in (n := 20) i9 (by decide))
                      refine th_iald hx hb hK hP hI 69 (Nat.le_of_ble_eq_true rfl) rfl rfl n26 dX13_suspected_232 (fun y25 ey25 => ?_)
                      have iy25 : 0 ≤ y25.toInt ∧ y25.toInt ≤ 19 := hI.el 69 (Nat.le_of_ble_eq_true rfl) rfl n26 (fun _ => rfl) ey25
                      refine lv_istore_n (lv' := [(3, .int y25), (9, .int y21), (7, .long v137_7), (5, .long v137_5), (4, .int v120_4), (2, .int v4_2), (0, .ref (ad 0)), (1, .int a0)]) hx hb dX13_suspected_233 rfl hl (by decide) rfl (fun ls hl => ?_)
                      refine lv_aload_n hx hb dX13_suspected_234 rfl (lv_at hl 6 rfl) ?_
                      refine lv_iload hx hb dX13_suspected_235 (lv_at hl 1 rfl) ?_
                      refine th_put (ci := 14) (C := RX13) (T := TX13) (N := 97) (v := .int y21) (ty := .int) hx hb hts hinX13 tyX13 tyX13_ok nmX13 hown hK hP (WX_D hD) hS hI 0 (Nat.le_of_ble_eq_true rfl) rfl rfl 95 (Nat.le_of_ble_eq_true rfl) (hts _ (vA_in _ _ (in_33 _ (zs16 (zs4 (zs4 (zs4 (zs0)))))))) (fun _ h9 => h9) rfl (by decide +kernel) rfl rfl (okI rfl (iv_all _)) dX13_suspected_237 (fun H locs E27 pw28 hI hP hS => ?_)
                      have hKp := hKp.pw pw28 rfl
                      obtain ⟨y29, ey29⟩ : ∃ y : Int32, y = v120_4 + (1 : Int32) := ⟨_, rfl⟩
                      obtain ⟨ty29, iy29⟩ := ti_add (e := 3) (f := 19) i9 ln_1 ey29 (by decide)
                      have ty29 : y29.toInt = v120_4.toInt + 1 := ty29
                      have iy29 : 3 ≤ y29.toInt ∧ y29.toInt ≤ 19 := iy29
                      refine lv_iinc (v := y29) (lv' := [(4, .int y29), (3, .int y25), (9, .int y21), (7, .long v137_7), (5, .long v137_5), (2, .int v4_2), (0, .ref (ad 0)), (1, .int a0)]) hx hb dX13_suspected_240 hl (k := 4) rfl (by rw [ey29]; rfl) (by decide) rfl (fun ls hl => ?_)
                      refine lv_goto (tgt := 120) hx hb dX13_suspected_243 (by decide) ?_
                      exact ih120 y29 y25 E27 _ _ _ (iv_w iy29 (by decide)) (iv_w iy25 (by decide)) (by first | exact ms_su hx120_0 ty29 (by decide) | omega) hI hKp hP hS (lv_sub hl [0, 1, 5, 6, 7] rfl)
                    · --205 not
                      have t30 : ¬ v120_3.toInt = -1 := ti_ne c22
                      have i31 : 0 ≤ v120_3.toInt ∧ v120_3.toInt ≤ 19 := iv_ne_l t30 hv120_3 (il_ (-1))
                      refine lv_iload hx hb dX13_suspected_208 (lv_at hl 0 rfl) ?_
                      refine va_mabs hx hb (by rw [hml]; exact hl.1.symm) hown (hts _ (vA_in _ _ (in_25 _ (zs16 (zs16 (zs1 (zs1 (zs0)))))))) (hts _ (vA_in _ _ (in_23 _ (zs4 (zs4 (zs1 (zs1 (zs0)))))))) (hts _ (vA_in _ _ (in_0 _ (zs16 (zs16 (zs1 (zs0))))))) (hts _ (vA_in _ _ (in_23 _ (zs4 (zs4 (zs1 (zs1 (zs1 (zs0))))))))) (Nat.le_of_ble_eq_true rfl) (Nat.le_of_ble_eq_true rfl) (Nat.le_of_ble_eq_true rfl) (Nat.le_of_ble_eq_true rfl) dX13_suspected_210 ?_
                      refine lv_topi (fun y32 ey32 => ?_)
                      refine lv_aload_n hx hb dX13_suspected_213 rfl (lv_at hl 6 rfl) ?_
                      obtain ⟨y33, ey33⟩ : ∃ y, xi (E120_ 0) 95 = y := ⟨_, rfl⟩
                      have fy33 : xv (E120_ 0) 95 = .int y33 := (hI.fi 0 (Nat.le_of_ble_eq_true rfl) rfl (Nat.le_of_ble_eq_true rfl) rfl).trans (congrArg Value.int ey33)
                      refine th_get (ci := 14) (C := RX13) (T := TX13) (N := 97) (v := .int y33) hx hb hts hinX13 hown hK hP hI 0 (Nat.le_of_ble_eq_true rfl) rfl rfl 95 (Nat.le_of_ble_eq_true rfl) (hts _ (vA_in _ _ (in_33 _ (zs16 (zs4 (zs4 (zs4 (zs0)))))))) (fun _ h9 => h9) fy33 dX13_suspected_214 ?_
                      refine va_mabs hx hb (by rw [hml]; exact hl.1.symm) hown (hts _ (vA_in _ _ (in_25 _ (zs16 (zs16 (zs1 (zs1 (zs0)))))))) (hts _ (vA_in _ _ (in_23 _ (zs4 (zs4 (zs1 (zs1 (zs0)))))))) (hts _ (vA_in _ _ (in_0 _ (zs16 (zs16 (zs1 (zs0))))))) (hts _ (vA_in _ _ (in_23 _ (zs4 (zs4 (zs1 (zs1 (zs1 (zs0))))))))) (Nat.le_of_ble_eq_true rfl) (Nat.le_of_ble_eq_true rfl) (Nat.le_of_ble_eq_true rfl) (Nat.le_of_ble_eq_true rfl) dX13_suspected_217 ?_
                      refine lv_topi (fun y34 ey34 => ?_)
                      refine lv_icmp_gt (tgt := 226) hx hb dX13_suspected_220 (by decide) (fun c35 => ?_) (fun c35 => ?_)
                      · --220 taken
                        have t36 : y34.toInt < y32.toInt := ti_lt c35
                        have i37 : -2147483648 ≤ y34.toInt ∧ y34.toInt ≤ 2147483646 := iv_lt_l t36 (iv_all _) (iv_all _) (by decide)
                        have i38 : -2147483647 ≤ y32.toInt ∧ y32.toInt ≤ 2147483647 := iv_lt_r t36 (iv_all _) (iv_all _) (by decide)
                        refine lv_aload_n hx hb dX13_suspected_226 rfl (lv_at hl 6 rfl) ?_
                        refine th_get (ci := 14) (C := RX13) (T := TX13) (N := 97) (v := .ref (ad 69)) hx hb hts hinX13 hown hK hP hI 0 (Nat.le_of_ble_eq_true rfl) rfl rfl 93 (Nat.le_of_ble_eq_true rfl) (hts _ (vA_in _ _ (in_32 _ (zs16 (zs0))))) (fun _ h9 => h9) (hI.fr 0 (Nat.le_of_ble_eq_true rfl) rfl (Nat.le_of_ble_eq_true rfl) 69 rfl) dX13_suspected_227 ?_
                        refine lv_iload hx hb dX13_suspected_230 (lv_at hl 3 rfl) ?_
                        have n40 : vp_in v120_4 20 := (iv_in (n := 20) i9 (by decide))
                        refine th_iald hx hb hK hP hI 69 (Nat.le_of_ble_eq_true rfl) rfl rfl n40 dX13_suspected_232 (fun y39 ey39 => ?_)
                        have iy39 : 0 ≤ y39.toInt ∧ y39.toInt ≤ 19 := hI.el 69 (Nat.le_of_ble_eq_true rfl) rfl n40 (fun _ => rfl) ey39
                        refine lv_istore_n (lv' := [(3, .int y39), (9, .int y21), (7, .long v137_7), (5, .long v137_5), (4, .int v120_4), (2, .int v4_2), (0, .ref (ad 0)), (1, .int a0)]) hx hb dX13_suspected_233 rfl hl (by decide) rfl (fun ls hl => ?_)
                        refine lv_aload_n hx hb dX13_suspected_234 rfl (lv_at hl 6 rfl) ?_
                        refine lv_iload hx hb dX13_suspected_235 (lv_at hl 1 rfl) ?_
                        refine th_put (ci := 14) (C := RX13) (T := TX13) (N := 97) (v := .int y21) (ty := .int) hx hb hts hinX13 tyX13 tyX13_ok nmX13 hown hK hP (WX_D hD) hS hI 0 (Nat.le_of_ble_eq_true rfl) rfl rfl 95 (Nat.le_of_ble_eq_true rfl) (hts _ (vA_in _ _ (in_33 _ (zs16 (zs4 (zs4 (zs4 (zs0)))))))) (fun _ h9 => h9) rfl (by decide +kernel) rfl rfl (okI rfl (iv_all _)) dX13_suspected_237 (fun H locs E41 pw42 hI hP hS => ?_)
                        have hKp := hKp.pw pw42 rfl
                        obtain ⟨y43, ey43⟩ : ∃ y : Int32, y = v120_4 + (1 : Int32) := ⟨_, rfl⟩
                        obtain ⟨ty43, iy43⟩ := ti_add (e := 3) (f := 19) i9 ln_1 ey43 (by decide)
                        have ty43 : y43.toInt = v120_4.toInt + 1 := ty43
                        have iy43 : 3 ≤ y43.toInt ∧ y43.toInt ≤ 19 := iy43
                        refine lv_iinc (v := y43) (lv' := [(4, .int y43), (3, .int y39), (9, .int y21), (7, .long v137_7), (5, .long v137_5), (2, .int v4_2), (0, .ref (ad 0)), (1, .int a0)]) hx hb dX13_suspected_240 hl (k := 4) rfl (by rw [ey43]; rfl) (by decide) rfl (fun ls hl => ?_)
                        refine lv_goto (tgt := 120) hx hb dX13_suspected_243 (by decide) ?_
                        exact ih120 y43 y39 E41 _ _ _ (iv_w iy43 (by decide)) (iv_w iy39 (by decide)) (by first | exact ms_su hx120_0 ty43 (by decide) | omega) hI hKp hP hS (lv_sub hl [0, 1, 5, 6, 7] rfl)
                      · --220 not
                        have t44 : y32.toInt ≤ y34.toInt := ti_nlt c35
                        refine lv_goto (tgt := 240) hx hb dX13_suspected_223 (by decide) ?_
                        obtain ⟨y45, ey45⟩ : ∃ y : Int32, y = v120_4 + (1 : Int32) := ⟨_, rfl⟩
                        obtain ⟨ty45, iy45⟩ := ti_add (e := 3) (f := 19) i9 ln_1 ey45 (by decide)
                        have ty45 : y45.toInt = v120_4.toInt + 1 := ty45
                        have iy45 : 3 ≤ y45.toInt ∧ y45.toInt ≤ 19 := iy45
                        refine lv_iinc (v := y45) (lv' := [(4, .int y45), (9, .int y21), (7, .long v137_7), (5, .long v137_5), (3, .int v120_3), (2, .int v4_2), (0, .ref (ad 0)), (1, .int a0)]) hx hb dX13_suspected_240 hl (k := 3) rfl (by rw [ey45]; rfl) (by decide) rfl (fun ls hl => ?_)
                        refine lv_goto (tgt := 120) hx hb dX13_suspected_243 (by decide) ?_
                        exact ih120 y45 v120_3 E120_ _ _ _ (iv_w iy45 (by decide)) (iv_w i31 (by decide)) (by first | exact ms_su hx120_0 ty45 (by decide) | omega) hI hKp hP hS (lv_sub hl [0, 4, 5, 6, 7] rfl)
                  · --140 not
                    have t46 : v137_9.toInt < v4_2.toInt := ti_nle c13
                    have i47 : 0 ≤ v137_9.toInt ∧ v137_9.toInt ≤ 19 := iv_lt_l t46 hv137_9 hv4_2 (by decide)
                    have i48 : 1 ≤ v4_2.toInt ∧ v4_2.toInt ≤ 20 := iv_lt_r t46 hv137_9 hv4_2 (by decide)
                    refine lv_iload hx hb dX13_suspected_143 (lv_at hl 0 rfl) ?_
                    refine lv_iload hx hb dX13_suspected_145 (lv_at hl 3 rfl) ?_
                    refine lv_icmp_ge (tgt := 166) hx hb dX13_suspected_147 (by decide) (fun c49 => ?_) (fun c49 => ?_)
                    · --147 taken
                      have t50 : v120_4.toInt ≤ v137_9.toInt := ti_le c49
                      have i51 : 2 ≤ v137_9.toInt ∧ v137_9.toInt ≤ 19 := iv_le_r t50 i9 i47 (by decide)
                      refine lv_lload hx hb dX13_suspected_166 (lv_at hl 1 rfl) ?_
                      refine lv_aload_n hx hb dX13_suspected_168 rfl (lv_at hl 6 rfl) ?_
                      refine th_get (ci := 14) (C := RX13) (T := TX13) (N := 97) (v := .ref (ad 70)) hx hb hts hinX13 hown hK hP hI 0 (Nat.le_of_ble_eq_true rfl) rfl rfl 94 (Nat.le_of_ble_eq_true rfl) (hts _ (vA_in _ _ (in_32 _ (zs16 (zs1 (zs0)))))) (fun _ h9 => h9) (hI.fr 0 (Nat.le_of_ble_eq_true rfl) rfl (Nat.le_of_ble_eq_true rfl) 70 rfl) dX13_suspected_169 ?_
                      refine lv_iload hx hb dX13_suspected_172 (lv_at hl 0 rfl) ?_
                      have n53 : vp_in v137_9 20 := (iv_in (n := 20) i51 (by decide))
                      refine th_iald hx hb hK hP hI 70 (Nat.le_of_ble_eq_true rfl) rfl rfl n53 dX13_suspected_174 (fun y52 ey52 => ?_)
                      refine lv_i2l hx hb dX13_suspected_175 rfl ?_
                      refine lv_topl (fun y54 ey54 => ?_)
                      refine lv_ladd hx hb dX13_suspected_176 ?_
                      refine lv_topl (fun y55 ey55 => ?_)
                      refine lv_lstore (lv' := [(7, .long y55), (9, .int v137_9), (5, .long v137_5), (4, .int v120_4), (3, .int v120_3), (2, .int v4_2), (0, .ref (ad 0)), (1, .int a0)]) hx hb dX13_suspected_177 hl (by decide) rfl (fun ls hl => ?_)
                      obtain ⟨y56, ey56⟩ : ∃ y : Int32, y = v137_9 + (1 : Int32) := ⟨_, rfl⟩
                      obtain ⟨ty56, iy56⟩ := ti_add (e := 3) (f := 20) i51 ln_1 ey56 (by decide)
                      have ty56 : y56.toInt = v137_9.toInt + 1 := ty56
                      have iy56 : 3 ≤ y56.toInt ∧ y56.toInt ≤ 20 := iy56
                      refine lv_iinc (v := y56) (lv' := [(9, .int y56), (7, .long y55), (5, .long v137_5), (4, .int v120_4), (3, .int v120_3), (2, .int v4_2), (0, .ref (ad 0)), (1, .int a0)]) hx hb dX13_suspected_179 hl (k := 1) rfl (by rw [ey56]; rfl) (by decide) rfl (fun ls hl => ?_)
                      refine lv_goto (tgt := 137) hx hb dX13_suspected_182 (by decide) ?_
                      exact ih137 y56 y55 v137_5 _ _ _ (iv_w iy56 (by decide)) (by first | exact ms_su hx137_0 ty56 (by decide) | omega) hP hS (lv_sub hl [0, 1, 2, 3, 4, 5, 6, 7] rfl)
                    · --147 not
                      have t57 : v137_9.toInt < v120_4.toInt := ti_nle c49
                      have i58 : 0 ≤ v137_9.toInt ∧ v137_9.toInt ≤ 17 := iv_lt_l t57 i47 i9 (by decide)
                      refine lv_lload hx hb dX13_suspected_150 (lv_at hl 2 rfl) ?_
                      refine lv_aload_n hx hb dX13_suspected_152 rfl (lv_at hl 6 rfl) ?_
                      refine th_get (ci := 14) (C := RX13) (T := TX13) (N := 97) (v := .ref (ad 70)) hx hb hts hinX13 hown hK hP hI 0 (Nat.le_of_ble_eq_true rfl) rfl rfl 94 (Nat.le_of_ble_eq_true rfl) (hts _ (vA_in _ _ (in_32 _ (zs16 (zs1 (zs0)))))) (fun _ h9 => h9) (hI.fr 0 (Nat.le_of_ble_eq_true rfl) rfl (Nat.le_of_ble_eq_true rfl) 70 rfl) dX13_suspected_153 ?_
                      refine lv_iload hx hb dX13_suspected_156 (lv_at hl 0 rfl) ?_
                      have n60 : vp_in v137_9 20 := (iv_in (n := 20) i58 (by decide))
                      refine th_iald hx hb hK hP hI 70 (Nat.le_of_ble_eq_true rfl) rfl rfl n60 dX13_suspected_158 (fun y59 ey59 => ?_)
                      refine lv_i2l hx hb dX13_suspected_159 rfl ?_
                      refine lv_topl (fun y61 ey61 => ?_)
                      refine lv_ladd hx hb dX13_suspected_160 ?_
                      refine lv_topl (fun y62 ey62 => ?_)
                      refine lv_lstore (lv' := [(5, .long y62), (9, .int v137_9), (7, .long v137_7), (4, .int v120_4), (3, .int v120_3), (2, .int v4_2), (0, .ref (ad 0)), (1, .int a0)]) hx hb dX13_suspected_161 hl (by decide) rfl (fun ls hl => ?_)
                      refine lv_goto (tgt := 179) hx hb dX13_suspected_163 (by decide) ?_
                      obtain ⟨y63, ey63⟩ : ∃ y : Int32, y = v137_9 + (1 : Int32) := ⟨_, rfl⟩
                      obtain ⟨ty63, iy63⟩ := ti_add (e := 1) (f := 18) i58 ln_1 ey63 (by decide)
                      have ty63 : y63.toInt = v137_9.toInt + 1 := ty63
                      have iy63 : 1 ≤ y63.toInt ∧ y63.toInt ≤ 18 := iy63
                      refine lv_iinc (v := y63) (lv' := [(9, .int y63), (5, .long y62), (7, .long v137_7), (4, .int v120_4), (3, .int v120_3), (2, .int v4_2), (0, .ref (ad 0)), (1, .int a0)]) hx hb dX13_suspected_179 hl (k := 1) rfl (by rw [ey63]; rfl) (by decide) rfl (fun ls hl => ?_)
                      refine lv_goto (tgt := 137) hx hb dX13_suspected_182 (by decide) ?_
                      exact ih137 y63 v137_7 y62 _ _ _ (iv_w iy63 (by decide)) (by first | exact ms_su hx137_0 ty63 (by decide) | omega) hP hS (lv_sub hl [0, 2, 1, 3, 4, 5, 6, 7] rfl)
              exact hL137 (21) (0 : Int32) y12 y11 _ _ _ (iv_w ln_0 (by decide)) (by have h9 := ln_0; first | exact ms_bu h9.1 (by decide) | omega) hP hS (lv_sub hl [0, 1, 2, 3, 4, 5, 6, 7] rfl)
        exact hL120 (18) (2 : Int32) (-1 : Int32) E4_ _ _ _ (iv_w ln_2 (by decide)) (iv_w ln_m1 (by decide)) (by have h9 := ln_2; first | exact ms_bu h9.1 (by decide) | omega) hI hKp hP hS (lv_sub hl [0, 1, 2, 3, 4] rfl)
      · --9 not
        have t64 : v4_3.toInt ≤ (xi (E 0) 1).toInt := ti_nlt c2
        have i65 : 0 ≤ v4_3.toInt ∧ v4_3.toInt ≤ 400 := iv_le_l t64 hv4_3 i1 (by decide)
        refine lv_iconst (v := 0) hx hb dX13_suspected_12 (by decide) ?_
        refine lv_istore (lv' := [(4, .int 0), (3, .int v4_3), (2, .int v4_2), (0, .ref (ad 0)), (1, .int a0)]) hx hb dX13_suspected_13 hl (by decide) rfl (fun ls hl => ?_)
        have hL15 : ∀ d : Nat, ∀ (v15_4 : Int32) (v15_2 : Int32) (E15_ : Nat → va_E) (H : Heap) (locs : List Loc) (ls : Array Slot), 0 ≤ v15_4.toInt ∧ v15_4.toInt ≤ 20 → 0 ≤ v15_2.toInt ∧ v15_2.toInt ≤ 20 → v15_2.toInt ≤ (cLt (xi (E 13)) v4_3.toInt (xi (E 0) 46).toNatClampNeg : Int) + (cEq (xi (E 13)) v4_3.toInt v15_4.toNatClampNeg : Int) → v15_4.toInt ≤ (xi (E 0) 46).toInt → 20 - v15_4.toInt < (d : Int) → IX cT shM spM 72 ad E15_ → Kp w_suspected E E15_ → va_P (dC, dI) vwCl (WX 72 ad E15_) H → va_S A s.heap H locs → lv_has ls 10 [(4, .int v15_4), (3, .int v4_3), (2, .int v15_2), (0, .ref (ad 0)), (1, .int a0)] → W p l e (headSpec v_suspected rm_suspected).room s m args below meth c H locs 0 0 Q (F0 m 15 ls []) := by
          intro d
          induction d with
          | zero =>
            intro v15_4 v15_2 E15_ H locs ls hv15_4 hv15_2 hx15_0 hx15_1 hx15_2 hI hKp hP hS hl
            exact absurd hx15_2 (by first | exact ms_zu hv15_4.2 | omega)
          | succ d ih15 =>
            intro v15_4 v15_2 E15_ H locs ls hv15_4 hv15_2 hx15_0 hx15_1 hx15_2 hI hKp hP hS hl
            refine lv_iload hx hb dX13_suspected_15 (lv_at hl 0 rfl) ?_
            refine lv_aload_n hx hb dX13_suspected_17 rfl (lv_at hl 3 rfl) ?_
            have i66 : 0 ≤ (xi (E 0) 46).toInt ∧ (xi (E 0) 46).toInt ≤ 20 := hI0.iv 0 (Nat.le_of_ble_eq_true rfl) rfl (Nat.le_of_ble_eq_true rfl) rfl
            refine th_get (ci := 14) (C := RX13) (T := TX13) (N := 97) (v := .int (xi (E 0) 46)) hx hb hts hinX13 hown hK hP hI 0 (Nat.le_of_ble_eq_true rfl) rfl rfl 46 (Nat.le_of_ble_eq_true rfl) (hts _ (vA_in _ _ (in_24 _ (zs16 (zs1 (zs0)))))) (fun _ h9 => h9) (th_v0 hKp hI0 0 (Nat.le_of_ble_eq_true rfl) rfl (Nat.le_of_ble_eq_true rfl) rfl rfl) dX13_suspected_18 ?_
            refine lv_icmp_ge (tgt := 109) hx hb dX13_suspected_21 (by decide) (fun c67 => ?_) (fun c67 => ?_)
            · --21 taken
              have t68 : (xi (E 0) 46).toInt ≤ v15_4.toInt := ti_le c67
              obtain ⟨y69, ey69⟩ : ∃ y : Int32, y = v4_3 + (1 : Int32) := ⟨_, rfl⟩
              obtain ⟨ty69, iy69⟩ := ti_add (e := 1) (f := 401) i65 ln_1 ey69 (by decide)
              have ty69 : y69.toInt = v4_3.toInt + 1 := ty69
              have iy69 : 1 ≤ y69.toInt ∧ y69.toInt ≤ 401 := iy69
              refine lv_iinc (v := y69) (lv' := [(3, .int y69), (4, .int v15_4), (2, .int v15_2), (0, .ref (ad 0)), (1, .int a0)]) hx hb dX13_suspected_109 hl (k := 1) rfl (by rw [ey69]; rfl) (by decide) rfl (fun ls hl => ?_)
              refine lv_goto (tgt := 4) hx hb dX13_suspected_112 (by decide) ?_
              exact ih4 y69 v15_2 E15_ _ _ _ (iv_w iy69 (by decide)) hv15_2 (by have h9 := cLt_s (xi (E 13)) v4_3.toInt (xi (E 0) 46).toNatClampNeg; rw [show v4_3.toInt + 1 = y69.toInt from by omega] at h9; have h8 : v15_4.toNatClampNeg = (xi (E 0) 46).toNatClampNeg := tn_ge (by omega) (by omega); rw [h8] at hx15_0; omega) (by first | exact ms_su hx4_1 ty69 (by decide) | omega) hI hKp hP hS (lv_sub hl [0, 2, 3, 4] rfl)
            · --21 not
              have t70 : v15_4.toInt < (xi (E 0) 46).toInt := ti_nle c67
              have i71 : 0 ≤ v15_4.toInt ∧ v15_4.toInt ≤ 19 := iv_lt_l t70 hv15_4 i66 (by decide)
              have i72 : 1 ≤ (xi (E 0) 46).toInt ∧ (xi (E 0) 46).toInt ≤ 20 := iv_lt_r t70 hv15_4 i66 (by decide)
              refine lv_aload_n hx hb dX13_suspected_24 rfl (lv_at hl 3 rfl) ?_
              refine th_get (ci := 14) (C := RX13) (T := TX13) (N := 97) (v := .ref (ad 13)) hx hb hts hinX13 hown hK hP hI 0 (Nat.le_of_ble_eq_true rfl) rfl rfl 27 (Nat.le_of_ble_eq_true rfl) (hts _ (vA_in _ _ (in_27 _ (zs16 (zs16 (zs0)))))) (fun _ h9 => h9) (hI.fr 0 (Nat.le_of_ble_eq_true rfl) rfl (Nat.le_of_ble_eq_true rfl) 13 rfl) dX13_suspected_25 ?_
              refine lv_iload hx hb dX13_suspected_28 (lv_at hl 0 rfl) ?_
              have n74 : vp_in v15_4 20 := (iv_in (n := 20) i71 (by decide))
              refine th_iald hx hb hK hP hI 13 (Nat.le_of_ble_eq_true rfl) rfl rfl n74 dX13_suspected_30 (fun y73 ey73 => ?_)
              have iy73 : 0 ≤ y73.toInt ∧ y73.toInt ≤ 400 := hI.el 13 (Nat.le_of_ble_eq_true rfl) rfl n74 (fun _ => rfl) ey73
              have ey73 := ey73.trans (hKp.ei 13 _ rfl)
              refine lv_iload_n hx hb dX13_suspected_31 rfl (lv_at hl 1 rfl) ?_
              refine lv_icmp_ne (tgt := 45) hx hb dX13_suspected_32 (by decide) (fun c75 => ?_) (fun c75 => ?_)
              · --32 taken
                have t76 : ¬ y73.toInt = v4_3.toInt := ti_ne c75
                refine lv_ldcw hx hb hown (hts _ (vA_in _ _ (in_27 _ (zs16 (zs4 (zs1 (zs0))))))) dX13_suspected_45 ?_
                refine lv_istore (lv' := [(5, .int (-1000000000)), (4, .int v15_4), (3, .int v4_3), (2, .int v15_2), (0, .ref (ad 0)), (1, .int a0)]) hx hb dX13_suspected_48 hl (by decide) rfl (fun ls hl => ?_)
                refine lv_iload hx hb dX13_suspected_50 (lv_at hl 0 rfl) ?_
                refine lv_ldcw hx hb hown (hts _ (vA_in _ _ (in_27 _ (zs16 (zs4 (zs1 (zs0))))))) dX13_suspected_52 ?_
                refine lv_icmp_ne (tgt := 61) hx hb dX13_suspected_55 (by decide) (fun c77 => ?_) (fun c77 => ?_)
                · --55 taken
                  exact absurd c77 (by decide)
                · --55 not
                  refine lv_goto (tgt := 103) hx hb dX13_suspected_58 (by decide) ?_
                  obtain ⟨y78, ey78⟩ : ∃ y : Int32, y = v15_4 + (1 : Int32) := ⟨_, rfl⟩
                  obtain ⟨ty78, iy78⟩ := ti_add (e := 1) (f := 20) i71 ln_1 ey78 (by decide)
                  have ty78 : y78.toInt = v15_4.toInt + 1 := ty78
                  have iy78 : 1 ≤ y78.toInt ∧ y78.toInt ≤ 20 := iy78
                  refine lv_iinc (v := y78) (lv' := [(4, .int y78), (5, .int (-1000000000)), (3, .int v4_3), (2, .int v15_2), (0, .ref (ad 0)), (1, .int a0)]) hx hb dX13_suspected_103 hl (k := 1) rfl (by rw [ey78]; rfl) (by decide) rfl (fun ls hl => ?_)
                  refine lv_goto (tgt := 15) hx hb dX13_suspected_106 (by decide) ?_
                  exact ih15 y78 v15_2 E15_ _ _ _ (iv_w iy78 (by decide)) hv15_2 (by have h9 := tn_s ty78 hv15_4 (by decide); rw [h9]; have h8 := cEq_le_s (xi (E 13)) v4_3.toInt v15_4.toNatClampNeg; omega) (by omega) (by first | exact ms_su hx15_2 ty78 (by decide) | omega) hI hKp hP hS (lv_sub hl [0, 2, 3, 4, 5] rfl)
              · --32 not
                have t79 : y73.toInt = v4_3.toInt := ti_eq c75
                refine lv_aload_n hx hb dX13_suspected_35 rfl (lv_at hl 3 rfl) ?_
                refine lv_iload hx hb dX13_suspected_36 (lv_at hl 0 rfl) ?_
                refine lv_iload_n hx hb dX13_suspected_38 rfl (lv_at hl 4 rfl) ?_
                refine th_i (va_runV (As := [.int v15_4, .int a0]) (rest := []) ⟨hx, hb, hml, hown, hts⟩ (q_middleOf l dC dI cT ad E15_ H.size v15_4 a0 hI i71 hh0) (cwV 2 hts (gi_V (in_31 _ (zs16 (zs4 (zs0)))) (in_31 _ (zs16 (zs4 (zs1 (zs0))))) (in_31 _ (zs16 (zs4 (zs1 (zs1 (zs0)))))) (in_24 _ (zs4 (zs4 (zs4 (zs1 (zs1 (zs1 (zs0)))))))) (in_31 _ (zs16 (zs4 (zs1 (zs1 (zs1 (zs0)))))))) rfl rfl rfl ⟨rfl, hz_yX13_middleOf_2⟩ ⟨Nat.le_of_ble_eq_true rfl, Nat.le_of_ble_eq_true rfl⟩) ⟨HW_bl, va_recv hK hP (ci := 14) (q0 := 0) rfl (hI.ob 0 (Nat.le_of_ble_eq_true rfl) rfl), (HW_wi hP hK (WX_D hD) hS hA hEV)⟩ rfl rfl hl.1 rfl (lv_room (Nat.le_of_ble_eq_true rfl)) dX13_suspected_39 ⟨Nat.le_of_ble_eq_true rfl, Nat.le_of_ble_eq_true rfl⟩) (WX_D hD) hS hA (fun r80 E81 H locs hw hP hS => ?_)
                obtain ⟨hI, kq82, hw⟩ := hw
                have hKb := hKp
                have hKp := hKp.tr kq82 (wl_sub rfl rfl)
                have f83 := hw
                have i84 : 0 ≤ (xi (E 0) 47).toInt ∧ (xi (E 0) 47).toInt ≤ 300 := (show 0 ≤ (xi (E 0) 47).toInt ∧ (xi (E 0) 47).toInt ≤ 300 from hI0.iv 0 (Nat.le_of_ble_eq_true rfl) rfl (Nat.le_of_ble_eq_true rfl) rfl)
                try rw [hKb.ei 0 47 rfl] at f83
                try rw [hKb.ef 24 (fun _ => rfl)] at f83
                try rw [hKb.ef 25 (fun _ => rfl)] at f83
                try rw [hKb.ef 28 (fun _ => rfl)] at f83
                try rw [hKb.ei 0 1 rfl] at f83
                refine lv_goto (tgt := 48) hx hb dX13_suspected_42 (by decide) ?_
                refine lv_istore (lv' := [(5, .int r80), (4, .int v15_4), (3, .int v4_3), (2, .int v15_2), (0, .ref (ad 0)), (1, .int a0)]) hx hb dX13_suspected_48 hl (by decide) rfl (fun ls hl => ?_)
                refine lv_iload hx hb dX13_suspected_50 (lv_at hl 0 rfl) ?_
                refine lv_ldcw hx hb hown (hts _ (vA_in _ _ (in_27 _ (zs16 (zs4 (zs1 (zs0))))))) dX13_suspected_52 ?_
                refine lv_icmp_ne (tgt := 61) hx hb dX13_suspected_55 (by decide) (fun c85 => ?_) (fun c85 => ?_)
                · --55 taken
                  have t86 : ¬ r80.toInt = -1000000000 := ti_ne c85
                  have q9 := cLE_le (xi (E 13)) v4_3.toInt (v15_4.toNatClampNeg + 1) (xi (E 0) 46).toNatClampNeg (by rw [tn_, tn_]; omega)
                  rw [cEq_hit (g := (xi (E 13))) (d := v4_3.toInt) (k := v15_4.toNatClampNeg) (by rw [← ey73]; exact t79)] at q9
                  have q8 : ((xi (E 0) 46).toNatClampNeg : Nat) ≤ 20 := by rw [tn_]; omega
                  have i87 : 0 ≤ v15_2.toInt ∧ v15_2.toInt ≤ 19 := by omega
                  refine lv_aload_n hx hb dX13_suspected_61 rfl (lv_at hl 4 rfl) ?_
                  refine th_get (ci := 14) (C := RX13) (T := TX13) (N := 97) (v := .ref (ad 69)) hx hb hts hinX13 hown hK hP hI 0 (Nat.le_of_ble_eq_true rfl) rfl rfl 93 (Nat.le_of_ble_eq_true rfl) (hts _ (vA_in _ _ (in_32 _ (zs16 (zs0))))) (fun _ h9 => h9) (hI.fr 0 (Nat.le_of_ble_eq_true rfl) rfl (Nat.le_of_ble_eq_true rfl) 69 rfl) dX13_suspected_62 ?_
                  refine lv_iload_n hx hb dX13_suspected_65 rfl (lv_at hl 3 rfl) ?_
                  refine lv_iload hx hb dX13_suspected_66 (lv_at hl 1 rfl) ?_
                  have n88 : vp_in v15_2 20 := (iv_in (n := 20) i87 (by decide))
                  refine th_iast hx hb hK hP (WX_D hD) hS hI 69 (Nat.le_of_ble_eq_true rfl) rfl rfl n88 (okI rfl i71) dX13_suspected_68 (fun H locs E89 pw90 hI hP hS => ?_)
                  have hKp := hKp.pw pw90 rfl
                  refine lv_aload_n hx hb dX13_suspected_69 rfl (lv_at hl 4 rfl) ?_
                  refine th_get (ci := 14) (C := RX13) (T := TX13) (N := 97) (v := .ref (ad 70)) hx hb hts hinX13 hown hK hP hI 0 (Nat.le_of_ble_eq_true rfl) rfl rfl 94 (Nat.le_of_ble_eq_true rfl) (hts _ (vA_in _ _ (in_32 _ (zs16 (zs1 (zs0)))))) (fun _ h9 => h9) (hI.fr 0 (Nat.le_of_ble_eq_true rfl) rfl (Nat.le_of_ble_eq_true rfl) 70 rfl) dX13_suspected_70 ?_
                  refine lv_iload_n hx hb dX13_suspected_73 rfl (lv_at hl 3 rfl) ?_
                  refine lv_ldc2 hx hb hown (hts _ (vA_in _ _ (in_33 _ (zs16 (zs16 (zs1 (zs0))))))) dX13_suspected_74 ?_
                  refine lv_topl (fun y91 ey91 => ?_)
                  refine lv_iload hx hb dX13_suspected_77 (lv_at hl 0 rfl) ?_
                  refine lv_i2l hx hb dX13_suspected_79 rfl ?_
                  refine lv_topl (fun y92 ey92 => ?_)
                  refine lv_lmul hx hb dX13_suspected_80 ?_
                  refine lv_topl (fun y93 ey93 => ?_)
                  refine lv_iconst (v := 1) hx hb dX13_suspected_81 (by decide) ?_
                  refine lv_aload_n hx hb dX13_suspected_82 rfl (lv_at hl 4 rfl) ?_
                  refine lv_iload hx hb dX13_suspected_83 (lv_at hl 1 rfl) ?_
                  refine lv_iload_n hx hb dX13_suspected_85 rfl (lv_at hl 5 rfl) ?_
                  refine lv_aload_n hx hb dX13_suspected_86 rfl (lv_at hl 4 rfl) ?_
                  refine th_get (ci := 14) (C := RX13) (T := TX13) (N := 97) (v := .int (xi (E 0) 1)) hx hb hts hinX13 hown hK hP hI 0 (Nat.le_of_ble_eq_true rfl) rfl rfl 1 (Nat.le_of_ble_eq_true rfl) (hts _ (vA_in _ _ (in_24 _ (zs16 (zs4 (zs4 (zs1 (zs1 (zs1 (zs0)))))))))) (fun _ h9 => h9) (th_v0 hKp hI0 0 (Nat.le_of_ble_eq_true rfl) rfl (Nat.le_of_ble_eq_true rfl) rfl rfl) dX13_suspected_87 ?_
                  refine th_i (va_runV (As := [.int v15_4, .int a0, .int (xi (E 0) 1)]) (rest := [.int 1, .long y93, .int v15_2, .ref (ad 70)]) ⟨hx, hb, hml, hown, hts⟩ (q_correctedOf l dC dI cT ad E89 H.size v15_4 a0 (xi (E 0) 1) hI i71 (by (try rw [hKp.ei 0 47 rfl]); (try rw [hKp.ef 24 (fun _ => rfl)]); (try rw [hKp.ef 25 (fun _ => rfl)]); (try rw [hKp.ef 28 (fun _ => rfl)]); exact f83 t86)) (cwV 3 hts (gi_V (in_30 _ (zs4 (zs4 (zs4 (zs0))))) (in_30 _ (zs4 (zs4 (zs4 (zs1 (zs0)))))) (in_30 _ (zs4 (zs4 (zs4 (zs1 (zs1 (zs0))))))) (in_24 _ (zs4 (zs4 (zs4 (zs1 (zs1 (zs1 (zs0)))))))) (in_30 _ (zs4 (zs4 (zs4 (zs1 (zs1 (zs1 (zs0))))))))) rfl rfl rfl ⟨rfl, hz_yX13_correctedOf_3⟩ ⟨Nat.le_of_ble_eq_true rfl, Nat.le_of_ble_eq_true rfl⟩) ⟨HW_bl, va_recv hK hP (ci := 14) (q0 := 0) rfl (hI.ob 0 (Nat.le_of_ble_eq_true rfl) rfl), (HW_wi hP hK (WX_D hD) hS hA hEV)⟩ rfl rfl hl.1 rfl (lv_room (Nat.le_of_ble_eq_true rfl)) dX13_suspected_90 ⟨Nat.le_of_ble_eq_true rfl, Nat.le_of_ble_eq_true rfl⟩) (WX_D hD) hS hA (fun r94 E95 H locs hw hP hS => ?_)
                  obtain ⟨hI, kq96, hw⟩ := hw
                  have hKb := hKp
                  have hKp := hKp.tr kq96 (wl_sub rfl rfl)
                  refine va_mmax hx hb (by rw [hml]; exact hl.1.symm) hown (hts _ (vA_in _ _ (in_25 _ (zs16 (zs4 (zs4 (zs1 (zs1 (zs1 (zs0)))))))))) (hts _ (vA_in _ _ (in_0 _ (zs16 (zs16 (zs0)))))) (hts _ (vA_in _ _ (in_0 _ (zs16 (zs16 (zs1 (zs0))))))) (hts _ (vA_in _ _ (in_0 _ (zs16 (zs16 (zs1 (zs1 (zs0)))))))) (Nat.le_of_ble_eq_true rfl) (Nat.le_of_ble_eq_true rfl) (Nat.le_of_ble_eq_true rfl) (Nat.le_of_ble_eq_true rfl) dX13_suspected_93 ?_
                  have z1 := ln_1
                  refine lv_topi (fun y97 ey97 => ?_)
                  obtain ⟨ty97, iy97⟩ := ti_max (e := 1) (f := 2147483647) ln_1 (iv_all _) ey97 (by decide)
                  have iy97 : 1 ≤ y97.toInt ∧ y97.toInt ≤ 2147483647 := iy97
                  refine lv_i2l hx hb dX13_suspected_96 rfl ?_
                  refine lv_topl (fun y98 ey98 => ?_)
                  refine lv_ldiv hx hb dX13_suspected_97 (i2l_n0 ey98 (by omega)) ?_
                  refine lv_topl (fun y99 ey99 => ?_)
                  refine lv_l2i hx hb dX13_suspected_98 rfl ?_
                  refine lv_topi (fun y100 ey100 => ?_)
                  have n101 : vp_in v15_2 20 := (iv_in (n := 20) i87 (by decide))
                  refine th_iast hx hb hK hP (WX_D hD) hS hI 70 (Nat.le_of_ble_eq_true rfl) rfl rfl n101 (okI rfl (iv_all _)) dX13_suspected_99 (fun H locs E102 pw103 hI hP hS => ?_)
                  have hKp := hKp.pw pw103 rfl
                  obtain ⟨y104, ey104⟩ : ∃ y : Int32, y = v15_2 + (1 : Int32) := ⟨_, rfl⟩
                  obtain ⟨ty104, iy104⟩ := ti_add (e := 1) (f := 20) i87 ln_1 ey104 (by decide)
                  have ty104 : y104.toInt = v15_2.toInt + 1 := ty104
                  have iy104 : 1 ≤ y104.toInt ∧ y104.toInt ≤ 20 := iy104
                  refine lv_iinc (v := y104) (lv' := [(2, .int y104), (5, .int r80), (4, .int v15_4), (3, .int v4_3), (0, .ref (ad 0)), (1, .int a0)]) hx hb dX13_suspected_100 hl (k := 3) rfl (by rw [ey104]; rfl) (by decide) rfl (fun ls hl => ?_)
                  obtain ⟨y105, ey105⟩ : ∃ y : Int32, y = v15_4 + (1 : Int32) := ⟨_, rfl⟩
                  obtain ⟨ty105, iy105⟩ := ti_add (e := 1) (f := 20) i71 ln_1 ey105 (by decide)
                  have ty105 : y105.toInt = v15_4.toInt + 1 := ty105
                  have iy105 : 1 ≤ y105.toInt ∧ y105.toInt ≤ 20 := iy105
                  refine lv_iinc (v := y105) (lv' := [(4, .int y105), (2, .int y104), (5, .int r80), (3, .int v4_3), (0, .ref (ad 0)), (1, .int a0)]) hx hb dX13_suspected_103 hl (k := 2) rfl (by rw [ey105]; rfl) (by decide) rfl (fun ls hl => ?_)
                  refine lv_goto (tgt := 15) hx hb dX13_suspected_106 (by decide) ?_
                  exact ih15 y105 y104 E102 _ _ _ (iv_w iy105 (by decide)) (iv_w iy104 (by decide)) (by have h9 := tn_s ty105 hv15_4 (by decide); rw [h9]; rw [cEq_hit (g := (xi (E 13))) (d := v4_3.toInt) (k := v15_4.toNatClampNeg) (by rw [← ey73]; exact t79)]; omega) (by omega) (by first | exact ms_su hx15_2 ty105 (by decide) | omega) hI hKp hP hS (lv_sub hl [0, 3, 1, 4, 5] rfl)
                · --55 not
                  have t106 : r80.toInt = -1000000000 := ti_eq c85
                  have i107 : -1000000000 ≤ r80.toInt ∧ r80.toInt ≤ -1000000000 := iv_eqi t106 (iv_all _) (il_ (-1000000000)) (by decide)
                  refine lv_goto (tgt := 103) hx hb dX13_suspected_58 (by decide) ?_
                  obtain ⟨y108, ey108⟩ : ∃ y : Int32, y = v15_4 + (1 : Int32) := ⟨_, rfl⟩
                  obtain ⟨ty108, iy108⟩ := ti_add (e := 1) (f := 20) i71 ln_1 ey108 (by decide)
                  have ty108 : y108.toInt = v15_4.toInt + 1 := ty108
                  have iy108 : 1 ≤ y108.toInt ∧ y108.toInt ≤ 20 := iy108
                  refine lv_iinc (v := y108) (lv' := [(4, .int y108), (5, .int r80), (3, .int v4_3), (2, .int v15_2), (0, .ref (ad 0)), (1, .int a0)]) hx hb dX13_suspected_103 hl (k := 1) rfl (by rw [ey108]; rfl) (by decide) rfl (fun ls hl => ?_)
                  refine lv_goto (tgt := 15) hx hb dX13_suspected_106 (by decide) ?_
                  exact ih15 y108 v15_2 E81 _ _ _ (iv_w iy108 (by decide)) hv15_2 (by have h9 := tn_s ty108 hv15_4 (by decide); rw [h9]; have h8 := cEq_le_s (xi (E 13)) v4_3.toInt v15_4.toNatClampNeg; omega) (by omega) (by first | exact ms_su hx15_2 ty108 (by decide) | omega) hI hKp hP hS (lv_sub hl [0, 2, 3, 4, 5] rfl)
        exact hL15 (21) (0 : Int32) v4_2 E4_ _ _ _ (iv_w ln_0 (by decide)) hv4_2 (by show _ ≤ _ + ((0 : Nat) : Int); omega) (by have h9 := (show 0 ≤ (xi (E 0) 46).toInt ∧ (xi (E 0) 46).toInt ≤ 20 from hI0.iv 0 (Nat.le_of_ble_eq_true rfl) rfl (Nat.le_of_ble_eq_true rfl) rfl); have h8 := ln_0; omega) (by have h9 := ln_0; first | exact ms_bu h9.1 (by decide) | omega) hI hKp hP hS (lv_sub hl [0, 1, 2, 3, 4] rfl)
  exact hL4 (402) (0 : Int32) (0 : Int32) E _ _ _ (iv_w ln_0 (by decide)) (iv_w ln_0 (by decide)) (by have h9 := ln_0; omega) (by have h9 := ln_0; first | exact ms_bu h9.1 (by decide) | omega) hI hKp hP hS (lv_sub hl [0, 1, 2, 3] rfl)
def v_suspect : List Cond := .code yX13_suspect cX13_suspect 4 (some .int) :: vA
abbrev rm_suspect : Room := { frames := 75, cells := 0, slots := 0, locals := 3000 }
def w_suspect : Nat → Nat → Bool := wl [12, 66, 69, 70] [(0, 0), (0, 18), (0, 19), (0, 20), (0, 21), (0, 22), (0, 23), (0, 24), (0, 25), (0, 26), (0, 95)]
set_option maxHeartbeats 4000000 in
set_option maxRecDepth 100000 in
theorem q_suspect (l : Launch) (dC : Nat → ClassId) (dI : Nat → Nat → Nat) (cT : Nat → ClassId) (ad : Nat → Nat) (E : Nat → va_E) (sz : Nat) (a0 : Int32) (a1 : Int32) (hI0 : IX cT shM spM 72 ad E)  : Met l yX13_suspect v_suspect rm_suspect (va_Pc [.ref (ad 0), .int a0, .int a1] (HW dC dI (TYM cT) 72 ad E sz)) (va_Qi (S := Nat → va_E) (fun r u => IX cT shM spM 72 ad u ∧ Kp w_suspect E u ∧ (True)) (HB dC dI 72 ad) (va_A (WX 72 ad E) sz)) 0 0 (va_A (WX 72 ad E) sz) := by
  refine Met.ofW (cc := cX13_suspect) (maxL := 4) (ret := (some .int)) (by decide) rfl ?_
  intro p e s m args below meth c s₁ B hml hv
  obtain ⟨hargs, hsz, hP, hK, hD0, hEV⟩ := hv
  subst hsz
  have hx := B.exec
  have hb := B.bytes
  have hr := B.returns
  have hts := atoms_spec (ws := v_suspect) B.pre
  have hown : s.vm.findClass RX13 = some m.cls := findClass_of_methodNamed B.named
  have hlocks := B.notSynchronized
  have hinX13 : ∀ w ∈ u_ws RX13 TX13 97, w ∈ v_suspect := fun w h => vA_in _ w (in_X13 w h)
  generalize hAe : va_A (WX 72 ad E) s.heap.size = A at hEV ⊢
  have hA : ∀ q : Nat, s.heap.size ≤ q → A q := fun q h => by rw [← hAe]; exact Or.inr h
  have hD : va_D A (WX 72 ad E) := by rw [← hAe]; exact hD0.self
  have hS : va_S A s.heap s.heap [] := va_S.rf
  have hI := hI0
  have hKp : Kp w_suspect E E := Kp.rf
  have hl := lv_entry ([.ref (ad 0), .int a0, .int a1]) (n := 4) (Nat.le_of_ble_eq_true rfl)
  obtain ⟨Q, hQ⟩ : ∃ Q, Q = MQ below (va_Qi (S := Nat → va_E) (fun r u => IX cT shM spM 72 ad u ∧ Kp w_suspect E u ∧ (True)) (HB dC dI 72 ad) (A)) args s 0 0 (A) := ⟨_, rfl⟩
  rw [← hQ, show entryFrame m args 4 = _ from (congrArg (fun z => entryFrame m z 4) hargs).trans (lg_entry_eq _ _ _)]
  generalize (lg_sl ([.ref (ad 0), .int a0, .int a1]) ++ List.replicate (4 - (lg_sl ([.ref (ad 0), .int a0, .int a1])).length) Slot.unset).toArray = ls at hl ⊢
  have hl : lv_has ls 4 [(0, .ref (ad 0)), (1, .int a0), (2, .int a1)] := hl
  refine lv_aload_n hx hb dX13_suspect_0 rfl (lv_at hl 0 rfl) ?_
  refine lv_iconst (v := 0) hx hb dX13_suspect_1 (by decide) ?_
  refine th_put (ci := 14) (C := RX13) (T := TX13) (N := 97) (v := .int 0) (ty := .int) hx hb hts hinX13 tyX13 tyX13_ok nmX13 hown hK hP (WX_D hD) hS hI 0 (Nat.le_of_ble_eq_true rfl) rfl rfl 0 (Nat.le_of_ble_eq_true rfl) (hts _ (vA_in _ _ (in_24 _ (zs4 (zs4 (zs1 (zs1 (zs0)))))))) (fun _ h9 => h9) rfl (by decide +kernel) rfl rfl (okI rfl (iv_w ln_0 (by decide))) dX13_suspect_2 (fun H locs E1 pw2 hI hP hS => ?_)
  have hKp := hKp.pw pw2 rfl
  refine lv_aload_n hx hb dX13_suspect_5 rfl (lv_at hl 0 rfl) ?_
  refine lv_iload_n hx hb dX13_suspect_6 rfl (lv_at hl 1 rfl) ?_
  refine th_ri (va_runV (As := [.int a0]) (rest := []) ⟨hx, hb, hml, hown, hts⟩ (q_isBoat l dC dI cT ad E1 H.size a0 hI) (cwV 1 hts (gi_V (in_24 _ (zs16 (zs1 (zs1 (zs0))))) (in_24 _ (zs16 (zs1 (zs1 (zs1 (zs0)))))) (in_24 _ (zs16 (zs4 (zs0)))) (in_24 _ (zs4 (zs4 (zs4 (zs1 (zs1 (zs1 (zs0)))))))) (in_24 _ (zs16 (zs4 (zs1 (zs0)))))) rfl rfl rfl ⟨rfl, hz_yX13_isBoat_1⟩ ⟨Nat.le_of_ble_eq_true rfl, Nat.le_of_ble_eq_true rfl⟩) ⟨HW_bl, va_recv hK hP (ci := 14) (q0 := 0) rfl (hI.ob 0 (Nat.le_of_ble_eq_true rfl) rfl), (HW_wi hP hK (WX_D hD) hS hA hEV)⟩ rfl rfl hl.1 rfl (lv_room (Nat.le_of_ble_eq_true rfl)) dX13_suspect_7 ⟨Nat.le_of_ble_eq_true rfl, Nat.le_of_ble_eq_true rfl⟩) hS hP (fun r3 H locs hw hP hS => ?_)
  rcases hw with hw | hw
  · -- isBoat, case 0
    obtain ⟨rfl, f4, f5⟩ := hw
    have i6 : 0 ≤ (xi (E 0) 8).toInt ∧ (xi (E 0) 8).toInt ≤ 16 := (show 0 ≤ (xi (E 0) 8).toInt ∧ (xi (E 0) 8).toInt ≤ 16 from hI0.iv 0 (Nat.le_of_ble_eq_true rfl) rfl (Nat.le_of_ble_eq_true rfl) rfl)
    try rw [hKp.ei 0 8 rfl] at f4
    refine lv_if_eq (tgt := 22) hx hb dX13_suspect_10 (by decide) (fun c7 => ?_) (fun c7 => ?_)
    · --10 taken
      exact absurd c7 (by decide)
    · --10 not
      refine lv_iload_n hx hb dX13_suspect_13 rfl (lv_at hl 2 rfl) ?_
      refine lv_iconst (v := 0) hx hb dX13_suspect_14 (by decide) ?_
      refine lv_iconst (v := 1) hx hb dX13_suspect_15 (by decide) ?_
      refine th_pi (va_runS (As := [.int a1, .int 0, .int 1]) (rest := []) ⟨hx, hb, hml, hown, hts⟩ (q_isIn l a1 (0 : Int32) (1 : Int32)) (va_cwS 3 hts (gi_S (in_24 _ (zs16 (zs4 (zs4 (zs4 (zs0)))))) (in_24 _ (zs16 (zs4 (zs4 (zs4 (zs1 (zs0))))))) (in_24 _ (zs4 (zs4 (zs4 (zs1 (zs1 (zs1 (zs0)))))))) (in_24 _ (zs16 (zs4 (zs4 (zs4 (zs1 (zs1 (zs0))))))))) rfl rfl rfl hz_yX13_isIn_3 ⟨Nat.le_of_ble_eq_true rfl, Nat.le_of_ble_eq_true rfl⟩) ⟨fun _ _ _ _ q => q, fun _ _ _ => ⟨rfl, trivial⟩⟩ rfl rfl hl.1 rfl (lv_room (Nat.le_of_ble_eq_true rfl)) dX13_suspect_16 ⟨Nat.le_of_ble_eq_true rfl, Nat.le_of_ble_eq_true rfl⟩) hS (fun r8 H1 locs1 hw hk1 hS => ?_)
      have hP := ub_keep hP hk1
      generalize H1 = H at hP hS ⊢
      generalize locs1 = locs at hS ⊢
      rcases hw with hw | hw
      · -- isIn, case 0
        obtain ⟨rfl, f9⟩ := hw
        have t10 : (0 : Int) ≤ a1.toInt := f9.1
        have t11 : a1.toInt ≤ 1 := f9.2
        have i12 : 0 ≤ a1.toInt ∧ a1.toInt ≤ 2147483647 := iv_le_r t10 (il_ 0) (iv_all _) (by decide)
        have i13 : 0 ≤ a1.toInt ∧ a1.toInt ≤ 1 := iv_le_l t11 i12 (il_ 1) (by decide)
        refine lv_if_ne (tgt := 26) hx hb dX13_suspect_19 (by decide) (fun c14 => ?_) (fun c14 => ?_)
        · --19 taken
          refine lv_aload_n hx hb dX13_suspect_26 rfl (lv_at hl 0 rfl) ?_
          refine lv_iload_n hx hb dX13_suspect_27 rfl (lv_at hl 1 rfl) ?_
          refine th_i (va_runV (As := [.int a0]) (rest := []) ⟨hx, hb, hml, hown, hts⟩ (q_suspected l dC dI cT ad E1 H.size a0 hI f5) (cwV 1 hts (gi_V (in_33 _ (zs16 (zs4 (zs4 (zs4 (zs1 (zs0))))))) (in_33 _ (zs16 (zs4 (zs4 (zs4 (zs1 (zs1 (zs0)))))))) (in_33 _ (zs16 (zs4 (zs4 (zs4 (zs1 (zs1 (zs1 (zs0))))))))) (in_24 _ (zs4 (zs4 (zs4 (zs1 (zs1 (zs1 (zs0)))))))) (in_33 _ (zs16 (zs16 (zs0))))) rfl rfl rfl ⟨rfl, hz_yX13_suspected_1⟩ ⟨Nat.le_of_ble_eq_true rfl, Nat.le_of_ble_eq_true rfl⟩) ⟨HW_bl, va_recv hK hP (ci := 14) (q0 := 0) rfl (hI.ob 0 (Nat.le_of_ble_eq_true rfl) rfl), (HW_wi hP hK (WX_D hD) hS hA hEV)⟩ rfl rfl hl.1 rfl (lv_room (Nat.le_of_ble_eq_true rfl)) dX13_suspect_28 ⟨Nat.le_of_ble_eq_true rfl, Nat.le_of_ble_eq_true rfl⟩) (WX_D hD) hS hA (fun r15 E16 H locs hw hP hS => ?_)
          obtain ⟨hI, kq17, hw⟩ := hw
          have hKb := hKp
          have hKp := hKp.tr kq17 (wl_sub rfl rfl)
          have f18 := hw
          refine lv_istore_n (lv' := [(3, .int r15), (0, .ref (ad 0)), (1, .int a0), (2, .int a1)]) hx hb dX13_suspect_31 rfl hl (by decide) rfl (fun ls hl => ?_)
          refine lv_iload_n hx hb dX13_suspect_32 rfl (lv_at hl 0 rfl) ?_
          refine lv_iconst (v := -1) hx hb dX13_suspect_33 (by decide) ?_
          refine lv_icmp_ne (tgt := 43) hx hb dX13_suspect_34 (by decide) (fun c19 => ?_) (fun c19 => ?_)
          · --34 taken
            have t20 : ¬ r15.toInt = -1 := ti_ne c19
            have i21 : 0 ≤ r15.toInt ∧ r15.toInt ≤ 19 := iv_ne_l t20 f18 (il_ (-1))
            refine lv_iload_n hx hb dX13_suspect_43 rfl (lv_at hl 3 rfl) ?_
            refine lv_if_ne (tgt := 51) hx hb dX13_suspect_44 (by decide) (fun c22 => ?_) (fun c22 => ?_)
            · --44 taken
              have t23 : ¬ a1.toInt = 0 := ti_ne c22
              have i24 : 1 ≤ a1.toInt ∧ a1.toInt ≤ 1 := iv_ne_l t23 i13 (il_ 0)
              refine lv_aload_n hx hb dX13_suspect_51 rfl (lv_at hl 1 rfl) ?_
              obtain ⟨y25, ey25⟩ : ∃ y, xi (E16 0) 95 = y := ⟨_, rfl⟩
              have fy25 : xv (E16 0) 95 = .int y25 := (hI.fi 0 (Nat.le_of_ble_eq_true rfl) rfl (Nat.le_of_ble_eq_true rfl) rfl).trans (congrArg Value.int ey25)
              refine th_get (ci := 14) (C := RX13) (T := TX13) (N := 97) (v := .int y25) hx hb hts hinX13 hown hK hP hI 0 (Nat.le_of_ble_eq_true rfl) rfl rfl 95 (Nat.le_of_ble_eq_true rfl) (hts _ (vA_in _ _ (in_33 _ (zs16 (zs4 (zs4 (zs4 (zs0)))))))) (fun _ h9 => h9) fy25 dX13_suspect_52 ?_
              rw [hQ]
              exact W.iret (v := y25) hx hb hr (fun t ht hW => ⟨⟨y25, E16, rfl, ⟨hI, hKp, trivial⟩, by show va_P (dC, dI) vwCl (WX 72 ad E16) t.heap; rw [ht]; exact hP⟩, hS.F ht⟩) hS.2.2 dX13_suspect_55
            · --44 not
              have t26 : a1.toInt = 0 := ti_eq c22
              have i27 : 0 ≤ a1.toInt ∧ a1.toInt ≤ 0 := iv_eqi t26 i13 (il_ 0) (by decide)
              refine lv_iload_n hx hb dX13_suspect_47 rfl (lv_at hl 0 rfl) ?_
              refine lv_goto (tgt := 55) hx hb dX13_suspect_48 (by decide) ?_
              rw [hQ]
              exact W.iret (v := r15) hx hb hr (fun t ht hW => ⟨⟨r15, E16, rfl, ⟨hI, hKp, trivial⟩, by show va_P (dC, dI) vwCl (WX 72 ad E16) t.heap; rw [ht]; exact hP⟩, hS.F ht⟩) hS.2.2 dX13_suspect_55
          · --34 not
            have t28 : r15.toInt = -1 := ti_eq c19
            have i29 : -1 ≤ r15.toInt ∧ r15.toInt ≤ -1 := iv_eqi t28 f18 (il_ (-1)) (by decide)
            refine lv_ldcw hx hb hown (hts _ (vA_in _ _ (in_27 _ (zs16 (zs4 (zs1 (zs0))))))) dX13_suspect_37 ?_
            refine lv_goto (tgt := 55) hx hb dX13_suspect_40 (by decide) ?_
            rw [hQ]
            exact W.iret (v := (-1000000000)) hx hb hr (fun t ht hW => ⟨⟨(-1000000000), E16, rfl, ⟨hI, hKp, trivial⟩, by show va_P (dC, dI) vwCl (WX 72 ad E16) t.heap; rw [ht]; exact hP⟩, hS.F ht⟩) hS.2.2 dX13_suspect_55
        · --19 not
          exact absurd c14 (by decide)
      · -- isIn, case 1
        obtain ⟨rfl, f30⟩ := hw
        have t31 : ¬ ((0 : Int) ≤ a1.toInt ∧ a1.toInt ≤ 1) := f30
        refine lv_if_ne (tgt := 26) hx hb dX13_suspect_19 (by decide) (fun c32 => ?_) (fun c32 => ?_)
        · --19 taken
          exact absurd c32 (by decide)
        · --19 not
          refine lv_ldcw hx hb hown (hts _ (vA_in _ _ (in_27 _ (zs16 (zs4 (zs1 (zs0))))))) dX13_suspect_22 ?_
          rw [hQ]
          exact W.iret (v := (-1000000000)) hx hb hr (fun t ht hW => ⟨⟨(-1000000000), E1, rfl, ⟨hI, hKp, trivial⟩, by show va_P (dC, dI) vwCl (WX 72 ad E1) t.heap; rw [ht]; exact hP⟩, hS.F ht⟩) hS.2.2 dX13_suspect_25
  · -- isBoat, case 1
    obtain ⟨rfl, f33⟩ := hw
    have i34 : 0 ≤ (xi (E 0) 8).toInt ∧ (xi (E 0) 8).toInt ≤ 16 := (show 0 ≤ (xi (E 0) 8).toInt ∧ (xi (E 0) 8).toInt ≤ 16 from hI0.iv 0 (Nat.le_of_ble_eq_true rfl) rfl (Nat.le_of_ble_eq_true rfl) rfl)
    try rw [hKp.ei 0 8 rfl] at f33
    refine lv_if_eq (tgt := 22) hx hb dX13_suspect_10 (by decide) (fun c35 => ?_) (fun c35 => ?_)
    · --10 taken
      refine lv_ldcw hx hb hown (hts _ (vA_in _ _ (in_27 _ (zs16 (zs4 (zs1 (zs0))))))) dX13_suspect_22 ?_
      rw [hQ]
      exact W.iret (v := (-1000000000)) hx hb hr (fun t ht hW => ⟨⟨(-1000000000), E1, rfl, ⟨hI, hKp, trivial⟩, by show va_P (dC, dI) vwCl (WX 72 ad E1) t.heap; rw [ht]; exact hP⟩, hS.F ht⟩) hS.2.2 dX13_suspect_25
    · --10 not
      exact absurd c35 (by decide)
section
theorem Pw.ef {E E' : Nat → va_E} {o j : Nat} {v : Value} (p : Pw E E' o j v) (c : Nat) (h : c ≠ o) : xi (E' c) = xi (E c) := funext (fun k => p.ei c k (fun q => h q.1))
theorem Pw.eu {E E' : Nat → va_E} {o j : Nat} {x : Int32} (p : Pw E E' o j (.int x)) : xi (E' o) = upd (xi (E o)) j x := funext (fun k => by
  by_cases h : k = j
  · subst h
    rw [pk_us]
    exact p.es
  · rw [pk_un h]
    exact p.ei o k (fun q => h q.2))
/-! ===== counts over rows ===== -/
theorem upd0 {g : Nat → Int32} {k j : Nat} (h : j = k ∨ g j = 0) : upd g k 0 j = 0 := by
  by_cases e : j = k
  · subst e
    exact pk_us
  · rw [pk_un e]
    exact h.resolve_left e
def thr (g : Nat → Int32) (b : Nat) : Nat → Nat
  | 0 => 0
  | n + 1 => thr g b n + (if g (16 * n + b) = 0 then 0 else 1)
theorem thr_0 {g : Nat → Int32} {b : Nat} : ∀ n, (∀ r, r < n → g (16 * r + b) = 0) → thr g b n = 0 := by
  intro n
  induction n with
  | zero => intro _; rfl
  | succ n ih =>
    intro h
    simp only [thr, ih (fun r hr => h r (by omega)), if_pos (h n (by omega))]
theorem thr_all {g : Nat → Int32} {b : Nat} : ∀ n, (∀ r, r < n → ¬ g (16 * r + b) = 0) → thr g b n = n := by
  intro n
  induction n with
  | zero => intro _; rfl
  | succ n ih =>
    intro h
    simp only [thr, ih (fun r hr => h r (by omega)), if_neg (h n (by omega))]
theorem thr_same {g : Nat → Int32} {b k : Nat} {x : Int32} : ∀ n, (∀ r, r < n → ¬ 16 * r + b = k) → thr (upd g k x) b n = thr g b n := by
  intro n
  induction n with
  | zero => intro _; rfl
  | succ n ih =>
    intro h
    simp only [thr, ih (fun r hr => h r (by omega)), pk_un (h n (by omega))]
theorem thr_upd {g : Nat → Int32} {b k : Nat} {x : Int32} : ∀ n, thr (upd g k x) b n ≤ thr g b n + 1 := by
  intro n
  induction n with
  | zero => exact Nat.zero_le _
  | succ n ih =>
    by_cases e : 16 * n + b = k
    · have h := thr_same (g := g) (b := b) (k := k) (x := x) n (fun r hr q => by omega)
      simp only [thr, h]
      split <;> split <;> omega
    · simp only [thr, pk_un e]
      omega
/-- the sum of the first ones, and how many of them are above 0 -/
def sumI (g : Nat → Int32) : Nat → Int
  | 0 => 0
  | n + 1 => sumI g n + (g n).toInt
def posI (g : Nat → Int32) : Nat → Nat
  | 0 => 0
  | n + 1 => posI g n + (if 0 < (g n).toInt then 1 else 0)
theorem sumI_pos {g : Nat → Int32} : ∀ n, (∀ j, j < n → 0 ≤ (g j).toInt) → (posI g n : Int) ≤ sumI g n := by
  intro n
  induction n with
  | zero => intro _; exact Int.le_refl 0
  | succ n ih =>
    intro h
    have h1 := ih (fun j hj => h j (by omega))
    have h2 := h n (by omega)
    simp only [sumI, posI]
    split <;> omega
theorem sumI_out {g : Nat → Int32} {k : Nat} {x : Int32} : ∀ n, n ≤ k → sumI (upd g k x) n = sumI g n ∧ posI (upd g k x) n = posI g n := by
  intro n
  induction n with
  | zero => intro _; exact ⟨rfl, rfl⟩
  | succ n ih =>
    intro h
    have h1 := ih (by omega)
    simp only [sumI, posI, h1.1, h1.2, pk_un (show n ≠ k by omega)]
    exact ⟨trivial, trivial⟩
theorem sumI_upd {g : Nat → Int32} {k : Nat} {x : Int32} : ∀ n, k < n → sumI (upd g k x) n = sumI g n - (g k).toInt + x.toInt ∧ (posI (upd g k x) n : Int) = posI g n - (if 0 < (g k).toInt then 1 else 0) + (if 0 < x.toInt then 1 else 0) := by
  intro n
  induction n with
  | zero => intro h; omega
  | succ n ih =>
    intro h
    by_cases e : k = n
    · subst e
      have h1 := sumI_out (g := g) (k := k) (x := x) k (Nat.le_refl _)
      simp only [sumI, posI, h1.1, h1.2, pk_us]
      constructor
      · omega
      · split <;> split <;> omega
    · have h1 := ih (by omega)
      have e2 : n ≠ k := fun q => e q.symm
      simp only [sumI, posI, h1.1, pk_un e2]
      have h2 := h1.2
      constructor
      · omega
      · split <;> omega
end

