set_option maxRecDepth 100000 in
theorem zh_dX13_score_0_0 : zc cX13_score 0 [42, 3, 181, 0, 228, 42, 27, 182, 0, 252, 154, 0, 5, 3, 172, 42] = true := by decide +kernel
set_option maxRecDepth 100000 in
theorem zh_dX13_score_16_16 : zc cX13_score 16 [3, 181, 1, 191, 42, 180, 1, 191, 42, 180, 1, 134, 162, 0, 29, 42] = true := by decide +kernel
set_option maxRecDepth 100000 in
theorem zh_dX13_score_32_32 : zc cX13_score 32 [180, 0, 71, 42, 180, 1, 191, 46, 27, 163, 0, 16, 42, 89, 180, 1] = true := by decide +kernel
set_option maxRecDepth 100000 in
theorem zh_dX13_score_46_48 : zc cX13_score 48 [191, 4, 96, 181, 1, 191, 167, 255, 222, 3, 61, 28, 42, 180, 0, 239] = true := by decide +kernel
set_option maxRecDepth 100000 in
theorem zh_dX13_score_64_64 : zc cX13_score 64 [162, 0, 92, 42, 180, 0, 123, 28, 3, 84, 3, 62, 29, 42, 180, 1] = true := by decide +kernel
set_option maxRecDepth 100000 in
theorem zh_dX13_score_78_80 : zc cX13_score 80 [191, 162, 0, 69, 42, 180, 0, 107, 16, 16, 29, 104, 28, 96, 42, 29] = true := by decide +kernel
set_option maxRecDepth 100000 in
theorem zh_dX13_score_96_96 : zc cX13_score 96 [28, 27, 182, 1, 188, 79, 42, 180, 0, 119, 16, 16, 29, 104, 28, 96] = true := by decide +kernel
set_option maxRecDepth 100000 in
theorem zh_dX13_score_112_112 : zc cX13_score 112 [3, 84, 42, 180, 0, 123, 28, 42, 180, 0, 123, 28, 51, 154, 0, 13] = true := by decide +kernel
set_option maxRecDepth 100000 in
theorem zh_dX13_score_128_128 : zc cX13_score 128 [42, 29, 28, 27, 182, 1, 140, 153, 0, 7, 4, 167, 0, 4, 3, 84] = true := by decide +kernel
set_option maxRecDepth 100000 in
theorem zh_dX13_score_144_144 : zc cX13_score 144 [132, 3, 1, 167, 255, 185, 132, 2, 1, 167, 255, 162, 42, 182, 1, 121] = true := by decide +kernel
set_option maxRecDepth 100000 in
theorem zh_dX13_score_160_160 : zc cX13_score 160 [42, 180, 0, 44, 16, 99, 42, 180, 1, 191, 79, 3, 42, 180, 1, 191] = true := by decide +kernel
set_option maxRecDepth 100000 in
theorem zh_dX13_score_176_176 : zc cX13_score 176 [4, 100, 42, 16, 116, 27, 27, 182, 1, 124, 184, 1, 127, 184, 1, 129] = true := by decide +kernel
set_option maxRecDepth 100000 in
theorem zh_dX13_score_192_192 : zc cX13_score 192 [61, 3, 62, 29, 42, 180, 0, 239, 162, 0, 175, 3, 54, 4, 21, 4] = true := by decide +kernel
set_option maxRecDepth 100000 in
theorem zh_dX13_score_208_208 : zc cX13_score 208 [28, 162, 0, 95, 2, 54, 5, 3, 54, 6, 21, 6, 42, 180, 1, 191] = true := by decide +kernel
set_option maxRecDepth 100000 in
theorem zh_dX13_score_224_224 : zc cX13_score 224 [162, 0, 61, 42, 180, 0, 119, 16, 16, 21, 6, 104, 29, 96, 51, 154] = true := by decide +kernel
set_option maxRecDepth 100000 in
theorem zh_dX13_score_239_240 : zc cX13_score 240 [0, 40, 21, 5, 2, 159, 0, 30, 42, 180, 0, 107, 16, 16, 21, 6] = true := by decide +kernel
set_option maxRecDepth 100000 in
theorem zh_dX13_score_256_256 : zc cX13_score 256 [104, 29, 96, 46, 42, 180, 0, 107, 16, 16, 21, 5, 104, 29, 96, 46] = true := by decide +kernel
set_option maxRecDepth 100000 in
theorem zh_dX13_score_272_272 : zc cX13_score 272 [161, 0, 7, 21, 6, 54, 5, 132, 6, 1, 167, 255, 192, 42, 180, 0] = true := by decide +kernel
set_option maxRecDepth 100000 in
theorem zh_dX13_score_286_288 : zc cX13_score 288 [119, 16, 16, 21, 5, 104, 29, 96, 4, 84, 132, 4, 1, 167, 255, 161] = true := by decide +kernel
set_option maxRecDepth 100000 in
theorem zh_dX13_score_304_304 : zc cX13_score 304 [42, 180, 0, 110, 29, 3, 79, 3, 54, 4, 21, 4, 42, 180, 1, 191] = true := by decide +kernel
set_option maxRecDepth 100000 in
theorem zh_dX13_score_320_320 : zc cX13_score 320 [162, 0, 49, 42, 180, 0, 110, 29, 92, 46, 42, 180, 0, 119, 16, 16] = true := by decide +kernel
set_option maxRecDepth 100000 in
theorem zh_dX13_score_336_336 : zc cX13_score 336 [21, 4, 104, 29, 96, 51, 153, 0, 7, 3, 167, 0, 15, 42, 180, 0] = true := by decide +kernel
set_option maxRecDepth 100000 in
theorem zh_dX13_score_350_352 : zc cX13_score 352 [107, 16, 16, 21, 4, 104, 29, 96, 46, 96, 79, 132, 4, 1, 167, 255] = true := by decide +kernel
set_option maxRecDepth 100000 in
theorem zh_dX13_score_366_368 : zc cX13_score 368 [204, 132, 3, 1, 167, 255, 79, 4, 172] = true := by decide +kernel
theorem dX13_score_0 : decode cX13_score 0 = .ok (.aload_n 0, 1) := zo_42 (zi_at zh_dX13_score_0_0 0 rfl)
theorem dX13_score_1 : decode cX13_score 1 = .ok (.iconst 0, 1) := zo_3 (zi_at zh_dX13_score_0_0 1 rfl)
theorem dX13_score_2 : decode cX13_score 2 = .ok (.putfield 228, 3) := zo_181 (zi_at zh_dX13_score_0_0 2 rfl) (zi_at zh_dX13_score_0_0 3 rfl) (zi_at zh_dX13_score_0_0 4 rfl) rfl
theorem dX13_score_5 : decode cX13_score 5 = .ok (.aload_n 0, 1) := zo_42 (zi_at zh_dX13_score_0_0 5 rfl)
theorem dX13_score_6 : decode cX13_score 6 = .ok (.iload_n 1, 1) := zo_27 (zi_at zh_dX13_score_0_0 6 rfl)
theorem dX13_score_7 : decode cX13_score 7 = .ok (.invokevirtual 252, 3) := zo_182 (zi_at zh_dX13_score_0_0 7 rfl) (zi_at zh_dX13_score_0_0 8 rfl) (zi_at zh_dX13_score_0_0 9 rfl) rfl
theorem dX13_score_10 : decode cX13_score 10 = .ok (.ifCond .ne 5, 3) := zo_154 (zi_at zh_dX13_score_0_0 10 rfl) (zi_at zh_dX13_score_0_0 11 rfl) (zi_at zh_dX13_score_0_0 12 rfl) rfl
theorem dX13_score_13 : decode cX13_score 13 = .ok (.iconst 0, 1) := zo_3 (zi_at zh_dX13_score_0_0 13 rfl)
theorem dX13_score_14 : decode cX13_score 14 = .ok (.ireturn, 1) := zo_172 (zi_at zh_dX13_score_0_0 14 rfl)
theorem dX13_score_15 : decode cX13_score 15 = .ok (.aload_n 0, 1) := zo_42 (zi_at zh_dX13_score_0_0 15 rfl)
theorem dX13_score_16 : decode cX13_score 16 = .ok (.iconst 0, 1) := zo_3 (zi_at zh_dX13_score_16_16 0 rfl)
theorem dX13_score_17 : decode cX13_score 17 = .ok (.putfield 447, 3) := zo_181 (zi_at zh_dX13_score_16_16 1 rfl) (zi_at zh_dX13_score_16_16 2 rfl) (zi_at zh_dX13_score_16_16 3 rfl) rfl
theorem dX13_score_20 : decode cX13_score 20 = .ok (.aload_n 0, 1) := zo_42 (zi_at zh_dX13_score_16_16 4 rfl)
theorem dX13_score_21 : decode cX13_score 21 = .ok (.getfield 447, 3) := zo_180 (zi_at zh_dX13_score_16_16 5 rfl) (zi_at zh_dX13_score_16_16 6 rfl) (zi_at zh_dX13_score_16_16 7 rfl) rfl
theorem dX13_score_24 : decode cX13_score 24 = .ok (.aload_n 0, 1) := zo_42 (zi_at zh_dX13_score_16_16 8 rfl)
theorem dX13_score_25 : decode cX13_score 25 = .ok (.getfield 390, 3) := zo_180 (zi_at zh_dX13_score_16_16 9 rfl) (zi_at zh_dX13_score_16_16 10 rfl) (zi_at zh_dX13_score_16_16 11 rfl) rfl
theorem dX13_score_28 : decode cX13_score 28 = .ok (.if_icmp .ge 29, 3) := zo_162 (zi_at zh_dX13_score_16_16 12 rfl) (zi_at zh_dX13_score_16_16 13 rfl) (zi_at zh_dX13_score_16_16 14 rfl) rfl
theorem dX13_score_31 : decode cX13_score 31 = .ok (.aload_n 0, 1) := zo_42 (zi_at zh_dX13_score_16_16 15 rfl)
theorem dX13_score_32 : decode cX13_score 32 = .ok (.getfield 71, 3) := zo_180 (zi_at zh_dX13_score_32_32 0 rfl) (zi_at zh_dX13_score_32_32 1 rfl) (zi_at zh_dX13_score_32_32 2 rfl) rfl
theorem dX13_score_35 : decode cX13_score 35 = .ok (.aload_n 0, 1) := zo_42 (zi_at zh_dX13_score_32_32 3 rfl)
theorem dX13_score_36 : decode cX13_score 36 = .ok (.getfield 447, 3) := zo_180 (zi_at zh_dX13_score_32_32 4 rfl) (zi_at zh_dX13_score_32_32 5 rfl) (zi_at zh_dX13_score_32_32 6 rfl) rfl
theorem dX13_score_39 : decode cX13_score 39 = .ok (.iaload, 1) := zo_46 (zi_at zh_dX13_score_32_32 7 rfl)
theorem dX13_score_40 : decode cX13_score 40 = .ok (.iload_n 1, 1) := zo_27 (zi_at zh_dX13_score_32_32 8 rfl)
theorem dX13_score_41 : decode cX13_score 41 = .ok (.if_icmp .gt 16, 3) := zo_163 (zi_at zh_dX13_score_32_32 9 rfl) (zi_at zh_dX13_score_32_32 10 rfl) (zi_at zh_dX13_score_32_32 11 rfl) rfl
theorem dX13_score_44 : decode cX13_score 44 = .ok (.aload_n 0, 1) := zo_42 (zi_at zh_dX13_score_32_32 12 rfl)
theorem dX13_score_45 : decode cX13_score 45 = .ok (.dup, 1) := zo_89 (zi_at zh_dX13_score_32_32 13 rfl)
theorem dX13_score_46 : decode cX13_score 46 = .ok (.getfield 447, 3) := zo_180 (zi_at zh_dX13_score_32_32 14 rfl) (zi_at zh_dX13_score_32_32 15 rfl) (zi_at zh_dX13_score_46_48 0 rfl) rfl
theorem dX13_score_49 : decode cX13_score 49 = .ok (.iconst 1, 1) := zo_4 (zi_at zh_dX13_score_46_48 1 rfl)
theorem dX13_score_50 : decode cX13_score 50 = .ok (.iadd, 1) := zo_96 (zi_at zh_dX13_score_46_48 2 rfl)
theorem dX13_score_51 : decode cX13_score 51 = .ok (.putfield 447, 3) := zo_181 (zi_at zh_dX13_score_46_48 3 rfl) (zi_at zh_dX13_score_46_48 4 rfl) (zi_at zh_dX13_score_46_48 5 rfl) rfl
theorem dX13_score_54 : decode cX13_score 54 = .ok (.goto (-34), 3) := zo_167 (zi_at zh_dX13_score_46_48 6 rfl) (zi_at zh_dX13_score_46_48 7 rfl) (zi_at zh_dX13_score_46_48 8 rfl) rfl
theorem dX13_score_57 : decode cX13_score 57 = .ok (.iconst 0, 1) := zo_3 (zi_at zh_dX13_score_46_48 9 rfl)
theorem dX13_score_58 : decode cX13_score 58 = .ok (.istore_n 2, 1) := zo_61 (zi_at zh_dX13_score_46_48 10 rfl)
theorem dX13_score_59 : decode cX13_score 59 = .ok (.iload_n 2, 1) := zo_28 (zi_at zh_dX13_score_46_48 11 rfl)
theorem dX13_score_60 : decode cX13_score 60 = .ok (.aload_n 0, 1) := zo_42 (zi_at zh_dX13_score_46_48 12 rfl)
theorem dX13_score_61 : decode cX13_score 61 = .ok (.getfield 239, 3) := zo_180 (zi_at zh_dX13_score_46_48 13 rfl) (zi_at zh_dX13_score_46_48 14 rfl) (zi_at zh_dX13_score_46_48 15 rfl) rfl
theorem dX13_score_64 : decode cX13_score 64 = .ok (.if_icmp .ge 92, 3) := zo_162 (zi_at zh_dX13_score_64_64 0 rfl) (zi_at zh_dX13_score_64_64 1 rfl) (zi_at zh_dX13_score_64_64 2 rfl) rfl
theorem dX13_score_67 : decode cX13_score 67 = .ok (.aload_n 0, 1) := zo_42 (zi_at zh_dX13_score_64_64 3 rfl)
theorem dX13_score_68 : decode cX13_score 68 = .ok (.getfield 123, 3) := zo_180 (zi_at zh_dX13_score_64_64 4 rfl) (zi_at zh_dX13_score_64_64 5 rfl) (zi_at zh_dX13_score_64_64 6 rfl) rfl
theorem dX13_score_71 : decode cX13_score 71 = .ok (.iload_n 2, 1) := zo_28 (zi_at zh_dX13_score_64_64 7 rfl)
theorem dX13_score_72 : decode cX13_score 72 = .ok (.iconst 0, 1) := zo_3 (zi_at zh_dX13_score_64_64 8 rfl)
theorem dX13_score_73 : decode cX13_score 73 = .ok (.bastore, 1) := zo_84 (zi_at zh_dX13_score_64_64 9 rfl)
theorem dX13_score_74 : decode cX13_score 74 = .ok (.iconst 0, 1) := zo_3 (zi_at zh_dX13_score_64_64 10 rfl)
theorem dX13_score_75 : decode cX13_score 75 = .ok (.istore_n 3, 1) := zo_62 (zi_at zh_dX13_score_64_64 11 rfl)
theorem dX13_score_76 : decode cX13_score 76 = .ok (.iload_n 3, 1) := zo_29 (zi_at zh_dX13_score_64_64 12 rfl)
theorem dX13_score_77 : decode cX13_score 77 = .ok (.aload_n 0, 1) := zo_42 (zi_at zh_dX13_score_64_64 13 rfl)
theorem dX13_score_78 : decode cX13_score 78 = .ok (.getfield 447, 3) := zo_180 (zi_at zh_dX13_score_64_64 14 rfl) (zi_at zh_dX13_score_64_64 15 rfl) (zi_at zh_dX13_score_78_80 0 rfl) rfl
theorem dX13_score_81 : decode cX13_score 81 = .ok (.if_icmp .ge 69, 3) := zo_162 (zi_at zh_dX13_score_78_80 1 rfl) (zi_at zh_dX13_score_78_80 2 rfl) (zi_at zh_dX13_score_78_80 3 rfl) rfl
theorem dX13_score_84 : decode cX13_score 84 = .ok (.aload_n 0, 1) := zo_42 (zi_at zh_dX13_score_78_80 4 rfl)
theorem dX13_score_85 : decode cX13_score 85 = .ok (.getfield 107, 3) := zo_180 (zi_at zh_dX13_score_78_80 5 rfl) (zi_at zh_dX13_score_78_80 6 rfl) (zi_at zh_dX13_score_78_80 7 rfl) rfl
theorem dX13_score_88 : decode cX13_score 88 = .ok (.bipush 16, 2) := zo_16 (zi_at zh_dX13_score_78_80 8 rfl) (zi_at zh_dX13_score_78_80 9 rfl) rfl
theorem dX13_score_90 : decode cX13_score 90 = .ok (.iload_n 3, 1) := zo_29 (zi_at zh_dX13_score_78_80 10 rfl)
theorem dX13_score_91 : decode cX13_score 91 = .ok (.imul, 1) := zo_104 (zi_at zh_dX13_score_78_80 11 rfl)
theorem dX13_score_92 : decode cX13_score 92 = .ok (.iload_n 2, 1) := zo_28 (zi_at zh_dX13_score_78_80 12 rfl)
theorem dX13_score_93 : decode cX13_score 93 = .ok (.iadd, 1) := zo_96 (zi_at zh_dX13_score_78_80 13 rfl)
theorem dX13_score_94 : decode cX13_score 94 = .ok (.aload_n 0, 1) := zo_42 (zi_at zh_dX13_score_78_80 14 rfl)
theorem dX13_score_95 : decode cX13_score 95 = .ok (.iload_n 3, 1) := zo_29 (zi_at zh_dX13_score_78_80 15 rfl)
theorem dX13_score_96 : decode cX13_score 96 = .ok (.iload_n 2, 1) := zo_28 (zi_at zh_dX13_score_96_96 0 rfl)
theorem dX13_score_97 : decode cX13_score 97 = .ok (.iload_n 1, 1) := zo_27 (zi_at zh_dX13_score_96_96 1 rfl)
theorem dX13_score_98 : decode cX13_score 98 = .ok (.invokevirtual 444, 3) := zo_182 (zi_at zh_dX13_score_96_96 2 rfl) (zi_at zh_dX13_score_96_96 3 rfl) (zi_at zh_dX13_score_96_96 4 rfl) rfl
theorem dX13_score_101 : decode cX13_score 101 = .ok (.iastore, 1) := zo_79 (zi_at zh_dX13_score_96_96 5 rfl)
theorem dX13_score_102 : decode cX13_score 102 = .ok (.aload_n 0, 1) := zo_42 (zi_at zh_dX13_score_96_96 6 rfl)
theorem dX13_score_103 : decode cX13_score 103 = .ok (.getfield 119, 3) := zo_180 (zi_at zh_dX13_score_96_96 7 rfl) (zi_at zh_dX13_score_96_96 8 rfl) (zi_at zh_dX13_score_96_96 9 rfl) rfl
theorem dX13_score_106 : decode cX13_score 106 = .ok (.bipush 16, 2) := zo_16 (zi_at zh_dX13_score_96_96 10 rfl) (zi_at zh_dX13_score_96_96 11 rfl) rfl
theorem dX13_score_108 : decode cX13_score 108 = .ok (.iload_n 3, 1) := zo_29 (zi_at zh_dX13_score_96_96 12 rfl)
theorem dX13_score_109 : decode cX13_score 109 = .ok (.imul, 1) := zo_104 (zi_at zh_dX13_score_96_96 13 rfl)
theorem dX13_score_110 : decode cX13_score 110 = .ok (.iload_n 2, 1) := zo_28 (zi_at zh_dX13_score_96_96 14 rfl)
theorem dX13_score_111 : decode cX13_score 111 = .ok (.iadd, 1) := zo_96 (zi_at zh_dX13_score_96_96 15 rfl)
theorem dX13_score_112 : decode cX13_score 112 = .ok (.iconst 0, 1) := zo_3 (zi_at zh_dX13_score_112_112 0 rfl)
theorem dX13_score_113 : decode cX13_score 113 = .ok (.bastore, 1) := zo_84 (zi_at zh_dX13_score_112_112 1 rfl)
theorem dX13_score_114 : decode cX13_score 114 = .ok (.aload_n 0, 1) := zo_42 (zi_at zh_dX13_score_112_112 2 rfl)
theorem dX13_score_115 : decode cX13_score 115 = .ok (.getfield 123, 3) := zo_180 (zi_at zh_dX13_score_112_112 3 rfl) (zi_at zh_dX13_score_112_112 4 rfl) (zi_at zh_dX13_score_112_112 5 rfl) rfl
theorem dX13_score_118 : decode cX13_score 118 = .ok (.iload_n 2, 1) := zo_28 (zi_at zh_dX13_score_112_112 6 rfl)
theorem dX13_score_119 : decode cX13_score 119 = .ok (.aload_n 0, 1) := zo_42 (zi_at zh_dX13_score_112_112 7 rfl)
theorem dX13_score_120 : decode cX13_score 120 = .ok (.getfield 123, 3) := zo_180 (zi_at zh_dX13_score_112_112 8 rfl) (zi_at zh_dX13_score_112_112 9 rfl) (zi_at zh_dX13_score_112_112 10 rfl) rfl
theorem dX13_score_123 : decode cX13_score 123 = .ok (.iload_n 2, 1) := zo_28 (zi_at zh_dX13_score_112_112 11 rfl)
theorem dX13_score_124 : decode cX13_score 124 = .ok (.baload, 1) := zo_51 (zi_at zh_dX13_score_112_112 12 rfl)
theorem dX13_score_125 : decode cX13_score 125 = .ok (.ifCond .ne 13, 3) := zo_154 (zi_at zh_dX13_score_112_112 13 rfl) (zi_at zh_dX13_score_112_112 14 rfl) (zi_at zh_dX13_score_112_112 15 rfl) rfl
theorem dX13_score_128 : decode cX13_score 128 = .ok (.aload_n 0, 1) := zo_42 (zi_at zh_dX13_score_128_128 0 rfl)
theorem dX13_score_129 : decode cX13_score 129 = .ok (.iload_n 3, 1) := zo_29 (zi_at zh_dX13_score_128_128 1 rfl)
theorem dX13_score_130 : decode cX13_score 130 = .ok (.iload_n 2, 1) := zo_28 (zi_at zh_dX13_score_128_128 2 rfl)
theorem dX13_score_131 : decode cX13_score 131 = .ok (.iload_n 1, 1) := zo_27 (zi_at zh_dX13_score_128_128 3 rfl)
theorem dX13_score_132 : decode cX13_score 132 = .ok (.invokevirtual 396, 3) := zo_182 (zi_at zh_dX13_score_128_128 4 rfl) (zi_at zh_dX13_score_128_128 5 rfl) (zi_at zh_dX13_score_128_128 6 rfl) rfl
theorem dX13_score_135 : decode cX13_score 135 = .ok (.ifCond .eq 7, 3) := zo_153 (zi_at zh_dX13_score_128_128 7 rfl) (zi_at zh_dX13_score_128_128 8 rfl) (zi_at zh_dX13_score_128_128 9 rfl) rfl
theorem dX13_score_138 : decode cX13_score 138 = .ok (.iconst 1, 1) := zo_4 (zi_at zh_dX13_score_128_128 10 rfl)
theorem dX13_score_139 : decode cX13_score 139 = .ok (.goto 4, 3) := zo_167 (zi_at zh_dX13_score_128_128 11 rfl) (zi_at zh_dX13_score_128_128 12 rfl) (zi_at zh_dX13_score_128_128 13 rfl) rfl
theorem dX13_score_142 : decode cX13_score 142 = .ok (.iconst 0, 1) := zo_3 (zi_at zh_dX13_score_128_128 14 rfl)
theorem dX13_score_143 : decode cX13_score 143 = .ok (.bastore, 1) := zo_84 (zi_at zh_dX13_score_128_128 15 rfl)
theorem dX13_score_144 : decode cX13_score 144 = .ok (.iinc 3 1, 3) := zo_132 (zi_at zh_dX13_score_144_144 0 rfl) (zi_at zh_dX13_score_144_144 1 rfl) (zi_at zh_dX13_score_144_144 2 rfl) rfl
theorem dX13_score_147 : decode cX13_score 147 = .ok (.goto (-71), 3) := zo_167 (zi_at zh_dX13_score_144_144 3 rfl) (zi_at zh_dX13_score_144_144 4 rfl) (zi_at zh_dX13_score_144_144 5 rfl) rfl
theorem dX13_score_150 : decode cX13_score 150 = .ok (.iinc 2 1, 3) := zo_132 (zi_at zh_dX13_score_144_144 6 rfl) (zi_at zh_dX13_score_144_144 7 rfl) (zi_at zh_dX13_score_144_144 8 rfl) rfl
theorem dX13_score_153 : decode cX13_score 153 = .ok (.goto (-94), 3) := zo_167 (zi_at zh_dX13_score_144_144 9 rfl) (zi_at zh_dX13_score_144_144 10 rfl) (zi_at zh_dX13_score_144_144 11 rfl) rfl
theorem dX13_score_156 : decode cX13_score 156 = .ok (.aload_n 0, 1) := zo_42 (zi_at zh_dX13_score_144_144 12 rfl)
theorem dX13_score_157 : decode cX13_score 157 = .ok (.invokevirtual 377, 3) := zo_182 (zi_at zh_dX13_score_144_144 13 rfl) (zi_at zh_dX13_score_144_144 14 rfl) (zi_at zh_dX13_score_144_144 15 rfl) rfl
theorem dX13_score_160 : decode cX13_score 160 = .ok (.aload_n 0, 1) := zo_42 (zi_at zh_dX13_score_160_160 0 rfl)
theorem dX13_score_161 : decode cX13_score 161 = .ok (.getfield 44, 3) := zo_180 (zi_at zh_dX13_score_160_160 1 rfl) (zi_at zh_dX13_score_160_160 2 rfl) (zi_at zh_dX13_score_160_160 3 rfl) rfl
theorem dX13_score_164 : decode cX13_score 164 = .ok (.bipush 99, 2) := zo_16 (zi_at zh_dX13_score_160_160 4 rfl) (zi_at zh_dX13_score_160_160 5 rfl) rfl
theorem dX13_score_166 : decode cX13_score 166 = .ok (.aload_n 0, 1) := zo_42 (zi_at zh_dX13_score_160_160 6 rfl)
theorem dX13_score_167 : decode cX13_score 167 = .ok (.getfield 447, 3) := zo_180 (zi_at zh_dX13_score_160_160 7 rfl) (zi_at zh_dX13_score_160_160 8 rfl) (zi_at zh_dX13_score_160_160 9 rfl) rfl
theorem dX13_score_170 : decode cX13_score 170 = .ok (.iastore, 1) := zo_79 (zi_at zh_dX13_score_160_160 10 rfl)
theorem dX13_score_171 : decode cX13_score 171 = .ok (.iconst 0, 1) := zo_3 (zi_at zh_dX13_score_160_160 11 rfl)
theorem dX13_score_172 : decode cX13_score 172 = .ok (.aload_n 0, 1) := zo_42 (zi_at zh_dX13_score_160_160 12 rfl)
theorem dX13_score_173 : decode cX13_score 173 = .ok (.getfield 447, 3) := zo_180 (zi_at zh_dX13_score_160_160 13 rfl) (zi_at zh_dX13_score_160_160 14 rfl) (zi_at zh_dX13_score_160_160 15 rfl) rfl
theorem dX13_score_176 : decode cX13_score 176 = .ok (.iconst 1, 1) := zo_4 (zi_at zh_dX13_score_176_176 0 rfl)
theorem dX13_score_177 : decode cX13_score 177 = .ok (.isub, 1) := zo_100 (zi_at zh_dX13_score_176_176 1 rfl)
theorem dX13_score_178 : decode cX13_score 178 = .ok (.aload_n 0, 1) := zo_42 (zi_at zh_dX13_score_176_176 2 rfl)
theorem dX13_score_179 : decode cX13_score 179 = .ok (.bipush 116, 2) := zo_16 (zi_at zh_dX13_score_176_176 3 rfl) (zi_at zh_dX13_score_176_176 4 rfl) rfl
theorem dX13_score_181 : decode cX13_score 181 = .ok (.iload_n 1, 1) := zo_27 (zi_at zh_dX13_score_176_176 5 rfl)
theorem dX13_score_182 : decode cX13_score 182 = .ok (.iload_n 1, 1) := zo_27 (zi_at zh_dX13_score_176_176 6 rfl)
theorem dX13_score_183 : decode cX13_score 183 = .ok (.invokevirtual 380, 3) := zo_182 (zi_at zh_dX13_score_176_176 7 rfl) (zi_at zh_dX13_score_176_176 8 rfl) (zi_at zh_dX13_score_176_176 9 rfl) rfl
theorem dX13_score_186 : decode cX13_score 186 = .ok (.invokestatic 383, 3) := zo_184 (zi_at zh_dX13_score_176_176 10 rfl) (zi_at zh_dX13_score_176_176 11 rfl) (zi_at zh_dX13_score_176_176 12 rfl) rfl
theorem dX13_score_189 : decode cX13_score 189 = .ok (.invokestatic 385, 3) := zo_184 (zi_at zh_dX13_score_176_176 13 rfl) (zi_at zh_dX13_score_176_176 14 rfl) (zi_at zh_dX13_score_176_176 15 rfl) rfl
theorem dX13_score_192 : decode cX13_score 192 = .ok (.istore_n 2, 1) := zo_61 (zi_at zh_dX13_score_192_192 0 rfl)
theorem dX13_score_193 : decode cX13_score 193 = .ok (.iconst 0, 1) := zo_3 (zi_at zh_dX13_score_192_192 1 rfl)
theorem dX13_score_194 : decode cX13_score 194 = .ok (.istore_n 3, 1) := zo_62 (zi_at zh_dX13_score_192_192 2 rfl)
theorem dX13_score_195 : decode cX13_score 195 = .ok (.iload_n 3, 1) := zo_29 (zi_at zh_dX13_score_192_192 3 rfl)
theorem dX13_score_196 : decode cX13_score 196 = .ok (.aload_n 0, 1) := zo_42 (zi_at zh_dX13_score_192_192 4 rfl)
theorem dX13_score_197 : decode cX13_score 197 = .ok (.getfield 239, 3) := zo_180 (zi_at zh_dX13_score_192_192 5 rfl) (zi_at zh_dX13_score_192_192 6 rfl) (zi_at zh_dX13_score_192_192 7 rfl) rfl
theorem dX13_score_200 : decode cX13_score 200 = .ok (.if_icmp .ge 175, 3) := zo_162 (zi_at zh_dX13_score_192_192 8 rfl) (zi_at zh_dX13_score_192_192 9 rfl) (zi_at zh_dX13_score_192_192 10 rfl) rfl
theorem dX13_score_203 : decode cX13_score 203 = .ok (.iconst 0, 1) := zo_3 (zi_at zh_dX13_score_192_192 11 rfl)
theorem dX13_score_204 : decode cX13_score 204 = .ok (.istore 4, 2) := zo_54 (zi_at zh_dX13_score_192_192 12 rfl) (zi_at zh_dX13_score_192_192 13 rfl)
theorem dX13_score_206 : decode cX13_score 206 = .ok (.iload 4, 2) := zo_21 (zi_at zh_dX13_score_192_192 14 rfl) (zi_at zh_dX13_score_192_192 15 rfl)
theorem dX13_score_208 : decode cX13_score 208 = .ok (.iload_n 2, 1) := zo_28 (zi_at zh_dX13_score_208_208 0 rfl)
theorem dX13_score_209 : decode cX13_score 209 = .ok (.if_icmp .ge 95, 3) := zo_162 (zi_at zh_dX13_score_208_208 1 rfl) (zi_at zh_dX13_score_208_208 2 rfl) (zi_at zh_dX13_score_208_208 3 rfl) rfl
theorem dX13_score_212 : decode cX13_score 212 = .ok (.iconst (-1), 1) := zo_2 (zi_at zh_dX13_score_208_208 4 rfl)
theorem dX13_score_213 : decode cX13_score 213 = .ok (.istore 5, 2) := zo_54 (zi_at zh_dX13_score_208_208 5 rfl) (zi_at zh_dX13_score_208_208 6 rfl)
theorem dX13_score_215 : decode cX13_score 215 = .ok (.iconst 0, 1) := zo_3 (zi_at zh_dX13_score_208_208 7 rfl)
theorem dX13_score_216 : decode cX13_score 216 = .ok (.istore 6, 2) := zo_54 (zi_at zh_dX13_score_208_208 8 rfl) (zi_at zh_dX13_score_208_208 9 rfl)
theorem dX13_score_218 : decode cX13_score 218 = .ok (.iload 6, 2) := zo_21 (zi_at zh_dX13_score_208_208 10 rfl) (zi_at zh_dX13_score_208_208 11 rfl)
theorem dX13_score_220 : decode cX13_score 220 = .ok (.aload_n 0, 1) := zo_42 (zi_at zh_dX13_score_208_208 12 rfl)
theorem dX13_score_221 : decode cX13_score 221 = .ok (.getfield 447, 3) := zo_180 (zi_at zh_dX13_score_208_208 13 rfl) (zi_at zh_dX13_score_208_208 14 rfl) (zi_at zh_dX13_score_208_208 15 rfl) rfl
theorem dX13_score_224 : decode cX13_score 224 = .ok (.if_icmp .ge 61, 3) := zo_162 (zi_at zh_dX13_score_224_224 0 rfl) (zi_at zh_dX13_score_224_224 1 rfl) (zi_at zh_dX13_score_224_224 2 rfl) rfl
theorem dX13_score_227 : decode cX13_score 227 = .ok (.aload_n 0, 1) := zo_42 (zi_at zh_dX13_score_224_224 3 rfl)
theorem dX13_score_228 : decode cX13_score 228 = .ok (.getfield 119, 3) := zo_180 (zi_at zh_dX13_score_224_224 4 rfl) (zi_at zh_dX13_score_224_224 5 rfl) (zi_at zh_dX13_score_224_224 6 rfl) rfl
theorem dX13_score_231 : decode cX13_score 231 = .ok (.bipush 16, 2) := zo_16 (zi_at zh_dX13_score_224_224 7 rfl) (zi_at zh_dX13_score_224_224 8 rfl) rfl
theorem dX13_score_233 : decode cX13_score 233 = .ok (.iload 6, 2) := zo_21 (zi_at zh_dX13_score_224_224 9 rfl) (zi_at zh_dX13_score_224_224 10 rfl)
theorem dX13_score_235 : decode cX13_score 235 = .ok (.imul, 1) := zo_104 (zi_at zh_dX13_score_224_224 11 rfl)
theorem dX13_score_236 : decode cX13_score 236 = .ok (.iload_n 3, 1) := zo_29 (zi_at zh_dX13_score_224_224 12 rfl)
theorem dX13_score_237 : decode cX13_score 237 = .ok (.iadd, 1) := zo_96 (zi_at zh_dX13_score_224_224 13 rfl)
theorem dX13_score_238 : decode cX13_score 238 = .ok (.baload, 1) := zo_51 (zi_at zh_dX13_score_224_224 14 rfl)
theorem dX13_score_239 : decode cX13_score 239 = .ok (.ifCond .ne 40, 3) := zo_154 (zi_at zh_dX13_score_224_224 15 rfl) (zi_at zh_dX13_score_239_240 0 rfl) (zi_at zh_dX13_score_239_240 1 rfl) rfl
theorem dX13_score_242 : decode cX13_score 242 = .ok (.iload 5, 2) := zo_21 (zi_at zh_dX13_score_239_240 2 rfl) (zi_at zh_dX13_score_239_240 3 rfl)
theorem dX13_score_244 : decode cX13_score 244 = .ok (.iconst (-1), 1) := zo_2 (zi_at zh_dX13_score_239_240 4 rfl)
theorem dX13_score_245 : decode cX13_score 245 = .ok (.if_icmp .eq 30, 3) := zo_159 (zi_at zh_dX13_score_239_240 5 rfl) (zi_at zh_dX13_score_239_240 6 rfl) (zi_at zh_dX13_score_239_240 7 rfl) rfl
theorem dX13_score_248 : decode cX13_score 248 = .ok (.aload_n 0, 1) := zo_42 (zi_at zh_dX13_score_239_240 8 rfl)
theorem dX13_score_249 : decode cX13_score 249 = .ok (.getfield 107, 3) := zo_180 (zi_at zh_dX13_score_239_240 9 rfl) (zi_at zh_dX13_score_239_240 10 rfl) (zi_at zh_dX13_score_239_240 11 rfl) rfl
theorem dX13_score_252 : decode cX13_score 252 = .ok (.bipush 16, 2) := zo_16 (zi_at zh_dX13_score_239_240 12 rfl) (zi_at zh_dX13_score_239_240 13 rfl) rfl
theorem dX13_score_254 : decode cX13_score 254 = .ok (.iload 6, 2) := zo_21 (zi_at zh_dX13_score_239_240 14 rfl) (zi_at zh_dX13_score_239_240 15 rfl)
theorem dX13_score_256 : decode cX13_score 256 = .ok (.imul, 1) := zo_104 (zi_at zh_dX13_score_256_256 0 rfl)
theorem dX13_score_257 : decode cX13_score 257 = .ok (.iload_n 3, 1) := zo_29 (zi_at zh_dX13_score_256_256 1 rfl)
theorem dX13_score_258 : decode cX13_score 258 = .ok (.iadd, 1) := zo_96 (zi_at zh_dX13_score_256_256 2 rfl)
theorem dX13_score_259 : decode cX13_score 259 = .ok (.iaload, 1) := zo_46 (zi_at zh_dX13_score_256_256 3 rfl)
theorem dX13_score_260 : decode cX13_score 260 = .ok (.aload_n 0, 1) := zo_42 (zi_at zh_dX13_score_256_256 4 rfl)
theorem dX13_score_261 : decode cX13_score 261 = .ok (.getfield 107, 3) := zo_180 (zi_at zh_dX13_score_256_256 5 rfl) (zi_at zh_dX13_score_256_256 6 rfl) (zi_at zh_dX13_score_256_256 7 rfl) rfl
theorem dX13_score_264 : decode cX13_score 264 = .ok (.bipush 16, 2) := zo_16 (zi_at zh_dX13_score_256_256 8 rfl) (zi_at zh_dX13_score_256_256 9 rfl) rfl
theorem dX13_score_266 : decode cX13_score 266 = .ok (.iload 5, 2) := zo_21 (zi_at zh_dX13_score_256_256 10 rfl) (zi_at zh_dX13_score_256_256 11 rfl)
theorem dX13_score_268 : decode cX13_score 268 = .ok (.imul, 1) := zo_104 (zi_at zh_dX13_score_256_256 12 rfl)
theorem dX13_score_269 : decode cX13_score 269 = .ok (.iload_n 3, 1) := zo_29 (zi_at zh_dX13_score_256_256 13 rfl)
theorem dX13_score_270 : decode cX13_score 270 = .ok (.iadd, 1) := zo_96 (zi_at zh_dX13_score_256_256 14 rfl)
theorem dX13_score_271 : decode cX13_score 271 = .ok (.iaload, 1) := zo_46 (zi_at zh_dX13_score_256_256 15 rfl)
theorem dX13_score_272 : decode cX13_score 272 = .ok (.if_icmp .lt 7, 3) := zo_161 (zi_at zh_dX13_score_272_272 0 rfl) (zi_at zh_dX13_score_272_272 1 rfl) (zi_at zh_dX13_score_272_272 2 rfl) rfl
theorem dX13_score_275 : decode cX13_score 275 = .ok (.iload 6, 2) := zo_21 (zi_at zh_dX13_score_272_272 3 rfl) (zi_at zh_dX13_score_272_272 4 rfl)
theorem dX13_score_277 : decode cX13_score 277 = .ok (.istore 5, 2) := zo_54 (zi_at zh_dX13_score_272_272 5 rfl) (zi_at zh_dX13_score_272_272 6 rfl)
theorem dX13_score_279 : decode cX13_score 279 = .ok (.iinc 6 1, 3) := zo_132 (zi_at zh_dX13_score_272_272 7 rfl) (zi_at zh_dX13_score_272_272 8 rfl) (zi_at zh_dX13_score_272_272 9 rfl) rfl
theorem dX13_score_282 : decode cX13_score 282 = .ok (.goto (-64), 3) := zo_167 (zi_at zh_dX13_score_272_272 10 rfl) (zi_at zh_dX13_score_272_272 11 rfl) (zi_at zh_dX13_score_272_272 12 rfl) rfl
theorem dX13_score_285 : decode cX13_score 285 = .ok (.aload_n 0, 1) := zo_42 (zi_at zh_dX13_score_272_272 13 rfl)
theorem dX13_score_286 : decode cX13_score 286 = .ok (.getfield 119, 3) := zo_180 (zi_at zh_dX13_score_272_272 14 rfl) (zi_at zh_dX13_score_272_272 15 rfl) (zi_at zh_dX13_score_286_288 0 rfl) rfl
theorem dX13_score_289 : decode cX13_score 289 = .ok (.bipush 16, 2) := zo_16 (zi_at zh_dX13_score_286_288 1 rfl) (zi_at zh_dX13_score_286_288 2 rfl) rfl
theorem dX13_score_291 : decode cX13_score 291 = .ok (.iload 5, 2) := zo_21 (zi_at zh_dX13_score_286_288 3 rfl) (zi_at zh_dX13_score_286_288 4 rfl)
theorem dX13_score_293 : decode cX13_score 293 = .ok (.imul, 1) := zo_104 (zi_at zh_dX13_score_286_288 5 rfl)
theorem dX13_score_294 : decode cX13_score 294 = .ok (.iload_n 3, 1) := zo_29 (zi_at zh_dX13_score_286_288 6 rfl)
theorem dX13_score_295 : decode cX13_score 295 = .ok (.iadd, 1) := zo_96 (zi_at zh_dX13_score_286_288 7 rfl)
theorem dX13_score_296 : decode cX13_score 296 = .ok (.iconst 1, 1) := zo_4 (zi_at zh_dX13_score_286_288 8 rfl)
theorem dX13_score_297 : decode cX13_score 297 = .ok (.bastore, 1) := zo_84 (zi_at zh_dX13_score_286_288 9 rfl)
theorem dX13_score_298 : decode cX13_score 298 = .ok (.iinc 4 1, 3) := zo_132 (zi_at zh_dX13_score_286_288 10 rfl) (zi_at zh_dX13_score_286_288 11 rfl) (zi_at zh_dX13_score_286_288 12 rfl) rfl
theorem dX13_score_301 : decode cX13_score 301 = .ok (.goto (-95), 3) := zo_167 (zi_at zh_dX13_score_286_288 13 rfl) (zi_at zh_dX13_score_286_288 14 rfl) (zi_at zh_dX13_score_286_288 15 rfl) rfl
theorem dX13_score_304 : decode cX13_score 304 = .ok (.aload_n 0, 1) := zo_42 (zi_at zh_dX13_score_304_304 0 rfl)
theorem dX13_score_305 : decode cX13_score 305 = .ok (.getfield 110, 3) := zo_180 (zi_at zh_dX13_score_304_304 1 rfl) (zi_at zh_dX13_score_304_304 2 rfl) (zi_at zh_dX13_score_304_304 3 rfl) rfl
theorem dX13_score_308 : decode cX13_score 308 = .ok (.iload_n 3, 1) := zo_29 (zi_at zh_dX13_score_304_304 4 rfl)
theorem dX13_score_309 : decode cX13_score 309 = .ok (.iconst 0, 1) := zo_3 (zi_at zh_dX13_score_304_304 5 rfl)
theorem dX13_score_310 : decode cX13_score 310 = .ok (.iastore, 1) := zo_79 (zi_at zh_dX13_score_304_304 6 rfl)
theorem dX13_score_311 : decode cX13_score 311 = .ok (.iconst 0, 1) := zo_3 (zi_at zh_dX13_score_304_304 7 rfl)
theorem dX13_score_312 : decode cX13_score 312 = .ok (.istore 4, 2) := zo_54 (zi_at zh_dX13_score_304_304 8 rfl) (zi_at zh_dX13_score_304_304 9 rfl)
theorem dX13_score_314 : decode cX13_score 314 = .ok (.iload 4, 2) := zo_21 (zi_at zh_dX13_score_304_304 10 rfl) (zi_at zh_dX13_score_304_304 11 rfl)
theorem dX13_score_316 : decode cX13_score 316 = .ok (.aload_n 0, 1) := zo_42 (zi_at zh_dX13_score_304_304 12 rfl)
theorem dX13_score_317 : decode cX13_score 317 = .ok (.getfield 447, 3) := zo_180 (zi_at zh_dX13_score_304_304 13 rfl) (zi_at zh_dX13_score_304_304 14 rfl) (zi_at zh_dX13_score_304_304 15 rfl) rfl
theorem dX13_score_320 : decode cX13_score 320 = .ok (.if_icmp .ge 49, 3) := zo_162 (zi_at zh_dX13_score_320_320 0 rfl) (zi_at zh_dX13_score_320_320 1 rfl) (zi_at zh_dX13_score_320_320 2 rfl) rfl
theorem dX13_score_323 : decode cX13_score 323 = .ok (.aload_n 0, 1) := zo_42 (zi_at zh_dX13_score_320_320 3 rfl)
theorem dX13_score_324 : decode cX13_score 324 = .ok (.getfield 110, 3) := zo_180 (zi_at zh_dX13_score_320_320 4 rfl) (zi_at zh_dX13_score_320_320 5 rfl) (zi_at zh_dX13_score_320_320 6 rfl) rfl
theorem dX13_score_327 : decode cX13_score 327 = .ok (.iload_n 3, 1) := zo_29 (zi_at zh_dX13_score_320_320 7 rfl)
theorem dX13_score_328 : decode cX13_score 328 = .ok (.dup2, 1) := zo_92 (zi_at zh_dX13_score_320_320 8 rfl)
theorem dX13_score_329 : decode cX13_score 329 = .ok (.iaload, 1) := zo_46 (zi_at zh_dX13_score_320_320 9 rfl)
theorem dX13_score_330 : decode cX13_score 330 = .ok (.aload_n 0, 1) := zo_42 (zi_at zh_dX13_score_320_320 10 rfl)
theorem dX13_score_331 : decode cX13_score 331 = .ok (.getfield 119, 3) := zo_180 (zi_at zh_dX13_score_320_320 11 rfl) (zi_at zh_dX13_score_320_320 12 rfl) (zi_at zh_dX13_score_320_320 13 rfl) rfl
theorem dX13_score_334 : decode cX13_score 334 = .ok (.bipush 16, 2) := zo_16 (zi_at zh_dX13_score_320_320 14 rfl) (zi_at zh_dX13_score_320_320 15 rfl) rfl
theorem dX13_score_336 : decode cX13_score 336 = .ok (.iload 4, 2) := zo_21 (zi_at zh_dX13_score_336_336 0 rfl) (zi_at zh_dX13_score_336_336 1 rfl)
theorem dX13_score_338 : decode cX13_score 338 = .ok (.imul, 1) := zo_104 (zi_at zh_dX13_score_336_336 2 rfl)
theorem dX13_score_339 : decode cX13_score 339 = .ok (.iload_n 3, 1) := zo_29 (zi_at zh_dX13_score_336_336 3 rfl)
theorem dX13_score_340 : decode cX13_score 340 = .ok (.iadd, 1) := zo_96 (zi_at zh_dX13_score_336_336 4 rfl)
theorem dX13_score_341 : decode cX13_score 341 = .ok (.baload, 1) := zo_51 (zi_at zh_dX13_score_336_336 5 rfl)
theorem dX13_score_342 : decode cX13_score 342 = .ok (.ifCond .eq 7, 3) := zo_153 (zi_at zh_dX13_score_336_336 6 rfl) (zi_at zh_dX13_score_336_336 7 rfl) (zi_at zh_dX13_score_336_336 8 rfl) rfl
theorem dX13_score_345 : decode cX13_score 345 = .ok (.iconst 0, 1) := zo_3 (zi_at zh_dX13_score_336_336 9 rfl)
theorem dX13_score_346 : decode cX13_score 346 = .ok (.goto 15, 3) := zo_167 (zi_at zh_dX13_score_336_336 10 rfl) (zi_at zh_dX13_score_336_336 11 rfl) (zi_at zh_dX13_score_336_336 12 rfl) rfl
theorem dX13_score_349 : decode cX13_score 349 = .ok (.aload_n 0, 1) := zo_42 (zi_at zh_dX13_score_336_336 13 rfl)
theorem dX13_score_350 : decode cX13_score 350 = .ok (.getfield 107, 3) := zo_180 (zi_at zh_dX13_score_336_336 14 rfl) (zi_at zh_dX13_score_336_336 15 rfl) (zi_at zh_dX13_score_350_352 0 rfl) rfl
theorem dX13_score_353 : decode cX13_score 353 = .ok (.bipush 16, 2) := zo_16 (zi_at zh_dX13_score_350_352 1 rfl) (zi_at zh_dX13_score_350_352 2 rfl) rfl
theorem dX13_score_355 : decode cX13_score 355 = .ok (.iload 4, 2) := zo_21 (zi_at zh_dX13_score_350_352 3 rfl) (zi_at zh_dX13_score_350_352 4 rfl)
theorem dX13_score_357 : decode cX13_score 357 = .ok (.imul, 1) := zo_104 (zi_at zh_dX13_score_350_352 5 rfl)
theorem dX13_score_358 : decode cX13_score 358 = .ok (.iload_n 3, 1) := zo_29 (zi_at zh_dX13_score_350_352 6 rfl)
theorem dX13_score_359 : decode cX13_score 359 = .ok (.iadd, 1) := zo_96 (zi_at zh_dX13_score_350_352 7 rfl)
theorem dX13_score_360 : decode cX13_score 360 = .ok (.iaload, 1) := zo_46 (zi_at zh_dX13_score_350_352 8 rfl)
theorem dX13_score_361 : decode cX13_score 361 = .ok (.iadd, 1) := zo_96 (zi_at zh_dX13_score_350_352 9 rfl)
theorem dX13_score_362 : decode cX13_score 362 = .ok (.iastore, 1) := zo_79 (zi_at zh_dX13_score_350_352 10 rfl)
theorem dX13_score_363 : decode cX13_score 363 = .ok (.iinc 4 1, 3) := zo_132 (zi_at zh_dX13_score_350_352 11 rfl) (zi_at zh_dX13_score_350_352 12 rfl) (zi_at zh_dX13_score_350_352 13 rfl) rfl
theorem dX13_score_366 : decode cX13_score 366 = .ok (.goto (-52), 3) := zo_167 (zi_at zh_dX13_score_350_352 14 rfl) (zi_at zh_dX13_score_350_352 15 rfl) (zi_at zh_dX13_score_366_368 0 rfl) rfl
theorem dX13_score_369 : decode cX13_score 369 = .ok (.iinc 3 1, 3) := zo_132 (zi_at zh_dX13_score_366_368 1 rfl) (zi_at zh_dX13_score_366_368 2 rfl) (zi_at zh_dX13_score_366_368 3 rfl) rfl
theorem dX13_score_372 : decode cX13_score 372 = .ok (.goto (-177), 3) := zo_167 (zi_at zh_dX13_score_366_368 4 rfl) (zi_at zh_dX13_score_366_368 5 rfl) (zi_at zh_dX13_score_366_368 6 rfl) rfl
theorem dX13_score_375 : decode cX13_score 375 = .ok (.iconst 1, 1) := zo_4 (zi_at zh_dX13_score_366_368 7 rfl)
theorem dX13_score_376 : decode cX13_score 376 = .ok (.ireturn, 1) := zo_172 (zi_at zh_dX13_score_366_368 8 rfl)

def v_scoreM : List Cond := .code yX13_score cX13_score 7 (some .boolean) :: vA
abbrev rm_scoreM : Room := { frames := 76, cells := 0, slots := 0, locals := 3040 }
def w_scoreM : Nat → Nat → Bool := wl [12, 32, 33, 36, 37] [(0, 0), (0, 18), (0, 19), (0, 20), (0, 21), (0, 22), (0, 23), (0, 24), (0, 25), (0, 26), (0, 55)]
set_option maxHeartbeats 4000000 in
set_option maxRecDepth 100000 in
theorem q_scoreM (l : Launch) (dC : Nat → ClassId) (dI : Nat → Nat → Nat) (cT : Nat → ClassId) (ad : Nat → Nat) (E : Nat → va_E) (sz : Nat) (a0 : Int32) (hI0 : IX cT shM spM 72 ad E) (hh0 : TXM E) : Met l yX13_score v_scoreM rm_scoreM (va_Pc [.ref (ad 0), .int a0] (HW dC dI (TYM cT) 72 ad E sz)) (va_Qi (S := Nat → va_E) (fun r u => IX cT shM spM 72 ad u ∧ Kp w_scoreM E u ∧ ((r = 1 ∧ (0 ≤ a0.toInt ∧ a0.toInt ≤ (xi (E 0) 1).toInt) ∧ (∃ K9 o9 : Int32, xi (u 0) 55 = K9 ∧ TaM E a0 K9 o9 (xi (u 32)) (xi (u 36)) (xi (u 37)) (xi (u 33)))) ∨ (r = 0 ∧ (¬ (0 ≤ a0.toInt ∧ a0.toInt ≤ (xi (E 0) 1).toInt))))) (HB dC dI 72 ad) (va_A (WX 72 ad E) sz)) 0 0 (va_A (WX 72 ad E) sz) := by
  refine Met.ofW (cc := cX13_score) (maxL := 7) (ret := (some .boolean)) (by decide) rfl ?_
  intro p e s m args below meth c s₁ B hml hv
  obtain ⟨hargs, hsz, hP, hK, hD0, hEV⟩ := hv
  subst hsz
  have hx := B.exec
  have hb := B.bytes
  have hr := B.returns
  have hts := atoms_spec (ws := v_scoreM) B.pre
  have hown : s.vm.findClass RX13 = some m.cls := findClass_of_methodNamed B.named
  have hlocks := B.notSynchronized
  have hinX13 : ∀ w ∈ u_ws RX13 TX13 97, w ∈ v_scoreM := fun w h => vA_in _ w (in_X13 w h)
  generalize hAe : va_A (WX 72 ad E) s.heap.size = A at hEV ⊢
  have hA : ∀ q : Nat, s.heap.size ≤ q → A q := fun q h => by rw [← hAe]; exact Or.inr h
  have hD : va_D A (WX 72 ad E) := by rw [← hAe]; exact hD0.self
  have hS : va_S A s.heap s.heap [] := va_S.rf
  have hI := hI0
  have hKp : Kp w_scoreM E E := Kp.rf
  have hl := lv_entry ([.ref (ad 0), .int a0]) (n := 7) (Nat.le_of_ble_eq_true rfl)
  obtain ⟨Q, hQ⟩ : ∃ Q, Q = MQ below (va_Qi (S := Nat → va_E) (fun r u => IX cT shM spM 72 ad u ∧ Kp w_scoreM E u ∧ ((r = 1 ∧ (0 ≤ a0.toInt ∧ a0.toInt ≤ (xi (E 0) 1).toInt) ∧ (∃ K9 o9 : Int32, xi (u 0) 55 = K9 ∧ TaM E a0 K9 o9 (xi (u 32)) (xi (u 36)) (xi (u 37)) (xi (u 33)))) ∨ (r = 0 ∧ (¬ (0 ≤ a0.toInt ∧ a0.toInt ≤ (xi (E 0) 1).toInt))))) (HB dC dI 72 ad) (A)) args s 0 0 (A) := ⟨_, rfl⟩
  rw [← hQ, show entryFrame m args 7 = _ from (congrArg (fun z => entryFrame m z 7) hargs).trans (lg_entry_eq _ _ _)]
  generalize (lg_sl ([.ref (ad 0), .int a0]) ++ List.replicate (7 - (lg_sl ([.ref (ad 0), .int a0])).length) Slot.unset).toArray = ls at hl ⊢
  have hl : lv_has ls 7 [(0, .ref (ad 0)), (1, .int a0)] := hl
  obtain ⟨g1, hg1⟩ : ∃ g, xi (E 32) = g := ⟨_, rfl⟩
  obtain ⟨g2, hg2⟩ : ∃ g, xi (E 36) = g := ⟨_, rfl⟩
  obtain ⟨g3, hg3⟩ : ∃ g, xi (E 37) = g := ⟨_, rfl⟩
  obtain ⟨g4, hg4⟩ : ∃ g, xi (E 33) = g := ⟨_, rfl⟩
  have z0z : (0 : Int32).toInt = 0 := rfl
  have ib8 : 0 ≤ (xi (E 0) 8).toInt ∧ (xi (E 0) 8).toInt ≤ 16 := hI0.iv 0 (Nat.le_of_ble_eq_true rfl) rfl (Nat.le_of_ble_eq_true rfl) rfl
  have ib46 : 0 ≤ (xi (E 0) 46).toInt ∧ (xi (E 0) 46).toInt ≤ 20 := hI0.iv 0 (Nat.le_of_ble_eq_true rfl) rfl (Nat.le_of_ble_eq_true rfl) rfl
  have hN16 : (xi (E 0) 8).toNatClampNeg ≤ 16 := by rw [tn_]; omega
  have z0 := ln_0
  have z1 := ln_1
  have zm1 := ln_m1
  refine lv_aload_n hx hb dX13_score_0 rfl (lv_at hl 0 rfl) ?_
  refine lv_iconst (v := 0) hx hb dX13_score_1 (by decide) ?_
  refine th_put (ci := 14) (C := RX13) (T := TX13) (N := 97) (v := .int 0) (ty := .int) hx hb hts hinX13 tyX13 tyX13_ok nmX13 hown hK hP (WX_D hD) hS hI 0 (Nat.le_of_ble_eq_true rfl) rfl rfl 0 (Nat.le_of_ble_eq_true rfl) (hts _ (vA_in _ _ (in_24 _ (zs4 (zs4 (zs1 (zs1 (zs0)))))))) (fun _ h9 => h9) rfl (by decide +kernel) rfl rfl (okI rfl (iv_w ln_0 (by decide))) dX13_score_2 (fun H locs E5 pw6 hI hP hS => ?_)
  have hKp := hKp.pw pw6 rfl
  refine lv_aload_n hx hb dX13_score_5 rfl (lv_at hl 0 rfl) ?_
  refine lv_iload_n hx hb dX13_score_6 rfl (lv_at hl 1 rfl) ?_
  refine th_ri (va_runV (As := [.int a0]) (rest := []) ⟨hx, hb, hml, hown, hts⟩ (q_isKnown l dC dI cT ad E5 H.size a0 hI) (cwV 1 hts (gi_V (in_24 _ (zs16 (zs4 (zs1 (zs1 (zs1 (zs0))))))) (in_24 _ (zs16 (zs4 (zs4 (zs0))))) (in_24 _ (zs16 (zs4 (zs4 (zs1 (zs0)))))) (in_24 _ (zs4 (zs4 (zs4 (zs1 (zs1 (zs1 (zs0)))))))) (in_24 _ (zs16 (zs4 (zs4 (zs1 (zs1 (zs0)))))))) rfl rfl rfl ⟨rfl, hz_yX13_isKnown_1⟩ ⟨Nat.le_of_ble_eq_true rfl, Nat.le_of_ble_eq_true rfl⟩) ⟨HW_bl, va_recv hK hP (ci := 14) (q0 := 0) rfl (hI.ob 0 (Nat.le_of_ble_eq_true rfl) rfl), (HW_wi hP hK (WX_D hD) hS hA hEV)⟩ rfl rfl hl.1 rfl (lv_room (Nat.le_of_ble_eq_true rfl)) dX13_score_7 ⟨Nat.le_of_ble_eq_true rfl, Nat.le_of_ble_eq_true rfl⟩) hS hP (fun r7 H locs hw hP hS => ?_)
  rcases hw with hw | hw
  · -- isKnown, case 0
    obtain ⟨rfl, f8⟩ := hw
    have i9 : 0 ≤ (xi (E 0) 1).toInt ∧ (xi (E 0) 1).toInt ≤ 400 := (show 0 ≤ (xi (E 0) 1).toInt ∧ (xi (E 0) 1).toInt ≤ 400 from hI0.iv 0 (Nat.le_of_ble_eq_true rfl) rfl (Nat.le_of_ble_eq_true rfl) rfl)
    try rw [hKp.ei 0 1 rfl] at f8
    have t10 : (0 : Int) ≤ a0.toInt := f8.1
    have t11 : a0.toInt ≤ (xi (E 0) 1).toInt := f8.2
    have i12 : 0 ≤ a0.toInt ∧ a0.toInt ≤ 2147483647 := iv_le_r t10 (il_ 0) (iv_all _) (by decide)
    have i13 : 0 ≤ a0.toInt ∧ a0.toInt ≤ 400 := iv_le_l t11 i12 i9 (by decide)
    refine lv_if_ne (tgt := 15) hx hb dX13_score_10 (by decide) (fun c14 => ?_) (fun c14 => ?_)
    · --10 taken
      refine lv_aload_n hx hb dX13_score_15 rfl (lv_at hl 0 rfl) ?_
      refine lv_iconst (v := 0) hx hb dX13_score_16 (by decide) ?_
      refine th_put (ci := 14) (C := RX13) (T := TX13) (N := 97) (v := .int 0) (ty := .int) hx hb hts hinX13 tyX13 tyX13_ok nmX13 hown hK hP (WX_D hD) hS hI 0 (Nat.le_of_ble_eq_true rfl) rfl rfl 55 (Nat.le_of_ble_eq_true rfl) (hts _ (vA_in _ _ (in_32 _ (zs16 (zs1 (zs1 (zs1 (zs0)))))))) (fun _ h9 => h9) rfl (by decide +kernel) rfl rfl (okI rfl (iv_w ln_0 (by decide))) dX13_score_17 (fun H locs E15 pw16 hI hP hS => ?_)
      have hKp := hKp.pw pw16 rfl
      have hL20 : ∀ d : Nat, ∀ (w20_0_55 : Int32) (E20_ : Nat → va_E) (H : Heap) (locs : List Loc) (ls : Array Slot), 0 ≤ w20_0_55.toInt ∧ w20_0_55.toInt ≤ 20 → (∀ r9 : Nat, (r9 : Int) < w20_0_55.toInt → (xi (E 20) r9).toInt ≤ a0.toInt) → 0 ≤ w20_0_55.toInt ∧ w20_0_55.toInt ≤ (xi (E 0) 46).toInt → 20 - w20_0_55.toInt < (d : Int) → IX cT shM spM 72 ad E20_ → Kp w_scoreM E E20_ → xv (E20_ 0) 55 = .int w20_0_55 → xv (E20_ 0) 0 = .int 0 → xi (E20_ 32) = g1 → xi (E20_ 36) = g2 → xi (E20_ 37) = g3 → xi (E20_ 33) = g4 → va_P (dC, dI) vwCl (WX 72 ad E20_) H → va_S A s.heap H locs → lv_has ls 7 [(0, .ref (ad 0)), (1, .int a0)] → W p l e (headSpec v_scoreM rm_scoreM).room s m args below meth c H locs 0 0 Q (F0 m 20 ls []) := by
        intro d
        induction d with
        | zero =>
          intro w20_0_55 E20_ H locs ls hw20_0_55 hx20_0 hx20_1 hx20_2 hI hKp hs20_0_55 hs20_0_0 hr20_32 hr20_36 hr20_37 hr20_33 hP hS hl
          exact absurd hx20_2 (by first | exact ms_zu hw20_0_55.2 | omega)
        | succ d ih20 =>
          intro w20_0_55 E20_ H locs ls hw20_0_55 hx20_0 hx20_1 hx20_2 hI hKp hs20_0_55 hs20_0_0 hr20_32 hr20_36 hr20_37 hr20_33 hP hS hl
          refine lv_aload_n hx hb dX13_score_20 rfl (lv_at hl 0 rfl) ?_
          refine th_get (ci := 14) (C := RX13) (T := TX13) (N := 97) (v := .int w20_0_55) hx hb hts hinX13 hown hK hP hI 0 (Nat.le_of_ble_eq_true rfl) rfl rfl 55 (Nat.le_of_ble_eq_true rfl) (hts _ (vA_in _ _ (in_32 _ (zs16 (zs1 (zs1 (zs1 (zs0)))))))) (fun _ h9 => h9) hs20_0_55 dX13_score_21 ?_
          refine lv_aload_n hx hb dX13_score_24 rfl (lv_at hl 0 rfl) ?_
          have i17 : 0 ≤ (xi (E 0) 46).toInt ∧ (xi (E 0) 46).toInt ≤ 20 := hI0.iv 0 (Nat.le_of_ble_eq_true rfl) rfl (Nat.le_of_ble_eq_true rfl) rfl
          refine th_get (ci := 14) (C := RX13) (T := TX13) (N := 97) (v := .int (xi (E 0) 46)) hx hb hts hinX13 hown hK hP hI 0 (Nat.le_of_ble_eq_true rfl) rfl rfl 46 (Nat.le_of_ble_eq_true rfl) (hts _ (vA_in _ _ (in_24 _ (zs16 (zs1 (zs0)))))) (fun _ h9 => h9) (th_v0 hKp hI0 0 (Nat.le_of_ble_eq_true rfl) rfl (Nat.le_of_ble_eq_true rfl) rfl rfl) dX13_score_25 ?_
          have hJ57 : ∀ (H : Heap) (locs : List Loc) (ls : Array Slot), (w20_0_55.toInt = (xi (E 0) 46).toInt ∨ ¬ (xi (E 20) w20_0_55.toNatClampNeg).toInt ≤ a0.toInt) → va_P (dC, dI) vwCl (WX 72 ad E20_) H → va_S A s.heap H locs → lv_has ls 7 [(0, .ref (ad 0)), (1, .int a0)] → W p l e (headSpec v_scoreM rm_scoreM).room s m args below meth c H locs 0 0 Q (F0 m 57 ls []) := by
            intro H locs ls hx57_0 hP hS hl
            refine lv_iconst (v := 0) hx hb dX13_score_57 (by decide) ?_
            refine lv_istore_n (lv' := [(2, .int 0), (0, .ref (ad 0)), (1, .int a0)]) hx hb dX13_score_58 rfl hl (by decide) rfl (fun ls hl => ?_)
            have hL59 : ∀ d : Nat, ∀ (g59_32 : Nat → Int32) (g59_36 : Nat → Int32) (g59_37 : Nat → Int32) (v59_2 : Int32) (E59_ : Nat → va_E) (H : Heap) (locs : List Loc) (ls : Array Slot), 0 ≤ v59_2.toInt ∧ v59_2.toInt ≤ 16 → (∀ b9 : Nat, b9 < v59_2.toNatClampNeg → ScI (fun r9 b9 p9 => PtM E (nI r9) (nI b9) a0 p9) (EnK E a0.toInt w20_0_55.toNatClampNeg) w20_0_55.toNatClampNeg g59_32 g59_36 g59_37 b9) → v59_2.toInt ≤ (xi (E 0) 8).toInt → 16 - v59_2.toInt < (d : Int) → IX cT shM spM 72 ad E59_ → Kp w_scoreM E E59_ → xv (E59_ 0) 55 = .int w20_0_55 → xv (E59_ 0) 0 = .int 0 → xi (E59_ 32) = g59_32 → xi (E59_ 36) = g59_36 → xi (E59_ 37) = g59_37 → xi (E59_ 33) = g4 → va_P (dC, dI) vwCl (WX 72 ad E59_) H → va_S A s.heap H locs → lv_has ls 7 [(2, .int v59_2), (0, .ref (ad 0)), (1, .int a0)] → W p l e (headSpec v_scoreM rm_scoreM).room s m args below meth c H locs 0 0 Q (F0 m 59 ls []) := by
              intro d
              induction d with
              | zero =>
                intro g59_32 g59_36 g59_37 v59_2 E59_ H locs ls hv59_2 hx59_0 hx59_1 hx59_2 hI hKp hs59_0_55 hs59_0_0 hr59_32 hr59_36 hr59_37 hr59_33 hP hS hl
                exact absurd hx59_2 (by first | exact ms_zu hv59_2.2 | omega)
              | succ d ih59 =>
                intro g59_32 g59_36 g59_37 v59_2 E59_ H locs ls hv59_2 hx59_0 hx59_1 hx59_2 hI hKp hs59_0_55 hs59_0_0 hr59_32 hr59_36 hr59_37 hr59_33 hP hS hl
                refine lv_iload_n hx hb dX13_score_59 rfl (lv_at hl 0 rfl) ?_
                refine lv_aload_n hx hb dX13_score_60 rfl (lv_at hl 1 rfl) ?_
                have i18 : 0 ≤ (xi (E 0) 8).toInt ∧ (xi (E 0) 8).toInt ≤ 16 := hI0.iv 0 (Nat.le_of_ble_eq_true rfl) rfl (Nat.le_of_ble_eq_true rfl) rfl
                refine th_get (ci := 14) (C := RX13) (T := TX13) (N := 97) (v := .int (xi (E 0) 8)) hx hb hts hinX13 hown hK hP hI 0 (Nat.le_of_ble_eq_true rfl) rfl rfl 8 (Nat.le_of_ble_eq_true rfl) (hts _ (vA_in _ _ (in_24 _ (zs16 (zs4 (zs1 (zs1 (zs0)))))))) (fun _ h9 => h9) (th_v0 hKp hI0 0 (Nat.le_of_ble_eq_true rfl) rfl (Nat.le_of_ble_eq_true rfl) rfl rfl) dX13_score_61 ?_
                refine lv_icmp_ge (tgt := 156) hx hb dX13_score_64 (by decide) (fun c19 => ?_) (fun c19 => ?_)
                · --64 taken
                  have t20 : (xi (E 0) 8).toInt ≤ v59_2.toInt := ti_le c19
                  refine lv_aload_n hx hb dX13_score_156 rfl (lv_at hl 1 rfl) ?_
                  refine th_v (va_runV (As := []) (rest := []) ⟨hx, hb, hml, hown, hts⟩ (q_clearX l dC dI cT ad E59_ H.size hI) (cwV 0 hts (gi_V (in_28 _ (zs16 (zs4 (zs4 (zs4 (zs1 (zs1 (zs0)))))))) (in_28 _ (zs16 (zs4 (zs4 (zs4 (zs1 (zs1 (zs1 (zs0))))))))) (in_28 _ (zs16 (zs16 (zs0)))) (in_24 _ (zs4 (zs4 (zs4 (zs1 (zs1 (zs1 (zs0)))))))) (in_28 _ (zs16 (zs16 (zs1 (zs0)))))) rfl rfl rfl ⟨rfl, hz_yX13_clear_0⟩ ⟨Nat.le_of_ble_eq_true rfl, Nat.le_of_ble_eq_true rfl⟩) ⟨HW_bl, va_recv hK hP (ci := 14) (q0 := 0) rfl (hI.ob 0 (Nat.le_of_ble_eq_true rfl) rfl), (HW_wi hP hK (WX_D hD) hS hA hEV)⟩ rfl rfl hl.1 rfl (lv_room (Nat.le_of_ble_eq_true rfl)) dX13_score_157 ⟨Nat.le_of_ble_eq_true rfl, Nat.le_of_ble_eq_true rfl⟩) (WX_D hD) hS hA (fun E22 H locs hw hP hS => ?_)
                  obtain ⟨hI, kq23, hw⟩ := hw
                  have hKb := hKp
                  have hKp := hKp.tr kq23 (wl_sub rfl rfl)
                  have f24 := hw
                  refine lv_aload_n hx hb dX13_score_160 rfl (lv_at hl 1 rfl) ?_
                  refine th_get (ci := 14) (C := RX13) (T := TX13) (N := 97) (v := .ref (ad 12)) hx hb hts hinX13 hown hK hP hI 0 (Nat.le_of_ble_eq_true rfl) rfl rfl 15 (Nat.le_of_ble_eq_true rfl) (hts _ (vA_in _ _ (in_25 _ (zs16 (zs16 (zs4 (zs1 (zs0)))))))) (fun _ h9 => h9) (hI.fr 0 (Nat.le_of_ble_eq_true rfl) rfl (Nat.le_of_ble_eq_true rfl) 12 rfl) dX13_score_161 ?_
                  refine lv_bipush (v := 99) hx hb dX13_score_164 (by decide) ?_
                  refine lv_aload_n hx hb dX13_score_166 rfl (lv_at hl 1 rfl) ?_
                  refine th_get (ci := 14) (C := RX13) (T := TX13) (N := 97) (v := .int w20_0_55) hx hb hts hinX13 hown hK hP hI 0 (Nat.le_of_ble_eq_true rfl) rfl rfl 55 (Nat.le_of_ble_eq_true rfl) (hts _ (vA_in _ _ (in_32 _ (zs16 (zs1 (zs1 (zs1 (zs0)))))))) (fun _ h9 => h9) ((kq23 0 55 rfl).trans hs59_0_55) dX13_score_167 ?_
                  have n25 : vp_in (99 : Int32) 128 := (iv_in (n := 128) ln_99 (by decide))
                  refine th_iast hx hb hK hP (WX_D hD) hS hI 12 (Nat.le_of_ble_eq_true rfl) rfl rfl n25 (okI rfl (iv_w hw20_0_55 (by decide))) dX13_score_170 (fun H locs E26 pw27 hI hP hS => ?_)
                  have hKp := hKp.pw pw27 rfl
                  have k28 : mLt E26 = lset lz 7 w20_0_55 := (mL_set (k := 7) pw27 (by decide) rfl).trans (by rw [f24])
                  refine lv_iconst (v := 0) hx hb dX13_score_171 (by decide) ?_
                  refine lv_aload_n hx hb dX13_score_172 rfl (lv_at hl 1 rfl) ?_
                  refine th_get (ci := 14) (C := RX13) (T := TX13) (N := 97) (v := .int w20_0_55) hx hb hts hinX13 hown hK hP hI 0 (Nat.le_of_ble_eq_true rfl) rfl rfl 55 (Nat.le_of_ble_eq_true rfl) (hts _ (vA_in _ _ (in_32 _ (zs16 (zs1 (zs1 (zs1 (zs0)))))))) (fun _ h9 => h9) ((pw27.2 0 55 (fun q9 => absurd q9.1 (Nat.ne_of_beq_eq_false rfl))).trans ((kq23 0 55 rfl).trans hs59_0_55)) dX13_score_173 ?_
                  refine lv_iconst (v := 1) hx hb dX13_score_176 (by decide) ?_
                  refine lv_isub hx hb dX13_score_177 ?_
                  refine lv_topi (fun y29 ey29 => ?_)
                  obtain ⟨ty29, iy29⟩ := ti_sub (e := (-1)) (f := 19) hw20_0_55 ln_1 ey29 (by decide)
                  have ty29 : y29.toInt = w20_0_55.toInt - 1 := ty29
                  have iy29 : -1 ≤ y29.toInt ∧ y29.toInt ≤ 19 := iy29
                  refine lv_aload_n hx hb dX13_score_178 rfl (lv_at hl 1 rfl) ?_
                  refine lv_bipush (v := 116) hx hb dX13_score_179 (by decide) ?_
                  refine lv_iload_n hx hb dX13_score_181 rfl (lv_at hl 2 rfl) ?_
                  refine lv_iload_n hx hb dX13_score_182 rfl (lv_at hl 2 rfl) ?_
                  have z116 := ln_116
                  refine th_i (va_runV (As := [.int 116, .int a0, .int a0]) (rest := [.int y29, .int 0]) ⟨hx, hb, hml, hown, hts⟩ (q_worthM l dC dI cT ad E26 H.size (116 : Int32) a0 a0 hI (iv_w ln_116 (by decide)) (by exact hh0.cg (fun j9 => hKp.ei 8 j9 rfl) (fun j9 => hKp.ei 9 j9 rfl) (hKp.ei 0 17 rfl))) (cwV 3 hts (gi_V (in_28 _ (zs16 (zs16 (zs1 (zs1 (zs0)))))) (in_28 _ (zs16 (zs16 (zs1 (zs1 (zs1 (zs0))))))) (in_28 _ (zs16 (zs16 (zs4 (zs0))))) (in_24 _ (zs4 (zs4 (zs4 (zs1 (zs1 (zs1 (zs0)))))))) (in_28 _ (zs16 (zs16 (zs4 (zs1 (zs0))))))) rfl rfl rfl ⟨rfl, hz_yX13_worth_3⟩ ⟨Nat.le_of_ble_eq_true rfl, Nat.le_of_ble_eq_true rfl⟩) ⟨HW_bl, va_recv hK hP (ci := 14) (q0 := 0) rfl (hI.ob 0 (Nat.le_of_ble_eq_true rfl) rfl), (HW_wi hP hK (WX_D hD) hS hA hEV)⟩ rfl rfl hl.1 rfl (lv_room (Nat.le_of_ble_eq_true rfl)) dX13_score_183 ⟨Nat.le_of_ble_eq_true rfl, Nat.le_of_ble_eq_true rfl⟩) (WX_D hD) hS hA (fun r30 E31 H locs hw hP hS => ?_)
                  obtain ⟨hI, kq32, hw⟩ := hw
                  have hKb := hKp
                  have hKp := hKp.tr kq32 (wl_sub rfl rfl)
                  have f33 := hw
                  have i34 : 0 ≤ (xi (E 0) 17).toInt ∧ (xi (E 0) 17).toInt ≤ 16 := (show 0 ≤ (xi (E 0) 17).toInt ∧ (xi (E 0) 17).toInt ≤ 16 from hI0.iv 0 (Nat.le_of_ble_eq_true rfl) rfl (Nat.le_of_ble_eq_true rfl) rfl)
                  have k36 : KdN E E26 := KdN.of hKb rfl rfl rfl rfl rfl
                  have k35 : r30 = wML (lset lz 7 w20_0_55) E 116 (lawM E a0 a0) := f33.trans (by rw [k28, k36.wml, k36.law]; rfl)
                  refine va_mmin hx hb (by rw [hml]; exact hl.1.symm) hown (hts _ (vA_in _ _ (in_28 _ (zs16 (zs4 (zs4 (zs1 (zs1 (zs0))))))))) (hts _ (vA_in _ _ (in_0 _ (zs16 (zs16 (zs4 (zs0))))))) (hts _ (vA_in _ _ (in_0 _ (zs16 (zs16 (zs1 (zs0))))))) (hts _ (vA_in _ _ (in_0 _ (zs16 (zs16 (zs4 (zs1 (zs0)))))))) (Nat.le_of_ble_eq_true rfl) (Nat.le_of_ble_eq_true rfl) (Nat.le_of_ble_eq_true rfl) (Nat.le_of_ble_eq_true rfl) dX13_score_186 ?_
                  refine lv_topi (fun y37 ey37 => ?_)
                  obtain ⟨ty37, iy37⟩ := ti_min (e := (-2147483648)) (f := 19) iy29 (iv_all _) ey37 (by decide)
                  have iy37 : -2147483648 ≤ y37.toInt ∧ y37.toInt ≤ 19 := iy37
                  refine va_mmax hx hb (by rw [hml]; exact hl.1.symm) hown (hts _ (vA_in _ _ (in_25 _ (zs16 (zs4 (zs4 (zs1 (zs1 (zs1 (zs0)))))))))) (hts _ (vA_in _ _ (in_0 _ (zs16 (zs16 (zs0)))))) (hts _ (vA_in _ _ (in_0 _ (zs16 (zs16 (zs1 (zs0))))))) (hts _ (vA_in _ _ (in_0 _ (zs16 (zs16 (zs1 (zs1 (zs0)))))))) (Nat.le_of_ble_eq_true rfl) (Nat.le_of_ble_eq_true rfl) (Nat.le_of_ble_eq_true rfl) (Nat.le_of_ble_eq_true rfl) dX13_score_189 ?_
                  refine lv_topi (fun y38 ey38 => ?_)
                  obtain ⟨ty38, iy38⟩ := ti_max (e := 0) (f := 19) ln_0 iy37 ey38 (by decide)
                  have iy38 : 0 ≤ y38.toInt ∧ y38.toInt ≤ 19 := iy38
                  have k39 : y38.toInt = max 0 (min (w20_0_55.toInt - 1) (wML (lset lz 7 w20_0_55) E 116 (lawM E a0 a0)).toInt) := by rw [← k35]; have z0 := ln_0; omega
                  have hoK : y38.toInt ≤ 0 ∨ y38.toInt < w20_0_55.toInt := by omega
                  have k40 : ∀ b9 : Nat, b9 < (xi (E 0) 8).toNatClampNeg → ScI (fun r9 b9 p9 => PtM E (nI r9) (nI b9) a0 p9) (EnK E a0.toInt w20_0_55.toNatClampNeg) w20_0_55.toNatClampNeg g59_32 g59_36 g59_37 b9 := fun b9 h9 => hx59_0 b9 (by rw [tn_] at h9 ⊢; omega)
                  refine lv_istore_n (lv' := [(2, .int y38), (0, .ref (ad 0)), (1, .int a0)]) hx hb dX13_score_192 rfl hl (by decide) rfl (fun ls hl => ?_)
                  refine lv_iconst (v := 0) hx hb dX13_score_193 (by decide) ?_
                  refine lv_istore_n (lv' := [(3, .int 0), (2, .int y38), (0, .ref (ad 0)), (1, .int a0)]) hx hb dX13_score_194 rfl hl (by decide) rfl (fun ls hl => ?_)
                  have hL195 : ∀ d : Nat, ∀ (g195_36 : Nat → Int32) (g195_33 : Nat → Int32) (v195_3 : Int32) (E195_ : Nat → va_E) (H : Heap) (locs : List Loc) (ls : Array Slot), 0 ≤ v195_3.toInt ∧ v195_3.toInt ≤ 16 → (∀ b9 : Nat, b9 < v195_3.toNatClampNeg → ScX (fun r9 b9 p9 => PtM E (nI r9) (nI b9) a0 p9) w20_0_55.toNatClampNeg y38.toNatClampNeg g59_32 g195_36 g195_33 b9) → (∀ b9 : Nat, v195_3.toNatClampNeg ≤ b9 → b9 < (xi (E 0) 8).toNatClampNeg → ∀ r9 : Nat, r9 < w20_0_55.toNatClampNeg → g195_36 (16 * r9 + b9) = 0) → v195_3.toInt ≤ (xi (E 0) 8).toInt → 16 - v195_3.toInt < (d : Int) → IX cT shM spM 72 ad E195_ → Kp w_scoreM E E195_ → xv (E195_ 0) 55 = .int w20_0_55 → xv (E195_ 0) 0 = .int 0 → xi (E195_ 32) = g59_32 → xi (E195_ 36) = g195_36 → xi (E195_ 37) = g59_37 → xi (E195_ 33) = g195_33 → va_P (dC, dI) vwCl (WX 72 ad E195_) H → va_S A s.heap H locs → lv_has ls 7 [(3, .int v195_3), (2, .int y38), (0, .ref (ad 0)), (1, .int a0)] → W p l e (headSpec v_scoreM rm_scoreM).room s m args below meth c H locs 0 0 Q (F0 m 195 ls []) := by
                    intro d
                    induction d with
                    | zero =>
                      intro g195_36 g195_33 v195_3 E195_ H locs ls hv195_3 hx195_0 hx195_1 hx195_2 hx195_3 hI hKp hs195_0_55 hs195_0_0 hr195_32 hr195_36 hr195_37 hr195_33 hP hS hl
                      exact absurd hx195_3 (by first | exact ms_zu hv195_3.2 | omega)
                    | succ d ih195 =>
                      intro g195_36 g195_33 v195_3 E195_ H locs ls hv195_3 hx195_0 hx195_1 hx195_2 hx195_3 hI hKp hs195_0_55 hs195_0_0 hr195_32 hr195_36 hr195_37 hr195_33 hP hS hl
                      refine lv_iload_n hx hb dX13_score_195 rfl (lv_at hl 0 rfl) ?_
                      refine lv_aload_n hx hb dX13_score_196 rfl (lv_at hl 2 rfl) ?_
                      refine th_get (ci := 14) (C := RX13) (T := TX13) (N := 97) (v := .int (xi (E 0) 8)) hx hb hts hinX13 hown hK hP hI 0 (Nat.le_of_ble_eq_true rfl) rfl rfl 8 (Nat.le_of_ble_eq_true rfl) (hts _ (vA_in _ _ (in_24 _ (zs16 (zs4 (zs1 (zs1 (zs0)))))))) (fun _ h9 => h9) (th_v0 hKp hI0 0 (Nat.le_of_ble_eq_true rfl) rfl (Nat.le_of_ble_eq_true rfl) rfl rfl) dX13_score_197 ?_
                      refine lv_icmp_ge (tgt := 375) hx hb dX13_score_200 (by decide) (fun c41 => ?_) (fun c41 => ?_)
                      · --200 taken
                        have t42 : (xi (E 0) 8).toInt ≤ v195_3.toInt := ti_le c41
                        refine lv_iconst (v := 1) hx hb dX13_score_375 (by decide) ?_
                        rw [hQ]
                        exact W.zret (v := 1) hx hb hr rfl (fun t ht hW => ⟨⟨1, E195_, rfl, ⟨hI, hKp, Or.inl ⟨rfl, by have h8 := ln_1; all_goals omega, ⟨w20_0_55, y38, vi_e hs195_0_55, (by rw [show xi (E195_ 32) = g59_32 from hr195_32, show xi (E195_ 36) = g195_36 from hr195_36, show xi (E195_ 37) = g59_37 from hr195_37, show xi (E195_ 33) = g195_33 from hr195_33]; exact ⟨⟨⟨by omega, by omega⟩, hx20_0, hx57_0⟩, k39, (fun b9 h9 => by obtain ⟨q1, q2, q3⟩ := hx195_0 b9 (by rw [tn_] at h9 ⊢; omega); exact ⟨q1, (k40 b9 h9).2.1, q2, q3⟩)⟩)⟩⟩⟩, by show va_P (dC, dI) vwCl (WX 72 ad E195_) t.heap; rw [ht]; exact hP⟩, hS.F ht⟩) hS.2.2 dX13_score_376
                      · --200 not
                        have t43 : v195_3.toInt < (xi (E 0) 8).toInt := ti_nle c41
                        have i44 : 0 ≤ v195_3.toInt ∧ v195_3.toInt ≤ 15 := iv_lt_l t43 hv195_3 i18 (by decide)
                        have i45 : 1 ≤ (xi (E 0) 8).toInt ∧ (xi (E 0) 8).toInt ≤ 16 := iv_lt_r t43 hv195_3 i18 (by decide)
                        refine lv_iconst (v := 0) hx hb dX13_score_203 (by decide) ?_
                        refine lv_istore (lv' := [(4, .int 0), (3, .int v195_3), (2, .int y38), (0, .ref (ad 0)), (1, .int a0)]) hx hb dX13_score_204 hl (by decide) rfl (fun ls hl => ?_)
                        have hL206 : ∀ d : Nat, ∀ (g206_36 : Nat → Int32) (v206_4 : Int32) (E206_ : Nat → va_E) (H : Heap) (locs : List Loc) (ls : Array Slot), 0 ≤ v206_4.toInt ∧ v206_4.toInt ≤ 19 → ThR (fun r9 : Nat => (g59_32 (16 * r9 + v195_3.toNatClampNeg)).toInt) w20_0_55.toNatClampNeg v206_4.toNatClampNeg (fun r9 : Nat => g206_36 (16 * r9 + v195_3.toNatClampNeg)) → Frm g195_36 g206_36 v195_3.toNatClampNeg → v206_4.toInt ≤ y38.toInt → 19 - v206_4.toInt < (d : Int) → IX cT shM spM 72 ad E206_ → Kp w_scoreM E E206_ → xv (E206_ 0) 55 = .int w20_0_55 → xv (E206_ 0) 0 = .int 0 → xi (E206_ 32) = g59_32 → xi (E206_ 36) = g206_36 → xi (E206_ 37) = g59_37 → xi (E206_ 33) = g195_33 → va_P (dC, dI) vwCl (WX 72 ad E206_) H → va_S A s.heap H locs → lv_has ls 7 [(4, .int v206_4), (3, .int v195_3), (2, .int y38), (0, .ref (ad 0)), (1, .int a0)] → W p l e (headSpec v_scoreM rm_scoreM).room s m args below meth c H locs 0 0 Q (F0 m 206 ls []) := by
                          intro d
                          induction d with
                          | zero =>
                            intro g206_36 v206_4 E206_ H locs ls hv206_4 hx206_0 hx206_1 hx206_2 hx206_3 hI hKp hs206_0_55 hs206_0_0 hr206_32 hr206_36 hr206_37 hr206_33 hP hS hl
                            exact absurd hx206_3 (by first | exact ms_zu hv206_4.2 | omega)
                          | succ d ih206 =>
                            intro g206_36 v206_4 E206_ H locs ls hv206_4 hx206_0 hx206_1 hx206_2 hx206_3 hI hKp hs206_0_55 hs206_0_0 hr206_32 hr206_36 hr206_37 hr206_33 hP hS hl
                            refine lv_iload hx hb dX13_score_206 (lv_at hl 0 rfl) ?_
                            refine lv_iload_n hx hb dX13_score_208 rfl (lv_at hl 2 rfl) ?_
                            refine lv_icmp_ge (tgt := 304) hx hb dX13_score_209 (by decide) (fun c46 => ?_) (fun c46 => ?_)
                            · --209 taken
                              have t47 : y38.toInt ≤ v206_4.toInt := ti_le c46
                              refine lv_aload_n hx hb dX13_score_304 rfl (lv_at hl 3 rfl) ?_
                              refine th_get (ci := 14) (C := RX13) (T := TX13) (N := 97) (v := .ref (ad 33)) hx hb hts hinX13 hown hK hP hI 0 (Nat.le_of_ble_eq_true rfl) rfl rfl 50 (Nat.le_of_ble_eq_true rfl) (hts _ (vA_in _ _ (in_32 _ (zs4 (zs4 (zs1 (zs1 (zs0)))))))) (fun _ h9 => h9) (hI.fr 0 (Nat.le_of_ble_eq_true rfl) rfl (Nat.le_of_ble_eq_true rfl) 33 rfl) dX13_score_305 ?_
                              refine lv_iload_n hx hb dX13_score_308 rfl (lv_at hl 1 rfl) ?_
                              refine lv_iconst (v := 0) hx hb dX13_score_309 (by decide) ?_
                              have n48 : vp_in v195_3 16 := (iv_in (n := 16) i44 (by decide))
                              refine th_iast hx hb hK hP (WX_D hD) hS hI 33 (Nat.le_of_ble_eq_true rfl) rfl rfl n48 (okI rfl (iv_w ln_0 (by decide))) dX13_score_310 (fun H locs E49 pw50 hI hP hS => ?_)
                              have hKp := hKp.pw pw50 rfl
                              obtain ⟨g51, eg51⟩ : ∃ z : Nat → Int32, z = upd g195_33 v195_3.toNatClampNeg (0 : Int32) := ⟨_, rfl⟩
                              have hg51 : xi (E49 33) = g51 := by rw [pw50.eu, hr206_33, eg51]
                              refine lv_iconst (v := 0) hx hb dX13_score_311 (by decide) ?_
                              refine lv_istore (lv' := [(4, .int 0), (3, .int v195_3), (2, .int y38), (0, .ref (ad 0)), (1, .int a0)]) hx hb dX13_score_312 hl (by decide) rfl (fun ls hl => ?_)
                              have hL314 : ∀ d : Nat, ∀ (g314_33 : Nat → Int32) (v314_4 : Int32) (E314_ : Nat → va_E) (H : Heap) (locs : List Loc) (ls : Array Slot), 0 ≤ v314_4.toInt ∧ v314_4.toInt ≤ 20 → (g314_33 v195_3.toNatClampNeg).toInt = sumF (ttF (fun r9 : Nat => (g59_32 (16 * r9 + v195_3.toNatClampNeg)).toInt) (fun r9 : Nat => g206_36 (16 * r9 + v195_3.toNatClampNeg))) v314_4.toNatClampNeg → (∀ b9 : Nat, ¬ b9 = v195_3.toNatClampNeg → g314_33 b9 = g195_33 b9) → 0 ≤ (g314_33 v195_3.toNatClampNeg).toInt ∧ (g314_33 v195_3.toNatClampNeg).toInt ≤ 10000 * v314_4.toInt → v314_4.toInt ≤ w20_0_55.toInt → 20 - v314_4.toInt < (d : Int) → IX cT shM spM 72 ad E314_ → Kp w_scoreM E E314_ → xv (E314_ 0) 55 = .int w20_0_55 → xv (E314_ 0) 0 = .int 0 → xi (E314_ 32) = g59_32 → xi (E314_ 36) = g206_36 → xi (E314_ 37) = g59_37 → xi (E314_ 33) = g314_33 → va_P (dC, dI) vwCl (WX 72 ad E314_) H → va_S A s.heap H locs → lv_has ls 7 [(4, .int v314_4), (3, .int v195_3), (2, .int y38), (0, .ref (ad 0)), (1, .int a0)] → W p l e (headSpec v_scoreM rm_scoreM).room s m args below meth c H locs 0 0 Q (F0 m 314 ls []) := by
                                intro d
                                induction d with
                                | zero =>
                                  intro g314_33 v314_4 E314_ H locs ls hv314_4 hx314_0 hx314_1 hx314_2 hx314_3 hx314_4 hI hKp hs314_0_55 hs314_0_0 hr314_32 hr314_36 hr314_37 hr314_33 hP hS hl
                                  exact absurd hx314_4 (by first | exact ms_zu hv314_4.2 | omega)
                                | succ d ih314 =>
                                  intro g314_33 v314_4 E314_ H locs ls hv314_4 hx314_0 hx314_1 hx314_2 hx314_3 hx314_4 hI hKp hs314_0_55 hs314_0_0 hr314_32 hr314_36 hr314_37 hr314_33 hP hS hl
                                  refine lv_iload hx hb dX13_score_314 (lv_at hl 0 rfl) ?_
                                  refine lv_aload_n hx hb dX13_score_316 rfl (lv_at hl 3 rfl) ?_
                                  refine th_get (ci := 14) (C := RX13) (T := TX13) (N := 97) (v := .int w20_0_55) hx hb hts hinX13 hown hK hP hI 0 (Nat.le_of_ble_eq_true rfl) rfl rfl 55 (Nat.le_of_ble_eq_true rfl) (hts _ (vA_in _ _ (in_32 _ (zs16 (zs1 (zs1 (zs1 (zs0)))))))) (fun _ h9 => h9) hs314_0_55 dX13_score_317 ?_
                                  refine lv_icmp_ge (tgt := 369) hx hb dX13_score_320 (by decide) (fun c52 => ?_) (fun c52 => ?_)
                                  · --320 taken
                                    have t53 : w20_0_55.toInt ≤ v314_4.toInt := ti_le c52
                                    obtain ⟨y54, ey54⟩ : ∃ y : Int32, y = v195_3 + (1 : Int32) := ⟨_, rfl⟩
                                    obtain ⟨ty54, iy54⟩ := ti_add (e := 1) (f := 16) i44 ln_1 ey54 (by decide)
                                    have ty54 : y54.toInt = v195_3.toInt + 1 := ty54
                                    have iy54 : 1 ≤ y54.toInt ∧ y54.toInt ≤ 16 := iy54
                                    refine lv_iinc (v := y54) (lv' := [(3, .int y54), (4, .int v314_4), (2, .int y38), (0, .ref (ad 0)), (1, .int a0)]) hx hb dX13_score_369 hl (k := 1) rfl (by rw [ey54]; rfl) (by decide) rfl (fun ls hl => ?_)
                                    refine lv_goto (tgt := 195) hx hb dX13_score_372 (by decide) ?_
                                    exact ih195 g206_36 g314_33 y54 E314_ _ _ _ (iv_w iy54 (by decide)) (ScX.next hx195_0 Frm.rf hx206_1 hx314_1 (fun r9 q9 => (k40 v195_3.toNatClampNeg (by rw [tn_, tn_]; omega)).1 r9 q9) (by rw [(show y38.toNatClampNeg = v206_4.toNatClampNeg by rw [tn_, tn_]; omega)]; exact hx206_0) (by rw [← (show v314_4.toNatClampNeg = w20_0_55.toNatClampNeg by rw [tn_, tn_]; omega)]; exact hx314_0) (by omega) ⟨by omega, by omega⟩) (fun b9 h8 h9 r9 q9 => by rw [hx206_1 r9 b9 (by omega) (by rw [tn_] at h8 ⊢; omega)]; exact hx195_1 b9 (by rw [tn_] at h8 ⊢; omega) h9 r9 q9) (by omega) (by first | exact ms_su hx195_3 ty54 (by decide) | omega) hI hKp hs314_0_55 hs314_0_0 hr314_32 hr314_36 hr314_37 hr314_33 hP hS (lv_sub hl [0, 2, 3, 4] rfl)
                                  · --320 not
                                    have t55 : v314_4.toInt < w20_0_55.toInt := ti_nle c52
                                    have i56 : 0 ≤ v314_4.toInt ∧ v314_4.toInt ≤ 19 := iv_lt_l t55 hv314_4 hw20_0_55 (by decide)
                                    have i57 : 1 ≤ w20_0_55.toInt ∧ w20_0_55.toInt ≤ 20 := iv_lt_r t55 hv314_4 hw20_0_55 (by decide)
                                    refine lv_aload_n hx hb dX13_score_323 rfl (lv_at hl 3 rfl) ?_
                                    refine th_get (ci := 14) (C := RX13) (T := TX13) (N := 97) (v := .ref (ad 33)) hx hb hts hinX13 hown hK hP hI 0 (Nat.le_of_ble_eq_true rfl) rfl rfl 50 (Nat.le_of_ble_eq_true rfl) (hts _ (vA_in _ _ (in_32 _ (zs4 (zs4 (zs1 (zs1 (zs0)))))))) (fun _ h9 => h9) (hI.fr 0 (Nat.le_of_ble_eq_true rfl) rfl (Nat.le_of_ble_eq_true rfl) 33 rfl) dX13_score_324 ?_
                                    refine lv_iload_n hx hb dX13_score_327 rfl (lv_at hl 1 rfl) ?_
                                    refine lv_dup2_11 hx hb dX13_score_328 rfl rfl ?_
                                    have n59 : vp_in v195_3 16 := (iv_in (n := 16) i44 (by decide))
                                    refine th_iald hx hb hK hP hI 33 (Nat.le_of_ble_eq_true rfl) rfl rfl n59 dX13_score_329 (fun y58 ey58 => ?_)
                                    have ey58 := ey58.trans (congrFun hr314_33 _)
                                    have k60 : 0 ≤ y58.toInt ∧ y58.toInt ≤ 200000 := by have h9 := hx314_2; rw [← ey58] at h9; omega
                                    refine lv_aload_n hx hb dX13_score_330 rfl (lv_at hl 3 rfl) ?_
                                    refine th_get (ci := 14) (C := RX13) (T := TX13) (N := 97) (v := .ref (ad 36)) hx hb hts hinX13 hown hK hP hI 0 (Nat.le_of_ble_eq_true rfl) rfl rfl 53 (Nat.le_of_ble_eq_true rfl) (hts _ (vA_in _ _ (in_32 _ (zs4 (zs4 (zs4 (zs1 (zs0)))))))) (fun _ h9 => h9) (hI.fr 0 (Nat.le_of_ble_eq_true rfl) rfl (Nat.le_of_ble_eq_true rfl) 36 rfl) dX13_score_331 ?_
                                    refine lv_bipush (v := 16) hx hb dX13_score_334 (by decide) ?_
                                    refine lv_iload hx hb dX13_score_336 (lv_at hl 0 rfl) ?_
                                    refine lv_imul hx hb dX13_score_338 ?_
                                    refine lv_topi (fun y61 ey61 => ?_)
                                    obtain ⟨ty61, iy61⟩ := ti_mul (e := 0) (f := 304) ln_16 i56 ey61 (by decide)
                                    have ty61 : y61.toInt = 16 * v314_4.toInt := ty61
                                    have iy61 : 0 ≤ y61.toInt ∧ y61.toInt ≤ 304 := iy61
                                    refine lv_iload_n hx hb dX13_score_339 rfl (lv_at hl 1 rfl) ?_
                                    refine lv_iadd hx hb dX13_score_340 ?_
                                    refine lv_topi (fun y62 ey62 => ?_)
                                    obtain ⟨ty62, iy62⟩ := ti_add (e := 0) (f := 319) iy61 i44 ey62 (by decide)
                                    have ty62 : y62.toInt = y61.toInt + v195_3.toInt := ty62
                                    have iy62 : 0 ≤ y62.toInt ∧ y62.toInt ≤ 319 := iy62
                                    have n64 : vp_in y62 320 := (iv_in (n := 320) iy62 (by decide))
                                    refine th_zald hx hb hK hP hI 36 (Nat.le_of_ble_eq_true rfl) rfl rfl n64 dX13_score_341 (fun y63 ey63 => ?_)
                                    have iy63 : 0 ≤ y63.toInt ∧ y63.toInt ≤ 1 := hI.el 36 (Nat.le_of_ble_eq_true rfl) rfl n64 (fun _ => rfl) ey63
                                    have ey63 := ey63.trans (congrFun hr314_36 _)
                                    refine lv_if_eq (tgt := 349) hx hb dX13_score_342 (by decide) (fun c65 => ?_) (fun c65 => ?_)
                                    · --342 taken
                                      have t66 : y63.toInt = 0 := ti_eq c65
                                      have i67 : 0 ≤ y63.toInt ∧ y63.toInt ≤ 0 := iv_eqi t66 iy63 (il_ 0) (by decide)
                                      refine lv_aload_n hx hb dX13_score_349 rfl (lv_at hl 3 rfl) ?_
                                      refine th_get (ci := 14) (C := RX13) (T := TX13) (N := 97) (v := .ref (ad 32)) hx hb hts hinX13 hown hK hP hI 0 (Nat.le_of_ble_eq_true rfl) rfl rfl 49 (Nat.le_of_ble_eq_true rfl) (hts _ (vA_in _ _ (in_32 _ (zs4 (zs4 (zs1 (zs0))))))) (fun _ h9 => h9) (hI.fr 0 (Nat.le_of_ble_eq_true rfl) rfl (Nat.le_of_ble_eq_true rfl) 32 rfl) dX13_score_350 ?_
                                      refine lv_bipush (v := 16) hx hb dX13_score_353 (by decide) ?_
                                      refine lv_iload hx hb dX13_score_355 (lv_at hl 0 rfl) ?_
                                      refine lv_imul hx hb dX13_score_357 ?_
                                      refine lv_topi (fun y68 ey68 => ?_)
                                      obtain ⟨ty68, iy68⟩ := ti_mul (e := 0) (f := 304) ln_16 i56 ey68 (by decide)
                                      have ty68 : y68.toInt = 16 * v314_4.toInt := ty68
                                      have iy68 : 0 ≤ y68.toInt ∧ y68.toInt ≤ 304 := iy68
                                      refine lv_iload_n hx hb dX13_score_358 rfl (lv_at hl 1 rfl) ?_
                                      refine lv_iadd hx hb dX13_score_359 ?_
                                      refine lv_topi (fun y69 ey69 => ?_)
                                      obtain ⟨ty69, iy69⟩ := ti_add (e := 0) (f := 319) iy68 i44 ey69 (by decide)
                                      have ty69 : y69.toInt = y68.toInt + v195_3.toInt := ty69
                                      have iy69 : 0 ≤ y69.toInt ∧ y69.toInt ≤ 319 := iy69
                                      have n71 : vp_in y69 320 := (iv_in (n := 320) iy69 (by decide))
                                      refine th_iald hx hb hK hP hI 32 (Nat.le_of_ble_eq_true rfl) rfl rfl n71 dX13_score_360 (fun y70 ey70 => ?_)
                                      have ey70 := ey70.trans (congrFun hr314_32 _)
                                      have k72 : 0 ≤ y70.toInt ∧ y70.toInt ≤ 10000 := by have h9 := PtM.b ((k40 v195_3.toNatClampNeg (by rw [tn_, tn_]; omega)).1 v314_4.toNatClampNeg (by rw [tn_, tn_]; omega)); rw [← (show y69.toNatClampNeg = 16 * v314_4.toNatClampNeg + v195_3.toNatClampNeg by rw [tn_ y69, tn_ v314_4, tn_ v195_3]; omega), ← ey70] at h9; exact h9
                                      refine lv_iadd hx hb dX13_score_361 ?_
                                      refine lv_topi (fun y73 ey73 => ?_)
                                      obtain ⟨ty73, iy73⟩ := ti_add (e := 0) (f := 210000) k60 k72 ey73 (by decide)
                                      have ty73 : y73.toInt = y58.toInt + y70.toInt := ty73
                                      have iy73 : 0 ≤ y73.toInt ∧ y73.toInt ≤ 210000 := iy73
                                      have n74 : vp_in v195_3 16 := (iv_in (n := 16) i44 (by decide))
                                      refine th_iast hx hb hK hP (WX_D hD) hS hI 33 (Nat.le_of_ble_eq_true rfl) rfl rfl n74 (okI rfl (iv_w iy73 (by decide))) dX13_score_362 (fun H locs E75 pw76 hI hP hS => ?_)
                                      have hKp := hKp.pw pw76 rfl
                                      obtain ⟨g77, eg77⟩ : ∃ z : Nat → Int32, z = upd g314_33 v195_3.toNatClampNeg y73 := ⟨_, rfl⟩
                                      have hg77 : xi (E75 33) = g77 := by rw [pw76.eu, hr314_33, eg77]
                                      obtain ⟨y78, ey78⟩ : ∃ y : Int32, y = v314_4 + (1 : Int32) := ⟨_, rfl⟩
                                      obtain ⟨ty78, iy78⟩ := ti_add (e := 1) (f := 20) i56 ln_1 ey78 (by decide)
                                      have ty78 : y78.toInt = v314_4.toInt + 1 := ty78
                                      have iy78 : 1 ≤ y78.toInt ∧ y78.toInt ≤ 20 := iy78
                                      refine lv_iinc (v := y78) (lv' := [(4, .int y78), (3, .int v195_3), (2, .int y38), (0, .ref (ad 0)), (1, .int a0)]) hx hb dX13_score_363 hl (k := 0) rfl (by rw [ey78]; rfl) (by decide) rfl (fun ls hl => ?_)
                                      refine lv_goto (tgt := 314) hx hb dX13_score_366 (by decide) ?_
                                      exact ih314 g77 y78 E75 _ _ _ (iv_w iy78 (by decide)) (by rw [eg77, upd_i]; exact tt_s (s := y58.toInt) (v := y70.toInt) (by rw [ey58]; exact hx314_0) (show y63 = g206_36 (16 * v314_4.toNatClampNeg + v195_3.toNatClampNeg) by rw [ey63, (show y62.toNatClampNeg = 16 * v314_4.toNatClampNeg + v195_3.toNatClampNeg by rw [tn_ y62, tn_ v314_4, tn_ v195_3]; omega)]) (Or.inl ⟨by omega, show y70.toInt = (g59_32 (16 * v314_4.toNatClampNeg + v195_3.toNatClampNeg)).toInt by rw [ey70, (show y69.toNatClampNeg = 16 * v314_4.toNatClampNeg + v195_3.toNatClampNeg by rw [tn_ y69, tn_ v314_4, tn_ v195_3]; omega)]⟩) (by have z0 := ln_0; omega) (by rw [tn_ y78, tn_ v314_4]; omega)) (fun b9 h9 => by rw [eg77, upd_j h9]; exact hx314_1 b9 h9) (by rw [eg77, upd_i]; have h9 := hx314_2; rw [← ey58] at h9; have z0 := ln_0; omega) (by omega) (by first | exact ms_su hx314_4 ty78 (by decide) | omega) hI hKp ((pw76.2 0 55 (fun q9 => absurd q9.1 (Nat.ne_of_beq_eq_false rfl))).trans hs314_0_55) ((pw76.2 0 0 (fun q9 => absurd q9.1 (Nat.ne_of_beq_eq_false rfl))).trans hs314_0_0) ((pw76.ef 32 (Nat.ne_of_beq_eq_false rfl)).trans hr314_32) ((pw76.ef 36 (Nat.ne_of_beq_eq_false rfl)).trans hr314_36) ((pw76.ef 37 (Nat.ne_of_beq_eq_false rfl)).trans hr314_37) hg77 hP hS (lv_sub hl [0, 1, 2, 3, 4] rfl)
                                    · --342 not
                                      have t79 : ¬ y63.toInt = 0 := ti_ne c65
                                      have i80 : 1 ≤ y63.toInt ∧ y63.toInt ≤ 1 := iv_ne_l t79 iy63 (il_ 0)
                                      refine lv_iconst (v := 0) hx hb dX13_score_345 (by decide) ?_
                                      refine lv_goto (tgt := 361) hx hb dX13_score_346 (by decide) ?_
                                      refine lv_iadd hx hb dX13_score_361 ?_
                                      refine lv_topi (fun y81 ey81 => ?_)
                                      obtain ⟨ty81, iy81⟩ := ti_add (e := 0) (f := 200000) k60 ln_0 ey81 (by decide)
                                      have ty81 : y81.toInt = y58.toInt + 0 := ty81
                                      have iy81 : 0 ≤ y81.toInt ∧ y81.toInt ≤ 200000 := iy81
                                      have n82 : vp_in v195_3 16 := (iv_in (n := 16) i44 (by decide))
                                      refine th_iast hx hb hK hP (WX_D hD) hS hI 33 (Nat.le_of_ble_eq_true rfl) rfl rfl n82 (okI rfl (iv_w iy81 (by decide))) dX13_score_362 (fun H locs E83 pw84 hI hP hS => ?_)
                                      have hKp := hKp.pw pw84 rfl
                                      obtain ⟨g85, eg85⟩ : ∃ z : Nat → Int32, z = upd g314_33 v195_3.toNatClampNeg y81 := ⟨_, rfl⟩
                                      have hg85 : xi (E83 33) = g85 := by rw [pw84.eu, hr314_33, eg85]
                                      obtain ⟨y86, ey86⟩ : ∃ y : Int32, y = v314_4 + (1 : Int32) := ⟨_, rfl⟩
                                      obtain ⟨ty86, iy86⟩ := ti_add (e := 1) (f := 20) i56 ln_1 ey86 (by decide)
                                      have ty86 : y86.toInt = v314_4.toInt + 1 := ty86
                                      have iy86 : 1 ≤ y86.toInt ∧ y86.toInt ≤ 20 := iy86
                                      refine lv_iinc (v := y86) (lv' := [(4, .int y86), (3, .int v195_3), (2, .int y38), (0, .ref (ad 0)), (1, .int a0)]) hx hb dX13_score_363 hl (k := 0) rfl (by rw [ey86]; rfl) (by decide) rfl (fun ls hl => ?_)
                                      refine lv_goto (tgt := 314) hx hb dX13_score_366 (by decide) ?_
                                      exact ih314 g85 y86 E83 _ _ _ (iv_w iy86 (by decide)) (by rw [eg85, upd_i]; exact tt_s (s := y58.toInt) (v := (0 : Int32).toInt) (by rw [ey58]; exact hx314_0) (show y63 = g206_36 (16 * v314_4.toNatClampNeg + v195_3.toNatClampNeg) by rw [ey63, (show y62.toNatClampNeg = 16 * v314_4.toNatClampNeg + v195_3.toNatClampNeg by rw [tn_ y62, tn_ v314_4, tn_ v195_3]; omega)]) (Or.inr ⟨by omega, show (0 : Int32).toInt = 0 from rfl⟩) (by have z0 := ln_0; omega) (by rw [tn_ y86, tn_ v314_4]; omega)) (fun b9 h9 => by rw [eg85, upd_j h9]; exact hx314_1 b9 h9) (by rw [eg85, upd_i]; have h9 := hx314_2; rw [← ey58] at h9; have z0 := ln_0; omega) (by omega) (by first | exact ms_su hx314_4 ty86 (by decide) | omega) hI hKp ((pw84.2 0 55 (fun q9 => absurd q9.1 (Nat.ne_of_beq_eq_false rfl))).trans hs314_0_55) ((pw84.2 0 0 (fun q9 => absurd q9.1 (Nat.ne_of_beq_eq_false rfl))).trans hs314_0_0) ((pw84.ef 32 (Nat.ne_of_beq_eq_false rfl)).trans hr314_32) ((pw84.ef 36 (Nat.ne_of_beq_eq_false rfl)).trans hr314_36) ((pw84.ef 37 (Nat.ne_of_beq_eq_false rfl)).trans hr314_37) hg85 hP hS (lv_sub hl [0, 1, 2, 3, 4] rfl)
                              exact hL314 (21) g51 (0 : Int32) E49 _ _ _ (iv_w ln_0 (by decide)) (by rw [eg51, upd_i]; rfl) (fun b9 h9 => by rw [eg51, upd_j h9]) (by rw [eg51, upd_i]; have z9 := ln_0; omega) (by have z9 := ln_0; omega) (by have h9 := ln_0; first | exact ms_bu h9.1 (by decide) | omega) hI hKp ((pw50.2 0 55 (fun q9 => absurd q9.1 (Nat.ne_of_beq_eq_false rfl))).trans hs206_0_55) ((pw50.2 0 0 (fun q9 => absurd q9.1 (Nat.ne_of_beq_eq_false rfl))).trans hs206_0_0) ((pw50.ef 32 (Nat.ne_of_beq_eq_false rfl)).trans hr206_32) ((pw50.ef 36 (Nat.ne_of_beq_eq_false rfl)).trans hr206_36) ((pw50.ef 37 (Nat.ne_of_beq_eq_false rfl)).trans hr206_37) hg51 hP hS (lv_sub hl [0, 1, 2, 3, 4] rfl)
                            · --209 not
                              have t87 : v206_4.toInt < y38.toInt := ti_nle c46
                              have i88 : 0 ≤ v206_4.toInt ∧ v206_4.toInt ≤ 18 := iv_lt_l t87 hv206_4 iy38 (by decide)
                              have i89 : 1 ≤ y38.toInt ∧ y38.toInt ≤ 19 := iv_lt_r t87 hv206_4 iy38 (by decide)
                              refine lv_iconst (v := -1) hx hb dX13_score_212 (by decide) ?_
                              refine lv_istore (lv' := [(5, .int (-1)), (4, .int v206_4), (3, .int v195_3), (2, .int y38), (0, .ref (ad 0)), (1, .int a0)]) hx hb dX13_score_213 hl (by decide) rfl (fun ls hl => ?_)
                              refine lv_iconst (v := 0) hx hb dX13_score_215 (by decide) ?_
                              refine lv_istore (lv' := [(6, .int 0), (5, .int (-1)), (4, .int v206_4), (3, .int v195_3), (2, .int y38), (0, .ref (ad 0)), (1, .int a0)]) hx hb dX13_score_216 hl (by decide) rfl (fun ls hl => ?_)
                              have hL218 : ∀ d : Nat, ∀ (v218_6 : Int32) (v218_5 : Int32) (H : Heap) (locs : List Loc) (ls : Array Slot), 0 ≤ v218_6.toInt ∧ v218_6.toInt ≤ 20 → -1 ≤ v218_5.toInt ∧ v218_5.toInt ≤ 19 → (∃ m9 : Int, WsI (fun r9 : Nat => (g59_32 (16 * r9 + v195_3.toNatClampNeg)).toInt) (fun r9 : Nat => g206_36 (16 * r9 + v195_3.toNatClampNeg)) v218_6.toNatClampNeg v218_5.toInt m9) → v218_6.toInt ≤ w20_0_55.toInt → v218_5.toInt < v218_6.toInt → 20 - v218_6.toInt < (d : Int) → va_P (dC, dI) vwCl (WX 72 ad E206_) H → va_S A s.heap H locs → lv_has ls 7 [(6, .int v218_6), (5, .int v218_5), (4, .int v206_4), (3, .int v195_3), (2, .int y38), (0, .ref (ad 0)), (1, .int a0)] → W p l e (headSpec v_scoreM rm_scoreM).room s m args below meth c H locs 0 0 Q (F0 m 218 ls []) := by
                                intro d
                                induction d with
                                | zero =>
                                  intro v218_6 v218_5 H locs ls hv218_6 hv218_5 hx218_0 hx218_1 hx218_2 hx218_3 hP hS hl
                                  exact absurd hx218_3 (by first | exact ms_zu hv218_6.2 | omega)
                                | succ d ih218 =>
                                  intro v218_6 v218_5 H locs ls hv218_6 hv218_5 hx218_0 hx218_1 hx218_2 hx218_3 hP hS hl
                                  refine lv_iload hx hb dX13_score_218 (lv_at hl 0 rfl) ?_
                                  refine lv_aload_n hx hb dX13_score_220 rfl (lv_at hl 5 rfl) ?_
                                  refine th_get (ci := 14) (C := RX13) (T := TX13) (N := 97) (v := .int w20_0_55) hx hb hts hinX13 hown hK hP hI 0 (Nat.le_of_ble_eq_true rfl) rfl rfl 55 (Nat.le_of_ble_eq_true rfl) (hts _ (vA_in _ _ (in_32 _ (zs16 (zs1 (zs1 (zs1 (zs0)))))))) (fun _ h9 => h9) hs206_0_55 dX13_score_221 ?_
                                  refine lv_icmp_ge (tgt := 285) hx hb dX13_score_224 (by decide) (fun c90 => ?_) (fun c90 => ?_)
                                  · --224 taken
                                    have t91 : w20_0_55.toInt ≤ v218_6.toInt := ti_le c90
                                    have k92 : ∃ m9 : Int, WsI (fun r9 : Nat => (g59_32 (16 * r9 + v195_3.toNatClampNeg)).toInt) (fun r9 : Nat => g206_36 (16 * r9 + v195_3.toNatClampNeg)) w20_0_55.toNatClampNeg v218_5.toInt m9 := by have h9 := hx218_0; rw [show v218_6.toNatClampNeg = w20_0_55.toNatClampNeg by rw [tn_, tn_]; omega] at h9; exact h9
                                    have hne9 : ¬ v218_5.toInt = -1 := fun q9 => WsI.no k92 q9 hx206_0 (by rw [tn_, tn_]; omega)
                                    have i94 : 0 ≤ v218_5.toInt ∧ v218_5.toInt ≤ 19 := by omega
                                    have k93 : (v218_5.toNatClampNeg < w20_0_55.toNatClampNeg ∧ g206_36 (16 * v218_5.toNatClampNeg + v195_3.toNatClampNeg) = 0) ∧ ∀ r8, r8 < w20_0_55.toNatClampNeg → g206_36 (16 * r8 + v195_3.toNatClampNeg) = 0 → (g59_32 (16 * r8 + v195_3.toNatClampNeg)).toInt < (g59_32 (16 * v218_5.toNatClampNeg + v195_3.toNatClampNeg)).toInt ∨ ((g59_32 (16 * r8 + v195_3.toNatClampNeg)).toInt = (g59_32 (16 * v218_5.toNatClampNeg + v195_3.toNatClampNeg)).toInt ∧ r8 ≤ v218_5.toNatClampNeg) := WsI.use k92 hne9
                                    refine lv_aload_n hx hb dX13_score_285 rfl (lv_at hl 5 rfl) ?_
                                    refine th_get (ci := 14) (C := RX13) (T := TX13) (N := 97) (v := .ref (ad 36)) hx hb hts hinX13 hown hK hP hI 0 (Nat.le_of_ble_eq_true rfl) rfl rfl 53 (Nat.le_of_ble_eq_true rfl) (hts _ (vA_in _ _ (in_32 _ (zs4 (zs4 (zs4 (zs1 (zs0)))))))) (fun _ h9 => h9) (hI.fr 0 (Nat.le_of_ble_eq_true rfl) rfl (Nat.le_of_ble_eq_true rfl) 36 rfl) dX13_score_286 ?_
                                    refine lv_bipush (v := 16) hx hb dX13_score_289 (by decide) ?_
                                    refine lv_iload hx hb dX13_score_291 (lv_at hl 1 rfl) ?_
                                    refine lv_imul hx hb dX13_score_293 ?_
                                    refine lv_topi (fun y95 ey95 => ?_)
                                    obtain ⟨ty95, iy95⟩ := ti_mul (e := 0) (f := 304) ln_16 i94 ey95 (by decide)
                                    have ty95 : y95.toInt = 16 * v218_5.toInt := ty95
                                    have iy95 : 0 ≤ y95.toInt ∧ y95.toInt ≤ 304 := iy95
                                    refine lv_iload_n hx hb dX13_score_294 rfl (lv_at hl 3 rfl) ?_
                                    refine lv_iadd hx hb dX13_score_295 ?_
                                    refine lv_topi (fun y96 ey96 => ?_)
                                    obtain ⟨ty96, iy96⟩ := ti_add (e := 0) (f := 319) iy95 i44 ey96 (by decide)
                                    have ty96 : y96.toInt = y95.toInt + v195_3.toInt := ty96
                                    have iy96 : 0 ≤ y96.toInt ∧ y96.toInt ≤ 319 := iy96
                                    refine lv_iconst (v := 1) hx hb dX13_score_296 (by decide) ?_
                                    have n97 : vp_in y96 320 := (iv_in (n := 320) iy96 (by decide))
                                    refine th_zast hx hb hK hP (WX_D hD) hS hI 36 (Nat.le_of_ble_eq_true rfl) rfl rfl n97 (iv_w ln_1 (by decide)) (okI rfl (iv_w ln_1 (by decide))) dX13_score_297 (fun H locs E98 pw99 hI hP hS => ?_)
                                    have hKp := hKp.pw pw99 rfl
                                    obtain ⟨g100, eg100⟩ : ∃ z : Nat → Int32, z = upd g206_36 y96.toNatClampNeg (1 : Int32) := ⟨_, rfl⟩
                                    have hg100 : xi (E98 36) = g100 := by rw [pw99.eu, hr206_36, eg100]
                                    obtain ⟨y101, ey101⟩ : ∃ y : Int32, y = v206_4 + (1 : Int32) := ⟨_, rfl⟩
                                    obtain ⟨ty101, iy101⟩ := ti_add (e := 1) (f := 19) i88 ln_1 ey101 (by decide)
                                    have ty101 : y101.toInt = v206_4.toInt + 1 := ty101
                                    have iy101 : 1 ≤ y101.toInt ∧ y101.toInt ≤ 19 := iy101
                                    refine lv_iinc (v := y101) (lv' := [(4, .int y101), (6, .int v218_6), (5, .int v218_5), (3, .int v195_3), (2, .int y38), (0, .ref (ad 0)), (1, .int a0)]) hx hb dX13_score_298 hl (k := 2) rfl (by rw [ey101]; rfl) (by decide) rfl (fun ls hl => ?_)
                                    refine lv_goto (tgt := 206) hx hb dX13_score_301 (by decide) ?_
                                    exact ih206 g100 y101 E98 _ _ _ (iv_w iy101 (by decide)) (hx206_0.one k93.1.1 k93.1.2 k93.2 (fun r9 _ => (cl_if (w := v218_5.toNatClampNeg) (b := v195_3.toNatClampNeg) eg100 (show y96.toNatClampNeg = 16 * v218_5.toNatClampNeg + v195_3.toNatClampNeg by rw [tn_ y96, tn_ v218_5, tn_ v195_3]; omega)) r9) (by rw [tn_ y101, tn_ v206_4]; omega)) (hx206_1.up eg100 (show y96.toNatClampNeg = 16 * v218_5.toNatClampNeg + v195_3.toNatClampNeg by rw [tn_ y96, tn_ v218_5, tn_ v195_3]; omega) (by rw [tn_]; omega)) (by omega) (by first | exact ms_su hx206_3 ty101 (by decide) | omega) hI hKp ((pw99.2 0 55 (fun q9 => absurd q9.1 (Nat.ne_of_beq_eq_false rfl))).trans hs206_0_55) ((pw99.2 0 0 (fun q9 => absurd q9.1 (Nat.ne_of_beq_eq_false rfl))).trans hs206_0_0) ((pw99.ef 32 (Nat.ne_of_beq_eq_false rfl)).trans hr206_32) hg100 ((pw99.ef 37 (Nat.ne_of_beq_eq_false rfl)).trans hr206_37) ((pw99.ef 33 (Nat.ne_of_beq_eq_false rfl)).trans hr206_33) hP hS (lv_sub hl [0, 3, 4, 5, 6] rfl)
                                  · --224 not
                                    have t102 : v218_6.toInt < w20_0_55.toInt := ti_nle c90
                                    have i103 : 0 ≤ v218_6.toInt ∧ v218_6.toInt ≤ 19 := iv_lt_l t102 hv218_6 hw20_0_55 (by decide)
                                    have i104 : 1 ≤ w20_0_55.toInt ∧ w20_0_55.toInt ≤ 20 := iv_lt_r t102 hv218_6 hw20_0_55 (by decide)
                                    refine lv_aload_n hx hb dX13_score_227 rfl (lv_at hl 5 rfl) ?_
                                    refine th_get (ci := 14) (C := RX13) (T := TX13) (N := 97) (v := .ref (ad 36)) hx hb hts hinX13 hown hK hP hI 0 (Nat.le_of_ble_eq_true rfl) rfl rfl 53 (Nat.le_of_ble_eq_true rfl) (hts _ (vA_in _ _ (in_32 _ (zs4 (zs4 (zs4 (zs1 (zs0)))))))) (fun _ h9 => h9) (hI.fr 0 (Nat.le_of_ble_eq_true rfl) rfl (Nat.le_of_ble_eq_true rfl) 36 rfl) dX13_score_228 ?_
                                    refine lv_bipush (v := 16) hx hb dX13_score_231 (by decide) ?_
                                    refine lv_iload hx hb dX13_score_233 (lv_at hl 0 rfl) ?_
                                    refine lv_imul hx hb dX13_score_235 ?_
                                    refine lv_topi (fun y105 ey105 => ?_)
                                    obtain ⟨ty105, iy105⟩ := ti_mul (e := 0) (f := 304) ln_16 i103 ey105 (by decide)
                                    have ty105 : y105.toInt = 16 * v218_6.toInt := ty105
                                    have iy105 : 0 ≤ y105.toInt ∧ y105.toInt ≤ 304 := iy105
                                    refine lv_iload_n hx hb dX13_score_236 rfl (lv_at hl 3 rfl) ?_
                                    refine lv_iadd hx hb dX13_score_237 ?_
                                    refine lv_topi (fun y106 ey106 => ?_)
                                    obtain ⟨ty106, iy106⟩ := ti_add (e := 0) (f := 319) iy105 i44 ey106 (by decide)
                                    have ty106 : y106.toInt = y105.toInt + v195_3.toInt := ty106
                                    have iy106 : 0 ≤ y106.toInt ∧ y106.toInt ≤ 319 := iy106
                                    have n108 : vp_in y106 320 := (iv_in (n := 320) iy106 (by decide))
                                    refine th_zald hx hb hK hP hI 36 (Nat.le_of_ble_eq_true rfl) rfl rfl n108 dX13_score_238 (fun y107 ey107 => ?_)
                                    have iy107 : 0 ≤ y107.toInt ∧ y107.toInt ≤ 1 := hI.el 36 (Nat.le_of_ble_eq_true rfl) rfl n108 (fun _ => rfl) ey107
                                    have ey107 := ey107.trans (congrFun hr206_36 _)
                                    refine lv_if_ne (tgt := 279) hx hb dX13_score_239 (by decide) (fun c109 => ?_) (fun c109 => ?_)
                                    · --239 taken
                                      have t110 : ¬ y107.toInt = 0 := ti_ne c109
                                      have i111 : 1 ≤ y107.toInt ∧ y107.toInt ≤ 1 := iv_ne_l t110 iy107 (il_ 0)
                                      obtain ⟨y112, ey112⟩ : ∃ y : Int32, y = v218_6 + (1 : Int32) := ⟨_, rfl⟩
                                      obtain ⟨ty112, iy112⟩ := ti_add (e := 1) (f := 20) i103 ln_1 ey112 (by decide)
                                      have ty112 : y112.toInt = v218_6.toInt + 1 := ty112
                                      have iy112 : 1 ≤ y112.toInt ∧ y112.toInt ≤ 20 := iy112
                                      refine lv_iinc (v := y112) (lv' := [(6, .int y112), (5, .int v218_5), (4, .int v206_4), (3, .int v195_3), (2, .int y38), (0, .ref (ad 0)), (1, .int a0)]) hx hb dX13_score_279 hl (k := 0) rfl (by rw [ey112]; rfl) (by decide) rfl (fun ls hl => ?_)
                                      refine lv_goto (tgt := 218) hx hb dX13_score_282 (by decide) ?_
                                      exact ih218 y112 v218_5 _ _ _ (iv_w iy112 (by decide)) hv218_5 (by obtain ⟨m9, h9⟩ := hx218_0; exact ⟨m9, h9.out (show y107 = g206_36 (16 * v218_6.toNatClampNeg + v195_3.toNatClampNeg) by rw [ey107, (show y106.toNatClampNeg = 16 * v218_6.toNatClampNeg + v195_3.toNatClampNeg by rw [tn_ y106, tn_ v218_6, tn_ v195_3]; omega)]) (by omega) (by rw [tn_ y112, tn_ v218_6]; omega)⟩) (by omega) (by omega) (by first | exact ms_su hx218_3 ty112 (by decide) | omega) hP hS (lv_sub hl [0, 1, 2, 3, 4, 5, 6] rfl)
                                    · --239 not
                                      have t113 : y107.toInt = 0 := ti_eq c109
                                      have i114 : 0 ≤ y107.toInt ∧ y107.toInt ≤ 0 := iv_eqi t113 iy107 (il_ 0) (by decide)
                                      refine lv_iload hx hb dX13_score_242 (lv_at hl 1 rfl) ?_
                                      refine lv_iconst (v := -1) hx hb dX13_score_244 (by decide) ?_
                                      refine lv_icmp_eq (tgt := 275) hx hb dX13_score_245 (by decide) (fun c115 => ?_) (fun c115 => ?_)
                                      · --245 taken
                                        have t116 : v218_5.toInt = -1 := ti_eq c115
                                        have i117 : -1 ≤ v218_5.toInt ∧ v218_5.toInt ≤ -1 := iv_eqi t116 hv218_5 (il_ (-1)) (by decide)
                                        refine lv_iload hx hb dX13_score_275 (lv_at hl 0 rfl) ?_
                                        refine lv_istore (lv' := [(5, .int v218_6), (6, .int v218_6), (4, .int v206_4), (3, .int v195_3), (2, .int y38), (0, .ref (ad 0)), (1, .int a0)]) hx hb dX13_score_277 hl (by decide) rfl (fun ls hl => ?_)
                                        obtain ⟨y118, ey118⟩ : ∃ y : Int32, y = v218_6 + (1 : Int32) := ⟨_, rfl⟩
                                        obtain ⟨ty118, iy118⟩ := ti_add (e := 1) (f := 20) i103 ln_1 ey118 (by decide)
                                        have ty118 : y118.toInt = v218_6.toInt + 1 := ty118
                                        have iy118 : 1 ≤ y118.toInt ∧ y118.toInt ≤ 20 := iy118
                                        refine lv_iinc (v := y118) (lv' := [(6, .int y118), (5, .int v218_6), (4, .int v206_4), (3, .int v195_3), (2, .int y38), (0, .ref (ad 0)), (1, .int a0)]) hx hb dX13_score_279 hl (k := 1) rfl (by rw [ey118]; rfl) (by decide) rfl (fun ls hl => ?_)
                                        refine lv_goto (tgt := 218) hx hb dX13_score_282 (by decide) ?_
                                        exact ih218 y118 v218_6 _ _ _ (iv_w iy118 (by decide)) (iv_w i103 (by decide)) (by obtain ⟨m9, h9⟩ := hx218_0; exact ⟨_, h9.new (m' := (g59_32 (16 * v218_6.toNatClampNeg + v195_3.toNatClampNeg)).toInt) (show y107 = g206_36 (16 * v218_6.toNatClampNeg + v195_3.toNatClampNeg) by rw [ey107, (show y106.toNatClampNeg = 16 * v218_6.toNatClampNeg + v195_3.toNatClampNeg by rw [tn_ y106, tn_ v218_6, tn_ v195_3]; omega)]) (by omega) (Or.inl (by omega)) (by rw [tn_ v218_6]; omega) rfl (by rw [tn_ y118, tn_ v218_6]; omega)⟩) (by omega) (by omega) (by first | exact ms_su hx218_3 ty118 (by decide) | omega) hP hS (lv_sub hl [0, 1, 2, 3, 4, 5, 6] rfl)
                                      · --245 not
                                        have t119 : ¬ v218_5.toInt = -1 := ti_ne c115
                                        have i120 : 0 ≤ v218_5.toInt ∧ v218_5.toInt ≤ 19 := iv_ne_l t119 hv218_5 (il_ (-1))
                                        refine lv_aload_n hx hb dX13_score_248 rfl (lv_at hl 5 rfl) ?_
                                        refine th_get (ci := 14) (C := RX13) (T := TX13) (N := 97) (v := .ref (ad 32)) hx hb hts hinX13 hown hK hP hI 0 (Nat.le_of_ble_eq_true rfl) rfl rfl 49 (Nat.le_of_ble_eq_true rfl) (hts _ (vA_in _ _ (in_32 _ (zs4 (zs4 (zs1 (zs0))))))) (fun _ h9 => h9) (hI.fr 0 (Nat.le_of_ble_eq_true rfl) rfl (Nat.le_of_ble_eq_true rfl) 32 rfl) dX13_score_249 ?_
                                        refine lv_bipush (v := 16) hx hb dX13_score_252 (by decide) ?_
                                        refine lv_iload hx hb dX13_score_254 (lv_at hl 0 rfl) ?_
                                        refine lv_imul hx hb dX13_score_256 ?_
                                        refine lv_topi (fun y121 ey121 => ?_)
                                        obtain ⟨ty121, iy121⟩ := ti_mul (e := 0) (f := 304) ln_16 i103 ey121 (by decide)
                                        have ty121 : y121.toInt = 16 * v218_6.toInt := ty121
                                        have iy121 : 0 ≤ y121.toInt ∧ y121.toInt ≤ 304 := iy121
                                        refine lv_iload_n hx hb dX13_score_257 rfl (lv_at hl 3 rfl) ?_
                                        refine lv_iadd hx hb dX13_score_258 ?_
                                        refine lv_topi (fun y122 ey122 => ?_)
                                        obtain ⟨ty122, iy122⟩ := ti_add (e := 0) (f := 319) iy121 i44 ey122 (by decide)
                                        have ty122 : y122.toInt = y121.toInt + v195_3.toInt := ty122
                                        have iy122 : 0 ≤ y122.toInt ∧ y122.toInt ≤ 319 := iy122
                                        have n124 : vp_in y122 320 := (iv_in (n := 320) iy122 (by decide))
                                        refine th_iald hx hb hK hP hI 32 (Nat.le_of_ble_eq_true rfl) rfl rfl n124 dX13_score_259 (fun y123 ey123 => ?_)
                                        have ey123 := ey123.trans (congrFun hr206_32 _)
                                        refine lv_aload_n hx hb dX13_score_260 rfl (lv_at hl 5 rfl) ?_
                                        refine th_get (ci := 14) (C := RX13) (T := TX13) (N := 97) (v := .ref (ad 32)) hx hb hts hinX13 hown hK hP hI 0 (Nat.le_of_ble_eq_true rfl) rfl rfl 49 (Nat.le_of_ble_eq_true rfl) (hts _ (vA_in _ _ (in_32 _ (zs4 (zs4 (zs1 (zs0))))))) (fun _ h9 => h9) (hI.fr 0 (Nat.le_of_ble_eq_true rfl) rfl (Nat.le_of_ble_eq_true rfl) 32 rfl) dX13_score_261 ?_
                                        refine lv_bipush (v := 16) hx hb dX13_score_264 (by decide) ?_
                                        refine lv_iload hx hb dX13_score_266 (lv_at hl 1 rfl) ?_
                                        refine lv_imul hx hb dX13_score_268 ?_
                                        refine lv_topi (fun y125 ey125 => ?_)
                                        obtain ⟨ty125, iy125⟩ := ti_mul (e := 0) (f := 304) ln_16 i120 ey125 (by decide)
                                        have ty125 : y125.toInt = 16 * v218_5.toInt := ty125
                                        have iy125 : 0 ≤ y125.toInt ∧ y125.toInt ≤ 304 := iy125
                                        refine lv_iload_n hx hb dX13_score_269 rfl (lv_at hl 3 rfl) ?_
                                        refine lv_iadd hx hb dX13_score_270 ?_
                                        refine lv_topi (fun y126 ey126 => ?_)
                                        obtain ⟨ty126, iy126⟩ := ti_add (e := 0) (f := 319) iy125 i44 ey126 (by decide)
                                        have ty126 : y126.toInt = y125.toInt + v195_3.toInt := ty126
                                        have iy126 : 0 ≤ y126.toInt ∧ y126.toInt ≤ 319 := iy126
                                        have n128 : vp_in y126 320 := (iv_in (n := 320) iy126 (by decide))
                                        refine th_iald hx hb hK hP hI 32 (Nat.le_of_ble_eq_true rfl) rfl rfl n128 dX13_score_271 (fun y127 ey127 => ?_)
                                        have ey127 := ey127.trans (congrFun hr206_32 _)
                                        refine lv_icmp_lt (tgt := 279) hx hb dX13_score_272 (by decide) (fun c129 => ?_) (fun c129 => ?_)
                                        · --272 taken
                                          have t130 : y123.toInt < y127.toInt := ti_lt c129
                                          have i131 : -2147483648 ≤ y123.toInt ∧ y123.toInt ≤ 2147483646 := iv_lt_l t130 (iv_all _) (iv_all _) (by decide)
                                          have i132 : -2147483647 ≤ y127.toInt ∧ y127.toInt ≤ 2147483647 := iv_lt_r t130 (iv_all _) (iv_all _) (by decide)
                                          obtain ⟨y133, ey133⟩ : ∃ y : Int32, y = v218_6 + (1 : Int32) := ⟨_, rfl⟩
                                          obtain ⟨ty133, iy133⟩ := ti_add (e := 1) (f := 20) i103 ln_1 ey133 (by decide)
                                          have ty133 : y133.toInt = v218_6.toInt + 1 := ty133
                                          have iy133 : 1 ≤ y133.toInt ∧ y133.toInt ≤ 20 := iy133
                                          refine lv_iinc (v := y133) (lv' := [(6, .int y133), (5, .int v218_5), (4, .int v206_4), (3, .int v195_3), (2, .int y38), (0, .ref (ad 0)), (1, .int a0)]) hx hb dX13_score_279 hl (k := 0) rfl (by rw [ey133]; rfl) (by decide) rfl (fun ls hl => ?_)
                                          refine lv_goto (tgt := 218) hx hb dX13_score_282 (by decide) ?_
                                          exact ih218 y133 v218_5 _ _ _ (iv_w iy133 (by decide)) (iv_w i120 (by decide)) (by obtain ⟨m9, h9⟩ := hx218_0; exact ⟨m9, h9.low2 (by omega) (show (g59_32 (16 * v218_6.toNatClampNeg + v195_3.toNatClampNeg)).toInt < (g59_32 (16 * v218_5.toNatClampNeg + v195_3.toNatClampNeg)).toInt by rw [← (show y123 = g59_32 (16 * v218_6.toNatClampNeg + v195_3.toNatClampNeg) by rw [ey123, (show y122.toNatClampNeg = 16 * v218_6.toNatClampNeg + v195_3.toNatClampNeg by rw [tn_ y122, tn_ v218_6, tn_ v195_3]; omega)]), ← (show y127 = g59_32 (16 * v218_5.toNatClampNeg + v195_3.toNatClampNeg) by rw [ey127, (show y126.toNatClampNeg = 16 * v218_5.toNatClampNeg + v195_3.toNatClampNeg by rw [tn_ y126, tn_ v218_5, tn_ v195_3]; omega)])]; omega) (by rw [tn_ y133, tn_ v218_6]; omega)⟩) (by omega) (by omega) (by first | exact ms_su hx218_3 ty133 (by decide) | omega) hP hS (lv_sub hl [0, 1, 2, 3, 4, 5, 6] rfl)
                                        · --272 not
                                          have t134 : y127.toInt ≤ y123.toInt := ti_nlt c129
                                          refine lv_iload hx hb dX13_score_275 (lv_at hl 0 rfl) ?_
                                          refine lv_istore (lv' := [(5, .int v218_6), (6, .int v218_6), (4, .int v206_4), (3, .int v195_3), (2, .int y38), (0, .ref (ad 0)), (1, .int a0)]) hx hb dX13_score_277 hl (by decide) rfl (fun ls hl => ?_)
                                          obtain ⟨y135, ey135⟩ : ∃ y : Int32, y = v218_6 + (1 : Int32) := ⟨_, rfl⟩
                                          obtain ⟨ty135, iy135⟩ := ti_add (e := 1) (f := 20) i103 ln_1 ey135 (by decide)
                                          have ty135 : y135.toInt = v218_6.toInt + 1 := ty135
                                          have iy135 : 1 ≤ y135.toInt ∧ y135.toInt ≤ 20 := iy135
                                          refine lv_iinc (v := y135) (lv' := [(6, .int y135), (5, .int v218_6), (4, .int v206_4), (3, .int v195_3), (2, .int y38), (0, .ref (ad 0)), (1, .int a0)]) hx hb dX13_score_279 hl (k := 1) rfl (by rw [ey135]; rfl) (by decide) rfl (fun ls hl => ?_)
                                          refine lv_goto (tgt := 218) hx hb dX13_score_282 (by decide) ?_
                                          exact ih218 y135 v218_6 _ _ _ (iv_w iy135 (by decide)) (iv_w i103 (by decide)) (by obtain ⟨m9, h9⟩ := hx218_0; have h8 : m9 = (g59_32 (16 * v218_5.toNatClampNeg + v195_3.toNatClampNeg)).toInt := h9.get (by omega); exact ⟨_, h9.new (m' := (g59_32 (16 * v218_6.toNatClampNeg + v195_3.toNatClampNeg)).toInt) (show y107 = g206_36 (16 * v218_6.toNatClampNeg + v195_3.toNatClampNeg) by rw [ey107, (show y106.toNatClampNeg = 16 * v218_6.toNatClampNeg + v195_3.toNatClampNeg by rw [tn_ y106, tn_ v218_6, tn_ v195_3]; omega)]) (by omega) (Or.inr (by rw [h8]; show (g59_32 (16 * v218_5.toNatClampNeg + v195_3.toNatClampNeg)).toInt ≤ (g59_32 (16 * v218_6.toNatClampNeg + v195_3.toNatClampNeg)).toInt; rw [← (show y127 = g59_32 (16 * v218_5.toNatClampNeg + v195_3.toNatClampNeg) by rw [ey127, (show y126.toNatClampNeg = 16 * v218_5.toNatClampNeg + v195_3.toNatClampNeg by rw [tn_ y126, tn_ v218_5, tn_ v195_3]; omega)]), ← (show y123 = g59_32 (16 * v218_6.toNatClampNeg + v195_3.toNatClampNeg) by rw [ey123, (show y122.toNatClampNeg = 16 * v218_6.toNatClampNeg + v195_3.toNatClampNeg by rw [tn_ y122, tn_ v218_6, tn_ v195_3]; omega)])]; omega)) (by rw [tn_ v218_6]; omega) rfl (by rw [tn_ y135, tn_ v218_6]; omega)⟩) (by omega) (by omega) (by first | exact ms_su hx218_3 ty135 (by decide) | omega) hP hS (lv_sub hl [0, 1, 2, 3, 4, 5, 6] rfl)
                              exact hL218 (21) (0 : Int32) (-1 : Int32) _ _ _ (iv_w ln_0 (by decide)) (iv_w ln_m1 (by decide)) ⟨0, WsI.start (show (-1 : Int32).toInt = -1 from rfl) rfl⟩ (by have z9 := ln_0; omega) (by have z9 := ln_0; have z8 := ln_m1; omega) (by have h9 := ln_0; first | exact ms_bu h9.1 (by decide) | omega) hP hS (lv_sub hl [0, 1, 2, 3, 4, 5, 6] rfl)
                        exact hL206 (20) g195_36 (0 : Int32) E195_ _ _ _ (iv_w ln_0 (by decide)) (show ThR (fun r9 : Nat => (g59_32 (16 * r9 + v195_3.toNatClampNeg)).toInt) w20_0_55.toNatClampNeg 0 (fun r9 : Nat => g195_36 (16 * r9 + v195_3.toNatClampNeg)) from fun r9 q9 => hx195_1 v195_3.toNatClampNeg (Nat.le_refl _) (by rw [tn_, tn_]; omega) r9 q9) Frm.rf (by have z9 := ln_0; omega) (by have h9 := ln_0; first | exact ms_bu h9.1 (by decide) | omega) hI hKp hs195_0_55 hs195_0_0 hr195_32 hr195_36 hr195_37 hr195_33 hP hS (lv_sub hl [0, 1, 2, 3, 4] rfl)
                  exact hL195 (17) g59_36 g4 (0 : Int32) E31 _ _ _ (iv_w ln_0 (by decide)) (fun b9 h9 => absurd h9 (Nat.not_lt_zero b9)) (fun b9 _ h9 r9 q9 => (k40 b9 h9).2.2 r9 q9) (by have z9 := ln_0; omega) (by have h9 := ln_0; first | exact ms_bu h9.1 (by decide) | omega) hI hKp ((kq32 0 55 rfl).trans ((pw27.2 0 55 (fun q9 => absurd q9.1 (Nat.ne_of_beq_eq_false rfl))).trans ((kq23 0 55 rfl).trans hs59_0_55))) ((kq32 0 0 rfl).trans ((pw27.2 0 0 (fun q9 => absurd q9.1 (Nat.ne_of_beq_eq_false rfl))).trans ((kq23 0 0 rfl).trans hs59_0_0))) ((kq32.ef 32 (fun _ => rfl)).trans ((pw27.ef 32 (Nat.ne_of_beq_eq_false rfl)).trans ((kq23.ef 32 (fun _ => rfl)).trans hr59_32))) ((kq32.ef 36 (fun _ => rfl)).trans ((pw27.ef 36 (Nat.ne_of_beq_eq_false rfl)).trans ((kq23.ef 36 (fun _ => rfl)).trans hr59_36))) ((kq32.ef 37 (fun _ => rfl)).trans ((pw27.ef 37 (Nat.ne_of_beq_eq_false rfl)).trans ((kq23.ef 37 (fun _ => rfl)).trans hr59_37))) ((kq32.ef 33 (fun _ => rfl)).trans ((pw27.ef 33 (Nat.ne_of_beq_eq_false rfl)).trans ((kq23.ef 33 (fun _ => rfl)).trans hr59_33))) hP hS (lv_sub hl [0, 1, 2, 3] rfl)
                · --64 not
                  have t136 : v59_2.toInt < (xi (E 0) 8).toInt := ti_nle c19
                  have i137 : 0 ≤ v59_2.toInt ∧ v59_2.toInt ≤ 15 := iv_lt_l t136 hv59_2 i18 (by decide)
                  have i138 : 1 ≤ (xi (E 0) 8).toInt ∧ (xi (E 0) 8).toInt ≤ 16 := iv_lt_r t136 hv59_2 i18 (by decide)
                  refine lv_aload_n hx hb dX13_score_67 rfl (lv_at hl 1 rfl) ?_
                  refine th_get (ci := 14) (C := RX13) (T := TX13) (N := 97) (v := .ref (ad 37)) hx hb hts hinX13 hown hK hP hI 0 (Nat.le_of_ble_eq_true rfl) rfl rfl 54 (Nat.le_of_ble_eq_true rfl) (hts _ (vA_in _ _ (in_32 _ (zs4 (zs4 (zs4 (zs1 (zs1 (zs0))))))))) (fun _ h9 => h9) (hI.fr 0 (Nat.le_of_ble_eq_true rfl) rfl (Nat.le_of_ble_eq_true rfl) 37 rfl) dX13_score_68 ?_
                  refine lv_iload_n hx hb dX13_score_71 rfl (lv_at hl 0 rfl) ?_
                  refine lv_iconst (v := 0) hx hb dX13_score_72 (by decide) ?_
                  have n139 : vp_in v59_2 16 := (iv_in (n := 16) i137 (by decide))
                  refine th_zast hx hb hK hP (WX_D hD) hS hI 37 (Nat.le_of_ble_eq_true rfl) rfl rfl n139 (iv_w ln_0 (by decide)) (okI rfl (iv_w ln_0 (by decide))) dX13_score_73 (fun H locs E140 pw141 hI hP hS => ?_)
                  have hKp := hKp.pw pw141 rfl
                  obtain ⟨g142, eg142⟩ : ∃ z : Nat → Int32, z = upd g59_37 v59_2.toNatClampNeg (0 : Int32) := ⟨_, rfl⟩
                  have hg142 : xi (E140 37) = g142 := by rw [pw141.eu, hr59_37, eg142]
                  refine lv_iconst (v := 0) hx hb dX13_score_74 (by decide) ?_
                  refine lv_istore_n (lv' := [(3, .int 0), (2, .int v59_2), (0, .ref (ad 0)), (1, .int a0)]) hx hb dX13_score_75 rfl hl (by decide) rfl (fun ls hl => ?_)
                  have hL76 : ∀ d : Nat, ∀ (g76_32 : Nat → Int32) (g76_36 : Nat → Int32) (g76_37 : Nat → Int32) (v76_3 : Int32) (E76_ : Nat → va_E) (H : Heap) (locs : List Loc) (ls : Array Slot), 0 ≤ v76_3.toInt ∧ v76_3.toInt ≤ 20 → (∀ r9 : Nat, r9 < v76_3.toNatClampNeg → PtM E (nI r9) (nI v59_2.toNatClampNeg) a0 (g76_32 (16 * r9 + v59_2.toNatClampNeg)).toInt) → (∀ r9 : Nat, r9 < v76_3.toNatClampNeg → g76_36 (16 * r9 + v59_2.toNatClampNeg) = 0) → ((g76_37 v59_2.toNatClampNeg).toInt = 1 ↔ EnK E a0.toInt v76_3.toNatClampNeg v59_2.toNatClampNeg) → Frm g59_32 g76_32 v59_2.toNatClampNeg → Frm g59_36 g76_36 v59_2.toNatClampNeg → (∀ b9 : Nat, ¬ b9 = v59_2.toNatClampNeg → g76_37 b9 = g59_37 b9) → v76_3.toInt ≤ w20_0_55.toInt → 20 - v76_3.toInt < (d : Int) → IX cT shM spM 72 ad E76_ → Kp w_scoreM E E76_ → xv (E76_ 0) 55 = .int w20_0_55 → xv (E76_ 0) 0 = .int 0 → xi (E76_ 32) = g76_32 → xi (E76_ 36) = g76_36 → xi (E76_ 37) = g76_37 → xi (E76_ 33) = g4 → va_P (dC, dI) vwCl (WX 72 ad E76_) H → va_S A s.heap H locs → lv_has ls 7 [(3, .int v76_3), (2, .int v59_2), (0, .ref (ad 0)), (1, .int a0)] → W p l e (headSpec v_scoreM rm_scoreM).room s m args below meth c H locs 0 0 Q (F0 m 76 ls []) := by
                    intro d
                    induction d with
                    | zero =>
                      intro g76_32 g76_36 g76_37 v76_3 E76_ H locs ls hv76_3 hx76_0 hx76_1 hx76_2 hx76_3 hx76_4 hx76_5 hx76_6 hx76_7 hI hKp hs76_0_55 hs76_0_0 hr76_32 hr76_36 hr76_37 hr76_33 hP hS hl
                      exact absurd hx76_7 (by first | exact ms_zu hv76_3.2 | omega)
                    | succ d ih76 =>
                      intro g76_32 g76_36 g76_37 v76_3 E76_ H locs ls hv76_3 hx76_0 hx76_1 hx76_2 hx76_3 hx76_4 hx76_5 hx76_6 hx76_7 hI hKp hs76_0_55 hs76_0_0 hr76_32 hr76_36 hr76_37 hr76_33 hP hS hl
                      refine lv_iload_n hx hb dX13_score_76 rfl (lv_at hl 0 rfl) ?_
                      refine lv_aload_n hx hb dX13_score_77 rfl (lv_at hl 2 rfl) ?_
                      refine th_get (ci := 14) (C := RX13) (T := TX13) (N := 97) (v := .int w20_0_55) hx hb hts hinX13 hown hK hP hI 0 (Nat.le_of_ble_eq_true rfl) rfl rfl 55 (Nat.le_of_ble_eq_true rfl) (hts _ (vA_in _ _ (in_32 _ (zs16 (zs1 (zs1 (zs1 (zs0)))))))) (fun _ h9 => h9) hs76_0_55 dX13_score_78 ?_
                      refine lv_icmp_ge (tgt := 150) hx hb dX13_score_81 (by decide) (fun c143 => ?_) (fun c143 => ?_)
                      · --81 taken
                        have t144 : w20_0_55.toInt ≤ v76_3.toInt := ti_le c143
                        obtain ⟨y145, ey145⟩ : ∃ y : Int32, y = v59_2 + (1 : Int32) := ⟨_, rfl⟩
                        obtain ⟨ty145, iy145⟩ := ti_add (e := 1) (f := 16) i137 ln_1 ey145 (by decide)
                        have ty145 : y145.toInt = v59_2.toInt + 1 := ty145
                        have iy145 : 1 ≤ y145.toInt ∧ y145.toInt ≤ 16 := iy145
                        refine lv_iinc (v := y145) (lv' := [(2, .int y145), (3, .int v76_3), (0, .ref (ad 0)), (1, .int a0)]) hx hb dX13_score_150 hl (k := 1) rfl (by rw [ey145]; rfl) (by decide) rfl (fun ls hl => ?_)
                        refine lv_goto (tgt := 59) hx hb dX13_score_153 (by decide) ?_
                        exact ih59 g76_32 g76_36 g76_37 y145 E76_ _ _ _ (iv_w iy145 (by decide)) (ScI.next hx59_0 hx76_3 hx76_4 hx76_5 (fun r9 q9 => hx76_0 r9 (by rw [(show v76_3.toNatClampNeg = w20_0_55.toNatClampNeg by rw [tn_, tn_]; omega)]; exact q9)) (by have h9 := hx76_2; rw [(show v76_3.toNatClampNeg = w20_0_55.toNatClampNeg by rw [tn_, tn_]; omega)] at h9; exact h9) (fun r9 q9 => hx76_1 r9 (by rw [(show v76_3.toNatClampNeg = w20_0_55.toNatClampNeg by rw [tn_, tn_]; omega)]; exact q9)) (by omega) ⟨by omega, by omega⟩) (by omega) (by first | exact ms_su hx59_2 ty145 (by decide) | omega) hI hKp hs76_0_55 hs76_0_0 hr76_32 hr76_36 hr76_37 hr76_33 hP hS (lv_sub hl [0, 2, 3] rfl)
                      · --81 not
                        have t146 : v76_3.toInt < w20_0_55.toInt := ti_nle c143
                        have i147 : 0 ≤ v76_3.toInt ∧ v76_3.toInt ≤ 19 := iv_lt_l t146 hv76_3 hw20_0_55 (by decide)
                        have i148 : 1 ≤ w20_0_55.toInt ∧ w20_0_55.toInt ≤ 20 := iv_lt_r t146 hv76_3 hw20_0_55 (by decide)
                        refine lv_aload_n hx hb dX13_score_84 rfl (lv_at hl 2 rfl) ?_
                        refine th_get (ci := 14) (C := RX13) (T := TX13) (N := 97) (v := .ref (ad 32)) hx hb hts hinX13 hown hK hP hI 0 (Nat.le_of_ble_eq_true rfl) rfl rfl 49 (Nat.le_of_ble_eq_true rfl) (hts _ (vA_in _ _ (in_32 _ (zs4 (zs4 (zs1 (zs0))))))) (fun _ h9 => h9) (hI.fr 0 (Nat.le_of_ble_eq_true rfl) rfl (Nat.le_of_ble_eq_true rfl) 32 rfl) dX13_score_85 ?_
                        refine lv_bipush (v := 16) hx hb dX13_score_88 (by decide) ?_
                        refine lv_iload_n hx hb dX13_score_90 rfl (lv_at hl 0 rfl) ?_
                        refine lv_imul hx hb dX13_score_91 ?_
                        refine lv_topi (fun y149 ey149 => ?_)
                        obtain ⟨ty149, iy149⟩ := ti_mul (e := 0) (f := 304) ln_16 i147 ey149 (by decide)
                        have ty149 : y149.toInt = 16 * v76_3.toInt := ty149
                        have iy149 : 0 ≤ y149.toInt ∧ y149.toInt ≤ 304 := iy149
                        refine lv_iload_n hx hb dX13_score_92 rfl (lv_at hl 1 rfl) ?_
                        refine lv_iadd hx hb dX13_score_93 ?_
                        refine lv_topi (fun y150 ey150 => ?_)
                        obtain ⟨ty150, iy150⟩ := ti_add (e := 0) (f := 319) iy149 i137 ey150 (by decide)
                        have ty150 : y150.toInt = y149.toInt + v59_2.toInt := ty150
                        have iy150 : 0 ≤ y150.toInt ∧ y150.toInt ≤ 319 := iy150
                        refine lv_aload_n hx hb dX13_score_94 rfl (lv_at hl 2 rfl) ?_
                        refine lv_iload_n hx hb dX13_score_95 rfl (lv_at hl 0 rfl) ?_
                        refine lv_iload_n hx hb dX13_score_96 rfl (lv_at hl 1 rfl) ?_
                        refine lv_iload_n hx hb dX13_score_97 rfl (lv_at hl 3 rfl) ?_
                        refine th_i (va_runV (As := [.int v76_3, .int v59_2, .int a0]) (rest := [.int y150, .ref (ad 32)]) ⟨hx, hb, hml, hown, hts⟩ (q_pointsOfM l dC dI cT ad E76_ H.size v76_3 v59_2 a0 hI i147 i137 (by exact hh0.cg (fun j9 => hKp.ei 8 j9 rfl) (fun j9 => hKp.ei 9 j9 rfl) (hKp.ei 0 17 rfl))) (cwV 3 hts (gi_V (in_32 _ (zs16 (zs16 (zs1 (zs1 (zs1 (zs0))))))) (in_32 _ (zs16 (zs16 (zs4 (zs0))))) (in_32 _ (zs16 (zs16 (zs4 (zs1 (zs0)))))) (in_24 _ (zs4 (zs4 (zs4 (zs1 (zs1 (zs1 (zs0)))))))) (in_32 _ (zs16 (zs16 (zs4 (zs1 (zs1 (zs0)))))))) rfl rfl rfl ⟨rfl, hz_yX13_pointsOf_3⟩ ⟨Nat.le_of_ble_eq_true rfl, Nat.le_of_ble_eq_true rfl⟩) ⟨HW_bl, va_recv hK hP (ci := 14) (q0 := 0) rfl (hI.ob 0 (Nat.le_of_ble_eq_true rfl) rfl), (HW_wi hP hK (WX_D hD) hS hA hEV)⟩ rfl rfl hl.1 rfl (lv_room (Nat.le_of_ble_eq_true rfl)) dX13_score_98 ⟨Nat.le_of_ble_eq_true rfl, Nat.le_of_ble_eq_true rfl⟩) (WX_D hD) hS hA (fun r151 E152 H locs hw hP hS => ?_)
                        obtain ⟨hI, kq153, hw⟩ := hw
                        have hKb := hKp
                        have hKp := hKp.tr kq153 (wl_sub rfl rfl)
                        have f154 := hw
                        have k155 : PtM E (nI v76_3.toNatClampNeg) (nI v59_2.toNatClampNeg) a0 r151.toInt := by rw [nI_tn (show 0 ≤ v76_3.toInt by omega), nI_tn (show 0 ≤ v59_2.toInt by omega)]; exact PtM_kd (KdN.of hKb rfl rfl rfl rfl rfl) (fun o9 ho9 j9 => by simp only [kd9, List.mem_cons, List.not_mem_nil, or_false] at ho9; rcases ho9 with rfl | rfl | rfl | rfl <;> exact hKb.ei _ j9 rfl) (hKb.ei 0 8 rfl) (hKb.ei 0 46 rfl) (hKb.ei 0 48 rfl) f154
                        have n156 : vp_in y150 320 := (iv_in (n := 320) iy150 (by decide))
                        refine th_iast hx hb hK hP (WX_D hD) hS hI 32 (Nat.le_of_ble_eq_true rfl) rfl rfl n156 (okI rfl (iv_all _)) dX13_score_101 (fun H locs E157 pw158 hI hP hS => ?_)
                        have hKp := hKp.pw pw158 rfl
                        obtain ⟨g159, eg159⟩ : ∃ z : Nat → Int32, z = upd g76_32 y150.toNatClampNeg r151 := ⟨_, rfl⟩
                        have hg159 : xi (E157 32) = g159 := by rw [pw158.eu, ((kq153.ef 32 (fun _ => rfl)).trans hr76_32), eg159]
                        refine lv_aload_n hx hb dX13_score_102 rfl (lv_at hl 2 rfl) ?_
                        refine th_get (ci := 14) (C := RX13) (T := TX13) (N := 97) (v := .ref (ad 36)) hx hb hts hinX13 hown hK hP hI 0 (Nat.le_of_ble_eq_true rfl) rfl rfl 53 (Nat.le_of_ble_eq_true rfl) (hts _ (vA_in _ _ (in_32 _ (zs4 (zs4 (zs4 (zs1 (zs0)))))))) (fun _ h9 => h9) (hI.fr 0 (Nat.le_of_ble_eq_true rfl) rfl (Nat.le_of_ble_eq_true rfl) 36 rfl) dX13_score_103 ?_
                        refine lv_bipush (v := 16) hx hb dX13_score_106 (by decide) ?_
                        refine lv_iload_n hx hb dX13_score_108 rfl (lv_at hl 0 rfl) ?_
                        refine lv_imul hx hb dX13_score_109 ?_
                        refine lv_topi (fun y160 ey160 => ?_)
                        obtain ⟨ty160, iy160⟩ := ti_mul (e := 0) (f := 304) ln_16 i147 ey160 (by decide)
                        have ty160 : y160.toInt = 16 * v76_3.toInt := ty160
                        have iy160 : 0 ≤ y160.toInt ∧ y160.toInt ≤ 304 := iy160
                        refine lv_iload_n hx hb dX13_score_110 rfl (lv_at hl 1 rfl) ?_
                        refine lv_iadd hx hb dX13_score_111 ?_
                        refine lv_topi (fun y161 ey161 => ?_)
                        obtain ⟨ty161, iy161⟩ := ti_add (e := 0) (f := 319) iy160 i137 ey161 (by decide)
                        have ty161 : y161.toInt = y160.toInt + v59_2.toInt := ty161
                        have iy161 : 0 ≤ y161.toInt ∧ y161.toInt ≤ 319 := iy161
                        refine lv_iconst (v := 0) hx hb dX13_score_112 (by decide) ?_
                        have n162 : vp_in y161 320 := (iv_in (n := 320) iy161 (by decide))
                        refine th_zast hx hb hK hP (WX_D hD) hS hI 36 (Nat.le_of_ble_eq_true rfl) rfl rfl n162 (iv_w ln_0 (by decide)) (okI rfl (iv_w ln_0 (by decide))) dX13_score_113 (fun H locs E163 pw164 hI hP hS => ?_)
                        have hKp := hKp.pw pw164 rfl
                        obtain ⟨g165, eg165⟩ : ∃ z : Nat → Int32, z = upd g76_36 y161.toNatClampNeg (0 : Int32) := ⟨_, rfl⟩
                        have hg165 : xi (E163 36) = g165 := by rw [pw164.eu, ((pw158.ef 36 (Nat.ne_of_beq_eq_false rfl)).trans ((kq153.ef 36 (fun _ => rfl)).trans hr76_36)), eg165]
                        refine lv_aload_n hx hb dX13_score_114 rfl (lv_at hl 2 rfl) ?_
                        refine th_get (ci := 14) (C := RX13) (T := TX13) (N := 97) (v := .ref (ad 37)) hx hb hts hinX13 hown hK hP hI 0 (Nat.le_of_ble_eq_true rfl) rfl rfl 54 (Nat.le_of_ble_eq_true rfl) (hts _ (vA_in _ _ (in_32 _ (zs4 (zs4 (zs4 (zs1 (zs1 (zs0))))))))) (fun _ h9 => h9) (hI.fr 0 (Nat.le_of_ble_eq_true rfl) rfl (Nat.le_of_ble_eq_true rfl) 37 rfl) dX13_score_115 ?_
                        refine lv_iload_n hx hb dX13_score_118 rfl (lv_at hl 1 rfl) ?_
                        refine lv_aload_n hx hb dX13_score_119 rfl (lv_at hl 2 rfl) ?_
                        refine th_get (ci := 14) (C := RX13) (T := TX13) (N := 97) (v := .ref (ad 37)) hx hb hts hinX13 hown hK hP hI 0 (Nat.le_of_ble_eq_true rfl) rfl rfl 54 (Nat.le_of_ble_eq_true rfl) (hts _ (vA_in _ _ (in_32 _ (zs4 (zs4 (zs4 (zs1 (zs1 (zs0))))))))) (fun _ h9 => h9) (hI.fr 0 (Nat.le_of_ble_eq_true rfl) rfl (Nat.le_of_ble_eq_true rfl) 37 rfl) dX13_score_120 ?_
                        refine lv_iload_n hx hb dX13_score_123 rfl (lv_at hl 1 rfl) ?_
                        have n167 : vp_in v59_2 16 := (iv_in (n := 16) i137 (by decide))
                        refine th_zald hx hb hK hP hI 37 (Nat.le_of_ble_eq_true rfl) rfl rfl n167 dX13_score_124 (fun y166 ey166 => ?_)
                        have iy166 : 0 ≤ y166.toInt ∧ y166.toInt ≤ 1 := hI.el 37 (Nat.le_of_ble_eq_true rfl) rfl n167 (fun _ => rfl) ey166
                        have ey166 := ey166.trans (congrFun ((pw164.ef 37 (Nat.ne_of_beq_eq_false rfl)).trans ((pw158.ef 37 (Nat.ne_of_beq_eq_false rfl)).trans ((kq153.ef 37 (fun _ => rfl)).trans hr76_37))) _)
                        refine lv_if_ne (tgt := 138) hx hb dX13_score_125 (by decide) (fun c168 => ?_) (fun c168 => ?_)
                        · --125 taken
                          have t169 : ¬ y166.toInt = 0 := ti_ne c168
                          have i170 : 1 ≤ y166.toInt ∧ y166.toInt ≤ 1 := iv_ne_l t169 iy166 (il_ 0)
                          refine lv_iconst (v := 1) hx hb dX13_score_138 (by decide) ?_
                          refine lv_goto (tgt := 143) hx hb dX13_score_139 (by decide) ?_
                          have n171 : vp_in v59_2 16 := (iv_in (n := 16) i137 (by decide))
                          refine th_zast hx hb hK hP (WX_D hD) hS hI 37 (Nat.le_of_ble_eq_true rfl) rfl rfl n171 (iv_w ln_1 (by decide)) (okI rfl (iv_w ln_1 (by decide))) dX13_score_143 (fun H locs E172 pw173 hI hP hS => ?_)
                          have hKp := hKp.pw pw173 rfl
                          obtain ⟨g174, eg174⟩ : ∃ z : Nat → Int32, z = upd g76_37 v59_2.toNatClampNeg (1 : Int32) := ⟨_, rfl⟩
                          have hg174 : xi (E172 37) = g174 := by rw [pw173.eu, ((pw164.ef 37 (Nat.ne_of_beq_eq_false rfl)).trans ((pw158.ef 37 (Nat.ne_of_beq_eq_false rfl)).trans ((kq153.ef 37 (fun _ => rfl)).trans hr76_37))), eg174]
                          obtain ⟨y175, ey175⟩ : ∃ y : Int32, y = v76_3 + (1 : Int32) := ⟨_, rfl⟩
                          obtain ⟨ty175, iy175⟩ := ti_add (e := 1) (f := 20) i147 ln_1 ey175 (by decide)
                          have ty175 : y175.toInt = v76_3.toInt + 1 := ty175
                          have iy175 : 1 ≤ y175.toInt ∧ y175.toInt ≤ 20 := iy175
                          refine lv_iinc (v := y175) (lv' := [(3, .int y175), (2, .int v59_2), (0, .ref (ad 0)), (1, .int a0)]) hx hb dX13_score_144 hl (k := 0) rfl (by rw [ey175]; rfl) (by decide) rfl (fun ls hl => ?_)
                          refine lv_goto (tgt := 76) hx hb dX13_score_147 (by decide) ?_
                          exact ih76 g159 g165 g174 y175 E172 _ _ _ (iv_w iy175 (by decide)) (cl_s (P := fun r9 z9 => PtM E (nI r9) (nI v59_2.toNatClampNeg) a0 z9.toInt) hx76_0 eg159 (show y150.toNatClampNeg = 16 * v76_3.toNatClampNeg + v59_2.toNatClampNeg by rw [tn_ y150, tn_ v76_3, tn_ v59_2]; omega) k155 (by omega) (by omega)) (cl_s (P := fun _ z9 => z9 = 0) hx76_1 eg165 (show y161.toNatClampNeg = 16 * v76_3.toNatClampNeg + v59_2.toNatClampNeg by rw [tn_ y161, tn_ v76_3, tn_ v59_2]; omega) rfl (by omega) (by omega)) (by rw [eg174, upd_i]; exact EnK.y ((show y166.toInt = 1 ↔ EnK E a0.toInt v76_3.toNatClampNeg v59_2.toNatClampNeg by rw [ey166]; exact hx76_2).mp (by omega)) (show (1 : Int32).toInt = 1 from rfl) (by rw [tn_ y175, tn_ v76_3]; omega)) (hx76_3.up eg159 (show y150.toNatClampNeg = 16 * v76_3.toNatClampNeg + v59_2.toNatClampNeg by rw [tn_ y150, tn_ v76_3, tn_ v59_2]; omega) (by rw [tn_]; omega)) (hx76_4.up eg165 (show y161.toNatClampNeg = 16 * v76_3.toNatClampNeg + v59_2.toNatClampNeg by rw [tn_ y161, tn_ v76_3, tn_ v59_2]; omega) (by rw [tn_]; omega)) (fun b9 h9 => by rw [eg174, upd_j h9]; exact hx76_5 b9 h9) (by omega) (by first | exact ms_su hx76_7 ty175 (by decide) | omega) hI hKp ((pw173.2 0 55 (fun q9 => absurd q9.1 (Nat.ne_of_beq_eq_false rfl))).trans ((pw164.2 0 55 (fun q9 => absurd q9.1 (Nat.ne_of_beq_eq_false rfl))).trans ((pw158.2 0 55 (fun q9 => absurd q9.1 (Nat.ne_of_beq_eq_false rfl))).trans ((kq153 0 55 rfl).trans hs76_0_55)))) ((pw173.2 0 0 (fun q9 => absurd q9.1 (Nat.ne_of_beq_eq_false rfl))).trans ((pw164.2 0 0 (fun q9 => absurd q9.1 (Nat.ne_of_beq_eq_false rfl))).trans ((pw158.2 0 0 (fun q9 => absurd q9.1 (Nat.ne_of_beq_eq_false rfl))).trans ((kq153 0 0 rfl).trans hs76_0_0)))) ((pw173.ef 32 (Nat.ne_of_beq_eq_false rfl)).trans ((pw164.ef 32 (Nat.ne_of_beq_eq_false rfl)).trans hg159)) ((pw173.ef 36 (Nat.ne_of_beq_eq_false rfl)).trans hg165) hg174 ((pw173.ef 33 (Nat.ne_of_beq_eq_false rfl)).trans ((pw164.ef 33 (Nat.ne_of_beq_eq_false rfl)).trans ((pw158.ef 33 (Nat.ne_of_beq_eq_false rfl)).trans ((kq153.ef 33 (fun _ => rfl)).trans hr76_33)))) hP hS (lv_sub hl [0, 1, 2, 3] rfl)
                        · --125 not
                          have t176 : y166.toInt = 0 := ti_eq c168
                          have i177 : 0 ≤ y166.toInt ∧ y166.toInt ≤ 0 := iv_eqi t176 iy166 (il_ 0) (by decide)
                          refine lv_aload_n hx hb dX13_score_128 rfl (lv_at hl 2 rfl) ?_
                          refine lv_iload_n hx hb dX13_score_129 rfl (lv_at hl 0 rfl) ?_
                          refine lv_iload_n hx hb dX13_score_130 rfl (lv_at hl 1 rfl) ?_
                          refine lv_iload_n hx hb dX13_score_131 rfl (lv_at hl 3 rfl) ?_
                          refine th_ri (va_runV (As := [.int v76_3, .int v59_2, .int a0]) (rest := [.int v59_2, .ref (ad 37)]) ⟨hx, hb, hml, hown, hts⟩ (q_isEntered l dC dI cT ad E163 H.size v76_3 v59_2 a0 hI i147 i137) (cwV 3 hts (gi_V (in_24 _ (zs16 (zs16 (zs1 (zs1 (zs1 (zs0))))))) (in_24 _ (zs16 (zs16 (zs4 (zs0))))) (in_24 _ (zs16 (zs16 (zs4 (zs1 (zs0)))))) (in_24 _ (zs4 (zs4 (zs4 (zs1 (zs1 (zs1 (zs0)))))))) (in_24 _ (zs16 (zs16 (zs4 (zs1 (zs1 (zs0)))))))) rfl rfl rfl ⟨rfl, hz_yX13_isEntered_3⟩ ⟨Nat.le_of_ble_eq_true rfl, Nat.le_of_ble_eq_true rfl⟩) ⟨HW_bl, va_recv hK hP (ci := 14) (q0 := 0) rfl (hI.ob 0 (Nat.le_of_ble_eq_true rfl) rfl), (HW_wi hP hK (WX_D hD) hS hA hEV)⟩ rfl rfl hl.1 rfl (lv_room (Nat.le_of_ble_eq_true rfl)) dX13_score_132 ⟨Nat.le_of_ble_eq_true rfl, Nat.le_of_ble_eq_true rfl⟩) hS hP (fun r178 H locs hw hP hS => ?_)
                          rcases hw with hw | hw
                          · -- isEntered, case 0
                            obtain ⟨rfl, f179⟩ := hw
                            try rw [hKp.ef 21 (fun _ => rfl)] at f179
                            refine lv_if_eq (tgt := 142) hx hb dX13_score_135 (by decide) (fun c180 => ?_) (fun c180 => ?_)
                            · --135 taken
                              exact absurd c180 (by decide)
                            · --135 not
                              refine lv_iconst (v := 1) hx hb dX13_score_138 (by decide) ?_
                              refine lv_goto (tgt := 143) hx hb dX13_score_139 (by decide) ?_
                              have n181 : vp_in v59_2 16 := (iv_in (n := 16) i137 (by decide))
                              refine th_zast hx hb hK hP (WX_D hD) hS hI 37 (Nat.le_of_ble_eq_true rfl) rfl rfl n181 (iv_w ln_1 (by decide)) (okI rfl (iv_w ln_1 (by decide))) dX13_score_143 (fun H locs E182 pw183 hI hP hS => ?_)
                              have hKp := hKp.pw pw183 rfl
                              obtain ⟨g184, eg184⟩ : ∃ z : Nat → Int32, z = upd g76_37 v59_2.toNatClampNeg (1 : Int32) := ⟨_, rfl⟩
                              have hg184 : xi (E182 37) = g184 := by rw [pw183.eu, ((pw164.ef 37 (Nat.ne_of_beq_eq_false rfl)).trans ((pw158.ef 37 (Nat.ne_of_beq_eq_false rfl)).trans ((kq153.ef 37 (fun _ => rfl)).trans hr76_37))), eg184]
                              obtain ⟨y185, ey185⟩ : ∃ y : Int32, y = v76_3 + (1 : Int32) := ⟨_, rfl⟩
                              obtain ⟨ty185, iy185⟩ := ti_add (e := 1) (f := 20) i147 ln_1 ey185 (by decide)
                              have ty185 : y185.toInt = v76_3.toInt + 1 := ty185
                              have iy185 : 1 ≤ y185.toInt ∧ y185.toInt ≤ 20 := iy185
                              refine lv_iinc (v := y185) (lv' := [(3, .int y185), (2, .int v59_2), (0, .ref (ad 0)), (1, .int a0)]) hx hb dX13_score_144 hl (k := 0) rfl (by rw [ey185]; rfl) (by decide) rfl (fun ls hl => ?_)
                              refine lv_goto (tgt := 76) hx hb dX13_score_147 (by decide) ?_
                              exact ih76 g159 g165 g184 y185 E182 _ _ _ (iv_w iy185 (by decide)) (cl_s (P := fun r9 z9 => PtM E (nI r9) (nI v59_2.toNatClampNeg) a0 z9.toInt) hx76_0 eg159 (show y150.toNatClampNeg = 16 * v76_3.toNatClampNeg + v59_2.toNatClampNeg by rw [tn_ y150, tn_ v76_3, tn_ v59_2]; omega) k155 (by omega) (by omega)) (cl_s (P := fun _ z9 => z9 = 0) hx76_1 eg165 (show y161.toNatClampNeg = 16 * v76_3.toNatClampNeg + v59_2.toNatClampNeg by rw [tn_ y161, tn_ v76_3, tn_ v59_2]; omega) rfl (by omega) (by omega)) (by rw [eg184, upd_i]; exact EnK.new (show entMd E ((v76_3.toNatClampNeg : Nat) : Int) ((v59_2.toNatClampNeg : Nat) : Int) a0.toInt by rw [show ((v76_3.toNatClampNeg : Nat) : Int) = v76_3.toInt by rw [tn_]; omega, show ((v59_2.toNatClampNeg : Nat) : Int) = v59_2.toInt by rw [tn_]; omega]; exact f179) (show (1 : Int32).toInt = 1 from rfl) (by rw [tn_ y185, tn_ v76_3]; omega)) (hx76_3.up eg159 (show y150.toNatClampNeg = 16 * v76_3.toNatClampNeg + v59_2.toNatClampNeg by rw [tn_ y150, tn_ v76_3, tn_ v59_2]; omega) (by rw [tn_]; omega)) (hx76_4.up eg165 (show y161.toNatClampNeg = 16 * v76_3.toNatClampNeg + v59_2.toNatClampNeg by rw [tn_ y161, tn_ v76_3, tn_ v59_2]; omega) (by rw [tn_]; omega)) (fun b9 h9 => by rw [eg184, upd_j h9]; exact hx76_5 b9 h9) (by omega) (by first | exact ms_su hx76_7 ty185 (by decide) | omega) hI hKp ((pw183.2 0 55 (fun q9 => absurd q9.1 (Nat.ne_of_beq_eq_false rfl))).trans ((pw164.2 0 55 (fun q9 => absurd q9.1 (Nat.ne_of_beq_eq_false rfl))).trans ((pw158.2 0 55 (fun q9 => absurd q9.1 (Nat.ne_of_beq_eq_false rfl))).trans ((kq153 0 55 rfl).trans hs76_0_55)))) ((pw183.2 0 0 (fun q9 => absurd q9.1 (Nat.ne_of_beq_eq_false rfl))).trans ((pw164.2 0 0 (fun q9 => absurd q9.1 (Nat.ne_of_beq_eq_false rfl))).trans ((pw158.2 0 0 (fun q9 => absurd q9.1 (Nat.ne_of_beq_eq_false rfl))).trans ((kq153 0 0 rfl).trans hs76_0_0)))) ((pw183.ef 32 (Nat.ne_of_beq_eq_false rfl)).trans ((pw164.ef 32 (Nat.ne_of_beq_eq_false rfl)).trans hg159)) ((pw183.ef 36 (Nat.ne_of_beq_eq_false rfl)).trans hg165) hg184 ((pw183.ef 33 (Nat.ne_of_beq_eq_false rfl)).trans ((pw164.ef 33 (Nat.ne_of_beq_eq_false rfl)).trans ((pw158.ef 33 (Nat.ne_of_beq_eq_false rfl)).trans ((kq153.ef 33 (fun _ => rfl)).trans hr76_33)))) hP hS (lv_sub hl [0, 1, 2, 3] rfl)
                          · -- isEntered, case 1
                            obtain ⟨rfl, f186⟩ := hw
                            try rw [hKp.ef 21 (fun _ => rfl)] at f186
                            refine lv_if_eq (tgt := 142) hx hb dX13_score_135 (by decide) (fun c187 => ?_) (fun c187 => ?_)
                            · --135 taken
                              refine lv_iconst (v := 0) hx hb dX13_score_142 (by decide) ?_
                              have n188 : vp_in v59_2 16 := (iv_in (n := 16) i137 (by decide))
                              refine th_zast hx hb hK hP (WX_D hD) hS hI 37 (Nat.le_of_ble_eq_true rfl) rfl rfl n188 (iv_w ln_0 (by decide)) (okI rfl (iv_w ln_0 (by decide))) dX13_score_143 (fun H locs E189 pw190 hI hP hS => ?_)
                              have hKp := hKp.pw pw190 rfl
                              obtain ⟨g191, eg191⟩ : ∃ z : Nat → Int32, z = upd g76_37 v59_2.toNatClampNeg (0 : Int32) := ⟨_, rfl⟩
                              have hg191 : xi (E189 37) = g191 := by rw [pw190.eu, ((pw164.ef 37 (Nat.ne_of_beq_eq_false rfl)).trans ((pw158.ef 37 (Nat.ne_of_beq_eq_false rfl)).trans ((kq153.ef 37 (fun _ => rfl)).trans hr76_37))), eg191]
                              obtain ⟨y192, ey192⟩ : ∃ y : Int32, y = v76_3 + (1 : Int32) := ⟨_, rfl⟩
                              obtain ⟨ty192, iy192⟩ := ti_add (e := 1) (f := 20) i147 ln_1 ey192 (by decide)
                              have ty192 : y192.toInt = v76_3.toInt + 1 := ty192
                              have iy192 : 1 ≤ y192.toInt ∧ y192.toInt ≤ 20 := iy192
                              refine lv_iinc (v := y192) (lv' := [(3, .int y192), (2, .int v59_2), (0, .ref (ad 0)), (1, .int a0)]) hx hb dX13_score_144 hl (k := 0) rfl (by rw [ey192]; rfl) (by decide) rfl (fun ls hl => ?_)
                              refine lv_goto (tgt := 76) hx hb dX13_score_147 (by decide) ?_
                              exact ih76 g159 g165 g191 y192 E189 _ _ _ (iv_w iy192 (by decide)) (cl_s (P := fun r9 z9 => PtM E (nI r9) (nI v59_2.toNatClampNeg) a0 z9.toInt) hx76_0 eg159 (show y150.toNatClampNeg = 16 * v76_3.toNatClampNeg + v59_2.toNatClampNeg by rw [tn_ y150, tn_ v76_3, tn_ v59_2]; omega) k155 (by omega) (by omega)) (cl_s (P := fun _ z9 => z9 = 0) hx76_1 eg165 (show y161.toNatClampNeg = 16 * v76_3.toNatClampNeg + v59_2.toNatClampNeg by rw [tn_ y161, tn_ v76_3, tn_ v59_2]; omega) rfl (by omega) (by omega)) (by rw [eg191, upd_i]; exact EnK.no (fun q9 => by have q8 := (show y166.toInt = 1 ↔ EnK E a0.toInt v76_3.toNatClampNeg v59_2.toNatClampNeg by rw [ey166]; exact hx76_2).mpr q9; omega) (show ¬ entMd E ((v76_3.toNatClampNeg : Nat) : Int) ((v59_2.toNatClampNeg : Nat) : Int) a0.toInt by rw [show ((v76_3.toNatClampNeg : Nat) : Int) = v76_3.toInt by rw [tn_]; omega, show ((v59_2.toNatClampNeg : Nat) : Int) = v59_2.toInt by rw [tn_]; omega]; exact f186) (show (0 : Int32).toInt = 0 from rfl) (by rw [tn_ y192, tn_ v76_3]; omega)) (hx76_3.up eg159 (show y150.toNatClampNeg = 16 * v76_3.toNatClampNeg + v59_2.toNatClampNeg by rw [tn_ y150, tn_ v76_3, tn_ v59_2]; omega) (by rw [tn_]; omega)) (hx76_4.up eg165 (show y161.toNatClampNeg = 16 * v76_3.toNatClampNeg + v59_2.toNatClampNeg by rw [tn_ y161, tn_ v76_3, tn_ v59_2]; omega) (by rw [tn_]; omega)) (fun b9 h9 => by rw [eg191, upd_j h9]; exact hx76_5 b9 h9) (by omega) (by first | exact ms_su hx76_7 ty192 (by decide) | omega) hI hKp ((pw190.2 0 55 (fun q9 => absurd q9.1 (Nat.ne_of_beq_eq_false rfl))).trans ((pw164.2 0 55 (fun q9 => absurd q9.1 (Nat.ne_of_beq_eq_false rfl))).trans ((pw158.2 0 55 (fun q9 => absurd q9.1 (Nat.ne_of_beq_eq_false rfl))).trans ((kq153 0 55 rfl).trans hs76_0_55)))) ((pw190.2 0 0 (fun q9 => absurd q9.1 (Nat.ne_of_beq_eq_false rfl))).trans ((pw164.2 0 0 (fun q9 => absurd q9.1 (Nat.ne_of_beq_eq_false rfl))).trans ((pw158.2 0 0 (fun q9 => absurd q9.1 (Nat.ne_of_beq_eq_false rfl))).trans ((kq153 0 0 rfl).trans hs76_0_0)))) ((pw190.ef 32 (Nat.ne_of_beq_eq_false rfl)).trans ((pw164.ef 32 (Nat.ne_of_beq_eq_false rfl)).trans hg159)) ((pw190.ef 36 (Nat.ne_of_beq_eq_false rfl)).trans hg165) hg191 ((pw190.ef 33 (Nat.ne_of_beq_eq_false rfl)).trans ((pw164.ef 33 (Nat.ne_of_beq_eq_false rfl)).trans ((pw158.ef 33 (Nat.ne_of_beq_eq_false rfl)).trans ((kq153.ef 33 (fun _ => rfl)).trans hr76_33)))) hP hS (lv_sub hl [0, 1, 2, 3] rfl)
                            · --135 not
                              exact absurd c187 (by decide)
                  exact hL76 (21) g59_32 g59_36 g142 (0 : Int32) E140 _ _ _ (iv_w ln_0 (by decide)) (fun r9 h9 => absurd h9 (Nat.not_lt_zero r9)) (fun r9 h9 => absurd h9 (Nat.not_lt_zero r9)) (by rw [eg142, upd_i]; exact ⟨fun z9 => absurd z9 (by decide), fun ⟨r9, h9, _⟩ => absurd h9 (Nat.not_lt_zero r9)⟩) Frm.rf Frm.rf (fun b9 h9 => by rw [eg142, upd_j h9]) (by have z9 := ln_0; omega) (by have h9 := ln_0; first | exact ms_bu h9.1 (by decide) | omega) hI hKp ((pw141.2 0 55 (fun q9 => absurd q9.1 (Nat.ne_of_beq_eq_false rfl))).trans hs59_0_55) ((pw141.2 0 0 (fun q9 => absurd q9.1 (Nat.ne_of_beq_eq_false rfl))).trans hs59_0_0) ((pw141.ef 32 (Nat.ne_of_beq_eq_false rfl)).trans hr59_32) ((pw141.ef 36 (Nat.ne_of_beq_eq_false rfl)).trans hr59_36) hg142 ((pw141.ef 33 (Nat.ne_of_beq_eq_false rfl)).trans hr59_33) hP hS (lv_sub hl [0, 1, 2, 3] rfl)
            exact hL59 (17) g1 g2 g3 (0 : Int32) E20_ _ _ _ (iv_w ln_0 (by decide)) (fun b9 h9 => absurd h9 (Nat.not_lt_zero b9)) (by have z9 := ln_0; omega) (by have h9 := ln_0; first | exact ms_bu h9.1 (by decide) | omega) hI hKp hs20_0_55 hs20_0_0 hr20_32 hr20_36 hr20_37 hr20_33 hP hS (lv_sub hl [0, 1, 2] rfl)
          refine lv_icmp_ge (tgt := 57) hx hb dX13_score_28 (by decide) (fun c193 => ?_) (fun c193 => ?_)
          · --28 taken
            have t194 : (xi (E 0) 46).toInt ≤ w20_0_55.toInt := ti_le c193
            exact hJ57 _ _ _ (Or.inl (by omega)) hP hS (lv_sub hl [0, 1] rfl)
          · --28 not
            have t195 : w20_0_55.toInt < (xi (E 0) 46).toInt := ti_nle c193
            have i196 : 0 ≤ w20_0_55.toInt ∧ w20_0_55.toInt ≤ 19 := iv_lt_l t195 hw20_0_55 i17 (by decide)
            have i197 : 1 ≤ (xi (E 0) 46).toInt ∧ (xi (E 0) 46).toInt ≤ 20 := iv_lt_r t195 hw20_0_55 i17 (by decide)
            refine lv_aload_n hx hb dX13_score_31 rfl (lv_at hl 0 rfl) ?_
            refine th_get (ci := 14) (C := RX13) (T := TX13) (N := 97) (v := .ref (ad 20)) hx hb hts hinX13 hown hK hP hI 0 (Nat.le_of_ble_eq_true rfl) rfl rfl 34 (Nat.le_of_ble_eq_true rfl) (hts _ (vA_in _ _ (in_24 _ (zs4 (zs4 (zs1 (zs1 (zs1 (zs0))))))))) (fun _ h9 => h9) (hI.fr 0 (Nat.le_of_ble_eq_true rfl) rfl (Nat.le_of_ble_eq_true rfl) 20 rfl) dX13_score_32 ?_
            refine lv_aload_n hx hb dX13_score_35 rfl (lv_at hl 0 rfl) ?_
            refine th_get (ci := 14) (C := RX13) (T := TX13) (N := 97) (v := .int w20_0_55) hx hb hts hinX13 hown hK hP hI 0 (Nat.le_of_ble_eq_true rfl) rfl rfl 55 (Nat.le_of_ble_eq_true rfl) (hts _ (vA_in _ _ (in_32 _ (zs16 (zs1 (zs1 (zs1 (zs0)))))))) (fun _ h9 => h9) hs20_0_55 dX13_score_36 ?_
            have n199 : vp_in w20_0_55 20 := (iv_in (n := 20) i196 (by decide))
            refine th_iald hx hb hK hP hI 20 (Nat.le_of_ble_eq_true rfl) rfl rfl n199 dX13_score_39 (fun y198 ey198 => ?_)
            have iy198 : 0 ≤ y198.toInt ∧ y198.toInt ≤ 400 := hI.el 20 (Nat.le_of_ble_eq_true rfl) rfl n199 (fun _ => rfl) ey198
            have ey198 := ey198.trans (hKp.ei 20 _ rfl)
            refine lv_iload_n hx hb dX13_score_40 rfl (lv_at hl 1 rfl) ?_
            refine lv_icmp_gt (tgt := 57) hx hb dX13_score_41 (by decide) (fun c200 => ?_) (fun c200 => ?_)
            · --41 taken
              have t201 : a0.toInt < y198.toInt := ti_lt c200
              have i202 : 0 ≤ a0.toInt ∧ a0.toInt ≤ 399 := iv_lt_l t201 i13 iy198 (by decide)
              have i203 : 1 ≤ y198.toInt ∧ y198.toInt ≤ 400 := iv_lt_r t201 i13 iy198 (by decide)
              exact hJ57 _ _ _ (Or.inr (by rw [← ey198]; omega)) hP hS (lv_sub hl [0, 1] rfl)
            · --41 not
              have t204 : y198.toInt ≤ a0.toInt := ti_nlt c200
              refine lv_aload_n hx hb dX13_score_44 rfl (lv_at hl 0 rfl) ?_
              refine lv_dup hx hb dX13_score_45 rfl ?_
              refine th_get (ci := 14) (C := RX13) (T := TX13) (N := 97) (v := .int w20_0_55) hx hb hts hinX13 hown hK hP hI 0 (Nat.le_of_ble_eq_true rfl) rfl rfl 55 (Nat.le_of_ble_eq_true rfl) (hts _ (vA_in _ _ (in_32 _ (zs16 (zs1 (zs1 (zs1 (zs0)))))))) (fun _ h9 => h9) hs20_0_55 dX13_score_46 ?_
              refine lv_iconst (v := 1) hx hb dX13_score_49 (by decide) ?_
              refine lv_iadd hx hb dX13_score_50 ?_
              refine lv_topi (fun y205 ey205 => ?_)
              obtain ⟨ty205, iy205⟩ := ti_add (e := 1) (f := 20) i196 ln_1 ey205 (by decide)
              have ty205 : y205.toInt = w20_0_55.toInt + 1 := ty205
              have iy205 : 1 ≤ y205.toInt ∧ y205.toInt ≤ 20 := iy205
              refine th_put (ci := 14) (C := RX13) (T := TX13) (N := 97) (v := .int y205) (ty := .int) hx hb hts hinX13 tyX13 tyX13_ok nmX13 hown hK hP (WX_D hD) hS hI 0 (Nat.le_of_ble_eq_true rfl) rfl rfl 55 (Nat.le_of_ble_eq_true rfl) (hts _ (vA_in _ _ (in_32 _ (zs16 (zs1 (zs1 (zs1 (zs0)))))))) (fun _ h9 => h9) rfl (by decide +kernel) rfl rfl (okI rfl (iv_w iy205 (by decide))) dX13_score_51 (fun H locs E206 pw207 hI hP hS => ?_)
              have hKp := hKp.pw pw207 rfl
              refine lv_goto (tgt := 20) hx hb dX13_score_54 (by decide) ?_
              exact ih20 y205 E206 _ _ _ (iv_w iy205 (by decide)) (fun r9 h9 => dite (r9 = w20_0_55.toNatClampNeg) (fun q9 => by rw [q9, ← ey198]; omega) (fun q9 => hx20_0 r9 (by rw [tn_] at q9; omega))) (by omega) (by omega) hI hKp pw207.1 ((pw207.2 0 0 (fun q9 => absurd q9.2 (Nat.ne_of_beq_eq_false rfl))).trans hs20_0_0) ((pw207.ef 32 (Nat.ne_of_beq_eq_false rfl)).trans hr20_32) ((pw207.ef 36 (Nat.ne_of_beq_eq_false rfl)).trans hr20_36) ((pw207.ef 37 (Nat.ne_of_beq_eq_false rfl)).trans hr20_37) ((pw207.ef 33 (Nat.ne_of_beq_eq_false rfl)).trans hr20_33) hP hS (lv_sub hl [0, 1] rfl)
      exact hL20 (21) (0 : Int32) E15 _ _ _ (iv_w ln_0 (by decide)) (fun r9 h9 => by exfalso; have z9 := ln_0; omega) (by have z9 := ln_0; omega) (by have h9 := ln_0; first | exact ms_bu h9.1 (by decide) | omega) hI hKp pw16.1 ((pw16.2 0 0 (fun q9 => absurd q9.2 (Nat.ne_of_beq_eq_false rfl))).trans pw6.1) ((pw16.ef 32 (Nat.ne_of_beq_eq_false rfl)).trans ((pw6.ef 32 (Nat.ne_of_beq_eq_false rfl)).trans hg1)) ((pw16.ef 36 (Nat.ne_of_beq_eq_false rfl)).trans ((pw6.ef 36 (Nat.ne_of_beq_eq_false rfl)).trans hg2)) ((pw16.ef 37 (Nat.ne_of_beq_eq_false rfl)).trans ((pw6.ef 37 (Nat.ne_of_beq_eq_false rfl)).trans hg3)) ((pw16.ef 33 (Nat.ne_of_beq_eq_false rfl)).trans ((pw6.ef 33 (Nat.ne_of_beq_eq_false rfl)).trans hg4)) hP hS (lv_sub hl [0, 1] rfl)
    · --10 not
      exact absurd c14 (by decide)
  · -- isKnown, case 1
    obtain ⟨rfl, f208⟩ := hw
    have i209 : 0 ≤ (xi (E 0) 1).toInt ∧ (xi (E 0) 1).toInt ≤ 400 := (show 0 ≤ (xi (E 0) 1).toInt ∧ (xi (E 0) 1).toInt ≤ 400 from hI0.iv 0 (Nat.le_of_ble_eq_true rfl) rfl (Nat.le_of_ble_eq_true rfl) rfl)
    try rw [hKp.ei 0 1 rfl] at f208
    have t210 : ¬ ((0 : Int) ≤ a0.toInt ∧ a0.toInt ≤ (xi (E 0) 1).toInt) := f208
    refine lv_if_ne (tgt := 15) hx hb dX13_score_10 (by decide) (fun c211 => ?_) (fun c211 => ?_)
    · --10 taken
      exact absurd c211 (by decide)
    · --10 not
      refine lv_iconst (v := 0) hx hb dX13_score_13 (by decide) ?_
      rw [hQ]
      exact W.zret (v := 0) hx hb hr rfl (fun t ht hW => ⟨⟨0, E5, rfl, ⟨hI, hKp, Or.inr (⟨rfl, by have h8 := ln_0; all_goals omega⟩)⟩, by show va_P (dC, dI) vwCl (WX 72 ad E5) t.heap; rw [ht]; exact hP⟩, hS.F ht⟩) hS.2.2 dX13_score_14
