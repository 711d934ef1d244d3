set_option maxRecDepth 100000 in
theorem zh_dX13_score_0_0 : zc cX13_score 0 [42, 3, 181, 0, 228, 42, 27, 182, 0, 252, 154, 0, 5, 3, 172, 42] = true := by decide +kernel
set_option maxRecDepth 100000 in
theorem zh_dX13_score_16_16 : zc cX13_score 16 [3, 181, 1, 191, 42, 180, 1, 191, 42, 180, 1, 134, 162, 0, 29, 42] = true := by decide +kernel
set_option maxRecDepth 100000 in
theorem zh_dX13_score_32_32 : zc cX13_score 32 [180, 0, 71, 42, 180, 1, 191, 46, 27, 163, 0, 16, 42, 89, 180, 1] = true := by decide +kernel
set_option maxRecDepth 100000 in
theorem zh_dX13_score_46_48 : zc cX13_score 48 [191, 4, 96, 181, 1, 191, 167, 255, 222, 3, 61, 28, 42, 180, 0, 239] = true := by decide +kernel
set_option maxRecDepth 100000 in
theorem zh_dX13_score_64_64 : zc cX13_score 64 [162, 0, 92, 42, 180, 0, 123, 28, 3, 84, 3, 62, 29, 42, 180, 1] = true := by decide +kernel
set_option maxRecDepth 100000 in
theorem zh_dX13_score_78_80 : zc cX13_score 80 [191, 162, 0, 69, 42, 180, 0, 107, 16, 16, 29, 104, 28, 96, 42, 29] = true := by decide +kernel
set_option maxRecDepth 100000 in
theorem zh_dX13_score_96_96 : zc cX13_score 96 [28, 27, 182, 1, 188, 79, 42, 180, 0, 119, 16, 16, 29, 104, 28, 96] = true := by decide +kernel
set_option maxRecDepth 100000 in
theorem zh_dX13_score_112_112 : zc cX13_score 112 [3, 84, 42, 180, 0, 123, 28, 42, 180, 0, 123, 28, 51, 154, 0, 13] = true := by decide +kernel
set_option maxRecDepth 100000 in
theorem zh_dX13_score_128_128 : zc cX13_score 128 [42, 29, 28, 27, 182, 1, 140, 153, 0, 7, 4, 167, 0, 4, 3, 84] = true := by decide +kernel
set_option maxRecDepth 100000 in
theorem zh_dX13_score_144_144 : zc cX13_score 144 [132, 3, 1, 167, 255, 185, 132, 2, 1, 167, 255, 162, 42, 182, 1, 121] = true := by decide +kernel
set_option maxRecDepth 100000 in
theorem zh_dX13_score_160_160 : zc cX13_score 160 [42, 180, 0, 44, 16, 99, 42, 180, 1, 191, 79, 3, 42, 180, 1, 191] = true := by decide +kernel
set_option maxRecDepth 100000 in
theorem zh_dX13_score_176_176 : zc cX13_score 176 [4, 100, 42, 16, 116, 27, 27, 182, 1, 124, 184, 1, 127, 184, 1, 129] = true := by decide +kernel
set_option maxRecDepth 100000 in
theorem zh_dX13_score_192_192 : zc cX13_score 192 [61, 3, 62, 29, 42, 180, 0, 239, 162, 0, 175, 3, 54, 4, 21, 4] = true := by decide +kernel
set_option maxRecDepth 100000 in
theorem zh_dX13_score_208_208 : zc cX13_score 208 [28, 162, 0, 95, 2, 54, 5, 3, 54, 6, 21, 6, 42, 180, 1, 191] = true := by decide +kernel
set_option maxRecDepth 100000 in
theorem zh_dX13_score_224_224 : zc cX13_score 224 [162, 0, 61, 42, 180, 0, 119, 16, 16, 21, 6, 104, 29, 96, 51, 154] = true := by decide +kernel
set_option maxRecDepth 100000 in
theorem zh_dX13_score_239_240 : zc cX13_score 240 [0, 40, 21, 5, 2, 159, 0, 30, 42, 180, 0, 107, 16, 16, 21, 6] = true := by decide +kernel
set_option maxRecDepth 100000 in
theorem zh_dX13_score_256_256 : zc cX13_score 256 [104, 29, 96, 46, 42, 180, 0, 107, 16, 16, 21, 5, 104, 29, 96, 46] = true := by decide +kernel
set_option maxRecDepth 100000 in
theorem zh_dX13_score_272_272 : zc cX13_score 272 [161, 0, 7, 21, 6, 54, 5, 132, 6, 1, 167, 255, 192, 42, 180, 0] = true := by decide +kernel
set_option maxRecDepth 100000 in
theorem zh_dX13_score_286_288 : zc cX13_score 288 [119, 16, 16, 21, 5, 104, 29, 96, 4, 84, 132, 4, 1, 167, 255, 161] = true := by decide +kernel
set_option maxRecDepth 100000 in
theorem zh_dX13_score_304_304 : zc cX13_score 304 [42, 180, 0, 110, 29, 3, 79, 3, 54, 4, 21, 4, 42, 180, 1, 191] = true := by decide +kernel
set_option maxRecDepth 100000 in
theorem zh_dX13_score_320_320 : zc cX13_score 320 [162, 0, 49, 42, 180, 0, 110, 29, 92, 46, 42, 180, 0, 119, 16, 16] = true := by decide +kernel
set_option maxRecDepth 100000 in
theorem zh_dX13_score_336_336 : zc cX13_score 336 [21, 4, 104, 29, 96, 51, 153, 0, 7, 3, 167, 0, 15, 42, 180, 0] = true := by decide +kernel
set_option maxRecDepth 100000 in
theorem zh_dX13_score_350_352 : zc cX13_score 352 [107, 16, 16, 21, 4, 104, 29, 96, 46, 96, 79, 132, 4, 1, 167, 255] = true := by decide +kernel
set_option maxRecDepth 100000 in
theorem zh_dX13_score_366_368 : zc cX13_score 368 [204, 132, 3, 1, 167, 255, 79, 4, 172] = true := by decide +kernel
theorem dX13_score_0 : decode cX13_score 0 = .ok (.aload_n 0, 1) := zo_42 (zi_at zh_dX13_score_0_0 0 rfl)
theorem dX13_score_1 : decode cX13_score 1 = .ok (.iconst 0, 1) := zo_3 (zi_at zh_dX13_score_0_0 1 rfl)
theorem dX13_score_2 : decode cX13_score 2 = .ok (.putfield 228, 3) := zo_181 (zi_at zh_dX13_score_0_0 2 rfl) (zi_at zh_dX13_score_0_0 3 rfl) (zi_at zh_dX13_score_0_0 4 rfl) rfl
theorem dX13_score_5 : decode cX13_score 5 = .ok (.aload_n 0, 1) := zo_42 (zi_at zh_dX13_score_0_0 5 rfl)
theorem dX13_score_6 : decode cX13_score 6 = .ok (.iload_n 1, 1) := zo_27 (zi_at zh_dX13_score_0_0 6 rfl)
theorem dX13_score_7 : decode cX13_score 7 = .ok (.invokevirtual 252, 3) := zo_182 (zi_at zh_dX13_score_0_0 7 rfl) (zi_at zh_dX13_score_0_0 8 rfl) (zi_at zh_dX13_score_0_0 9 rfl) rfl
theorem dX13_score_10 : decode cX13_score 10 = .ok (.ifCond .ne 5, 3) := zo_154 (zi_at zh_dX13_score_0_0 10 rfl) (zi_at zh_dX13_score_0_0 11 rfl) (zi_at zh_dX13_score_0_0 12 rfl) rfl
theorem dX13_score_13 : decode cX13_score 13 = .ok (.iconst 0, 1) := zo_3 (zi_at zh_dX13_score_0_0 13 rfl)
theorem dX13_score_14 : decode cX13_score 14 = .ok (.ireturn, 1) := zo_172 (zi_at zh_dX13_score_0_0 14 rfl)
theorem dX13_score_15 : decode cX13_score 15 = .ok (.aload_n 0, 1) := zo_42 (zi_at zh_dX13_score_0_0 15 rfl)
theorem dX13_score_16 : decode cX13_score 16 = .ok (.iconst 0, 1) := zo_3 (zi_at zh_dX13_score_16_16 0 rfl)
theorem dX13_score_17 : decode cX13_score 17 = .ok (.putfield 447, 3) := zo_181 (zi_at zh_dX13_score_16_16 1 rfl) (zi_at zh_dX13_score_16_16 2 rfl) (zi_at zh_dX13_score_16_16 3 rfl) rfl
theorem dX13_score_20 : decode cX13_score 20 = .ok (.aload_n 0, 1) := zo_42 (zi_at zh_dX13_score_16_16 4 rfl)
theorem dX13_score_21 : decode cX13_score 21 = .ok (.getfield 447, 3) := zo_180 (zi_at zh_dX13_score_16_16 5 rfl) (zi_at zh_dX13_score_16_16 6 rfl) (zi_at zh_dX13_score_16_16 7 rfl) rfl
theorem dX13_score_24 : decode cX13_score 24 = .ok (.aload_n 0, 1) := zo_42 (zi_at zh_dX13_score_16_16 8 rfl)
theorem dX13_score_25 : decode cX13_score 25 = .ok (.getfield 390, 3) := zo_180 (zi_at zh_dX13_score_16_16 9 rfl) (zi_at zh_dX13_score_16_16 10 rfl) (zi_at zh_dX13_score_16_16 11 rfl) rfl
theorem dX13_score_28 : decode cX13_score 28 = .ok (.if_icmp .ge 29, 3) := zo_162 (zi_at zh_dX13_score_16_16 12 rfl) (zi_at zh_dX13_score_16_16 13 rfl) (zi_at zh_dX13_score_16_16 14 rfl) rfl
theorem dX13_score_31 : decode cX13_score 31 = .ok (.aload_n 0, 1) := zo_42 (zi_at zh_dX13_score_16_16 15 rfl)
theorem dX13_score_32 : decode cX13_score 32 = .ok (.getfield 71, 3) := zo_180 (zi_at zh_dX13_score_32_32 0 rfl) (zi_at zh_dX13_score_32_32 1 rfl) (zi_at zh_dX13_score_32_32 2 rfl) rfl
theorem dX13_score_35 : decode cX13_score 35 = .ok (.aload_n 0, 1) := zo_42 (zi_at zh_dX13_score_32_32 3 rfl)
theorem dX13_score_36 : decode cX13_score 36 = .ok (.getfield 447, 3) := zo_180 (zi_at zh_dX13_score_32_32 4 rfl) (zi_at zh_dX13_score_32_32 5 rfl) (zi_at zh_dX13_score_32_32 6 rfl) rfl
theorem dX13_score_39 : decode cX13_score 39 = .ok (.iaload, 1) := zo_46 (zi_at zh_dX13_score_32_32 7 rfl)
theorem dX13_score_40 : decode cX13_score 40 = .ok (.iload_n 1, 1) := zo_27 (zi_at zh_dX13_score_32_32 8 rfl)
theorem dX13_score_41 : decode cX13_score 41 = .ok (.if_icmp .gt 16, 3) := zo_163 (zi_at zh_dX13_score_32_32 9 rfl) (zi_at zh_dX13_score_32_32 10 rfl) (zi_at zh_dX13_score_32_32 11 rfl) rfl
theorem dX13_score_44 : decode cX13_score 44 = .ok (.aload_n 0, 1) := zo_42 (zi_at zh_dX13_score_32_32 12 rfl)
theorem dX13_score_45 : decode cX13_score 45 = .ok (.dup, 1) := zo_89 (zi_at zh_dX13_score_32_32 13 rfl)
theorem dX13_score_46 : decode cX13_score 46 = .ok (.getfield 447, 3) := zo_180 (zi_at zh_dX13_score_32_32 14 rfl) (zi_at zh_dX13_score_32_32 15 rfl) (zi_at zh_dX13_score_46_48 0 rfl) rfl
theorem dX13_score_49 : decode cX13_score 49 = .ok (.iconst 1, 1) := zo_4 (zi_at zh_dX13_score_46_48 1 rfl)
theorem dX13_score_50 : decode cX13_score 50 = .ok (.iadd, 1) := zo_96 (zi_at zh_dX13_score_46_48 2 rfl)
theorem dX13_score_51 : decode cX13_score 51 = .ok (.putfield 447, 3) := zo_181 (zi_at zh_dX13_score_46_48 3 rfl) (zi_at zh_dX13_score_46_48 4 rfl) (zi_at zh_dX13_score_46_48 5 rfl) rfl
theorem dX13_score_54 : decode cX13_score 54 = .ok (.goto (-34), 3) := zo_167 (zi_at zh_dX13_score_46_48 6 rfl) (zi_at zh_dX13_score_46_48 7 rfl) (zi_at zh_dX13_score_46_48 8 rfl) rfl
theorem dX13_score_57 : decode cX13_score 57 = .ok (.iconst 0, 1) := zo_3 (zi_at zh_dX13_score_46_48 9 rfl)
theorem dX13_score_58 : decode cX13_score 58 = .ok (.istore_n 2, 1) := zo_61 (zi_at zh_dX13_score_46_48 10 rfl)
theorem dX13_score_59 : decode cX13_score 59 = .ok (.iload_n 2, 1) := zo_28 (zi_at zh_dX13_score_46_48 11 rfl)
theorem dX13_score_60 : decode cX13_score 60 = .ok (.aload_n 0, 1) := zo_42 (zi_at zh_dX13_score_46_48 12 rfl)
theorem dX13_score_61 : decode cX13_score 61 = .ok (.getfield 239, 3) := zo_180 (zi_at zh_dX13_score_46_48 13 rfl) (zi_at zh_dX13_score_46_48 14 rfl) (zi_at zh_dX13_score_46_48 15 rfl) rfl
theorem dX13_score_64 : decode cX13_score 64 = .ok (.if_icmp .ge 92, 3) := zo_162 (zi_at zh_dX13_score_64_64 0 rfl) (zi_at zh_dX13_score_64_64 1 rfl) (zi_at zh_dX13_score_64_64 2 rfl) rfl
theorem dX13_score_67 : decode cX13_score 67 = .ok (.aload_n 0, 1) := zo_42 (zi_at zh_dX13_score_64_64 3 rfl)
theorem dX13_score_68 : decode cX13_score 68 = .ok (.getfield 123, 3) := zo_180 (zi_at zh_dX13_score_64_64 4 rfl) (zi_at zh_dX13_score_64_64 5 rfl) (zi_at zh_dX13_score_64_64 6 rfl) rfl
theorem dX13_score_71 : decode cX13_score 71 = .ok (.iload_n 2, 1) := zo_28 (zi_at zh_dX13_score_64_64 7 rfl)
theorem dX13_score_72 : decode cX13_score 72 = .ok (.iconst 0, 1) := zo_3 (zi_at zh_dX13_score_64_64 8 rfl)
theorem dX13_score_73 : decode cX13_score 73 = .ok (.bastore, 1) := zo_84 (zi_at zh_dX13_score_64_64 9 rfl)
theorem dX13_score_74 : decode cX13_score 74 = .ok (.iconst 0, 1) := zo_3 (zi_at zh_dX13_score_64_64 10 rfl)
theorem dX13_score_75 : decode cX13_score 75 = .ok (.istore_n 3, 1) := zo_62 (zi_at zh_dX13_score_64_64 11 rfl)
theorem dX13_score_76 : decode cX13_score 76 = .ok (.iload_n 3, 1) := zo_29 (zi_at zh_dX13_score_64_64 12 rfl)
theorem dX13_score_77 : decode cX13_score 77 = .ok (.aload_n 0, 1) := zo_42 (zi_at zh_dX13_score_64_64 13 rfl)
theorem dX13_score_78 : decode cX13_score 78 = .ok (.getfield 447, 3) := zo_180 (zi_at zh_dX13_score_64_64 14 rfl) (zi_at zh_dX13_score_64_64 15 rfl) (zi_at zh_dX13_score_78_80 0 rfl) rfl
theorem dX13_score_81 : decode cX13_score 81 = .ok (.if_icmp .ge 69, 3) := zo_162 (zi_at zh_dX13_score_78_80 1 rfl) (zi_at zh_dX13_score_78_80 2 rfl) (zi_at zh_dX13_score_78_80 3 rfl) rfl
theorem dX13_score_84 : decode cX13_score 84 = .ok (.aload_n 0, 1) := zo_42 (zi_at zh_dX13_score_78_80 4 rfl)
theorem dX13_score_85 : decode cX13_score 85 = .ok (.getfield 107, 3) := zo_180 (zi_at zh_dX13_score_78_80 5 rfl) (zi_at zh_dX13_score_78_80 6 rfl) (zi_at zh_dX13_score_78_80 7 rfl) rfl
theorem dX13_score_88 : decode cX13_score 88 = .ok (.bipush 16, 2) := zo_16 (zi_at zh_dX13_score_78_80 8 rfl) (zi_at zh_dX13_score_78_80 9 rfl) rfl
theorem dX13_score_90 : decode cX13_score 90 = .ok (.iload_n 3, 1) := zo_29 (zi_at zh_dX13_score_78_80 10 rfl)
theorem dX13_score_91 : decode cX13_score 91 = .ok (.imul, 1) := zo_104 (zi_at zh_dX13_score_78_80 11 rfl)
theorem dX13_score_92 : decode cX13_score 92 = .ok (.iload_n 2, 1) := zo_28 (zi_at zh_dX13_score_78_80 12 rfl)
theorem dX13_score_93 : decode cX13_score 93 = .ok (.iadd, 1) := zo_96 (zi_at zh_dX13_score_78_80 13 rfl)
theorem dX13_score_94 : decode cX13_score 94 = .ok (.aload_n 0, 1) := zo_42 (zi_at zh_dX13_score_78_80 14 rfl)
theorem dX13_score_95 : decode cX13_score 95 = .ok (.iload_n 3, 1) := zo_29 (zi_at zh_dX13_score_78_80 15 rfl)
theorem dX13_score_96 : decode cX13_score 96 = .ok (.iload_n 2, 1) := zo_28 (zi_at zh_dX13_score_96_96 0 rfl)
theorem dX13_score_97 : decode cX13_score 97 = .ok (.iload_n 1, 1) := zo_27 (zi_at zh_dX13_score_96_96 1 rfl)
theorem dX13_score_98 : decode cX13_score 98 = .ok (.invokevirtual 444, 3) := zo_182 (zi_at zh_dX13_score_96_96 2 rfl) (zi_at zh_dX13_score_96_96 3 rfl) (zi_at zh_dX13_score_96_96 4 rfl) rfl
theorem dX13_score_101 : decode cX13_score 101 = .ok (.iastore, 1) := zo_79 (zi_at zh_dX13_score_96_96 5 rfl)
theorem dX13_score_102 : decode cX13_score 102 = .ok (.aload_n 0, 1) := zo_42 (zi_at zh_dX13_score_96_96 6 rfl)
theorem dX13_score_103 : decode cX13_score 103 = .ok (.getfield 119, 3) := zo_180 (zi_at zh_dX13_score_96_96 7 rfl) (zi_at zh_dX13_score_96_96 8 rfl) (zi_at zh_dX13_score_96_96 9 rfl) rfl
theorem dX13_score_106 : decode cX13_score 106 = .ok (.bipush 16, 2) := zo_16 (zi_at zh_dX13_score_96_96 10 rfl) (zi_at zh_dX13_score_96_96 11 rfl) rfl
theorem dX13_score_108 : decode cX13_score 108 = .ok (.iload_n 3, 1) := zo_29 (zi_at zh_dX13_score_96_96 12 rfl)
theorem dX13_score_109 : decode cX13_score 109 = .ok (.imul, 1) := zo_104 (zi_at zh_dX13_score_96_96 13 rfl)
theorem dX13_score_110 : decode cX13_score 110 = .ok (.iload_n 2, 1) := zo_28 (zi_at zh_dX13_score_96_96 14 rfl)
theorem dX13_score_111 : decode cX13_score 111 = .ok (.iadd, 1) := zo_96 (zi_at zh_dX13_score_96_96 15 rfl)
theorem dX13_score_112 : decode cX13_score 112 = .ok (.iconst 0, 1) := zo_3 (zi_at zh_dX13_score_112_112 0 rfl)
theorem dX13_score_113 : decode cX13_score 113 = .ok (.bastore, 1) := zo_84 (zi_at zh_dX13_score_112_112 1 rfl)
theorem dX13_score_114 : decode cX13_score 114 = .ok (.aload_n 0, 1) := zo_42 (zi_at zh_dX13_score_112_112 2 rfl)
theorem dX13_score_115 : decode cX13_score 115 = .ok (.getfield 123, 3) := zo_180 (zi_at zh_dX13_score_112_112 3 rfl) (zi_at zh_dX13_score_112_112 4 rfl) (zi_at zh_dX13_score_112_112 5 rfl) rfl
theorem dX13_score_118 : decode cX13_score 118 = .ok (.iload_n 2, 1) := zo_28 (zi_at zh_dX13_score_112_112 6 rfl)
theorem dX13_score_119 : decode cX13_score 119 = .ok (.aload_n 0, 1) := zo_42 (zi_at zh_dX13_score_112_112 7 rfl)
theorem dX13_score_120 : decode cX13_score 120 = .ok (.getfield 123, 3) := zo_180 (zi_at zh_dX13_score_112_112 8 rfl) (zi_at zh_dX13_score_112_112 9 rfl) (zi_at zh_dX13_score_112_112 10 rfl) rfl
theorem dX13_score_123 : decode cX13_score 123 = .ok (.iload_n 2, 1) := zo_28 (zi_at zh_dX13_score_112_112 11 rfl)
theorem dX13_score_124 : decode cX13_score 124 = .ok (.baload, 1) := zo_51 (zi_at zh_dX13_score_112_112 12 rfl)
theorem dX13_score_125 : decode cX13_score 125 = .ok (.ifCond .ne 13, 3) := zo_154 (zi_at zh_dX13_score_112_112 13 rfl) (zi_at zh_dX13_score_112_112 14 rfl) (zi_at zh_dX13_score_112_112 15 rfl) rfl
theorem dX13_score_128 : decode cX13_score 128 = .ok (.aload_n 0, 1) := zo_42 (zi_at zh_dX13_score_128_128 0 rfl)
theorem dX13_score_129 : decode cX13_score 129 = .ok (.iload_n 3, 1) := zo_29 (zi_at zh_dX13_score_128_128 1 rfl)
theorem dX13_score_130 : decode cX13_score 130 = .ok (.iload_n 2, 1) := zo_28 (zi_at zh_dX13_score_128_128 2 rfl)
theorem dX13_score_131 : decode cX13_score 131 = .ok (.iload_n 1, 1) := zo_27 (zi_at zh_dX13_score_128_128 3 rfl)
theorem dX13_score_132 : decode cX13_score 132 = .ok (.invokevirtual 396, 3) := zo_182 (zi_at zh_dX13_score_128_128 4 rfl) (zi_at zh_dX13_score_128_128 5 rfl) (zi_at zh_dX13_score_128_128 6 rfl) rfl
theorem dX13_score_135 : decode cX13_score 135 = .ok (.ifCond .eq 7, 3) := zo_153 (zi_at zh_dX13_score_128_128 7 rfl) (zi_at zh_dX13_score_128_128 8 rfl) (zi_at zh_dX13_score_128_128 9 rfl) rfl
theorem dX13_score_138 : decode cX13_score 138 = .ok (.iconst 1, 1) := zo_4 (zi_at zh_dX13_score_128_128 10 rfl)
theorem dX13_score_139 : decode cX13_score 139 = .ok (.goto 4, 3) := zo_167 (zi_at zh_dX13_score_128_128 11 rfl) (zi_at zh_dX13_score_128_128 12 rfl) (zi_at zh_dX13_score_128_128 13 rfl) rfl
theorem dX13_score_142 : decode cX13_score 142 = .ok (.iconst 0, 1) := zo_3 (zi_at zh_dX13_score_128_128 14 rfl)
theorem dX13_score_143 : decode cX13_score 143 = .ok (.bastore, 1) := zo_84 (zi_at zh_dX13_score_128_128 15 rfl)
theorem dX13_score_144 : decode cX13_score 144 = .ok (.iinc 3 1, 3) := zo_132 (zi_at zh_dX13_score_144_144 0 rfl) (zi_at zh_dX13_score_144_144 1 rfl) (zi_at zh_dX13_score_144_144 2 rfl) rfl
theorem dX13_score_147 : decode cX13_score 147 = .ok (.goto (-71), 3) := zo_167 (zi_at zh_dX13_score_144_144 3 rfl) (zi_at zh_dX13_score_144_144 4 rfl) (zi_at zh_dX13_score_144_144 5 rfl) rfl
theorem dX13_score_150 : decode cX13_score 150 = .ok (.iinc 2 1, 3) := zo_132 (zi_at zh_dX13_score_144_144 6 rfl) (zi_at zh_dX13_score_144_144 7 rfl) (zi_at zh_dX13_score_144_144 8 rfl) rfl
theorem dX13_score_153 : decode cX13_score 153 = .ok (.goto (-94), 3) := zo_167 (zi_at zh_dX13_score_144_144 9 rfl) (zi_at zh_dX13_score_144_144 10 rfl) (zi_at zh_dX13_score_144_144 11 rfl) rfl
theorem dX13_score_156 : decode cX13_score 156 = .ok (.aload_n 0, 1) := zo_42 (zi_at zh_dX13_score_144_144 12 rfl)
theorem dX13_score_157 : decode cX13_score 157 = .ok (.invokevirtual 377, 3) := zo_182 (zi_at zh_dX13_score_144_144 13 rfl) (zi_at zh_dX13_score_144_144 14 rfl) (zi_at zh_dX13_score_144_144 15 rfl) rfl
theorem dX13_score_160 : decode cX13_score 160 = .ok (.aload_n 0, 1) := zo_42 (zi_at zh_dX13_score_160_160 0 rfl)
theorem dX13_score_161 : decode cX13_score 161 = .ok (.getfield 44, 3) := zo_180 (zi_at zh_dX13_score_160_160 1 rfl) (zi_at zh_dX13_score_160_160 2 rfl) (zi_at zh_dX13_score_160_160 3 rfl) rfl
theorem dX13_score_164 : decode cX13_score 164 = .ok (.bipush 99, 2) := zo_16 (zi_at zh_dX13_score_160_160 4 rfl) (zi_at zh_dX13_score_160_160 5 rfl) rfl
theorem dX13_score_166 : decode cX13_score 166 = .ok (.aload_n 0, 1) := zo_42 (zi_at zh_dX13_score_160_160 6 rfl)
theorem dX13_score_167 : decode cX13_score 167 = .ok (.getfield 447, 3) := zo_180 (zi_at zh_dX13_score_160_160 7 rfl) (zi_at zh_dX13_score_160_160 8 rfl) (zi_at zh_dX13_score_160_160 9 rfl) rfl
theorem dX13_score_170 : decode cX13_score 170 = .ok (.iastore, 1) := zo_79 (zi_at zh_dX13_score_160_160 10 rfl)
theorem dX13_score_171 : decode cX13_score 171 = .ok (.iconst 0, 1) := zo_3 (zi_at zh_dX13_score_160_160 11 rfl)
theorem dX13_score_172 : decode cX13_score 172 = .ok (.aload_n 0, 1) := zo_42 (zi_at zh_dX13_score_160_160 12 rfl)
theorem dX13_score_173 : decode cX13_score 173 = .ok (.getfield 447, 3) := zo_180 (zi_at zh_dX13_score_160_160 13 rfl) (zi_at zh_dX13_score_160_160 14 rfl) (zi_at zh_dX13_score_160_160 15 rfl) rfl
theorem dX13_score_176 : decode cX13_score 176 = .ok (.iconst 1, 1) := zo_4 (zi_at zh_dX13_score_176_176 0 rfl)
theorem dX13_score_177 : decode cX13_score 177 = .ok (.isub, 1) := zo_100 (zi_at zh_dX13_score_176_176 1 rfl)
theorem dX13_score_178 : decode cX13_score 178 = .ok (.aload_n 0, 1) := zo_42 (zi_at zh_dX13_score_176_176 2 rfl)
theorem dX13_score_179 : decode cX13_score 179 = .ok (.bipush 116, 2) := zo_16 (zi_at zh_dX13_score_176_176 3 rfl) (zi_at zh_dX13_score_176_176 4 rfl) rfl
theorem dX13_score_181 : decode cX13_score 181 = .ok (.iload_n 1, 1) := zo_27 (zi_at zh_dX13_score_176_176 5 rfl)
theorem dX13_score_182 : decode cX13_score 182 = .ok (.iload_n 1, 1) := zo_27 (zi_at zh_dX13_score_176_176 6 rfl)
theorem dX13_score_183 : decode cX13_score 183 = .ok (.invokevirtual 380, 3) := zo_182 (zi_at zh_dX13_score_176_176 7 rfl) (zi_at zh_dX13_score_176_176 8 rfl) (zi_at zh_dX13_score_176_176 9 rfl) rfl
theorem dX13_score_186 : decode cX13_score 186 = .ok (.invokestatic 383, 3) := zo_184 (zi_at zh_dX13_score_176_176 10 rfl) (zi_at zh_dX13_score_176_176 11 rfl) (zi_at zh_dX13_score_176_176 12 rfl) rfl
theorem dX13_score_189 : decode cX13_score 189 = .ok (.invokestatic 385, 3) := zo_184 (zi_at zh_dX13_score_176_176 13 rfl) (zi_at zh_dX13_score_176_176 14 rfl) (zi_at zh_dX13_score_176_176 15 rfl) rfl
theorem dX13_score_192 : decode cX13_score 192 = .ok (.istore_n 2, 1) := zo_61 (zi_at zh_dX13_score_192_192 0 rfl)
theorem dX13_score_193 : decode cX13_score 193 = .ok (.iconst 0, 1) := zo_3 (zi_at zh_dX13_score_192_192 1 rfl)
theorem dX13_score_194 : decode cX13_score 194 = .ok (.istore_n 3, 1) := zo_62 (zi_at zh_dX13_score_192_192 2 rfl)
theorem dX13_score_195 : decode cX13_score 195 = .ok (.iload_n 3, 1) := zo_29 (zi_at zh_dX13_score_192_192 3 rfl)
theorem dX13_score_196 : decode cX13_score 196 = .ok (.aload_n 0, 1) := zo_42 (zi_at zh_dX13_score_192_192 4 rfl)
theorem dX13_score_197 : decode cX13_score 197 = .ok (.getfield 239, 3) := zo_180 (zi_at zh_dX13_score_192_192 5 rfl) (zi_at zh_dX13_score_192_192 6 rfl) (zi_at zh_dX13_score_192_192 7 rfl) rfl
theorem dX13_score_200 : decode cX13_score 200 = .ok (.if_icmp .ge 175, 3) := zo_162 (zi_at zh_dX13_score_192_192 8 rfl) (zi_at zh_dX13_score_192_192 9 rfl) (zi_at zh_dX13_score_192_192 10 rfl) rfl
theorem dX13_score_203 : decode cX13_score 203 = .ok (.iconst 0, 1) := zo_3 (zi_at zh_dX13_score_192_192 11 rfl)
theorem dX13_score_204 : decode cX13_score 204 = .ok (.istore 4, 2) := zo_54 (zi_at zh_dX13_score_192_192 12 rfl) (zi_at zh_dX13_score_192_192 13 rfl)
theorem dX13_score_206 : decode cX13_score 206 = .ok (.iload 4, 2) := zo_21 (zi_at zh_dX13_score_192_192 14 rfl) (zi_at zh_dX13_score_192_192 15 rfl)
theorem dX13_score_208 : decode cX13_score 208 = .ok (.iload_n 2, 1) := zo_28 (zi_at zh_dX13_score_208_208 0 rfl)
theorem dX13_score_209 : decode cX13_score 209 = .ok (.if_icmp .ge 95, 3) := zo_162 (zi_at zh_dX13_score_208_208 1 rfl) (zi_at zh_dX13_score_208_208 2 rfl) (zi_at zh_dX13_score_208_208 3 rfl) rfl
theorem dX13_score_212 : decode cX13_score 212 = .ok (.iconst (-1), 1) := zo_2 (zi_at zh_dX13_score_208_208 4 rfl)
theorem dX13_score_213 : decode cX13_score 213 = .ok (.istore 5, 2) := zo_54 (zi_at zh_dX13_score_208_208 5 rfl) (zi_at zh_dX13_score_208_208 6 rfl)
theorem dX13_score_215 : decode cX13_score 215 = .ok (.iconst 0, 1) := zo_3 (zi_at zh_dX13_score_208_208 7 rfl)
theorem dX13_score_216 : decode cX13_score 216 = .ok (.istore 6, 2) := zo_54 (zi_at zh_dX13_score_208_208 8 rfl) (zi_at zh_dX13_score_208_208 9 rfl)
theorem dX13_score_218 : decode cX13_score 218 = .ok (.iload 6, 2) := zo_21 (zi_at zh_dX13_score_208_208 10 rfl) (zi_at zh_dX13_score_208_208 11 rfl)
theorem dX13_score_220 : decode cX13_score 220 = .ok (.aload_n 0, 1) := zo_42 (zi_at zh_dX13_score_208_208 12 rfl)
theorem dX13_score_221 : decode cX13_score 221 = .ok (.getfield 447, 3) := zo_180 (zi_at zh_dX13_score_208_208 13 rfl) (zi_at zh_dX13_score_208_208 14 rfl) (zi_at zh_dX13_score_208_208 15 rfl) rfl
theorem dX13_score_224 : decode cX13_score 224 = .ok (.if_icmp .ge 61, 3) := zo_162 (zi_at zh_dX13_score_224_224 0 rfl) (zi_at zh_dX13_score_224_224 1 rfl) (zi_at zh_dX13_score_224_224 2 rfl) rfl
theorem dX13_score_227 : decode cX13_score 227 = .ok (.aload_n 0, 1) := zo_42 (zi_at zh_dX13_score_224_224 3 rfl)
theorem dX13_score_228 : decode cX13_score 228 = .ok (.getfield 119, 3) := zo_180 (zi_at zh_dX13_score_224_224 4 rfl) (zi_at zh_dX13_score_224_224 5 rfl) (zi_at zh_dX13_score_224_224 6 rfl) rfl
theorem dX13_score_231 : decode cX13_score 231 = .ok (.bipush 16, 2) := zo_16 (zi_at zh_dX13_score_224_224 7 rfl) (zi_at zh_dX13_score_224_224 8 rfl) rfl
theorem dX13_score_233 : decode cX13_score 233 = .ok (.iload 6, 2) := zo_21 (zi_at zh_dX13_score_224_224 9 rfl) (zi_at zh_dX13_score_224_224 10 rfl)
theorem dX13_score_235 : decode cX13_score 235 = .ok (.imul, 1) := zo_104 (zi_at zh_dX13_score_224_224 11 rfl)
theorem dX13_score_236 : decode cX13_score 236 = .ok (.iload_n 3, 1) := zo_29 (zi_at zh_dX13_score_224_224 12 rfl)
theorem dX13_score_237 : decode cX13_score 237 = .ok (.iadd, 1) := zo_96 (zi_at zh_dX13_score_224_224 13 rfl)
theorem dX13_score_238 : decode cX13_score 238 = .ok (.baload, 1) := zo_51 (zi_at zh_dX13_score_224_224 14 rfl)
theorem dX13_score_239 : decode cX13_score 239 = .ok (.ifCond .ne 40, 3) := zo_154 (zi_at zh_dX13_score_224_224 15 rfl) (zi_at zh_dX13_score_239_240 0 rfl) (zi_at zh_dX13_score_239_240 1 rfl) rfl
theorem dX13_score_242 : decode cX13_score 242 = .ok (.iload 5, 2) := zo_21 (zi_at zh_dX13_score_239_240 2 rfl) (zi_at zh_dX13_score_239_240 3 rfl)
theorem dX13_score_244 : decode cX13_score 244 = .ok (.iconst (-1), 1) := zo_2 (zi_at zh_dX13_score_239_240 4 rfl)
theorem dX13_score_245 : decode cX13_score 245 = .ok (.if_icmp .eq 30, 3) := zo_159 (zi_at zh_dX13_score_239_240 5 rfl) (zi_at zh_dX13_score_239_240 6 rfl) (zi_at zh_dX13_score_239_240 7 rfl) rfl
theorem dX13_score_248 : decode cX13_score 248 = .ok (.aload_n 0, 1) := zo_42 (zi_at zh_dX13_score_239_240 8 rfl)
theorem dX13_score_249 : decode cX13_score 249 = .ok (.getfield 107, 3) := zo_180 (zi_at zh_dX13_score_239_240 9 rfl) (zi_at zh_dX13_score_239_240 10 rfl) (zi_at zh_dX13_score_239_240 11 rfl) rfl
theorem dX13_score_252 : decode cX13_score 252 = .ok (.bipush 16, 2) := zo_16 (zi_at zh_dX13_score_239_240 12 rfl) (zi_at zh_dX13_score_239_240 13 rfl) rfl
theorem dX13_score_254 : decode cX13_score 254 = .ok (.iload 6, 2) := zo_21 (zi_at zh_dX13_score_239_240 14 rfl) (zi_at zh_dX13_score_239_240 15 rfl)
theorem dX13_score_256 : decode cX13_score 256 = .ok (.imul, 1) := zo_104 (zi_at zh_dX13_score_256_256 0 rfl)
theorem dX13_score_257 : decode cX13_score 257 = .ok (.iload_n 3, 1) := zo_29 (zi_at zh_dX13_score_256_256 1 rfl)
theorem dX13_score_258 : decode cX13_score 258 = .ok (.iadd, 1) := zo_96 (zi_at zh_dX13_score_256_256 2 rfl)
theorem dX13_score_259 : decode cX13_score 259 = .ok (.iaload, 1) := zo_46 (zi_at zh_dX13_score_256_256 3 rfl)
theorem dX13_score_260 : decode cX13_score 260 = .ok (.aload_n 0, 1) := zo_42 (zi_at zh_dX13_score_256_256 4 rfl)
theorem dX13_score_261 : decode cX13_score 261 = .ok (.getfield 107, 3) := zo_180 (zi_at zh_dX13_score_256_256 5 rfl) (zi_at zh_dX13_score_256_256 6 rfl) (zi_at zh_dX13_score_256_256 7 rfl) rfl
theorem dX13_score_264 : decode cX13_score 264 = .ok (.bipush 16, 2) := zo_16 (zi_at zh_dX13_score_256_256 8 rfl) (zi_at zh_dX13_score_256_256 9 rfl) rfl
theorem dX13_score_266 : decode cX13_score 266 = .ok (.iload 5, 2) := zo_21 (zi_at zh_dX13_score_256_256 10 rfl) (zi_at zh_dX13_score_256_256 11 rfl)
theorem dX13_score_268 : decode cX13_score 268 = .ok (.imul, 1) := zo_104 (zi_at zh_dX13_score_256_256 12 rfl)
theorem dX13_score_269 : decode cX13_score 269 = .ok (.iload_n 3, 1) := zo_29 (zi_at zh_dX13_score_256_256 13 rfl)
theorem dX13_score_270 : decode cX13_score 270 = .ok (.iadd, 1) := zo_96 (zi_at zh_dX13_score_256_256 14 rfl)
theorem dX13_score_271 : decode cX13_score 271 = .ok (.iaload, 1) := zo_46 (zi_at zh_dX13_score_256_256 15 rfl)
theorem dX13_score_272 : decode cX13_score 272 = .ok (.if_icmp .lt 7, 3) := zo_161 (zi_at zh_dX13_score_272_272 0 rfl) (zi_at zh_dX13_score_272_272 1 rfl) (zi_at zh_dX13_score_272_272 2 rfl) rfl
theorem dX13_score_275 : decode cX13_score 275 = .ok (.iload 6, 2) := zo_21 (zi_at zh_dX13_score_272_272 3 rfl) (zi_at zh_dX13_score_272_272 4 rfl)
theorem dX13_score_277 : decode cX13_score 277 = .ok (.istore 5, 2) := zo_54 (zi_at zh_dX13_score_272_272 5 rfl) (zi_at zh_dX13_score_272_272 6 rfl)
theorem dX13_score_279 : decode cX13_score 279 = .ok (.iinc 6 1, 3) := zo_132 (zi_at zh_dX13_score_272_272 7 rfl) (zi_at zh_dX13_score_272_272 8 rfl) (zi_at zh_dX13_score_272_272 9 rfl) rfl
theorem dX13_score_282 : decode cX13_score 282 = .ok (.goto (-64), 3) := zo_167 (zi_at zh_dX13_score_272_272 10 rfl) (zi_at zh_dX13_score_272_272 11 rfl) (zi_at zh_dX13_score_272_272 12 rfl) rfl
theorem dX13_score_285 : decode cX13_score 285 = .ok (.aload_n 0, 1) := zo_42 (zi_at zh_dX13_score_272_272 13 rfl)
theorem dX13_score_286 : decode cX13_score 286 = .ok (.getfield 119, 3) := zo_180 (zi_at zh_dX13_score_272_272 14 rfl) (zi_at zh_dX13_score_272_272 15 rfl) (zi_at zh_dX13_score_286_288 0 rfl) rfl
theorem dX13_score_289 : decode cX13_score 289 = .ok (.bipush 16, 2) := zo_16 (zi_at zh_dX13_score_286_288 1 rfl) (zi_at zh_dX13_score_286_288 2 rfl) rfl
theorem dX13_score_291 : decode cX13_score 291 = .ok (.iload 5, 2) := zo_21 (zi_at zh_dX13_score_286_288 3 rfl) (zi_at zh_dX13_score_286_288 4 rfl)
theorem dX13_score_293 : decode cX13_score 293 = .ok (.imul, 1) := zo_104 (zi_at zh_dX13_score_286_288 5 rfl)
theorem dX13_score_294 : decode cX13_score 294 = .ok (.iload_n 3, 1) := zo_29 (zi_at zh_dX13_score_286_288 6 rfl)
theorem dX13_score_295 : decode cX13_score 295 = .ok (.iadd, 1) := zo_96 (zi_at zh_dX13_score_286_288 7 rfl)
theorem dX13_score_296 : decode cX13_score 296 = .ok (.iconst 1, 1) := zo_4 (zi_at zh_dX13_score_286_288 8 rfl)
theorem dX13_score_297 : decode cX13_score 297 = .ok (.bastore, 1) := zo_84 (zi_at zh_dX13_score_286_288 9 rfl)
theorem dX13_score_298 : decode cX13_score 298 = .ok (.iinc 4 1, 3) := zo_132 (zi_at zh_dX13_score_286_288 10 rfl) (zi_at zh_dX13_score_286_288 11 rfl) (zi_at zh_dX13_score_286_288 12 rfl) rfl
theorem dX13_score_301 : decode cX13_score 301 = .ok (.goto (-95), 3) := zo_167 (zi_at zh_dX13_score_286_288 13 rfl) (zi_at zh_dX13_score_286_288 14 rfl) (zi_at zh_dX13_score_286_288 15 rfl) rfl
theorem dX13_score_304 : decode cX13_score 304 = .ok (.aload_n 0, 1) := zo_42 (zi_at zh_dX13_score_304_304 0 rfl)
theorem dX13_score_305 : decode cX13_score 305 = .ok (.getfield 110, 3) := zo_180 (zi_at zh_dX13_score_304_304 1 rfl) (zi_at zh_dX13_score_304_304 2 rfl) (zi_at zh_dX13_score_304_304 3 rfl) rfl
theorem dX13_score_308 : decode cX13_score 308 = .ok (.iload_n 3, 1) := zo_29 (zi_at zh_dX13_score_304_304 4 rfl)
theorem dX13_score_309 : decode cX13_score 309 = .ok (.iconst 0, 1) := zo_3 (zi_at zh_dX13_score_304_304 5 rfl)
theorem dX13_score_310 : decode cX13_score 310 = .ok (.iastore, 1) := zo_79 (zi_at zh_dX13_score_304_304 6 rfl)
theorem dX13_score_311 : decode cX13_score 311 = .ok (.iconst 0, 1) := zo_3 (zi_at zh_dX13_score_304_304 7 rfl)
theorem dX13_score_312 : decode cX13_score 312 = .ok (.istore 4, 2) := zo_54 (zi_at zh_dX13_score_304_304 8 rfl) (zi_at zh_dX13_score_304_304 9 rfl)
theorem dX13_score_314 : decode cX13_score 314 = .ok (.iload 4, 2) := zo_21 (zi_at zh_dX13_score_304_304 10 rfl) (zi_at zh_dX13_score_304_304 11 rfl)
theorem dX13_score_316 : decode cX13_score 316 = .ok (.aload_n 0, 1) := zo_42 (zi_at zh_dX13_score_304_304 12 rfl)
theorem dX13_score_317 : decode cX13_score 317 = .ok (.getfield 447, 3) := zo_180 (zi_at zh_dX13_score_304_304 13 rfl) (zi_at zh_dX13_score_304_304 14 rfl) (zi_at zh_dX13_score_304_304 15 rfl) rfl
theorem dX13_score_320 : decode cX13_score 320 = .ok (.if_icmp .ge 49, 3) := zo_162 (zi_at zh_dX13_score_320_320 0 rfl) (zi_at zh_dX13_score_320_320 1 rfl) (zi_at zh_dX13_score_320_320 2 rfl) rfl
theorem dX13_score_323 : decode cX13_score 323 = .ok (.aload_n 0, 1) := zo_42 (zi_at zh_dX13_score_320_320 3 rfl)
theorem dX13_score_324 : decode cX13_score 324 = .ok (.getfield 110, 3) := zo_180 (zi_at zh_dX13_score_320_320 4 rfl) (zi_at zh_dX13_score_320_320 5 rfl) (zi_at zh_dX13_score_320_320 6 rfl) rfl
theorem dX13_score_327 : decode cX13_score 327 = .ok (.iload_n 3, 1) := zo_29 (zi_at zh_dX13_score_320_320 7 rfl)
theorem dX13_score_328 : decode cX13_score 328 = .ok (.dup2, 1) := zo_92 (zi_at zh_dX13_score_320_320 8 rfl)
theorem dX13_score_329 : decode cX13_score 329 = .ok (.iaload, 1) := zo_46 (zi_at zh_dX13_score_320_320 9 rfl)
theorem dX13_score_330 : decode cX13_score 330 = .ok (.aload_n 0, 1) := zo_42 (zi_at zh_dX13_score_320_320 10 rfl)
theorem dX13_score_331 : decode cX13_score 331 = .ok (.getfield 119, 3) := zo_180 (zi_at zh_dX13_score_320_320 11 rfl) (zi_at zh_dX13_score_320_320 12 rfl) (zi_at zh_dX13_score_320_320 13 rfl) rfl
theorem dX13_score_334 : decode cX13_score 334 = .ok (.bipush 16, 2) := zo_16 (zi_at zh_dX13_score_320_320 14 rfl) (zi_at zh_dX13_score_320_320 15 rfl) rfl
theorem dX13_score_336 : decode cX13_score 336 = .ok (.iload 4, 2) := zo_21 (zi_at zh_dX13_score_336_336 0 rfl) (zi_at zh_dX13_score_336_336 1 rfl)
theorem dX13_score_338 : decode cX13_score 338 = .ok (.imul, 1) := zo_104 (zi_at zh_dX13_score_336_336 2 rfl)
theorem dX13_score_339 : decode cX13_score 339 = .ok (.iload_n 3, 1) := zo_29 (zi_at zh_dX13_score_336_336 3 rfl)
theorem dX13_score_340 : decode cX13_score 340 = .ok (.iadd, 1) := zo_96 (zi_at zh_dX13_score_336_336 4 rfl)
theorem dX13_score_341 : decode cX13_score 341 = .ok (.baload, 1) := zo_51 (zi_at zh_dX13_score_336_336 5 rfl)
theorem dX13_score_342 : decode cX13_score 342 = .ok (.ifCond .eq 7, 3) := zo_153 (zi_at zh_dX13_score_336_336 6 rfl) (zi_at zh_dX13_score_336_336 7 rfl) (zi_at zh_dX13_score_336_336 8 rfl) rfl
theorem dX13_score_345 : decode cX13_score 345 = .ok (.iconst 0, 1) := zo_3 (zi_at zh_dX13_score_336_336 9 rfl)
theorem dX13_score_346 : decode cX13_score 346 = .ok (.goto 15, 3) := zo_167 (zi_at zh_dX13_score_336_336 10 rfl) (zi_at zh_dX13_score_336_336 11 rfl) (zi_at zh_dX13_score_336_336 12 rfl) rfl
theorem dX13_score_349 : decode cX13_score 349 = .ok (.aload_n 0, 1) := zo_42 (zi_at zh_dX13_score_336_336 13 rfl)
theorem dX13_score_350 : decode cX13_score 350 = .ok (.getfield 107, 3) := zo_180 (zi_at zh_dX13_score_336_336 14 rfl) (zi_at zh_dX13_score_336_336 15 rfl) (zi_at zh_dX13_score_350_352 0 rfl) rfl
theorem dX13_score_353 : decode cX13_score 353 = .ok (.bipush 16, 2) := zo_16 (zi_at zh_dX13_score_350_352 1 rfl) (zi_at zh_dX13_score_350_352 2 rfl) rfl
theorem dX13_score_355 : decode cX13_score 355 = .ok (.iload 4, 2) := zo_21 (zi_at zh_dX13_score_350_352 3 rfl) (zi_at zh_dX13_score_350_352 4 rfl)
theorem dX13_score_357 : decode cX13_score 357 = .ok (.imul, 1) := zo_104 (zi_at zh_dX13_score_350_352 5 rfl)
theorem dX13_score_358 : decode cX13_score 358 = .ok (.iload_n 3, 1) := zo_29 (zi_at zh_dX13_score_350_352 6 rfl)
theorem dX13_score_359 : decode cX13_score 359 = .ok (.iadd, 1) := zo_96 (zi_at zh_dX13_score_350_352 7 rfl)
theorem dX13_score_360 : decode cX13_score 360 = .ok (.iaload, 1) := zo_46 (zi_at zh_dX13_score_350_352 8 rfl)
theorem dX13_score_361 : decode cX13_score 361 = .ok (.iadd, 1) := zo_96 (zi_at zh_dX13_score_350_352 9 rfl)
theorem dX13_score_362 : decode cX13_score 362 = .ok (.iastore, 1) := zo_79 (zi_at zh_dX13_score_350_352 10 rfl)
theorem dX13_score_363 : decode cX13_score 363 = .ok (.iinc 4 1, 3) := zo_132 (zi_at zh_dX13_score_350_352 11 rfl) (zi_at zh_dX13_score_350_352 12 rfl) (zi_at zh_dX13_score_350_352 13 rfl) rfl
theorem dX13_score_366 : decode cX13_score 366 = .ok (.goto (-52), 3) := zo_167 (zi_at zh_dX13_score_350_352 14 rfl) (zi_at zh_dX13_score_350_352 15 rfl) (zi_at zh_dX13_score_366_368 0 rfl) rfl
theorem dX13_score_369 : decode cX13_score 369 = .ok (.iinc 3 1, 3) := zo_132 (zi_at zh_dX13_score_366_368 1 rfl) (zi_at zh_dX13_score_366_368 2 rfl) (zi_at zh_dX13_score_366_368 3 rfl) rfl
theorem dX13_score_372 : decode cX13_score 372 = .ok (.goto (-177), 3) := zo_167 (zi_at zh_dX13_score_366_368 4 rfl) (zi_at zh_dX13_score_366_368 5 rfl) (zi_at zh_dX13_score_366_368 6 rfl) rfl
theorem dX13_score_375 : decode cX13_score 375 = .ok (.iconst 1, 1) := zo_4 (zi_at zh_dX13_score_366_368 7 rfl)
theorem dX13_score_376 : decode cX13_score 376 = .ok (.ireturn, 1) := zo_172 (zi_at zh_dX13_score_366_368 8 rfl)
theorem hz_yX13_pointsOf_3 : yX13_pointsOf.cls ≠ "java/lang/invoke/MethodHandle" ∧ yX13_pointsOf.cls ≠ "java/lang/invoke/VarHandle" ∧ (parseMethodDescriptor yX13_pointsOf.desc).map (fun d => d.parameters.length) = some 3 := by decide +kernel
def v_score : List Cond := .code yX13_score cX13_score 7 (some .boolean) :: vA
abbrev rm_score : Room := { frames := 76, cells := 0, slots := 0, locals := 3040 }
def w_score : Nat → Nat → Bool := wl [12, 32, 33, 36, 37] [(0, 0), (0, 18), (0, 19), (0, 20), (0, 21), (0, 22), (0, 23), (0, 24), (0, 25), (0, 26), (0, 55)]
set_option maxHeartbeats 4000000 in
set_option maxRecDepth 100000 in
theorem q_score (l : Launch) (dC : Nat → ClassId) (dI : Nat → Nat → Nat) (cT : Nat → ClassId) (ad : Nat → Nat) (E : Nat → va_E) (sz : Nat) (a0 : Int32) (hI0 : IX cT shM spM 72 ad E)  : Met l yX13_score v_score rm_score (va_Pc [.ref (ad 0), .int a0] (HW dC dI (TYM cT) 72 ad E sz)) (va_Qi (S := Nat → va_E) (fun r u => IX cT shM spM 72 ad u ∧ Kp w_score E u ∧ ((r = 1) ∨ (r = 0))) (HB dC dI 72 ad) (va_A (WX 72 ad E) sz)) 0 0 (va_A (WX 72 ad E) sz) := by
  refine Met.ofW (cc := cX13_score) (maxL := 7) (ret := (some .boolean)) (by decide) rfl ?_
  intro p e s m args below meth c s₁ B hml hv
  obtain ⟨hargs, hsz, hP, hK, hD0, hEV⟩ := hv
  subst hsz
  have hx := B.exec
  have hb := B.bytes
  have hr := B.returns
  have hts := atoms_spec (ws := v_score) B.pre
  have hown : s.vm.findClass RX13 = some m.cls := findClass_of_methodNamed B.named
  have hlocks := B.notSynchronized
  have hinX13 : ∀ w ∈ u_ws RX13 TX13 97, w ∈ v_score := fun w h => vA_in _ w (in_X13 w h)
  generalize hAe : va_A (WX 72 ad E) s.heap.size = A at hEV ⊢
  have hA : ∀ q : Nat, s.heap.size ≤ q → A q := fun q h => by rw [← hAe]; exact Or.inr h
  have hD : va_D A (WX 72 ad E) := by rw [← hAe]; exact hD0.self
  have hS : va_S A s.heap s.heap [] := va_S.rf
  have hI := hI0
  have hKp : Kp w_score E E := Kp.rf
  have hl := lv_entry ([.ref (ad 0), .int a0]) (n := 7) (Nat.le_of_ble_eq_true rfl)
  obtain ⟨Q, hQ⟩ : ∃ Q, Q = MQ below (va_Qi (S := Nat → va_E) (fun r u => IX cT shM spM 72 ad u ∧ Kp w_score E u ∧ ((r = 1) ∨ (r = 0))) (HB dC dI 72 ad) (A)) args s 0 0 (A) := ⟨_, rfl⟩
  rw [← hQ, show entryFrame m args 7 = _ from (congrArg (fun z => entryFrame m z 7) hargs).trans (lg_entry_eq _ _ _)]
  generalize (lg_sl ([.ref (ad 0), .int a0]) ++ List.replicate (7 - (lg_sl ([.ref (ad 0), .int a0])).length) Slot.unset).toArray = ls at hl ⊢
  have hl : lv_has ls 7 [(0, .ref (ad 0)), (1, .int a0)] := hl
  refine lv_aload_n hx hb dX13_score_0 rfl (lv_at hl 0 rfl) ?_
  refine lv_iconst (v := 0) hx hb dX13_score_1 (by decide) ?_
  refine th_put (ci := 14) (C := RX13) (T := TX13) (N := 97) (v := .int 0) (ty := .int) hx hb hts hinX13 tyX13 tyX13_ok nmX13 hown hK hP (WX_D hD) hS hI 0 (Nat.le_of_ble_eq_true rfl) rfl rfl 0 (Nat.le_of_ble_eq_true rfl) (hts _ (vA_in _ _ (in_24 _ (zs4 (zs4 (zs1 (zs1 (zs0)))))))) (fun _ h9 => h9) rfl (by decide +kernel) rfl rfl (okI rfl (iv_w ln_0 (by decide))) dX13_score_2 (fun H locs E1 pw2 hI hP hS => ?_)
  have hKp := hKp.pw pw2 rfl
  refine lv_aload_n hx hb dX13_score_5 rfl (lv_at hl 0 rfl) ?_
  refine lv_iload_n hx hb dX13_score_6 rfl (lv_at hl 1 rfl) ?_
  refine th_ri (va_runV (As := [.int a0]) (rest := []) ⟨hx, hb, hml, hown, hts⟩ (q_isKnown l dC dI cT ad E1 H.size a0 hI) (cwV 1 hts (gi_V (in_24 _ (zs16 (zs4 (zs1 (zs1 (zs1 (zs0))))))) (in_24 _ (zs16 (zs4 (zs4 (zs0))))) (in_24 _ (zs16 (zs4 (zs4 (zs1 (zs0)))))) (in_24 _ (zs4 (zs4 (zs4 (zs1 (zs1 (zs1 (zs0)))))))) (in_24 _ (zs16 (zs4 (zs4 (zs1 (zs1 (zs0)))))))) rfl rfl rfl ⟨rfl, hz_yX13_isKnown_1⟩ ⟨Nat.le_of_ble_eq_true rfl, Nat.le_of_ble_eq_true rfl⟩) ⟨HW_bl, va_recv hK hP (ci := 14) (q0 := 0) rfl (hI.ob 0 (Nat.le_of_ble_eq_true rfl) rfl), (HW_wi hP hK (WX_D hD) hS hA hEV)⟩ rfl rfl hl.1 rfl (lv_room (Nat.le_of_ble_eq_true rfl)) dX13_score_7 ⟨Nat.le_of_ble_eq_true rfl, Nat.le_of_ble_eq_true rfl⟩) hS hP (fun r3 H locs hw hP hS => ?_)
  rcases hw with hw | hw
  · -- isKnown, case 0
    obtain ⟨rfl, f4⟩ := hw
    have i5 : 0 ≤ (xi (E 0) 1).toInt ∧ (xi (E 0) 1).toInt ≤ 400 := (show 0 ≤ (xi (E 0) 1).toInt ∧ (xi (E 0) 1).toInt ≤ 400 from hI0.iv 0 (Nat.le_of_ble_eq_true rfl) rfl (Nat.le_of_ble_eq_true rfl) rfl)
    try rw [hKp.ei 0 1 rfl] at f4
    have t6 : (0 : Int) ≤ a0.toInt := f4.1
    have t7 : a0.toInt ≤ (xi (E 0) 1).toInt := f4.2
    have i8 : 0 ≤ a0.toInt ∧ a0.toInt ≤ 2147483647 := iv_le_r t6 (il_ 0) (iv_all _) (by decide)
    have i9 : 0 ≤ a0.toInt ∧ a0.toInt ≤ 400 := iv_le_l t7 i8 i5 (by decide)
    refine lv_if_ne (tgt := 15) hx hb dX13_score_10 (by decide) (fun c10 => ?_) (fun c10 => ?_)
    · --10 taken
      refine lv_aload_n hx hb dX13_score_15 rfl (lv_at hl 0 rfl) ?_
      refine lv_iconst (v := 0) hx hb dX13_score_16 (by decide) ?_
      refine th_put (ci := 14) (C := RX13) (T := TX13) (N := 97) (v := .int 0) (ty := .int) hx hb hts hinX13 tyX13 tyX13_ok nmX13 hown hK hP (WX_D hD) hS hI 0 (Nat.le_of_ble_eq_true rfl) rfl rfl 55 (Nat.le_of_ble_eq_true rfl) (hts _ (vA_in _ _ (in_32 _ (zs16 (zs1 (zs1 (zs1 (zs0)))))))) (fun _ h9 => h9) rfl (by decide +kernel) rfl rfl (okI rfl (iv_w ln_0 (by decide))) dX13_score_17 (fun H locs E11 pw12 hI hP hS => ?_)
      have hKp := hKp.pw pw12 rfl
      obtain ⟨g13, hg13⟩ : ∃ g, xi (E11 36) = g := ⟨_, rfl⟩
      have hL20 : ∀ d : Nat, ∀ (w20_0_55 : Int32) (E20_ : Nat → va_E) (H : Heap) (locs : List Loc) (ls : Array Slot), 0 ≤ w20_0_55.toInt ∧ w20_0_55.toInt ≤ 20 → 20 - w20_0_55.toInt < (d : Int) → IX cT shM spM 72 ad E20_ → Kp w_score E E20_ → xv (E20_ 0) 55 = .int w20_0_55 → xv (E20_ 0) 0 = .int 0 → xi (E20_ 36) = g13 → va_P (dC, dI) vwCl (WX 72 ad E20_) H → va_S A s.heap H locs → lv_has ls 7 [(0, .ref (ad 0)), (1, .int a0)] → W p l e (headSpec v_score rm_score).room s m args below meth c H locs 0 0 Q (F0 m 20 ls []) := by
        intro d
        induction d with
        | zero =>
          intro w20_0_55 E20_ H locs ls hw20_0_55 hx20_0 hI hKp hs20_0_55 hs20_0_0 hr20_36 hP hS hl
          exact absurd hx20_0 (by first | exact ms_zu hw20_0_55.2 | omega)
        | succ d ih20 =>
          intro w20_0_55 E20_ H locs ls hw20_0_55 hx20_0 hI hKp hs20_0_55 hs20_0_0 hr20_36 hP hS hl
          refine lv_aload_n hx hb dX13_score_20 rfl (lv_at hl 0 rfl) ?_
          refine th_get (ci := 14) (C := RX13) (T := TX13) (N := 97) (v := .int w20_0_55) hx hb hts hinX13 hown hK hP hI 0 (Nat.le_of_ble_eq_true rfl) rfl rfl 55 (Nat.le_of_ble_eq_true rfl) (hts _ (vA_in _ _ (in_32 _ (zs16 (zs1 (zs1 (zs1 (zs0)))))))) (fun _ h9 => h9) hs20_0_55 dX13_score_21 ?_
          refine lv_aload_n hx hb dX13_score_24 rfl (lv_at hl 0 rfl) ?_
          have i14 : 0 ≤ (xi (E 0) 46).toInt ∧ (xi (E 0) 46).toInt ≤ 20 := hI0.iv 0 (Nat.le_of_ble_eq_true rfl) rfl (Nat.le_of_ble_eq_true rfl) rfl
          refine th_get (ci := 14) (C := RX13) (T := TX13) (N := 97) (v := .int (xi (E 0) 46)) hx hb hts hinX13 hown hK hP hI 0 (Nat.le_of_ble_eq_true rfl) rfl rfl 46 (Nat.le_of_ble_eq_true rfl) (hts _ (vA_in _ _ (in_24 _ (zs16 (zs1 (zs0)))))) (fun _ h9 => h9) (th_v0 hKp hI0 0 (Nat.le_of_ble_eq_true rfl) rfl (Nat.le_of_ble_eq_true rfl) rfl rfl) dX13_score_25 ?_
          have hJ57 : ∀ (H : Heap) (locs : List Loc) (ls : Array Slot), va_P (dC, dI) vwCl (WX 72 ad E20_) H → va_S A s.heap H locs → lv_has ls 7 [(0, .ref (ad 0)), (1, .int a0)] → W p l e (headSpec v_score rm_score).room s m args below meth c H locs 0 0 Q (F0 m 57 ls []) := by
            intro H locs ls hP hS hl
            refine lv_iconst (v := 0) hx hb dX13_score_57 (by decide) ?_
            refine lv_istore_n (lv' := [(2, .int 0), (0, .ref (ad 0)), (1, .int a0)]) hx hb dX13_score_58 rfl hl (by decide) rfl (fun ls hl => ?_)
            have hL59 : ∀ d : Nat, ∀ (g59_36 : Nat → Int32) (v59_2 : Int32) (E59_ : Nat → va_E) (H : Heap) (locs : List Loc) (ls : Array Slot), 0 ≤ v59_2.toInt ∧ v59_2.toInt ≤ 16 → (∀ r' b' : Nat, (b' : Int) < v59_2.toInt → (r' : Int) < w20_0_55.toInt → g59_36 (16 * r' + b') = 0) → 16 - v59_2.toInt < (d : Int) → IX cT shM spM 72 ad E59_ → Kp w_score E E59_ → xv (E59_ 0) 55 = .int w20_0_55 → xv (E59_ 0) 0 = .int 0 → xi (E59_ 36) = g59_36 → va_P (dC, dI) vwCl (WX 72 ad E59_) H → va_S A s.heap H locs → lv_has ls 7 [(2, .int v59_2), (0, .ref (ad 0)), (1, .int a0)] → W p l e (headSpec v_score rm_score).room s m args below meth c H locs 0 0 Q (F0 m 59 ls []) := by
              intro d
              induction d with
              | zero =>
                intro g59_36 v59_2 E59_ H locs ls hv59_2 hx59_0 hx59_1 hI hKp hs59_0_55 hs59_0_0 hr59_36 hP hS hl
                exact absurd hx59_1 (by first | exact ms_zu hv59_2.2 | omega)
              | succ d ih59 =>
                intro g59_36 v59_2 E59_ H locs ls hv59_2 hx59_0 hx59_1 hI hKp hs59_0_55 hs59_0_0 hr59_36 hP hS hl
                refine lv_iload_n hx hb dX13_score_59 rfl (lv_at hl 0 rfl) ?_
                refine lv_aload_n hx hb dX13_score_60 rfl (lv_at hl 1 rfl) ?_
                have i15 : 0 ≤ (xi (E 0) 8).toInt ∧ (xi (E 0) 8).toInt ≤ 16 := hI0.iv 0 (Nat.le_of_ble_eq_true rfl) rfl (Nat.le_of_ble_eq_true rfl) rfl
                refine th_get (ci := 14) (C := RX13) (T := TX13) (N := 97) (v := .int (xi (E 0) 8)) hx hb hts hinX13 hown hK hP hI 0 (Nat.le_of_ble_eq_true rfl) rfl rfl 8 (Nat.le_of_ble_eq_true rfl) (hts _ (vA_in _ _ (in_24 _ (zs16 (zs4 (zs1 (zs1 (zs0)))))))) (fun _ h9 => h9) (th_v0 hKp hI0 0 (Nat.le_of_ble_eq_true rfl) rfl (Nat.le_of_ble_eq_true rfl) rfl rfl) dX13_score_61 ?_
                refine lv_icmp_ge (tgt := 156) hx hb dX13_score_64 (by decide) (fun c16 => ?_) (fun c16 => ?_)
                · --64 taken
                  have t17 : (xi (E 0) 8).toInt ≤ v59_2.toInt := ti_le c16
                  refine lv_aload_n hx hb dX13_score_156 rfl (lv_at hl 1 rfl) ?_
                  refine th_v (va_runV (As := []) (rest := []) ⟨hx, hb, hml, hown, hts⟩ (q_clear l dC dI cT ad E59_ H.size hI) (cwV 0 hts (gi_V (in_28 _ (zs16 (zs4 (zs4 (zs4 (zs1 (zs1 (zs0)))))))) (in_28 _ (zs16 (zs4 (zs4 (zs4 (zs1 (zs1 (zs1 (zs0))))))))) (in_28 _ (zs16 (zs16 (zs0)))) (in_24 _ (zs4 (zs4 (zs4 (zs1 (zs1 (zs1 (zs0)))))))) (in_28 _ (zs16 (zs16 (zs1 (zs0)))))) rfl rfl rfl ⟨rfl, hz_yX13_clear_0⟩ ⟨Nat.le_of_ble_eq_true rfl, Nat.le_of_ble_eq_true rfl⟩) ⟨HW_bl, va_recv hK hP (ci := 14) (q0 := 0) rfl (hI.ob 0 (Nat.le_of_ble_eq_true rfl) rfl), (HW_wi hP hK (WX_D hD) hS hA hEV)⟩ rfl rfl hl.1 rfl (lv_room (Nat.le_of_ble_eq_true rfl)) dX13_score_157 ⟨Nat.le_of_ble_eq_true rfl, Nat.le_of_ble_eq_true rfl⟩) (WX_D hD) hS hA (fun E19 H locs hw hP hS => ?_)
                  obtain ⟨hI, kq20, hw⟩ := hw
                  have hKb := hKp
                  have hKp := hKp.tr kq20 (wl_sub rfl rfl)
                  refine lv_aload_n hx hb dX13_score_160 rfl (lv_at hl 1 rfl) ?_
                  refine th_get (ci := 14) (C := RX13) (T := TX13) (N := 97) (v := .ref (ad 12)) hx hb hts hinX13 hown hK hP hI 0 (Nat.le_of_ble_eq_true rfl) rfl rfl 15 (Nat.le_of_ble_eq_true rfl) (hts _ (vA_in _ _ (in_25 _ (zs16 (zs16 (zs4 (zs1 (zs0)))))))) (fun _ h9 => h9) (hI.fr 0 (Nat.le_of_ble_eq_true rfl) rfl (Nat.le_of_ble_eq_true rfl) 12 rfl) dX13_score_161 ?_
                  refine lv_bipush (v := 99) hx hb dX13_score_164 (by decide) ?_
                  refine lv_aload_n hx hb dX13_score_166 rfl (lv_at hl 1 rfl) ?_
                  refine th_get (ci := 14) (C := RX13) (T := TX13) (N := 97) (v := .int w20_0_55) hx hb hts hinX13 hown hK hP hI 0 (Nat.le_of_ble_eq_true rfl) rfl rfl 55 (Nat.le_of_ble_eq_true rfl) (hts _ (vA_in _ _ (in_32 _ (zs16 (zs1 (zs1 (zs1 (zs0)))))))) (fun _ h9 => h9) ((kq20 0 55 rfl).trans hs59_0_55) dX13_score_167 ?_
                  have n21 : vp_in (99 : Int32) 128 := (iv_in (n := 128) ln_99 (by decide))
                  refine th_iast hx hb hK hP (WX_D hD) hS hI 12 (Nat.le_of_ble_eq_true rfl) rfl rfl n21 (okI rfl (iv_w hw20_0_55 (by decide))) dX13_score_170 (fun H locs E22 pw23 hI hP hS => ?_)
                  have hKp := hKp.pw pw23 rfl
                  refine lv_iconst (v := 0) hx hb dX13_score_171 (by decide) ?_
                  refine lv_aload_n hx hb dX13_score_172 rfl (lv_at hl 1 rfl) ?_
                  refine th_get (ci := 14) (C := RX13) (T := TX13) (N := 97) (v := .int w20_0_55) hx hb hts hinX13 hown hK hP hI 0 (Nat.le_of_ble_eq_true rfl) rfl rfl 55 (Nat.le_of_ble_eq_true rfl) (hts _ (vA_in _ _ (in_32 _ (zs16 (zs1 (zs1 (zs1 (zs0)))))))) (fun _ h9 => h9) ((pw23.2 0 55 (fun q9 => absurd q9.1 (Nat.ne_of_beq_eq_false rfl))).trans ((kq20 0 55 rfl).trans hs59_0_55)) dX13_score_173 ?_
                  refine lv_iconst (v := 1) hx hb dX13_score_176 (by decide) ?_
                  refine lv_isub hx hb dX13_score_177 ?_
                  refine lv_topi (fun y24 ey24 => ?_)
                  obtain ⟨ty24, iy24⟩ := ti_sub (e := (-1)) (f := 19) hw20_0_55 ln_1 ey24 (by decide)
                  have ty24 : y24.toInt = w20_0_55.toInt - 1 := ty24
                  have iy24 : -1 ≤ y24.toInt ∧ y24.toInt ≤ 19 := iy24
                  refine lv_aload_n hx hb dX13_score_178 rfl (lv_at hl 1 rfl) ?_
                  refine lv_bipush (v := 116) hx hb dX13_score_179 (by decide) ?_
                  refine lv_iload_n hx hb dX13_score_181 rfl (lv_at hl 2 rfl) ?_
                  refine lv_iload_n hx hb dX13_score_182 rfl (lv_at hl 2 rfl) ?_
                  refine th_i (va_runV (As := [.int 116, .int a0, .int a0]) (rest := [.int y24, .int 0]) ⟨hx, hb, hml, hown, hts⟩ (q_worth l dC dI cT ad E22 H.size (116 : Int32) a0 a0 hI (iv_w ln_116 (by decide))) (cwV 3 hts (gi_V (in_28 _ (zs16 (zs16 (zs1 (zs1 (zs0)))))) (in_28 _ (zs16 (zs16 (zs1 (zs1 (zs1 (zs0))))))) (in_28 _ (zs16 (zs16 (zs4 (zs0))))) (in_24 _ (zs4 (zs4 (zs4 (zs1 (zs1 (zs1 (zs0)))))))) (in_28 _ (zs16 (zs16 (zs4 (zs1 (zs0))))))) rfl rfl rfl ⟨rfl, hz_yX13_worth_3⟩ ⟨Nat.le_of_ble_eq_true rfl, Nat.le_of_ble_eq_true rfl⟩) ⟨HW_bl, va_recv hK hP (ci := 14) (q0 := 0) rfl (hI.ob 0 (Nat.le_of_ble_eq_true rfl) rfl), (HW_wi hP hK (WX_D hD) hS hA hEV)⟩ rfl rfl hl.1 rfl (lv_room (Nat.le_of_ble_eq_true rfl)) dX13_score_183 ⟨Nat.le_of_ble_eq_true rfl, Nat.le_of_ble_eq_true rfl⟩) (WX_D hD) hS hA (fun r25 E26 H locs hw hP hS => ?_)
                  obtain ⟨hI, kq27, hw⟩ := hw
                  have hKb := hKp
                  have hKp := hKp.tr kq27 (wl_sub rfl rfl)
                  refine va_mmin hx hb (by rw [hml]; exact hl.1.symm) hown (hts _ (vA_in _ _ (in_28 _ (zs16 (zs4 (zs4 (zs1 (zs1 (zs0))))))))) (hts _ (vA_in _ _ (in_0 _ (zs16 (zs16 (zs4 (zs0))))))) (hts _ (vA_in _ _ (in_0 _ (zs16 (zs16 (zs1 (zs0))))))) (hts _ (vA_in _ _ (in_0 _ (zs16 (zs16 (zs4 (zs1 (zs0)))))))) (Nat.le_of_ble_eq_true rfl) (Nat.le_of_ble_eq_true rfl) (Nat.le_of_ble_eq_true rfl) (Nat.le_of_ble_eq_true rfl) dX13_score_186 ?_
                  refine lv_topi (fun y28 ey28 => ?_)
                  obtain ⟨ty28, iy28⟩ := ti_min (e := (-2147483648)) (f := 19) iy24 (iv_all _) ey28 (by decide)
                  have iy28 : -2147483648 ≤ y28.toInt ∧ y28.toInt ≤ 19 := iy28
                  refine va_mmax hx hb (by rw [hml]; exact hl.1.symm) hown (hts _ (vA_in _ _ (in_25 _ (zs16 (zs4 (zs4 (zs1 (zs1 (zs1 (zs0)))))))))) (hts _ (vA_in _ _ (in_0 _ (zs16 (zs16 (zs0)))))) (hts _ (vA_in _ _ (in_0 _ (zs16 (zs16 (zs1 (zs0))))))) (hts _ (vA_in _ _ (in_0 _ (zs16 (zs16 (zs1 (zs1 (zs0)))))))) (Nat.le_of_ble_eq_true rfl) (Nat.le_of_ble_eq_true rfl) (Nat.le_of_ble_eq_true rfl) (Nat.le_of_ble_eq_true rfl) dX13_score_189 ?_
                  have z0 := ln_0
                  refine lv_topi (fun y29 ey29 => ?_)
                  obtain ⟨ty29, iy29⟩ := ti_max (e := 0) (f := 19) ln_0 iy28 ey29 (by decide)
                  have iy29 : 0 ≤ y29.toInt ∧ y29.toInt ≤ 19 := iy29
                  refine lv_istore_n (lv' := [(2, .int y29), (0, .ref (ad 0)), (1, .int a0)]) hx hb dX13_score_192 rfl hl (by decide) rfl (fun ls hl => ?_)
                  refine lv_iconst (v := 0) hx hb dX13_score_193 (by decide) ?_
                  refine lv_istore_n (lv' := [(3, .int 0), (2, .int y29), (0, .ref (ad 0)), (1, .int a0)]) hx hb dX13_score_194 rfl hl (by decide) rfl (fun ls hl => ?_)
                  have hL195 : ∀ d : Nat, ∀ (g195_36 : Nat → Int32) (v195_3 : Int32) (E195_ : Nat → va_E) (H : Heap) (locs : List Loc) (ls : Array Slot), 0 ≤ v195_3.toInt ∧ v195_3.toInt ≤ 16 → (∀ r' b' : Nat, v195_3.toInt ≤ (b' : Int) → (b' : Int) < (xi (E 0) 8).toInt → (r' : Int) < w20_0_55.toInt → g195_36 (16 * r' + b') = 0) → 16 - v195_3.toInt < (d : Int) → IX cT shM spM 72 ad E195_ → Kp w_score E E195_ → xv (E195_ 0) 55 = .int w20_0_55 → xv (E195_ 0) 0 = .int 0 → xi (E195_ 36) = g195_36 → va_P (dC, dI) vwCl (WX 72 ad E195_) H → va_S A s.heap H locs → lv_has ls 7 [(3, .int v195_3), (2, .int y29), (0, .ref (ad 0)), (1, .int a0)] → W p l e (headSpec v_score rm_score).room s m args below meth c H locs 0 0 Q (F0 m 195 ls []) := by
                    intro d
                    induction d with
                    | zero =>
                      intro g195_36 v195_3 E195_ H locs ls hv195_3 hx195_0 hx195_1 hI hKp hs195_0_55 hs195_0_0 hr195_36 hP hS hl
                      exact absurd hx195_1 (by first | exact ms_zu hv195_3.2 | omega)
                    | succ d ih195 =>
                      intro g195_36 v195_3 E195_ H locs ls hv195_3 hx195_0 hx195_1 hI hKp hs195_0_55 hs195_0_0 hr195_36 hP hS hl
                      refine lv_iload_n hx hb dX13_score_195 rfl (lv_at hl 0 rfl) ?_
                      refine lv_aload_n hx hb dX13_score_196 rfl (lv_at hl 2 rfl) ?_
                      refine th_get (ci := 14) (C := RX13) (T := TX13) (N := 97) (v := .int (xi (E 0) 8)) hx hb hts hinX13 hown hK hP hI 0 (Nat.le_of_ble_eq_true rfl) rfl rfl 8 (Nat.le_of_ble_eq_true rfl) (hts _ (vA_in _ _ (in_24 _ (zs16 (zs4 (zs1 (zs1 (zs0)))))))) (fun _ h9 => h9) (th_v0 hKp hI0 0 (Nat.le_of_ble_eq_true rfl) rfl (Nat.le_of_ble_eq_true rfl) rfl rfl) dX13_score_197 ?_
                      refine lv_icmp_ge (tgt := 375) hx hb dX13_score_200 (by decide) (fun c30 => ?_) (fun c30 => ?_)
                      · --200 taken
                        have t31 : (xi (E 0) 8).toInt ≤ v195_3.toInt := ti_le c30
                        refine lv_iconst (v := 1) hx hb dX13_score_375 (by decide) ?_
                        rw [hQ]
                        exact W.zret (v := 1) hx hb hr rfl (fun t ht hW => ⟨⟨1, E195_, rfl, ⟨hI, hKp, Or.inl rfl⟩, by show va_P (dC, dI) vwCl (WX 72 ad E195_) t.heap; rw [ht]; exact hP⟩, hS.F ht⟩) hS.2.2 dX13_score_376
                      · --200 not
                        have t32 : v195_3.toInt < (xi (E 0) 8).toInt := ti_nle c30
                        have i33 : 0 ≤ v195_3.toInt ∧ v195_3.toInt ≤ 15 := iv_lt_l t32 hv195_3 i15 (by decide)
                        have i34 : 1 ≤ (xi (E 0) 8).toInt ∧ (xi (E 0) 8).toInt ≤ 16 := iv_lt_r t32 hv195_3 i15 (by decide)
                        refine lv_iconst (v := 0) hx hb dX13_score_203 (by decide) ?_
                        refine lv_istore (lv' := [(4, .int 0), (3, .int v195_3), (2, .int y29), (0, .ref (ad 0)), (1, .int a0)]) hx hb dX13_score_204 hl (by decide) rfl (fun ls hl => ?_)
                        have hL206 : ∀ d : Nat, ∀ (g206_36 : Nat → Int32) (v206_4 : Int32) (E206_ : Nat → va_E) (H : Heap) (locs : List Loc) (ls : Array Slot), 0 ≤ v206_4.toInt ∧ v206_4.toInt ≤ 19 → (∀ r' b' : Nat, v195_3.toInt < (b' : Int) → (b' : Int) < (xi (E 0) 8).toInt → (r' : Int) < w20_0_55.toInt → g206_36 (16 * r' + b') = 0) → (thr g206_36 v195_3.toNatClampNeg w20_0_55.toNatClampNeg : Int) ≤ v206_4.toInt → 19 - v206_4.toInt < (d : Int) → IX cT shM spM 72 ad E206_ → Kp w_score E E206_ → xv (E206_ 0) 55 = .int w20_0_55 → xv (E206_ 0) 0 = .int 0 → xi (E206_ 36) = g206_36 → va_P (dC, dI) vwCl (WX 72 ad E206_) H → va_S A s.heap H locs → lv_has ls 7 [(4, .int v206_4), (3, .int v195_3), (2, .int y29), (0, .ref (ad 0)), (1, .int a0)] → W p l e (headSpec v_score rm_score).room s m args below meth c H locs 0 0 Q (F0 m 206 ls []) := by
                          intro d
                          induction d with
                          | zero =>
                            intro g206_36 v206_4 E206_ H locs ls hv206_4 hx206_0 hx206_1 hx206_2 hI hKp hs206_0_55 hs206_0_0 hr206_36 hP hS hl
                            exact absurd hx206_2 (by first | exact ms_zu hv206_4.2 | omega)
                          | succ d ih206 =>
                            intro g206_36 v206_4 E206_ H locs ls hv206_4 hx206_0 hx206_1 hx206_2 hI hKp hs206_0_55 hs206_0_0 hr206_36 hP hS hl
                            refine lv_iload hx hb dX13_score_206 (lv_at hl 0 rfl) ?_
                            refine lv_iload_n hx hb dX13_score_208 rfl (lv_at hl 2 rfl) ?_
                            refine lv_icmp_ge (tgt := 304) hx hb dX13_score_209 (by decide) (fun c35 => ?_) (fun c35 => ?_)
                            · --209 taken
                              have t36 : y29.toInt ≤ v206_4.toInt := ti_le c35
                              refine lv_aload_n hx hb dX13_score_304 rfl (lv_at hl 3 rfl) ?_
                              refine th_get (ci := 14) (C := RX13) (T := TX13) (N := 97) (v := .ref (ad 33)) hx hb hts hinX13 hown hK hP hI 0 (Nat.le_of_ble_eq_true rfl) rfl rfl 50 (Nat.le_of_ble_eq_true rfl) (hts _ (vA_in _ _ (in_32 _ (zs4 (zs4 (zs1 (zs1 (zs0)))))))) (fun _ h9 => h9) (hI.fr 0 (Nat.le_of_ble_eq_true rfl) rfl (Nat.le_of_ble_eq_true rfl) 33 rfl) dX13_score_305 ?_
                              refine lv_iload_n hx hb dX13_score_308 rfl (lv_at hl 1 rfl) ?_
                              refine lv_iconst (v := 0) hx hb dX13_score_309 (by decide) ?_
                              have n37 : vp_in v195_3 16 := (iv_in (n := 16) i33 (by decide))
                              refine th_iast hx hb hK hP (WX_D hD) hS hI 33 (Nat.le_of_ble_eq_true rfl) rfl rfl n37 (okI rfl (iv_w ln_0 (by decide))) dX13_score_310 (fun H locs E38 pw39 hI hP hS => ?_)
                              have hKp := hKp.pw pw39 rfl
                              refine lv_iconst (v := 0) hx hb dX13_score_311 (by decide) ?_
                              refine lv_istore (lv' := [(4, .int 0), (3, .int v195_3), (2, .int y29), (0, .ref (ad 0)), (1, .int a0)]) hx hb dX13_score_312 hl (by decide) rfl (fun ls hl => ?_)
                              have hL314 : ∀ d : Nat, ∀ (v314_4 : Int32) (E314_ : Nat → va_E) (H : Heap) (locs : List Loc) (ls : Array Slot), 0 ≤ v314_4.toInt ∧ v314_4.toInt ≤ 20 → 20 - v314_4.toInt < (d : Int) → IX cT shM spM 72 ad E314_ → Kp w_score E E314_ → xv (E314_ 0) 55 = .int w20_0_55 → xv (E314_ 0) 0 = .int 0 → xi (E314_ 36) = g206_36 → va_P (dC, dI) vwCl (WX 72 ad E314_) H → va_S A s.heap H locs → lv_has ls 7 [(4, .int v314_4), (3, .int v195_3), (2, .int y29), (0, .ref (ad 0)), (1, .int a0)] → W p l e (headSpec v_score rm_score).room s m args below meth c H locs 0 0 Q (F0 m 314 ls []) := by
                                intro d
                                induction d with
                                | zero =>
                                  intro v314_4 E314_ H locs ls hv314_4 hx314_0 hI hKp hs314_0_55 hs314_0_0 hr314_36 hP hS hl
                                  exact absurd hx314_0 (by first | exact ms_zu hv314_4.2 | omega)
                                | succ d ih314 =>
                                  intro v314_4 E314_ H locs ls hv314_4 hx314_0 hI hKp hs314_0_55 hs314_0_0 hr314_36 hP hS hl
                                  refine lv_iload hx hb dX13_score_314 (lv_at hl 0 rfl) ?_
                                  refine lv_aload_n hx hb dX13_score_316 rfl (lv_at hl 3 rfl) ?_
                                  refine th_get (ci := 14) (C := RX13) (T := TX13) (N := 97) (v := .int w20_0_55) hx hb hts hinX13 hown hK hP hI 0 (Nat.le_of_ble_eq_true rfl) rfl rfl 55 (Nat.le_of_ble_eq_true rfl) (hts _ (vA_in _ _ (in_32 _ (zs16 (zs1 (zs1 (zs1 (zs0)))))))) (fun _ h9 => h9) hs314_0_55 dX13_score_317 ?_
                                  refine lv_icmp_ge (tgt := 369) hx hb dX13_score_320 (by decide) (fun c40 => ?_) (fun c40 => ?_)
                                  · --320 taken
                                    have t41 : w20_0_55.toInt ≤ v314_4.toInt := ti_le c40
                                    obtain ⟨y42, ey42⟩ : ∃ y : Int32, y = v195_3 + (1 : Int32) := ⟨_, rfl⟩
                                    obtain ⟨ty42, iy42⟩ := ti_add (e := 1) (f := 16) i33 ln_1 ey42 (by decide)
                                    have ty42 : y42.toInt = v195_3.toInt + 1 := ty42
                                    have iy42 : 1 ≤ y42.toInt ∧ y42.toInt ≤ 16 := iy42
                                    refine lv_iinc (v := y42) (lv' := [(3, .int y42), (4, .int v314_4), (2, .int y29), (0, .ref (ad 0)), (1, .int a0)]) hx hb dX13_score_369 hl (k := 1) rfl (by rw [ey42]; rfl) (by decide) rfl (fun ls hl => ?_)
                                    refine lv_goto (tgt := 195) hx hb dX13_score_372 (by decide) ?_
                                    exact ih195 g206_36 y42 E314_ _ _ _ (iv_w iy42 (by decide)) (fun r' b' h1 h2 h3 => hx206_0 r' b' (by omega) h2 h3) (by first | exact ms_su hx195_1 ty42 (by decide) | omega) hI hKp hs314_0_55 hs314_0_0 hr314_36 hP hS (lv_sub hl [0, 2, 3, 4] rfl)
                                  · --320 not
                                    have t43 : v314_4.toInt < w20_0_55.toInt := ti_nle c40
                                    have i44 : 0 ≤ v314_4.toInt ∧ v314_4.toInt ≤ 19 := iv_lt_l t43 hv314_4 hw20_0_55 (by decide)
                                    have i45 : 1 ≤ w20_0_55.toInt ∧ w20_0_55.toInt ≤ 20 := iv_lt_r t43 hv314_4 hw20_0_55 (by decide)
                                    refine lv_aload_n hx hb dX13_score_323 rfl (lv_at hl 3 rfl) ?_
                                    refine th_get (ci := 14) (C := RX13) (T := TX13) (N := 97) (v := .ref (ad 33)) hx hb hts hinX13 hown hK hP hI 0 (Nat.le_of_ble_eq_true rfl) rfl rfl 50 (Nat.le_of_ble_eq_true rfl) (hts _ (vA_in _ _ (in_32 _ (zs4 (zs4 (zs1 (zs1 (zs0)))))))) (fun _ h9 => h9) (hI.fr 0 (Nat.le_of_ble_eq_true rfl) rfl (Nat.le_of_ble_eq_true rfl) 33 rfl) dX13_score_324 ?_
                                    refine lv_iload_n hx hb dX13_score_327 rfl (lv_at hl 1 rfl) ?_
                                    refine lv_dup2_11 hx hb dX13_score_328 rfl rfl ?_
                                    have n47 : vp_in v195_3 16 := (iv_in (n := 16) i33 (by decide))
                                    refine th_iald hx hb hK hP hI 33 (Nat.le_of_ble_eq_true rfl) rfl rfl n47 dX13_score_329 (fun y46 ey46 => ?_)
                                    refine lv_aload_n hx hb dX13_score_330 rfl (lv_at hl 3 rfl) ?_
                                    refine th_get (ci := 14) (C := RX13) (T := TX13) (N := 97) (v := .ref (ad 36)) hx hb hts hinX13 hown hK hP hI 0 (Nat.le_of_ble_eq_true rfl) rfl rfl 53 (Nat.le_of_ble_eq_true rfl) (hts _ (vA_in _ _ (in_32 _ (zs4 (zs4 (zs4 (zs1 (zs0)))))))) (fun _ h9 => h9) (hI.fr 0 (Nat.le_of_ble_eq_true rfl) rfl (Nat.le_of_ble_eq_true rfl) 36 rfl) dX13_score_331 ?_
                                    refine lv_bipush (v := 16) hx hb dX13_score_334 (by decide) ?_
                                    refine lv_iload hx hb dX13_score_336 (lv_at hl 0 rfl) ?_
                                    refine lv_imul hx hb dX13_score_338 ?_
                                    refine lv_topi (fun y48 ey48 => ?_)
                                    obtain ⟨ty48, iy48⟩ := ti_mul (e := 0) (f := 304) ln_16 i44 ey48 (by decide)
                                    have ty48 : y48.toInt = 16 * v314_4.toInt := ty48
                                    have iy48 : 0 ≤ y48.toInt ∧ y48.toInt ≤ 304 := iy48
                                    refine lv_iload_n hx hb dX13_score_339 rfl (lv_at hl 1 rfl) ?_
                                    refine lv_iadd hx hb dX13_score_340 ?_
                                    refine lv_topi (fun y49 ey49 => ?_)
                                    obtain ⟨ty49, iy49⟩ := ti_add (e := 0) (f := 319) iy48 i33 ey49 (by decide)
                                    have ty49 : y49.toInt = y48.toInt + v195_3.toInt := ty49
                                    have iy49 : 0 ≤ y49.toInt ∧ y49.toInt ≤ 319 := iy49
                                    have n51 : vp_in y49 320 := (iv_in (n := 320) iy49 (by decide))
                                    refine th_zald hx hb hK hP hI 36 (Nat.le_of_ble_eq_true rfl) rfl rfl n51 dX13_score_341 (fun y50 ey50 => ?_)
                                    have iy50 : 0 ≤ y50.toInt ∧ y50.toInt ≤ 1 := hI.el 36 (Nat.le_of_ble_eq_true rfl) rfl n51 (fun _ => rfl) ey50
                                    have ey50 := ey50.trans (congrFun hr314_36 _)
                                    refine lv_if_eq (tgt := 349) hx hb dX13_score_342 (by decide) (fun c52 => ?_) (fun c52 => ?_)
                                    · --342 taken
                                      have t53 : y50.toInt = 0 := ti_eq c52
                                      have i54 : 0 ≤ y50.toInt ∧ y50.toInt ≤ 0 := iv_eqi t53 iy50 (il_ 0) (by decide)
                                      refine lv_aload_n hx hb dX13_score_349 rfl (lv_at hl 3 rfl) ?_
                                      refine th_get (ci := 14) (C := RX13) (T := TX13) (N := 97) (v := .ref (ad 32)) hx hb hts hinX13 hown hK hP hI 0 (Nat.le_of_ble_eq_true rfl) rfl rfl 49 (Nat.le_of_ble_eq_true rfl) (hts _ (vA_in _ _ (in_32 _ (zs4 (zs4 (zs1 (zs0))))))) (fun _ h9 => h9) (hI.fr 0 (Nat.le_of_ble_eq_true rfl) rfl (Nat.le_of_ble_eq_true rfl) 32 rfl) dX13_score_350 ?_
                                      refine lv_bipush (v := 16) hx hb dX13_score_353 (by decide) ?_
                                      refine lv_iload hx hb dX13_score_355 (lv_at hl 0 rfl) ?_
                                      refine lv_imul hx hb dX13_score_357 ?_
                                      refine lv_topi (fun y55 ey55 => ?_)
                                      obtain ⟨ty55, iy55⟩ := ti_mul (e := 0) (f := 304) ln_16 i44 ey55 (by decide)
                                      have ty55 : y55.toInt = 16 * v314_4.toInt := ty55
                                      have iy55 : 0 ≤ y55.toInt ∧ y55.toInt ≤ 304 := iy55
                                      refine lv_iload_n hx hb dX13_score_358 rfl (lv_at hl 1 rfl) ?_
                                      refine lv_iadd hx hb dX13_score_359 ?_
                                      refine lv_topi (fun y56 ey56 => ?_)
                                      obtain ⟨ty56, iy56⟩ := ti_add (e := 0) (f := 319) iy55 i33 ey56 (by decide)
                                      have ty56 : y56.toInt = y55.toInt + v195_3.toInt := ty56
                                      have iy56 : 0 ≤ y56.toInt ∧ y56.toInt ≤ 319 := iy56
                                      have n58 : vp_in y56 320 := (iv_in (n := 320) iy56 (by decide))
                                      refine th_iald hx hb hK hP hI 32 (Nat.le_of_ble_eq_true rfl) rfl rfl n58 dX13_score_360 (fun y57 ey57 => ?_)
                                      refine lv_iadd hx hb dX13_score_361 ?_
                                      refine lv_topi (fun y59 ey59 => ?_)
                                      have n60 : vp_in v195_3 16 := (iv_in (n := 16) i33 (by decide))
                                      refine th_iast hx hb hK hP (WX_D hD) hS hI 33 (Nat.le_of_ble_eq_true rfl) rfl rfl n60 (okI rfl (iv_all _)) dX13_score_362 (fun H locs E61 pw62 hI hP hS => ?_)
                                      have hKp := hKp.pw pw62 rfl
                                      obtain ⟨y63, ey63⟩ : ∃ y : Int32, y = v314_4 + (1 : Int32) := ⟨_, rfl⟩
                                      obtain ⟨ty63, iy63⟩ := ti_add (e := 1) (f := 20) i44 ln_1 ey63 (by decide)
                                      have ty63 : y63.toInt = v314_4.toInt + 1 := ty63
                                      have iy63 : 1 ≤ y63.toInt ∧ y63.toInt ≤ 20 := iy63
                                      refine lv_iinc (v := y63) (lv' := [(4, .int y63), (3, .int v195_3), (2, .int y29), (0, .ref (ad 0)), (1, .int a0)]) hx hb dX13_score_363 hl (k := 0) rfl (by rw [ey63]; rfl) (by decide) rfl (fun ls hl => ?_)
                                      refine lv_goto (tgt := 314) hx hb dX13_score_366 (by decide) ?_
                                      exact ih314 y63 E61 _ _ _ (iv_w iy63 (by decide)) (by first | exact ms_su hx314_0 ty63 (by decide) | omega) hI hKp ((pw62.2 0 55 (fun q9 => absurd q9.1 (Nat.ne_of_beq_eq_false rfl))).trans hs314_0_55) ((pw62.2 0 0 (fun q9 => absurd q9.1 (Nat.ne_of_beq_eq_false rfl))).trans hs314_0_0) ((pw62.ef 36 (Nat.ne_of_beq_eq_false rfl)).trans hr314_36) hP hS (lv_sub hl [0, 1, 2, 3, 4] rfl)
                                    · --342 not
                                      have t64 : ¬ y50.toInt = 0 := ti_ne c52
                                      have i65 : 1 ≤ y50.toInt ∧ y50.toInt ≤ 1 := iv_ne_l t64 iy50 (il_ 0)
                                      refine lv_iconst (v := 0) hx hb dX13_score_345 (by decide) ?_
                                      refine lv_goto (tgt := 361) hx hb dX13_score_346 (by decide) ?_
                                      refine lv_iadd hx hb dX13_score_361 ?_
                                      refine lv_topi (fun y66 ey66 => ?_)
                                      obtain ⟨ty66, iy66⟩ := ti_add (e := (-2147483648)) (f := 2147483647) (iv_all _) ln_0 ey66 (by decide)
                                      have ty66 : y66.toInt = y46.toInt + 0 := ty66
                                      have iy66 : -2147483648 ≤ y66.toInt ∧ y66.toInt ≤ 2147483647 := iy66
                                      have n67 : vp_in v195_3 16 := (iv_in (n := 16) i33 (by decide))
                                      refine th_iast hx hb hK hP (WX_D hD) hS hI 33 (Nat.le_of_ble_eq_true rfl) rfl rfl n67 (okI rfl iy66) dX13_score_362 (fun H locs E68 pw69 hI hP hS => ?_)
                                      have hKp := hKp.pw pw69 rfl
                                      obtain ⟨y70, ey70⟩ : ∃ y : Int32, y = v314_4 + (1 : Int32) := ⟨_, rfl⟩
                                      obtain ⟨ty70, iy70⟩ := ti_add (e := 1) (f := 20) i44 ln_1 ey70 (by decide)
                                      have ty70 : y70.toInt = v314_4.toInt + 1 := ty70
                                      have iy70 : 1 ≤ y70.toInt ∧ y70.toInt ≤ 20 := iy70
                                      refine lv_iinc (v := y70) (lv' := [(4, .int y70), (3, .int v195_3), (2, .int y29), (0, .ref (ad 0)), (1, .int a0)]) hx hb dX13_score_363 hl (k := 0) rfl (by rw [ey70]; rfl) (by decide) rfl (fun ls hl => ?_)
                                      refine lv_goto (tgt := 314) hx hb dX13_score_366 (by decide) ?_
                                      exact ih314 y70 E68 _ _ _ (iv_w iy70 (by decide)) (by first | exact ms_su hx314_0 ty70 (by decide) | omega) hI hKp ((pw69.2 0 55 (fun q9 => absurd q9.1 (Nat.ne_of_beq_eq_false rfl))).trans hs314_0_55) ((pw69.2 0 0 (fun q9 => absurd q9.1 (Nat.ne_of_beq_eq_false rfl))).trans hs314_0_0) ((pw69.ef 36 (Nat.ne_of_beq_eq_false rfl)).trans hr314_36) hP hS (lv_sub hl [0, 1, 2, 3, 4] rfl)
                              exact hL314 (21) (0 : Int32) E38 _ _ _ (iv_w ln_0 (by decide)) (by have h9 := ln_0; first | exact ms_bu h9.1 (by decide) | omega) hI hKp ((pw39.2 0 55 (fun q9 => absurd q9.1 (Nat.ne_of_beq_eq_false rfl))).trans hs206_0_55) ((pw39.2 0 0 (fun q9 => absurd q9.1 (Nat.ne_of_beq_eq_false rfl))).trans hs206_0_0) ((pw39.ef 36 (Nat.ne_of_beq_eq_false rfl)).trans hr206_36) hP hS (lv_sub hl [0, 1, 2, 3, 4] rfl)
                            · --209 not
                              have t71 : v206_4.toInt < y29.toInt := ti_nle c35
                              have i72 : 0 ≤ v206_4.toInt ∧ v206_4.toInt ≤ 18 := iv_lt_l t71 hv206_4 iy29 (by decide)
                              have i73 : 1 ≤ y29.toInt ∧ y29.toInt ≤ 19 := iv_lt_r t71 hv206_4 iy29 (by decide)
                              refine lv_iconst (v := -1) hx hb dX13_score_212 (by decide) ?_
                              refine lv_istore (lv' := [(5, .int (-1)), (4, .int v206_4), (3, .int v195_3), (2, .int y29), (0, .ref (ad 0)), (1, .int a0)]) hx hb dX13_score_213 hl (by decide) rfl (fun ls hl => ?_)
                              refine lv_iconst (v := 0) hx hb dX13_score_215 (by decide) ?_
                              refine lv_istore (lv' := [(6, .int 0), (5, .int (-1)), (4, .int v206_4), (3, .int v195_3), (2, .int y29), (0, .ref (ad 0)), (1, .int a0)]) hx hb dX13_score_216 hl (by decide) rfl (fun ls hl => ?_)
                              have hL218 : ∀ d : Nat, ∀ (v218_6 : Int32) (v218_5 : Int32) (H : Heap) (locs : List Loc) (ls : Array Slot), 0 ≤ v218_6.toInt ∧ v218_6.toInt ≤ 20 → -1 ≤ v218_5.toInt ∧ v218_5.toInt ≤ 19 → (v218_5.toInt = -1 → ∀ r' : Nat, (r' : Int) < v218_6.toInt → ¬ g206_36 (16 * r' + v195_3.toNatClampNeg) = 0) → v218_6.toInt ≤ w20_0_55.toInt → 20 - v218_6.toInt < (d : Int) → va_P (dC, dI) vwCl (WX 72 ad E206_) H → va_S A s.heap H locs → lv_has ls 7 [(6, .int v218_6), (5, .int v218_5), (4, .int v206_4), (3, .int v195_3), (2, .int y29), (0, .ref (ad 0)), (1, .int a0)] → W p l e (headSpec v_score rm_score).room s m args below meth c H locs 0 0 Q (F0 m 218 ls []) := by
                                intro d
                                induction d with
                                | zero =>
                                  intro v218_6 v218_5 H locs ls hv218_6 hv218_5 hx218_0 hx218_1 hx218_2 hP hS hl
                                  exact absurd hx218_2 (by first | exact ms_zu hv218_6.2 | omega)
                                | succ d ih218 =>
                                  intro v218_6 v218_5 H locs ls hv218_6 hv218_5 hx218_0 hx218_1 hx218_2 hP hS hl
                                  refine lv_iload hx hb dX13_score_218 (lv_at hl 0 rfl) ?_
                                  refine lv_aload_n hx hb dX13_score_220 rfl (lv_at hl 5 rfl) ?_
                                  refine th_get (ci := 14) (C := RX13) (T := TX13) (N := 97) (v := .int w20_0_55) hx hb hts hinX13 hown hK hP hI 0 (Nat.le_of_ble_eq_true rfl) rfl rfl 55 (Nat.le_of_ble_eq_true rfl) (hts _ (vA_in _ _ (in_32 _ (zs16 (zs1 (zs1 (zs1 (zs0)))))))) (fun _ h9 => h9) hs206_0_55 dX13_score_221 ?_
                                  refine lv_icmp_ge (tgt := 285) hx hb dX13_score_224 (by decide) (fun c74 => ?_) (fun c74 => ?_)
                                  · --224 taken
                                    have t75 : w20_0_55.toInt ≤ v218_6.toInt := ti_le c74
                                    have q9 : ¬ v218_5.toInt = -1 := fun h1 => by
                                      have h2 := thr_all (g := g206_36) (b := v195_3.toNatClampNeg) w20_0_55.toNatClampNeg (fun r hr => hx218_0 h1 r (by rw [tn_] at hr; omega))
                                      have h3 : (w20_0_55.toNatClampNeg : Int) = w20_0_55.toInt := by rw [tn_]; omega
                                      omega
                                    have i76 : 0 ≤ v218_5.toInt ∧ v218_5.toInt ≤ 19 := by omega
                                    refine lv_aload_n hx hb dX13_score_285 rfl (lv_at hl 5 rfl) ?_
                                    refine th_get (ci := 14) (C := RX13) (T := TX13) (N := 97) (v := .ref (ad 36)) hx hb hts hinX13 hown hK hP hI 0 (Nat.le_of_ble_eq_true rfl) rfl rfl 53 (Nat.le_of_ble_eq_true rfl) (hts _ (vA_in _ _ (in_32 _ (zs4 (zs4 (zs4 (zs1 (zs0)))))))) (fun _ h9 => h9) (hI.fr 0 (Nat.le_of_ble_eq_true rfl) rfl (Nat.le_of_ble_eq_true rfl) 36 rfl) dX13_score_286 ?_
                                    refine lv_bipush (v := 16) hx hb dX13_score_289 (by decide) ?_
                                    refine lv_iload hx hb dX13_score_291 (lv_at hl 1 rfl) ?_
                                    refine lv_imul hx hb dX13_score_293 ?_
                                    refine lv_topi (fun y77 ey77 => ?_)
                                    obtain ⟨ty77, iy77⟩ := ti_mul (e := 0) (f := 304) ln_16 i76 ey77 (by decide)
                                    have ty77 : y77.toInt = 16 * v218_5.toInt := ty77
                                    have iy77 : 0 ≤ y77.toInt ∧ y77.toInt ≤ 304 := iy77
                                    refine lv_iload_n hx hb dX13_score_294 rfl (lv_at hl 3 rfl) ?_
                                    refine lv_iadd hx hb dX13_score_295 ?_
                                    refine lv_topi (fun y78 ey78 => ?_)
                                    obtain ⟨ty78, iy78⟩ := ti_add (e := 0) (f := 319) iy77 i33 ey78 (by decide)
                                    have ty78 : y78.toInt = y77.toInt + v195_3.toInt := ty78
                                    have iy78 : 0 ≤ y78.toInt ∧ y78.toInt ≤ 319 := iy78
                                    refine lv_iconst (v := 1) hx hb dX13_score_296 (by decide) ?_
                                    have n79 : vp_in y78 320 := (iv_in (n := 320) iy78 (by decide))
                                    refine th_zast hx hb hK hP (WX_D hD) hS hI 36 (Nat.le_of_ble_eq_true rfl) rfl rfl n79 (iv_w ln_1 (by decide)) (okI rfl (iv_w ln_1 (by decide))) dX13_score_297 (fun H locs E80 pw81 hI hP hS => ?_)
                                    have hKp := hKp.pw pw81 rfl
                                    obtain ⟨g82, eg82⟩ : ∃ z : Nat → Int32, z = upd g206_36 y78.toNatClampNeg (1 : Int32) := ⟨_, rfl⟩
                                    have hg82 : xi (E80 36) = g82 := by rw [pw81.eu, hr206_36, eg82]
                                    obtain ⟨y83, ey83⟩ : ∃ y : Int32, y = v206_4 + (1 : Int32) := ⟨_, rfl⟩
                                    obtain ⟨ty83, iy83⟩ := ti_add (e := 1) (f := 19) i72 ln_1 ey83 (by decide)
                                    have ty83 : y83.toInt = v206_4.toInt + 1 := ty83
                                    have iy83 : 1 ≤ y83.toInt ∧ y83.toInt ≤ 19 := iy83
                                    refine lv_iinc (v := y83) (lv' := [(4, .int y83), (6, .int v218_6), (5, .int v218_5), (3, .int v195_3), (2, .int y29), (0, .ref (ad 0)), (1, .int a0)]) hx hb dX13_score_298 hl (k := 2) rfl (by rw [ey83]; rfl) (by decide) rfl (fun ls hl => ?_)
                                    refine lv_goto (tgt := 206) hx hb dX13_score_301 (by decide) ?_
                                    exact ih206 g82 y83 E80 _ _ _ (iv_w iy83 (by decide)) (fun r' b' h1 h2 h3 => by rw [eg82, pk_un (by rw [tn_]; omega)]; exact hx206_0 r' b' h1 h2 h3) (by have h9 := thr_upd (g := g206_36) (b := v195_3.toNatClampNeg) (k := y78.toNatClampNeg) (x := 1) w20_0_55.toNatClampNeg; rw [eg82]; omega) (by first | exact ms_su hx206_2 ty83 (by decide) | omega) hI hKp ((pw81.2 0 55 (fun q9 => absurd q9.1 (Nat.ne_of_beq_eq_false rfl))).trans hs206_0_55) ((pw81.2 0 0 (fun q9 => absurd q9.1 (Nat.ne_of_beq_eq_false rfl))).trans hs206_0_0) hg82 hP hS (lv_sub hl [0, 3, 4, 5, 6] rfl)
                                  · --224 not
                                    have t84 : v218_6.toInt < w20_0_55.toInt := ti_nle c74
                                    have i85 : 0 ≤ v218_6.toInt ∧ v218_6.toInt ≤ 19 := iv_lt_l t84 hv218_6 hw20_0_55 (by decide)
                                    have i86 : 1 ≤ w20_0_55.toInt ∧ w20_0_55.toInt ≤ 20 := iv_lt_r t84 hv218_6 hw20_0_55 (by decide)
                                    refine lv_aload_n hx hb dX13_score_227 rfl (lv_at hl 5 rfl) ?_
                                    refine th_get (ci := 14) (C := RX13) (T := TX13) (N := 97) (v := .ref (ad 36)) hx hb hts hinX13 hown hK hP hI 0 (Nat.le_of_ble_eq_true rfl) rfl rfl 53 (Nat.le_of_ble_eq_true rfl) (hts _ (vA_in _ _ (in_32 _ (zs4 (zs4 (zs4 (zs1 (zs0)))))))) (fun _ h9 => h9) (hI.fr 0 (Nat.le_of_ble_eq_true rfl) rfl (Nat.le_of_ble_eq_true rfl) 36 rfl) dX13_score_228 ?_
                                    refine lv_bipush (v := 16) hx hb dX13_score_231 (by decide) ?_
                                    refine lv_iload hx hb dX13_score_233 (lv_at hl 0 rfl) ?_
                                    refine lv_imul hx hb dX13_score_235 ?_
                                    refine lv_topi (fun y87 ey87 => ?_)
                                    obtain ⟨ty87, iy87⟩ := ti_mul (e := 0) (f := 304) ln_16 i85 ey87 (by decide)
                                    have ty87 : y87.toInt = 16 * v218_6.toInt := ty87
                                    have iy87 : 0 ≤ y87.toInt ∧ y87.toInt ≤ 304 := iy87
                                    refine lv_iload_n hx hb dX13_score_236 rfl (lv_at hl 3 rfl) ?_
                                    refine lv_iadd hx hb dX13_score_237 ?_
                                    refine lv_topi (fun y88 ey88 => ?_)
                                    obtain ⟨ty88, iy88⟩ := ti_add (e := 0) (f := 319) iy87 i33 ey88 (by decide)
                                    have ty88 : y88.toInt = y87.toInt + v195_3.toInt := ty88
                                    have iy88 : 0 ≤ y88.toInt ∧ y88.toInt ≤ 319 := iy88
                                    have n90 : vp_in y88 320 := (iv_in (n := 320) iy88 (by decide))
                                    refine th_zald hx hb hK hP hI 36 (Nat.le_of_ble_eq_true rfl) rfl rfl n90 dX13_score_238 (fun y89 ey89 => ?_)
                                    have iy89 : 0 ≤ y89.toInt ∧ y89.toInt ≤ 1 := hI.el 36 (Nat.le_of_ble_eq_true rfl) rfl n90 (fun _ => rfl) ey89
                                    have ey89 := ey89.trans (congrFun hr206_36 _)
                                    refine lv_if_ne (tgt := 279) hx hb dX13_score_239 (by decide) (fun c91 => ?_) (fun c91 => ?_)
                                    · --239 taken
                                      have t92 : ¬ y89.toInt = 0 := ti_ne c91
                                      have i93 : 1 ≤ y89.toInt ∧ y89.toInt ≤ 1 := iv_ne_l t92 iy89 (il_ 0)
                                      obtain ⟨y94, ey94⟩ : ∃ y : Int32, y = v218_6 + (1 : Int32) := ⟨_, rfl⟩
                                      obtain ⟨ty94, iy94⟩ := ti_add (e := 1) (f := 20) i85 ln_1 ey94 (by decide)
                                      have ty94 : y94.toInt = v218_6.toInt + 1 := ty94
                                      have iy94 : 1 ≤ y94.toInt ∧ y94.toInt ≤ 20 := iy94
                                      refine lv_iinc (v := y94) (lv' := [(6, .int y94), (5, .int v218_5), (4, .int v206_4), (3, .int v195_3), (2, .int y29), (0, .ref (ad 0)), (1, .int a0)]) hx hb dX13_score_279 hl (k := 0) rfl (by rw [ey94]; rfl) (by decide) rfl (fun ls hl => ?_)
                                      refine lv_goto (tgt := 218) hx hb dX13_score_282 (by decide) ?_
                                      exact ih218 y94 v218_5 _ _ _ (iv_w iy94 (by decide)) hv218_5 (fun h1 r' h2 => by by_cases q : (r' : Int) = v218_6.toInt; (intro h3; exact c91 (by rw [ey89]; rw [← h3]; congr 1; rw [tn_, tn_]; omega)); (exact hx218_0 h1 r' (by omega))) (by omega) (by first | exact ms_su hx218_2 ty94 (by decide) | omega) hP hS (lv_sub hl [0, 1, 2, 3, 4, 5, 6] rfl)
                                    · --239 not
                                      have t95 : y89.toInt = 0 := ti_eq c91
                                      have i96 : 0 ≤ y89.toInt ∧ y89.toInt ≤ 0 := iv_eqi t95 iy89 (il_ 0) (by decide)
                                      refine lv_iload hx hb dX13_score_242 (lv_at hl 1 rfl) ?_
                                      refine lv_iconst (v := -1) hx hb dX13_score_244 (by decide) ?_
                                      refine lv_icmp_eq (tgt := 275) hx hb dX13_score_245 (by decide) (fun c97 => ?_) (fun c97 => ?_)
                                      · --245 taken
                                        have t98 : v218_5.toInt = -1 := ti_eq c97
                                        have i99 : -1 ≤ v218_5.toInt ∧ v218_5.toInt ≤ -1 := iv_eqi t98 hv218_5 (il_ (-1)) (by decide)
                                        refine lv_iload hx hb dX13_score_275 (lv_at hl 0 rfl) ?_
                                        refine lv_istore (lv' := [(5, .int v218_6), (6, .int v218_6), (4, .int v206_4), (3, .int v195_3), (2, .int y29), (0, .ref (ad 0)), (1, .int a0)]) hx hb dX13_score_277 hl (by decide) rfl (fun ls hl => ?_)
                                        obtain ⟨y100, ey100⟩ : ∃ y : Int32, y = v218_6 + (1 : Int32) := ⟨_, rfl⟩
                                        obtain ⟨ty100, iy100⟩ := ti_add (e := 1) (f := 20) i85 ln_1 ey100 (by decide)
                                        have ty100 : y100.toInt = v218_6.toInt + 1 := ty100
                                        have iy100 : 1 ≤ y100.toInt ∧ y100.toInt ≤ 20 := iy100
                                        refine lv_iinc (v := y100) (lv' := [(6, .int y100), (5, .int v218_6), (4, .int v206_4), (3, .int v195_3), (2, .int y29), (0, .ref (ad 0)), (1, .int a0)]) hx hb dX13_score_279 hl (k := 1) rfl (by rw [ey100]; rfl) (by decide) rfl (fun ls hl => ?_)
                                        refine lv_goto (tgt := 218) hx hb dX13_score_282 (by decide) ?_
                                        exact ih218 y100 v218_6 _ _ _ (iv_w iy100 (by decide)) (iv_w i85 (by decide)) (fun h1 => absurd h1 (by omega)) (by omega) (by first | exact ms_su hx218_2 ty100 (by decide) | omega) hP hS (lv_sub hl [0, 1, 2, 3, 4, 5, 6] rfl)
                                      · --245 not
                                        have t101 : ¬ v218_5.toInt = -1 := ti_ne c97
                                        have i102 : 0 ≤ v218_5.toInt ∧ v218_5.toInt ≤ 19 := iv_ne_l t101 hv218_5 (il_ (-1))
                                        refine lv_aload_n hx hb dX13_score_248 rfl (lv_at hl 5 rfl) ?_
                                        refine th_get (ci := 14) (C := RX13) (T := TX13) (N := 97) (v := .ref (ad 32)) hx hb hts hinX13 hown hK hP hI 0 (Nat.le_of_ble_eq_true rfl) rfl rfl 49 (Nat.le_of_ble_eq_true rfl) (hts _ (vA_in _ _ (in_32 _ (zs4 (zs4 (zs1 (zs0))))))) (fun _ h9 => h9) (hI.fr 0 (Nat.le_of_ble_eq_true rfl) rfl (Nat.le_of_ble_eq_true rfl) 32 rfl) dX13_score_249 ?_
                                        refine lv_bipush (v := 16) hx hb dX13_score_252 (by decide) ?_
                                        refine lv_iload hx hb dX13_score_254 (lv_at hl 0 rfl) ?_
                                        refine lv_imul hx hb dX13_score_256 ?_
                                        refine lv_topi (fun y103 ey103 => ?_)
                                        obtain ⟨ty103, iy103⟩ := ti_mul (e := 0) (f := 304) ln_16 i85 ey103 (by decide)
                                        have ty103 : y103.toInt = 16 * v218_6.toInt := ty103
                                        have iy103 : 0 ≤ y103.toInt ∧ y103.toInt ≤ 304 := iy103
                                        refine lv_iload_n hx hb dX13_score_257 rfl (lv_at hl 3 rfl) ?_
                                        refine lv_iadd hx hb dX13_score_258 ?_
                                        refine lv_topi (fun y104 ey104 => ?_)
                                        obtain ⟨ty104, iy104⟩ := ti_add (e := 0) (f := 319) iy103 i33 ey104 (by decide)
                                        have ty104 : y104.toInt = y103.toInt + v195_3.toInt := ty104
                                        have iy104 : 0 ≤ y104.toInt ∧ y104.toInt ≤ 319 := iy104
                                        have n106 : vp_in y104 320 := (iv_in (n := 320) iy104 (by decide))
                                        refine th_iald hx hb hK hP hI 32 (Nat.le_of_ble_eq_true rfl) rfl rfl n106 dX13_score_259 (fun y105 ey105 => ?_)
                                        refine lv_aload_n hx hb dX13_score_260 rfl (lv_at hl 5 rfl) ?_
                                        refine th_get (ci := 14) (C := RX13) (T := TX13) (N := 97) (v := .ref (ad 32)) hx hb hts hinX13 hown hK hP hI 0 (Nat.le_of_ble_eq_true rfl) rfl rfl 49 (Nat.le_of_ble_eq_true rfl) (hts _ (vA_in _ _ (in_32 _ (zs4 (zs4 (zs1 (zs0))))))) (fun _ h9 => h9) (hI.fr 0 (Nat.le_of_ble_eq_true rfl) rfl (Nat.le_of_ble_eq_true rfl) 32 rfl) dX13_score_261 ?_
                                        refine lv_bipush (v := 16) hx hb dX13_score_264 (by decide) ?_
                                        refine lv_iload hx hb dX13_score_266 (lv_at hl 1 rfl) ?_
                                        refine lv_imul hx hb dX13_score_268 ?_
                                        refine lv_topi (fun y107 ey107 => ?_)
                                        obtain ⟨ty107, iy107⟩ := ti_mul (e := 0) (f := 304) ln_16 i102 ey107 (by decide)
                                        have ty107 : y107.toInt = 16 * v218_5.toInt := ty107
                                        have iy107 : 0 ≤ y107.toInt ∧ y107.toInt ≤ 304 := iy107
                                        refine lv_iload_n hx hb dX13_score_269 rfl (lv_at hl 3 rfl) ?_
                                        refine lv_iadd hx hb dX13_score_270 ?_
                                        refine lv_topi (fun y108 ey108 => ?_)
                                        obtain ⟨ty108, iy108⟩ := ti_add (e := 0) (f := 319) iy107 i33 ey108 (by decide)
                                        have ty108 : y108.toInt = y107.toInt + v195_3.toInt := ty108
                                        have iy108 : 0 ≤ y108.toInt ∧ y108.toInt ≤ 319 := iy108
                                        have n110 : vp_in y108 320 := (iv_in (n := 320) iy108 (by decide))
                                        refine th_iald hx hb hK hP hI 32 (Nat.le_of_ble_eq_true rfl) rfl rfl n110 dX13_score_271 (fun y109 ey109 => ?_)
                                        refine lv_icmp_lt (tgt := 279) hx hb dX13_score_272 (by decide) (fun c111 => ?_) (fun c111 => ?_)
                                        · --272 taken
                                          have t112 : y105.toInt < y109.toInt := ti_lt c111
                                          have i113 : -2147483648 ≤ y105.toInt ∧ y105.toInt ≤ 2147483646 := iv_lt_l t112 (iv_all _) (iv_all _) (by decide)
                                          have i114 : -2147483647 ≤ y109.toInt ∧ y109.toInt ≤ 2147483647 := iv_lt_r t112 (iv_all _) (iv_all _) (by decide)
                                          obtain ⟨y115, ey115⟩ : ∃ y : Int32, y = v218_6 + (1 : Int32) := ⟨_, rfl⟩
                                          obtain ⟨ty115, iy115⟩ := ti_add (e := 1) (f := 20) i85 ln_1 ey115 (by decide)
                                          have ty115 : y115.toInt = v218_6.toInt + 1 := ty115
                                          have iy115 : 1 ≤ y115.toInt ∧ y115.toInt ≤ 20 := iy115
                                          refine lv_iinc (v := y115) (lv' := [(6, .int y115), (5, .int v218_5), (4, .int v206_4), (3, .int v195_3), (2, .int y29), (0, .ref (ad 0)), (1, .int a0)]) hx hb dX13_score_279 hl (k := 0) rfl (by rw [ey115]; rfl) (by decide) rfl (fun ls hl => ?_)
                                          refine lv_goto (tgt := 218) hx hb dX13_score_282 (by decide) ?_
                                          exact ih218 y115 v218_5 _ _ _ (iv_w iy115 (by decide)) (iv_w i102 (by decide)) (fun h1 => absurd h1 (by omega)) (by omega) (by first | exact ms_su hx218_2 ty115 (by decide) | omega) hP hS (lv_sub hl [0, 1, 2, 3, 4, 5, 6] rfl)
                                        · --272 not
                                          have t116 : y109.toInt ≤ y105.toInt := ti_nlt c111
                                          refine lv_iload hx hb dX13_score_275 (lv_at hl 0 rfl) ?_
                                          refine lv_istore (lv' := [(5, .int v218_6), (6, .int v218_6), (4, .int v206_4), (3, .int v195_3), (2, .int y29), (0, .ref (ad 0)), (1, .int a0)]) hx hb dX13_score_277 hl (by decide) rfl (fun ls hl => ?_)
                                          obtain ⟨y117, ey117⟩ : ∃ y : Int32, y = v218_6 + (1 : Int32) := ⟨_, rfl⟩
                                          obtain ⟨ty117, iy117⟩ := ti_add (e := 1) (f := 20) i85 ln_1 ey117 (by decide)
                                          have ty117 : y117.toInt = v218_6.toInt + 1 := ty117
                                          have iy117 : 1 ≤ y117.toInt ∧ y117.toInt ≤ 20 := iy117
                                          refine lv_iinc (v := y117) (lv' := [(6, .int y117), (5, .int v218_6), (4, .int v206_4), (3, .int v195_3), (2, .int y29), (0, .ref (ad 0)), (1, .int a0)]) hx hb dX13_score_279 hl (k := 1) rfl (by rw [ey117]; rfl) (by decide) rfl (fun ls hl => ?_)
                                          refine lv_goto (tgt := 218) hx hb dX13_score_282 (by decide) ?_
                                          exact ih218 y117 v218_6 _ _ _ (iv_w iy117 (by decide)) (iv_w i85 (by decide)) (fun h1 => absurd h1 (by omega)) (by omega) (by first | exact ms_su hx218_2 ty117 (by decide) | omega) hP hS (lv_sub hl [0, 1, 2, 3, 4, 5, 6] rfl)
                              exact hL218 (21) (0 : Int32) (-1 : Int32) _ _ _ (iv_w ln_0 (by decide)) (iv_w ln_m1 (by decide)) (fun _ r' h1 => absurd h1 (by have h9 := ln_0; omega)) (by have h9 := ln_0; omega) (by have h9 := ln_0; first | exact ms_bu h9.1 (by decide) | omega) hP hS (lv_sub hl [0, 1, 2, 3, 4, 5, 6] rfl)
                        exact hL206 (20) g195_36 (0 : Int32) E195_ _ _ _ (iv_w ln_0 (by decide)) (fun r' b' h1 h2 h3 => hx195_0 r' b' (by omega) h2 h3) (by rw [thr_0 _ (fun r hr => hx195_0 r v195_3.toNatClampNeg (by rw [tn_]; omega) (by rw [tn_]; omega) (by rw [tn_] at hr; omega))]; have h9 := ln_0; omega) (by have h9 := ln_0; first | exact ms_bu h9.1 (by decide) | omega) hI hKp hs195_0_55 hs195_0_0 hr195_36 hP hS (lv_sub hl [0, 1, 2, 3, 4] rfl)
                  exact hL195 (17) g59_36 (0 : Int32) E26 _ _ _ (iv_w ln_0 (by decide)) (fun r' b' _ h2 h3 => hx59_0 r' b' (by omega) h3) (by have h9 := ln_0; first | exact ms_bu h9.1 (by decide) | omega) hI hKp ((kq27 0 55 rfl).trans ((pw23.2 0 55 (fun q9 => absurd q9.1 (Nat.ne_of_beq_eq_false rfl))).trans ((kq20 0 55 rfl).trans hs59_0_55))) ((kq27 0 0 rfl).trans ((pw23.2 0 0 (fun q9 => absurd q9.1 (Nat.ne_of_beq_eq_false rfl))).trans ((kq20 0 0 rfl).trans hs59_0_0))) ((kq27.ef 36 (fun _ => rfl)).trans ((pw23.ef 36 (Nat.ne_of_beq_eq_false rfl)).trans ((kq20.ef 36 (fun _ => rfl)).trans hr59_36))) hP hS (lv_sub hl [0, 1, 2, 3] rfl)
                · --64 not
                  have t118 : v59_2.toInt < (xi (E 0) 8).toInt := ti_nle c16
                  have i119 : 0 ≤ v59_2.toInt ∧ v59_2.toInt ≤ 15 := iv_lt_l t118 hv59_2 i15 (by decide)
                  have i120 : 1 ≤ (xi (E 0) 8).toInt ∧ (xi (E 0) 8).toInt ≤ 16 := iv_lt_r t118 hv59_2 i15 (by decide)
                  refine lv_aload_n hx hb dX13_score_67 rfl (lv_at hl 1 rfl) ?_
                  refine th_get (ci := 14) (C := RX13) (T := TX13) (N := 97) (v := .ref (ad 37)) hx hb hts hinX13 hown hK hP hI 0 (Nat.le_of_ble_eq_true rfl) rfl rfl 54 (Nat.le_of_ble_eq_true rfl) (hts _ (vA_in _ _ (in_32 _ (zs4 (zs4 (zs4 (zs1 (zs1 (zs0))))))))) (fun _ h9 => h9) (hI.fr 0 (Nat.le_of_ble_eq_true rfl) rfl (Nat.le_of_ble_eq_true rfl) 37 rfl) dX13_score_68 ?_
                  refine lv_iload_n hx hb dX13_score_71 rfl (lv_at hl 0 rfl) ?_
                  refine lv_iconst (v := 0) hx hb dX13_score_72 (by decide) ?_
                  have n121 : vp_in v59_2 16 := (iv_in (n := 16) i119 (by decide))
                  refine th_zast hx hb hK hP (WX_D hD) hS hI 37 (Nat.le_of_ble_eq_true rfl) rfl rfl n121 (iv_w ln_0 (by decide)) (okI rfl (iv_w ln_0 (by decide))) dX13_score_73 (fun H locs E122 pw123 hI hP hS => ?_)
                  have hKp := hKp.pw pw123 rfl
                  refine lv_iconst (v := 0) hx hb dX13_score_74 (by decide) ?_
                  refine lv_istore_n (lv' := [(3, .int 0), (2, .int v59_2), (0, .ref (ad 0)), (1, .int a0)]) hx hb dX13_score_75 rfl hl (by decide) rfl (fun ls hl => ?_)
                  have hL76 : ∀ d : Nat, ∀ (g76_36 : Nat → Int32) (v76_3 : Int32) (E76_ : Nat → va_E) (H : Heap) (locs : List Loc) (ls : Array Slot), 0 ≤ v76_3.toInt ∧ v76_3.toInt ≤ 20 → (∀ r' b' : Nat, ((b' : Int) < v59_2.toInt ∨ ((b' : Int) = v59_2.toInt ∧ (r' : Int) < v76_3.toInt)) → (r' : Int) < w20_0_55.toInt → g76_36 (16 * r' + b') = 0) → 20 - v76_3.toInt < (d : Int) → IX cT shM spM 72 ad E76_ → Kp w_score E E76_ → xv (E76_ 0) 55 = .int w20_0_55 → xv (E76_ 0) 0 = .int 0 → xi (E76_ 36) = g76_36 → va_P (dC, dI) vwCl (WX 72 ad E76_) H → va_S A s.heap H locs → lv_has ls 7 [(3, .int v76_3), (2, .int v59_2), (0, .ref (ad 0)), (1, .int a0)] → W p l e (headSpec v_score rm_score).room s m args below meth c H locs 0 0 Q (F0 m 76 ls []) := by
                    intro d
                    induction d with
                    | zero =>
                      intro g76_36 v76_3 E76_ H locs ls hv76_3 hx76_0 hx76_1 hI hKp hs76_0_55 hs76_0_0 hr76_36 hP hS hl
                      exact absurd hx76_1 (by first | exact ms_zu hv76_3.2 | omega)
                    | succ d ih76 =>
                      intro g76_36 v76_3 E76_ H locs ls hv76_3 hx76_0 hx76_1 hI hKp hs76_0_55 hs76_0_0 hr76_36 hP hS hl
                      refine lv_iload_n hx hb dX13_score_76 rfl (lv_at hl 0 rfl) ?_
                      refine lv_aload_n hx hb dX13_score_77 rfl (lv_at hl 2 rfl) ?_
                      refine th_get (ci := 14) (C := RX13) (T := TX13) (N := 97) (v := .int w20_0_55) hx hb hts hinX13 hown hK hP hI 0 (Nat.le_of_ble_eq_true rfl) rfl rfl 55 (Nat.le_of_ble_eq_true rfl) (hts _ (vA_in _ _ (in_32 _ (zs16 (zs1 (zs1 (zs1 (zs0)))))))) (fun _ h9 => h9) hs76_0_55 dX13_score_78 ?_
                      refine lv_icmp_ge (tgt := 150) hx hb dX13_score_81 (by decide) (fun c124 => ?_) (fun c124 => ?_)
                      · --81 taken
                        have t125 : w20_0_55.toInt ≤ v76_3.toInt := ti_le c124
                        obtain ⟨y126, ey126⟩ : ∃ y : Int32, y = v59_2 + (1 : Int32) := ⟨_, rfl⟩
                        obtain ⟨ty126, iy126⟩ := ti_add (e := 1) (f := 16) i119 ln_1 ey126 (by decide)
                        have ty126 : y126.toInt = v59_2.toInt + 1 := ty126
                        have iy126 : 1 ≤ y126.toInt ∧ y126.toInt ≤ 16 := iy126
                        refine lv_iinc (v := y126) (lv' := [(2, .int y126), (3, .int v76_3), (0, .ref (ad 0)), (1, .int a0)]) hx hb dX13_score_150 hl (k := 1) rfl (by rw [ey126]; rfl) (by decide) rfl (fun ls hl => ?_)
                        refine lv_goto (tgt := 59) hx hb dX13_score_153 (by decide) ?_
                        exact ih59 g76_36 y126 E76_ _ _ _ (iv_w iy126 (by decide)) (fun r' b' h1 h2 => hx76_0 r' b' (by omega) (by omega)) (by first | exact ms_su hx59_1 ty126 (by decide) | omega) hI hKp hs76_0_55 hs76_0_0 hr76_36 hP hS (lv_sub hl [0, 2, 3] rfl)
                      · --81 not
                        have t127 : v76_3.toInt < w20_0_55.toInt := ti_nle c124
                        have i128 : 0 ≤ v76_3.toInt ∧ v76_3.toInt ≤ 19 := iv_lt_l t127 hv76_3 hw20_0_55 (by decide)
                        have i129 : 1 ≤ w20_0_55.toInt ∧ w20_0_55.toInt ≤ 20 := iv_lt_r t127 hv76_3 hw20_0_55 (by decide)
                        refine lv_aload_n hx hb dX13_score_84 rfl (lv_at hl 2 rfl) ?_
                        refine th_get (ci := 14) (C := RX13) (T := TX13) (N := 97) (v := .ref (ad 32)) hx hb hts hinX13 hown hK hP hI 0 (Nat.le_of_ble_eq_true rfl) rfl rfl 49 (Nat.le_of_ble_eq_true rfl) (hts _ (vA_in _ _ (in_32 _ (zs4 (zs4 (zs1 (zs0))))))) (fun _ h9 => h9) (hI.fr 0 (Nat.le_of_ble_eq_true rfl) rfl (Nat.le_of_ble_eq_true rfl) 32 rfl) dX13_score_85 ?_
                        refine lv_bipush (v := 16) hx hb dX13_score_88 (by decide) ?_
                        refine lv_iload_n hx hb dX13_score_90 rfl (lv_at hl 0 rfl) ?_
                        refine lv_imul hx hb dX13_score_91 ?_
                        refine lv_topi (fun y130 ey130 => ?_)
                        obtain ⟨ty130, iy130⟩ := ti_mul (e := 0) (f := 304) ln_16 i128 ey130 (by decide)
                        have ty130 : y130.toInt = 16 * v76_3.toInt := ty130
                        have iy130 : 0 ≤ y130.toInt ∧ y130.toInt ≤ 304 := iy130
                        refine lv_iload_n hx hb dX13_score_92 rfl (lv_at hl 1 rfl) ?_
                        refine lv_iadd hx hb dX13_score_93 ?_
                        refine lv_topi (fun y131 ey131 => ?_)
                        obtain ⟨ty131, iy131⟩ := ti_add (e := 0) (f := 319) iy130 i119 ey131 (by decide)
                        have ty131 : y131.toInt = y130.toInt + v59_2.toInt := ty131
                        have iy131 : 0 ≤ y131.toInt ∧ y131.toInt ≤ 319 := iy131
                        refine lv_aload_n hx hb dX13_score_94 rfl (lv_at hl 2 rfl) ?_
                        refine lv_iload_n hx hb dX13_score_95 rfl (lv_at hl 0 rfl) ?_
                        refine lv_iload_n hx hb dX13_score_96 rfl (lv_at hl 1 rfl) ?_
                        refine lv_iload_n hx hb dX13_score_97 rfl (lv_at hl 3 rfl) ?_
                        refine th_i (va_runV (As := [.int v76_3, .int v59_2, .int a0]) (rest := [.int y131, .ref (ad 32)]) ⟨hx, hb, hml, hown, hts⟩ (q_pointsOf l dC dI cT ad E76_ H.size v76_3 v59_2 a0 hI i128 i119) (cwV 3 hts (gi_V (in_32 _ (zs16 (zs16 (zs1 (zs1 (zs1 (zs0))))))) (in_32 _ (zs16 (zs16 (zs4 (zs0))))) (in_32 _ (zs16 (zs16 (zs4 (zs1 (zs0)))))) (in_24 _ (zs4 (zs4 (zs4 (zs1 (zs1 (zs1 (zs0)))))))) (in_32 _ (zs16 (zs16 (zs4 (zs1 (zs1 (zs0)))))))) rfl rfl rfl ⟨rfl, hz_yX13_pointsOf_3⟩ ⟨Nat.le_of_ble_eq_true rfl, Nat.le_of_ble_eq_true rfl⟩) ⟨HW_bl, va_recv hK hP (ci := 14) (q0 := 0) rfl (hI.ob 0 (Nat.le_of_ble_eq_true rfl) rfl), (HW_wi hP hK (WX_D hD) hS hA hEV)⟩ rfl rfl hl.1 rfl (lv_room (Nat.le_of_ble_eq_true rfl)) dX13_score_98 ⟨Nat.le_of_ble_eq_true rfl, Nat.le_of_ble_eq_true rfl⟩) (WX_D hD) hS hA (fun r132 E133 H locs hw hP hS => ?_)
                        obtain ⟨hI, kq134, hw⟩ := hw
                        have hKb := hKp
                        have hKp := hKp.tr kq134 (wl_sub rfl rfl)
                        have n135 : vp_in y131 320 := (iv_in (n := 320) iy131 (by decide))
                        refine th_iast hx hb hK hP (WX_D hD) hS hI 32 (Nat.le_of_ble_eq_true rfl) rfl rfl n135 (okI rfl (iv_all _)) dX13_score_101 (fun H locs E136 pw137 hI hP hS => ?_)
                        have hKp := hKp.pw pw137 rfl
                        refine lv_aload_n hx hb dX13_score_102 rfl (lv_at hl 2 rfl) ?_
                        refine th_get (ci := 14) (C := RX13) (T := TX13) (N := 97) (v := .ref (ad 36)) hx hb hts hinX13 hown hK hP hI 0 (Nat.le_of_ble_eq_true rfl) rfl rfl 53 (Nat.le_of_ble_eq_true rfl) (hts _ (vA_in _ _ (in_32 _ (zs4 (zs4 (zs4 (zs1 (zs0)))))))) (fun _ h9 => h9) (hI.fr 0 (Nat.le_of_ble_eq_true rfl) rfl (Nat.le_of_ble_eq_true rfl) 36 rfl) dX13_score_103 ?_
                        refine lv_bipush (v := 16) hx hb dX13_score_106 (by decide) ?_
                        refine lv_iload_n hx hb dX13_score_108 rfl (lv_at hl 0 rfl) ?_
                        refine lv_imul hx hb dX13_score_109 ?_
                        refine lv_topi (fun y138 ey138 => ?_)
                        obtain ⟨ty138, iy138⟩ := ti_mul (e := 0) (f := 304) ln_16 i128 ey138 (by decide)
                        have ty138 : y138.toInt = 16 * v76_3.toInt := ty138
                        have iy138 : 0 ≤ y138.toInt ∧ y138.toInt ≤ 304 := iy138
                        refine lv_iload_n hx hb dX13_score_110 rfl (lv_at hl 1 rfl) ?_
                        refine lv_iadd hx hb dX13_score_111 ?_
                        refine lv_topi (fun y139 ey139 => ?_)
                        obtain ⟨ty139, iy139⟩ := ti_add (e := 0) (f := 319) iy138 i119 ey139 (by decide)
                        have ty139 : y139.toInt = y138.toInt + v59_2.toInt := ty139
                        have iy139 : 0 ≤ y139.toInt ∧ y139.toInt ≤ 319 := iy139
                        refine lv_iconst (v := 0) hx hb dX13_score_112 (by decide) ?_
                        have n140 : vp_in y139 320 := (iv_in (n := 320) iy139 (by decide))
                        refine th_zast hx hb hK hP (WX_D hD) hS hI 36 (Nat.le_of_ble_eq_true rfl) rfl rfl n140 (iv_w ln_0 (by decide)) (okI rfl (iv_w ln_0 (by decide))) dX13_score_113 (fun H locs E141 pw142 hI hP hS => ?_)
                        have hKp := hKp.pw pw142 rfl
                        obtain ⟨g143, eg143⟩ : ∃ z : Nat → Int32, z = upd g76_36 y139.toNatClampNeg (0 : Int32) := ⟨_, rfl⟩
                        have hg143 : xi (E141 36) = g143 := by rw [pw142.eu, ((pw137.ef 36 (Nat.ne_of_beq_eq_false rfl)).trans ((kq134.ef 36 (fun _ => rfl)).trans hr76_36)), eg143]
                        refine lv_aload_n hx hb dX13_score_114 rfl (lv_at hl 2 rfl) ?_
                        refine th_get (ci := 14) (C := RX13) (T := TX13) (N := 97) (v := .ref (ad 37)) hx hb hts hinX13 hown hK hP hI 0 (Nat.le_of_ble_eq_true rfl) rfl rfl 54 (Nat.le_of_ble_eq_true rfl) (hts _ (vA_in _ _ (in_32 _ (zs4 (zs4 (zs4 (zs1 (zs1 (zs0))))))))) (fun _ h9 => h9) (hI.fr 0 (Nat.le_of_ble_eq_true rfl) rfl (Nat.le_of_ble_eq_true rfl) 37 rfl) dX13_score_115 ?_
                        refine lv_iload_n hx hb dX13_score_118 rfl (lv_at hl 1 rfl) ?_
                        refine lv_aload_n hx hb dX13_score_119 rfl (lv_at hl 2 rfl) ?_
                        refine th_get (ci := 14) (C := RX13) (T := TX13) (N := 97) (v := .ref (ad 37)) hx hb hts hinX13 hown hK hP hI 0 (Nat.le_of_ble_eq_true rfl) rfl rfl 54 (Nat.le_of_ble_eq_true rfl) (hts _ (vA_in _ _ (in_32 _ (zs4 (zs4 (zs4 (zs1 (zs1 (zs0))))))))) (fun _ h9 => h9) (hI.fr 0 (Nat.le_of_ble_eq_true rfl) rfl (Nat.le_of_ble_eq_true rfl) 37 rfl) dX13_score_120 ?_
                        refine lv_iload_n hx hb dX13_score_123 rfl (lv_at hl 1 rfl) ?_
                        have n145 : vp_in v59_2 16 := (iv_in (n := 16) i119 (by decide))
                        refine th_zald hx hb hK hP hI 37 (Nat.le_of_ble_eq_true rfl) rfl rfl n145 dX13_score_124 (fun y144 ey144 => ?_)
                        have iy144 : 0 ≤ y144.toInt ∧ y144.toInt ≤ 1 := hI.el 37 (Nat.le_of_ble_eq_true rfl) rfl n145 (fun _ => rfl) ey144
                        refine lv_if_ne (tgt := 138) hx hb dX13_score_125 (by decide) (fun c146 => ?_) (fun c146 => ?_)
                        · --125 taken
                          have t147 : ¬ y144.toInt = 0 := ti_ne c146
                          have i148 : 1 ≤ y144.toInt ∧ y144.toInt ≤ 1 := iv_ne_l t147 iy144 (il_ 0)
                          refine lv_iconst (v := 1) hx hb dX13_score_138 (by decide) ?_
                          refine lv_goto (tgt := 143) hx hb dX13_score_139 (by decide) ?_
                          have n149 : vp_in v59_2 16 := (iv_in (n := 16) i119 (by decide))
                          refine th_zast hx hb hK hP (WX_D hD) hS hI 37 (Nat.le_of_ble_eq_true rfl) rfl rfl n149 (iv_w ln_1 (by decide)) (okI rfl (iv_w ln_1 (by decide))) dX13_score_143 (fun H locs E150 pw151 hI hP hS => ?_)
                          have hKp := hKp.pw pw151 rfl
                          obtain ⟨y152, ey152⟩ : ∃ y : Int32, y = v76_3 + (1 : Int32) := ⟨_, rfl⟩
                          obtain ⟨ty152, iy152⟩ := ti_add (e := 1) (f := 20) i128 ln_1 ey152 (by decide)
                          have ty152 : y152.toInt = v76_3.toInt + 1 := ty152
                          have iy152 : 1 ≤ y152.toInt ∧ y152.toInt ≤ 20 := iy152
                          refine lv_iinc (v := y152) (lv' := [(3, .int y152), (2, .int v59_2), (0, .ref (ad 0)), (1, .int a0)]) hx hb dX13_score_144 hl (k := 0) rfl (by rw [ey152]; rfl) (by decide) rfl (fun ls hl => ?_)
                          refine lv_goto (tgt := 76) hx hb dX13_score_147 (by decide) ?_
                          exact ih76 g143 y152 E150 _ _ _ (iv_w iy152 (by decide)) (fun r' b' h1 h2 => by rw [eg143]; exact upd0 (by by_cases q : (b' : Int) = v59_2.toInt ∧ (r' : Int) = v76_3.toInt; (left; rw [tn_]; omega); (right; exact hx76_0 r' b' (by omega) h2))) (by first | exact ms_su hx76_1 ty152 (by decide) | omega) hI hKp ((pw151.2 0 55 (fun q9 => absurd q9.1 (Nat.ne_of_beq_eq_false rfl))).trans ((pw142.2 0 55 (fun q9 => absurd q9.1 (Nat.ne_of_beq_eq_false rfl))).trans ((pw137.2 0 55 (fun q9 => absurd q9.1 (Nat.ne_of_beq_eq_false rfl))).trans ((kq134 0 55 rfl).trans hs76_0_55)))) ((pw151.2 0 0 (fun q9 => absurd q9.1 (Nat.ne_of_beq_eq_false rfl))).trans ((pw142.2 0 0 (fun q9 => absurd q9.1 (Nat.ne_of_beq_eq_false rfl))).trans ((pw137.2 0 0 (fun q9 => absurd q9.1 (Nat.ne_of_beq_eq_false rfl))).trans ((kq134 0 0 rfl).trans hs76_0_0)))) ((pw151.ef 36 (Nat.ne_of_beq_eq_false rfl)).trans hg143) hP hS (lv_sub hl [0, 1, 2, 3] rfl)
                        · --125 not
                          have t153 : y144.toInt = 0 := ti_eq c146
                          have i154 : 0 ≤ y144.toInt ∧ y144.toInt ≤ 0 := iv_eqi t153 iy144 (il_ 0) (by decide)
                          refine lv_aload_n hx hb dX13_score_128 rfl (lv_at hl 2 rfl) ?_
                          refine lv_iload_n hx hb dX13_score_129 rfl (lv_at hl 0 rfl) ?_
                          refine lv_iload_n hx hb dX13_score_130 rfl (lv_at hl 1 rfl) ?_
                          refine lv_iload_n hx hb dX13_score_131 rfl (lv_at hl 3 rfl) ?_
                          refine th_ri (va_runV (As := [.int v76_3, .int v59_2, .int a0]) (rest := [.int v59_2, .ref (ad 37)]) ⟨hx, hb, hml, hown, hts⟩ (q_isEntered l dC dI cT ad E141 H.size v76_3 v59_2 a0 hI i128 i119) (cwV 3 hts (gi_V (in_24 _ (zs16 (zs16 (zs1 (zs1 (zs1 (zs0))))))) (in_24 _ (zs16 (zs16 (zs4 (zs0))))) (in_24 _ (zs16 (zs16 (zs4 (zs1 (zs0)))))) (in_24 _ (zs4 (zs4 (zs4 (zs1 (zs1 (zs1 (zs0)))))))) (in_24 _ (zs16 (zs16 (zs4 (zs1 (zs1 (zs0)))))))) rfl rfl rfl ⟨rfl, hz_yX13_isEntered_3⟩ ⟨Nat.le_of_ble_eq_true rfl, Nat.le_of_ble_eq_true rfl⟩) ⟨HW_bl, va_recv hK hP (ci := 14) (q0 := 0) rfl (hI.ob 0 (Nat.le_of_ble_eq_true rfl) rfl), (HW_wi hP hK (WX_D hD) hS hA hEV)⟩ rfl rfl hl.1 rfl (lv_room (Nat.le_of_ble_eq_true rfl)) dX13_score_132 ⟨Nat.le_of_ble_eq_true rfl, Nat.le_of_ble_eq_true rfl⟩) hS hP (fun r155 H locs hw hP hS => ?_)
                          rcases hw with hw | hw
                          · -- isEntered, case 0
                            obtain ⟨rfl, f156⟩ := hw
                            try rw [hKp.ef 21 (fun _ => rfl)] at f156
                            refine lv_if_eq (tgt := 142) hx hb dX13_score_135 (by decide) (fun c157 => ?_) (fun c157 => ?_)
                            · --135 taken
                              exact absurd c157 (by decide)
                            · --135 not
                              refine lv_iconst (v := 1) hx hb dX13_score_138 (by decide) ?_
                              refine lv_goto (tgt := 143) hx hb dX13_score_139 (by decide) ?_
                              have n158 : vp_in v59_2 16 := (iv_in (n := 16) i119 (by decide))
                              refine th_zast hx hb hK hP (WX_D hD) hS hI 37 (Nat.le_of_ble_eq_true rfl) rfl rfl n158 (iv_w ln_1 (by decide)) (okI rfl (iv_w ln_1 (by decide))) dX13_score_143 (fun H locs E159 pw160 hI hP hS => ?_)
                              have hKp := hKp.pw pw160 rfl
                              obtain ⟨y161, ey161⟩ : ∃ y : Int32, y = v76_3 + (1 : Int32) := ⟨_, rfl⟩
                              obtain ⟨ty161, iy161⟩ := ti_add (e := 1) (f := 20) i128 ln_1 ey161 (by decide)
                              have ty161 : y161.toInt = v76_3.toInt + 1 := ty161
                              have iy161 : 1 ≤ y161.toInt ∧ y161.toInt ≤ 20 := iy161
                              refine lv_iinc (v := y161) (lv' := [(3, .int y161), (2, .int v59_2), (0, .ref (ad 0)), (1, .int a0)]) hx hb dX13_score_144 hl (k := 0) rfl (by rw [ey161]; rfl) (by decide) rfl (fun ls hl => ?_)
                              refine lv_goto (tgt := 76) hx hb dX13_score_147 (by decide) ?_
                              exact ih76 g143 y161 E159 _ _ _ (iv_w iy161 (by decide)) (fun r' b' h1 h2 => by rw [eg143]; exact upd0 (by by_cases q : (b' : Int) = v59_2.toInt ∧ (r' : Int) = v76_3.toInt; (left; rw [tn_]; omega); (right; exact hx76_0 r' b' (by omega) h2))) (by first | exact ms_su hx76_1 ty161 (by decide) | omega) hI hKp ((pw160.2 0 55 (fun q9 => absurd q9.1 (Nat.ne_of_beq_eq_false rfl))).trans ((pw142.2 0 55 (fun q9 => absurd q9.1 (Nat.ne_of_beq_eq_false rfl))).trans ((pw137.2 0 55 (fun q9 => absurd q9.1 (Nat.ne_of_beq_eq_false rfl))).trans ((kq134 0 55 rfl).trans hs76_0_55)))) ((pw160.2 0 0 (fun q9 => absurd q9.1 (Nat.ne_of_beq_eq_false rfl))).trans ((pw142.2 0 0 (fun q9 => absurd q9.1 (Nat.ne_of_beq_eq_false rfl))).trans ((pw137.2 0 0 (fun q9 => absurd q9.1 (Nat.ne_of_beq_eq_false rfl))).trans ((kq134 0 0 rfl).trans hs76_0_0)))) ((pw160.ef 36 (Nat.ne_of_beq_eq_false rfl)).trans hg143) hP hS (lv_sub hl [0, 1, 2, 3] rfl)
                          · -- isEntered, case 1
                            obtain ⟨rfl, f162⟩ := hw
                            try rw [hKp.ef 21 (fun _ => rfl)] at f162
                            refine lv_if_eq (tgt := 142) hx hb dX13_score_135 (by decide) (fun c163 => ?_) (fun c163 => ?_)
                            · --135 taken
                              refine lv_iconst (v := 0) hx hb dX13_score_142 (by decide) ?_
                              have n164 : vp_in v59_2 16 := (iv_in (n := 16) i119 (by decide))
                              refine th_zast hx hb hK hP (WX_D hD) hS hI 37 (Nat.le_of_ble_eq_true rfl) rfl rfl n164 (iv_w ln_0 (by decide)) (okI rfl (iv_w ln_0 (by decide))) dX13_score_143 (fun H locs E165 pw166 hI hP hS => ?_)
                              have hKp := hKp.pw pw166 rfl
                              obtain ⟨y167, ey167⟩ : ∃ y : Int32, y = v76_3 + (1 : Int32) := ⟨_, rfl⟩
                              obtain ⟨ty167, iy167⟩ := ti_add (e := 1) (f := 20) i128 ln_1 ey167 (by decide)
                              have ty167 : y167.toInt = v76_3.toInt + 1 := ty167
                              have iy167 : 1 ≤ y167.toInt ∧ y167.toInt ≤ 20 := iy167
                              refine lv_iinc (v := y167) (lv' := [(3, .int y167), (2, .int v59_2), (0, .ref (ad 0)), (1, .int a0)]) hx hb dX13_score_144 hl (k := 0) rfl (by rw [ey167]; rfl) (by decide) rfl (fun ls hl => ?_)
                              refine lv_goto (tgt := 76) hx hb dX13_score_147 (by decide) ?_
                              exact ih76 g143 y167 E165 _ _ _ (iv_w iy167 (by decide)) (fun r' b' h1 h2 => by rw [eg143]; exact upd0 (by by_cases q : (b' : Int) = v59_2.toInt ∧ (r' : Int) = v76_3.toInt; (left; rw [tn_]; omega); (right; exact hx76_0 r' b' (by omega) h2))) (by first | exact ms_su hx76_1 ty167 (by decide) | omega) hI hKp ((pw166.2 0 55 (fun q9 => absurd q9.1 (Nat.ne_of_beq_eq_false rfl))).trans ((pw142.2 0 55 (fun q9 => absurd q9.1 (Nat.ne_of_beq_eq_false rfl))).trans ((pw137.2 0 55 (fun q9 => absurd q9.1 (Nat.ne_of_beq_eq_false rfl))).trans ((kq134 0 55 rfl).trans hs76_0_55)))) ((pw166.2 0 0 (fun q9 => absurd q9.1 (Nat.ne_of_beq_eq_false rfl))).trans ((pw142.2 0 0 (fun q9 => absurd q9.1 (Nat.ne_of_beq_eq_false rfl))).trans ((pw137.2 0 0 (fun q9 => absurd q9.1 (Nat.ne_of_beq_eq_false rfl))).trans ((kq134 0 0 rfl).trans hs76_0_0)))) ((pw166.ef 36 (Nat.ne_of_beq_eq_false rfl)).trans hg143) hP hS (lv_sub hl [0, 1, 2, 3] rfl)
                            · --135 not
                              exact absurd c163 (by decide)
                  exact hL76 (21) g59_36 (0 : Int32) E122 _ _ _ (iv_w ln_0 (by decide)) (fun r' b' h1 h2 => hx59_0 r' b' (by have h9 := ln_0; omega) h2) (by have h9 := ln_0; first | exact ms_bu h9.1 (by decide) | omega) hI hKp ((pw123.2 0 55 (fun q9 => absurd q9.1 (Nat.ne_of_beq_eq_false rfl))).trans hs59_0_55) ((pw123.2 0 0 (fun q9 => absurd q9.1 (Nat.ne_of_beq_eq_false rfl))).trans hs59_0_0) ((pw123.ef 36 (Nat.ne_of_beq_eq_false rfl)).trans hr59_36) hP hS (lv_sub hl [0, 1, 2, 3] rfl)
            exact hL59 (17) g13 (0 : Int32) E20_ _ _ _ (iv_w ln_0 (by decide)) (fun r' b' h1 _ => absurd h1 (by have h9 := ln_0; omega)) (by have h9 := ln_0; first | exact ms_bu h9.1 (by decide) | omega) hI hKp hs20_0_55 hs20_0_0 hr20_36 hP hS (lv_sub hl [0, 1, 2] rfl)
          refine lv_icmp_ge (tgt := 57) hx hb dX13_score_28 (by decide) (fun c168 => ?_) (fun c168 => ?_)
          · --28 taken
            have t169 : (xi (E 0) 46).toInt ≤ w20_0_55.toInt := ti_le c168
            exact hJ57 _ _ _ hP hS (lv_sub hl [0, 1] rfl)
          · --28 not
            have t170 : w20_0_55.toInt < (xi (E 0) 46).toInt := ti_nle c168
            have i171 : 0 ≤ w20_0_55.toInt ∧ w20_0_55.toInt ≤ 19 := iv_lt_l t170 hw20_0_55 i14 (by decide)
            have i172 : 1 ≤ (xi (E 0) 46).toInt ∧ (xi (E 0) 46).toInt ≤ 20 := iv_lt_r t170 hw20_0_55 i14 (by decide)
            refine lv_aload_n hx hb dX13_score_31 rfl (lv_at hl 0 rfl) ?_
            refine th_get (ci := 14) (C := RX13) (T := TX13) (N := 97) (v := .ref (ad 20)) hx hb hts hinX13 hown hK hP hI 0 (Nat.le_of_ble_eq_true rfl) rfl rfl 34 (Nat.le_of_ble_eq_true rfl) (hts _ (vA_in _ _ (in_24 _ (zs4 (zs4 (zs1 (zs1 (zs1 (zs0))))))))) (fun _ h9 => h9) (hI.fr 0 (Nat.le_of_ble_eq_true rfl) rfl (Nat.le_of_ble_eq_true rfl) 20 rfl) dX13_score_32 ?_
            refine lv_aload_n hx hb dX13_score_35 rfl (lv_at hl 0 rfl) ?_
            refine th_get (ci := 14) (C := RX13) (T := TX13) (N := 97) (v := .int w20_0_55) hx hb hts hinX13 hown hK hP hI 0 (Nat.le_of_ble_eq_true rfl) rfl rfl 55 (Nat.le_of_ble_eq_true rfl) (hts _ (vA_in _ _ (in_32 _ (zs16 (zs1 (zs1 (zs1 (zs0)))))))) (fun _ h9 => h9) hs20_0_55 dX13_score_36 ?_
            have n174 : vp_in w20_0_55 20 := (iv_in (n := 20) i171 (by decide))
            refine th_iald hx hb hK hP hI 20 (Nat.le_of_ble_eq_true rfl) rfl rfl n174 dX13_score_39 (fun y173 ey173 => ?_)
            have iy173 : 0 ≤ y173.toInt ∧ y173.toInt ≤ 400 := hI.el 20 (Nat.le_of_ble_eq_true rfl) rfl n174 (fun _ => rfl) ey173
            have ey173 := ey173.trans (hKp.ei 20 _ rfl)
            refine lv_iload_n hx hb dX13_score_40 rfl (lv_at hl 1 rfl) ?_
            refine lv_icmp_gt (tgt := 57) hx hb dX13_score_41 (by decide) (fun c175 => ?_) (fun c175 => ?_)
            · --41 taken
              have t176 : a0.toInt < y173.toInt := ti_lt c175
              have i177 : 0 ≤ a0.toInt ∧ a0.toInt ≤ 399 := iv_lt_l t176 i9 iy173 (by decide)
              have i178 : 1 ≤ y173.toInt ∧ y173.toInt ≤ 400 := iv_lt_r t176 i9 iy173 (by decide)
              exact hJ57 _ _ _ hP hS (lv_sub hl [0, 1] rfl)
            · --41 not
              have t179 : y173.toInt ≤ a0.toInt := ti_nlt c175
              refine lv_aload_n hx hb dX13_score_44 rfl (lv_at hl 0 rfl) ?_
              refine lv_dup hx hb dX13_score_45 rfl ?_
              refine th_get (ci := 14) (C := RX13) (T := TX13) (N := 97) (v := .int w20_0_55) hx hb hts hinX13 hown hK hP hI 0 (Nat.le_of_ble_eq_true rfl) rfl rfl 55 (Nat.le_of_ble_eq_true rfl) (hts _ (vA_in _ _ (in_32 _ (zs16 (zs1 (zs1 (zs1 (zs0)))))))) (fun _ h9 => h9) hs20_0_55 dX13_score_46 ?_
              refine lv_iconst (v := 1) hx hb dX13_score_49 (by decide) ?_
              refine lv_iadd hx hb dX13_score_50 ?_
              refine lv_topi (fun y180 ey180 => ?_)
              obtain ⟨ty180, iy180⟩ := ti_add (e := 1) (f := 20) i171 ln_1 ey180 (by decide)
              have ty180 : y180.toInt = w20_0_55.toInt + 1 := ty180
              have iy180 : 1 ≤ y180.toInt ∧ y180.toInt ≤ 20 := iy180
              refine th_put (ci := 14) (C := RX13) (T := TX13) (N := 97) (v := .int y180) (ty := .int) hx hb hts hinX13 tyX13 tyX13_ok nmX13 hown hK hP (WX_D hD) hS hI 0 (Nat.le_of_ble_eq_true rfl) rfl rfl 55 (Nat.le_of_ble_eq_true rfl) (hts _ (vA_in _ _ (in_32 _ (zs16 (zs1 (zs1 (zs1 (zs0)))))))) (fun _ h9 => h9) rfl (by decide +kernel) rfl rfl (okI rfl (iv_w iy180 (by decide))) dX13_score_51 (fun H locs E181 pw182 hI hP hS => ?_)
              have hKp := hKp.pw pw182 rfl
              refine lv_goto (tgt := 20) hx hb dX13_score_54 (by decide) ?_
              exact ih20 y180 E181 _ _ _ (iv_w iy180 (by decide)) (by omega) hI hKp pw182.1 ((pw182.2 0 0 (fun q9 => absurd q9.2 (Nat.ne_of_beq_eq_false rfl))).trans hs20_0_0) ((pw182.ef 36 (Nat.ne_of_beq_eq_false rfl)).trans hr20_36) hP hS (lv_sub hl [0, 1] rfl)
      exact hL20 (21) (0 : Int32) E11 _ _ _ (iv_w ln_0 (by decide)) (by have h9 := ln_0; first | exact ms_bu h9.1 (by decide) | omega) hI hKp pw12.1 ((pw12.2 0 0 (fun q9 => absurd q9.2 (Nat.ne_of_beq_eq_false rfl))).trans pw2.1) hg13 hP hS (lv_sub hl [0, 1] rfl)
    · --10 not
      exact absurd c10 (by decide)
  · -- isKnown, case 1
    obtain ⟨rfl, f183⟩ := hw
    have i184 : 0 ≤ (xi (E 0) 1).toInt ∧ (xi (E 0) 1).toInt ≤ 400 := (show 0 ≤ (xi (E 0) 1).toInt ∧ (xi (E 0) 1).toInt ≤ 400 from hI0.iv 0 (Nat.le_of_ble_eq_true rfl) rfl (Nat.le_of_ble_eq_true rfl) rfl)
    try rw [hKp.ei 0 1 rfl] at f183
    have t185 : ¬ ((0 : Int) ≤ a0.toInt ∧ a0.toInt ≤ (xi (E 0) 1).toInt) := f183
    refine lv_if_ne (tgt := 15) hx hb dX13_score_10 (by decide) (fun c186 => ?_) (fun c186 => ?_)
    · --10 taken
      exact absurd c186 (by decide)
    · --10 not
      refine lv_iconst (v := 0) hx hb dX13_score_13 (by decide) ?_
      rw [hQ]
      exact W.zret (v := 0) hx hb hr rfl (fun t ht hW => ⟨⟨0, E1, rfl, ⟨hI, hKp, Or.inr (rfl)⟩, by show va_P (dC, dI) vwCl (WX 72 ad E1) t.heap; rw [ht]; exact hP⟩, hS.F ht⟩) hS.2.2 dX13_score_14
