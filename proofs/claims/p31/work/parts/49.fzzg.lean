set_option maxRecDepth 100000 in
theorem zh_dX13_suspected_0_0 : zc cX13_suspected 0 [3, 61, 3, 62, 29, 42, 180, 0, 232, 163, 0, 106, 3, 54, 4, 21] = true := by decide +kernel
set_option maxRecDepth 100000 in
theorem zh_dX13_suspected_15_16 : zc cX13_suspected 16 [4, 42, 180, 1, 134, 162, 0, 88, 42, 180, 0, 50, 21, 4, 46, 29] = true := by decide +kernel
set_option maxRecDepth 100000 in
theorem zh_dX13_suspected_32_32 : zc cX13_suspected 32 [160, 0, 13, 42, 21, 4, 27, 182, 2, 16, 167, 0, 6, 19, 1, 175] = true := by decide +kernel
set_option maxRecDepth 100000 in
theorem zh_dX13_suspected_48_48 : zc cX13_suspected 48 [54, 5, 21, 5, 19, 1, 175, 160, 0, 6, 167, 0, 45, 42, 180, 0] = true := by decide +kernel
set_option maxRecDepth 100000 in
theorem zh_dX13_suspected_62_64 : zc cX13_suspected 64 [219, 28, 21, 4, 79, 42, 180, 0, 222, 28, 20, 2, 22, 21, 5, 133] = true := by decide +kernel
set_option maxRecDepth 100000 in
theorem zh_dX13_suspected_80_80 : zc cX13_suspected 80 [105, 4, 42, 21, 4, 27, 42, 180, 0, 232, 182, 1, 172, 184, 1, 129] = true := by decide +kernel
set_option maxRecDepth 100000 in
theorem zh_dX13_suspected_96_96 : zc cX13_suspected 96 [133, 109, 136, 79, 132, 2, 1, 132, 4, 1, 167, 255, 165, 132, 3, 1] = true := by decide +kernel
set_option maxRecDepth 100000 in
theorem zh_dX13_suspected_112_112 : zc cX13_suspected 112 [167, 255, 148, 2, 62, 5, 54, 4, 21, 4, 28, 5, 100, 163, 0, 121] = true := by decide +kernel
set_option maxRecDepth 100000 in
theorem zh_dX13_suspected_128_128 : zc cX13_suspected 128 [9, 55, 5, 9, 55, 7, 3, 54, 9, 21, 9, 28, 162, 0, 45, 21] = true := by decide +kernel
set_option maxRecDepth 100000 in
theorem zh_dX13_suspected_143_144 : zc cX13_suspected 144 [9, 21, 4, 162, 0, 19, 22, 5, 42, 180, 0, 222, 21, 9, 46, 133] = true := by decide +kernel
set_option maxRecDepth 100000 in
theorem zh_dX13_suspected_160_160 : zc cX13_suspected 160 [97, 55, 5, 167, 0, 16, 22, 7, 42, 180, 0, 222, 21, 9, 46, 133] = true := by decide +kernel
set_option maxRecDepth 100000 in
theorem zh_dX13_suspected_176_176 : zc cX13_suspected 176 [97, 55, 7, 132, 9, 1, 167, 255, 211, 22, 7, 28, 21, 4, 100, 133] = true := by decide +kernel
set_option maxRecDepth 100000 in
theorem zh_dX13_suspected_192_192 : zc cX13_suspected 192 [109, 22, 5, 21, 4, 133, 109, 101, 136, 54, 9, 29, 2, 159, 0, 21] = true := by decide +kernel
set_option maxRecDepth 100000 in
theorem zh_dX13_suspected_208_208 : zc cX13_suspected 208 [21, 9, 184, 1, 218, 42, 180, 2, 24, 184, 1, 218, 163, 0, 6, 167] = true := by decide +kernel
set_option maxRecDepth 100000 in
theorem zh_dX13_suspected_223_224 : zc cX13_suspected 224 [0, 17, 42, 180, 0, 219, 21, 4, 46, 62, 42, 21, 9, 181, 2, 24] = true := by decide +kernel
set_option maxRecDepth 100000 in
theorem zh_dX13_suspected_240_240 : zc cX13_suspected 240 [132, 4, 1, 167, 255, 133, 29, 172] = true := by decide +kernel
set_option maxRecDepth 100000 in
theorem zh_dX13_suspect_0_0 : zc cX13_suspect 0 [42, 3, 181, 0, 228, 42, 27, 182, 0, 245, 153, 0, 12, 28, 3, 4] = true := by decide +kernel
set_option maxRecDepth 100000 in
theorem zh_dX13_suspect_16_16 : zc cX13_suspect 16 [184, 0, 235, 154, 0, 7, 19, 1, 175, 172, 42, 27, 182, 2, 27, 62] = true := by decide +kernel
set_option maxRecDepth 100000 in
theorem zh_dX13_suspect_32_32 : zc cX13_suspect 32 [29, 2, 160, 0, 9, 19, 1, 175, 167, 0, 15, 28, 154, 0, 7, 29] = true := by decide +kernel
set_option maxRecDepth 100000 in
theorem zh_dX13_suspect_48_48 : zc cX13_suspect 48 [167, 0, 7, 42, 180, 2, 24, 172] = true := by decide +kernel
theorem dX13_suspected_0 : decode cX13_suspected 0 = .ok (.iconst 0, 1) := zo_3 (zi_at zh_dX13_suspected_0_0 0 rfl)
theorem dX13_suspected_1 : decode cX13_suspected 1 = .ok (.istore_n 2, 1) := zo_61 (zi_at zh_dX13_suspected_0_0 1 rfl)
theorem dX13_suspected_2 : decode cX13_suspected 2 = .ok (.iconst 0, 1) := zo_3 (zi_at zh_dX13_suspected_0_0 2 rfl)
theorem dX13_suspected_3 : decode cX13_suspected 3 = .ok (.istore_n 3, 1) := zo_62 (zi_at zh_dX13_suspected_0_0 3 rfl)
theorem dX13_suspected_4 : decode cX13_suspected 4 = .ok (.iload_n 3, 1) := zo_29 (zi_at zh_dX13_suspected_0_0 4 rfl)
theorem dX13_suspected_5 : decode cX13_suspected 5 = .ok (.aload_n 0, 1) := zo_42 (zi_at zh_dX13_suspected_0_0 5 rfl)
theorem dX13_suspected_6 : decode cX13_suspected 6 = .ok (.getfield 232, 3) := zo_180 (zi_at zh_dX13_suspected_0_0 6 rfl) (zi_at zh_dX13_suspected_0_0 7 rfl) (zi_at zh_dX13_suspected_0_0 8 rfl) rfl
theorem dX13_suspected_9 : decode cX13_suspected 9 = .ok (.if_icmp .gt 106, 3) := zo_163 (zi_at zh_dX13_suspected_0_0 9 rfl) (zi_at zh_dX13_suspected_0_0 10 rfl) (zi_at zh_dX13_suspected_0_0 11 rfl) rfl
theorem dX13_suspected_12 : decode cX13_suspected 12 = .ok (.iconst 0, 1) := zo_3 (zi_at zh_dX13_suspected_0_0 12 rfl)
theorem dX13_suspected_13 : decode cX13_suspected 13 = .ok (.istore 4, 2) := zo_54 (zi_at zh_dX13_suspected_0_0 13 rfl) (zi_at zh_dX13_suspected_0_0 14 rfl)
theorem dX13_suspected_15 : decode cX13_suspected 15 = .ok (.iload 4, 2) := zo_21 (zi_at zh_dX13_suspected_0_0 15 rfl) (zi_at zh_dX13_suspected_15_16 0 rfl)
theorem dX13_suspected_17 : decode cX13_suspected 17 = .ok (.aload_n 0, 1) := zo_42 (zi_at zh_dX13_suspected_15_16 1 rfl)
theorem dX13_suspected_18 : decode cX13_suspected 18 = .ok (.getfield 390, 3) := zo_180 (zi_at zh_dX13_suspected_15_16 2 rfl) (zi_at zh_dX13_suspected_15_16 3 rfl) (zi_at zh_dX13_suspected_15_16 4 rfl) rfl
theorem dX13_suspected_21 : decode cX13_suspected 21 = .ok (.if_icmp .ge 88, 3) := zo_162 (zi_at zh_dX13_suspected_15_16 5 rfl) (zi_at zh_dX13_suspected_15_16 6 rfl) (zi_at zh_dX13_suspected_15_16 7 rfl) rfl
theorem dX13_suspected_24 : decode cX13_suspected 24 = .ok (.aload_n 0, 1) := zo_42 (zi_at zh_dX13_suspected_15_16 8 rfl)
theorem dX13_suspected_25 : decode cX13_suspected 25 = .ok (.getfield 50, 3) := zo_180 (zi_at zh_dX13_suspected_15_16 9 rfl) (zi_at zh_dX13_suspected_15_16 10 rfl) (zi_at zh_dX13_suspected_15_16 11 rfl) rfl
theorem dX13_suspected_28 : decode cX13_suspected 28 = .ok (.iload 4, 2) := zo_21 (zi_at zh_dX13_suspected_15_16 12 rfl) (zi_at zh_dX13_suspected_15_16 13 rfl)
theorem dX13_suspected_30 : decode cX13_suspected 30 = .ok (.iaload, 1) := zo_46 (zi_at zh_dX13_suspected_15_16 14 rfl)
theorem dX13_suspected_31 : decode cX13_suspected 31 = .ok (.iload_n 3, 1) := zo_29 (zi_at zh_dX13_suspected_15_16 15 rfl)
theorem dX13_suspected_32 : decode cX13_suspected 32 = .ok (.if_icmp .ne 13, 3) := zo_160 (zi_at zh_dX13_suspected_32_32 0 rfl) (zi_at zh_dX13_suspected_32_32 1 rfl) (zi_at zh_dX13_suspected_32_32 2 rfl) rfl
theorem dX13_suspected_35 : decode cX13_suspected 35 = .ok (.aload_n 0, 1) := zo_42 (zi_at zh_dX13_suspected_32_32 3 rfl)
theorem dX13_suspected_36 : decode cX13_suspected 36 = .ok (.iload 4, 2) := zo_21 (zi_at zh_dX13_suspected_32_32 4 rfl) (zi_at zh_dX13_suspected_32_32 5 rfl)
theorem dX13_suspected_38 : decode cX13_suspected 38 = .ok (.iload_n 1, 1) := zo_27 (zi_at zh_dX13_suspected_32_32 6 rfl)
theorem dX13_suspected_39 : decode cX13_suspected 39 = .ok (.invokevirtual 528, 3) := zo_182 (zi_at zh_dX13_suspected_32_32 7 rfl) (zi_at zh_dX13_suspected_32_32 8 rfl) (zi_at zh_dX13_suspected_32_32 9 rfl) rfl
theorem dX13_suspected_42 : decode cX13_suspected 42 = .ok (.goto 6, 3) := zo_167 (zi_at zh_dX13_suspected_32_32 10 rfl) (zi_at zh_dX13_suspected_32_32 11 rfl) (zi_at zh_dX13_suspected_32_32 12 rfl) rfl
theorem dX13_suspected_45 : decode cX13_suspected 45 = .ok (.ldc_w 431, 3) := zo_19 (zi_at zh_dX13_suspected_32_32 13 rfl) (zi_at zh_dX13_suspected_32_32 14 rfl) (zi_at zh_dX13_suspected_32_32 15 rfl) rfl
theorem dX13_suspected_48 : decode cX13_suspected 48 = .ok (.istore 5, 2) := zo_54 (zi_at zh_dX13_suspected_48_48 0 rfl) (zi_at zh_dX13_suspected_48_48 1 rfl)
theorem dX13_suspected_50 : decode cX13_suspected 50 = .ok (.iload 5, 2) := zo_21 (zi_at zh_dX13_suspected_48_48 2 rfl) (zi_at zh_dX13_suspected_48_48 3 rfl)
theorem dX13_suspected_52 : decode cX13_suspected 52 = .ok (.ldc_w 431, 3) := zo_19 (zi_at zh_dX13_suspected_48_48 4 rfl) (zi_at zh_dX13_suspected_48_48 5 rfl) (zi_at zh_dX13_suspected_48_48 6 rfl) rfl
theorem dX13_suspected_55 : decode cX13_suspected 55 = .ok (.if_icmp .ne 6, 3) := zo_160 (zi_at zh_dX13_suspected_48_48 7 rfl) (zi_at zh_dX13_suspected_48_48 8 rfl) (zi_at zh_dX13_suspected_48_48 9 rfl) rfl
theorem dX13_suspected_58 : decode cX13_suspected 58 = .ok (.goto 45, 3) := zo_167 (zi_at zh_dX13_suspected_48_48 10 rfl) (zi_at zh_dX13_suspected_48_48 11 rfl) (zi_at zh_dX13_suspected_48_48 12 rfl) rfl
theorem dX13_suspected_61 : decode cX13_suspected 61 = .ok (.aload_n 0, 1) := zo_42 (zi_at zh_dX13_suspected_48_48 13 rfl)
theorem dX13_suspected_62 : decode cX13_suspected 62 = .ok (.getfield 219, 3) := zo_180 (zi_at zh_dX13_suspected_48_48 14 rfl) (zi_at zh_dX13_suspected_48_48 15 rfl) (zi_at zh_dX13_suspected_62_64 0 rfl) rfl
theorem dX13_suspected_65 : decode cX13_suspected 65 = .ok (.iload_n 2, 1) := zo_28 (zi_at zh_dX13_suspected_62_64 1 rfl)
theorem dX13_suspected_66 : decode cX13_suspected 66 = .ok (.iload 4, 2) := zo_21 (zi_at zh_dX13_suspected_62_64 2 rfl) (zi_at zh_dX13_suspected_62_64 3 rfl)
theorem dX13_suspected_68 : decode cX13_suspected 68 = .ok (.iastore, 1) := zo_79 (zi_at zh_dX13_suspected_62_64 4 rfl)
theorem dX13_suspected_69 : decode cX13_suspected 69 = .ok (.aload_n 0, 1) := zo_42 (zi_at zh_dX13_suspected_62_64 5 rfl)
theorem dX13_suspected_70 : decode cX13_suspected 70 = .ok (.getfield 222, 3) := zo_180 (zi_at zh_dX13_suspected_62_64 6 rfl) (zi_at zh_dX13_suspected_62_64 7 rfl) (zi_at zh_dX13_suspected_62_64 8 rfl) rfl
theorem dX13_suspected_73 : decode cX13_suspected 73 = .ok (.iload_n 2, 1) := zo_28 (zi_at zh_dX13_suspected_62_64 9 rfl)
theorem dX13_suspected_74 : decode cX13_suspected 74 = .ok (.ldc2_w 534, 3) := zo_20 (zi_at zh_dX13_suspected_62_64 10 rfl) (zi_at zh_dX13_suspected_62_64 11 rfl) (zi_at zh_dX13_suspected_62_64 12 rfl) rfl
theorem dX13_suspected_77 : decode cX13_suspected 77 = .ok (.iload 5, 2) := zo_21 (zi_at zh_dX13_suspected_62_64 13 rfl) (zi_at zh_dX13_suspected_62_64 14 rfl)
theorem dX13_suspected_79 : decode cX13_suspected 79 = .ok (.i2l, 1) := zo_133 (zi_at zh_dX13_suspected_62_64 15 rfl)
theorem dX13_suspected_80 : decode cX13_suspected 80 = .ok (.lmul, 1) := zo_105 (zi_at zh_dX13_suspected_80_80 0 rfl)
theorem dX13_suspected_81 : decode cX13_suspected 81 = .ok (.iconst 1, 1) := zo_4 (zi_at zh_dX13_suspected_80_80 1 rfl)
theorem dX13_suspected_82 : decode cX13_suspected 82 = .ok (.aload_n 0, 1) := zo_42 (zi_at zh_dX13_suspected_80_80 2 rfl)
theorem dX13_suspected_83 : decode cX13_suspected 83 = .ok (.iload 4, 2) := zo_21 (zi_at zh_dX13_suspected_80_80 3 rfl) (zi_at zh_dX13_suspected_80_80 4 rfl)
theorem dX13_suspected_85 : decode cX13_suspected 85 = .ok (.iload_n 1, 1) := zo_27 (zi_at zh_dX13_suspected_80_80 5 rfl)
theorem dX13_suspected_86 : decode cX13_suspected 86 = .ok (.aload_n 0, 1) := zo_42 (zi_at zh_dX13_suspected_80_80 6 rfl)
theorem dX13_suspected_87 : decode cX13_suspected 87 = .ok (.getfield 232, 3) := zo_180 (zi_at zh_dX13_suspected_80_80 7 rfl) (zi_at zh_dX13_suspected_80_80 8 rfl) (zi_at zh_dX13_suspected_80_80 9 rfl) rfl
theorem dX13_suspected_90 : decode cX13_suspected 90 = .ok (.invokevirtual 428, 3) := zo_182 (zi_at zh_dX13_suspected_80_80 10 rfl) (zi_at zh_dX13_suspected_80_80 11 rfl) (zi_at zh_dX13_suspected_80_80 12 rfl) rfl
theorem dX13_suspected_93 : decode cX13_suspected 93 = .ok (.invokestatic 385, 3) := zo_184 (zi_at zh_dX13_suspected_80_80 13 rfl) (zi_at zh_dX13_suspected_80_80 14 rfl) (zi_at zh_dX13_suspected_80_80 15 rfl) rfl
theorem dX13_suspected_96 : decode cX13_suspected 96 = .ok (.i2l, 1) := zo_133 (zi_at zh_dX13_suspected_96_96 0 rfl)
theorem dX13_suspected_97 : decode cX13_suspected 97 = .ok (.ldiv, 1) := zo_109 (zi_at zh_dX13_suspected_96_96 1 rfl)
theorem dX13_suspected_98 : decode cX13_suspected 98 = .ok (.l2i, 1) := zo_136 (zi_at zh_dX13_suspected_96_96 2 rfl)
theorem dX13_suspected_99 : decode cX13_suspected 99 = .ok (.iastore, 1) := zo_79 (zi_at zh_dX13_suspected_96_96 3 rfl)
theorem dX13_suspected_100 : decode cX13_suspected 100 = .ok (.iinc 2 1, 3) := zo_132 (zi_at zh_dX13_suspected_96_96 4 rfl) (zi_at zh_dX13_suspected_96_96 5 rfl) (zi_at zh_dX13_suspected_96_96 6 rfl) rfl
theorem dX13_suspected_103 : decode cX13_suspected 103 = .ok (.iinc 4 1, 3) := zo_132 (zi_at zh_dX13_suspected_96_96 7 rfl) (zi_at zh_dX13_suspected_96_96 8 rfl) (zi_at zh_dX13_suspected_96_96 9 rfl) rfl
theorem dX13_suspected_106 : decode cX13_suspected 106 = .ok (.goto (-91), 3) := zo_167 (zi_at zh_dX13_suspected_96_96 10 rfl) (zi_at zh_dX13_suspected_96_96 11 rfl) (zi_at zh_dX13_suspected_96_96 12 rfl) rfl
theorem dX13_suspected_109 : decode cX13_suspected 109 = .ok (.iinc 3 1, 3) := zo_132 (zi_at zh_dX13_suspected_96_96 13 rfl) (zi_at zh_dX13_suspected_96_96 14 rfl) (zi_at zh_dX13_suspected_96_96 15 rfl) rfl
theorem dX13_suspected_112 : decode cX13_suspected 112 = .ok (.goto (-108), 3) := zo_167 (zi_at zh_dX13_suspected_112_112 0 rfl) (zi_at zh_dX13_suspected_112_112 1 rfl) (zi_at zh_dX13_suspected_112_112 2 rfl) rfl
theorem dX13_suspected_115 : decode cX13_suspected 115 = .ok (.iconst (-1), 1) := zo_2 (zi_at zh_dX13_suspected_112_112 3 rfl)
theorem dX13_suspected_116 : decode cX13_suspected 116 = .ok (.istore_n 3, 1) := zo_62 (zi_at zh_dX13_suspected_112_112 4 rfl)
theorem dX13_suspected_117 : decode cX13_suspected 117 = .ok (.iconst 2, 1) := zo_5 (zi_at zh_dX13_suspected_112_112 5 rfl)
theorem dX13_suspected_118 : decode cX13_suspected 118 = .ok (.istore 4, 2) := zo_54 (zi_at zh_dX13_suspected_112_112 6 rfl) (zi_at zh_dX13_suspected_112_112 7 rfl)
theorem dX13_suspected_120 : decode cX13_suspected 120 = .ok (.iload 4, 2) := zo_21 (zi_at zh_dX13_suspected_112_112 8 rfl) (zi_at zh_dX13_suspected_112_112 9 rfl)
theorem dX13_suspected_122 : decode cX13_suspected 122 = .ok (.iload_n 2, 1) := zo_28 (zi_at zh_dX13_suspected_112_112 10 rfl)
theorem dX13_suspected_123 : decode cX13_suspected 123 = .ok (.iconst 2, 1) := zo_5 (zi_at zh_dX13_suspected_112_112 11 rfl)
theorem dX13_suspected_124 : decode cX13_suspected 124 = .ok (.isub, 1) := zo_100 (zi_at zh_dX13_suspected_112_112 12 rfl)
theorem dX13_suspected_125 : decode cX13_suspected 125 = .ok (.if_icmp .gt 121, 3) := zo_163 (zi_at zh_dX13_suspected_112_112 13 rfl) (zi_at zh_dX13_suspected_112_112 14 rfl) (zi_at zh_dX13_suspected_112_112 15 rfl) rfl
theorem dX13_suspected_128 : decode cX13_suspected 128 = .ok (.lconst 0, 1) := zo_9 (zi_at zh_dX13_suspected_128_128 0 rfl)
theorem dX13_suspected_129 : decode cX13_suspected 129 = .ok (.lstore 5, 2) := zo_55 (zi_at zh_dX13_suspected_128_128 1 rfl) (zi_at zh_dX13_suspected_128_128 2 rfl)
theorem dX13_suspected_131 : decode cX13_suspected 131 = .ok (.lconst 0, 1) := zo_9 (zi_at zh_dX13_suspected_128_128 3 rfl)
theorem dX13_suspected_132 : decode cX13_suspected 132 = .ok (.lstore 7, 2) := zo_55 (zi_at zh_dX13_suspected_128_128 4 rfl) (zi_at zh_dX13_suspected_128_128 5 rfl)
theorem dX13_suspected_134 : decode cX13_suspected 134 = .ok (.iconst 0, 1) := zo_3 (zi_at zh_dX13_suspected_128_128 6 rfl)
theorem dX13_suspected_135 : decode cX13_suspected 135 = .ok (.istore 9, 2) := zo_54 (zi_at zh_dX13_suspected_128_128 7 rfl) (zi_at zh_dX13_suspected_128_128 8 rfl)
theorem dX13_suspected_137 : decode cX13_suspected 137 = .ok (.iload 9, 2) := zo_21 (zi_at zh_dX13_suspected_128_128 9 rfl) (zi_at zh_dX13_suspected_128_128 10 rfl)
theorem dX13_suspected_139 : decode cX13_suspected 139 = .ok (.iload_n 2, 1) := zo_28 (zi_at zh_dX13_suspected_128_128 11 rfl)
theorem dX13_suspected_140 : decode cX13_suspected 140 = .ok (.if_icmp .ge 45, 3) := zo_162 (zi_at zh_dX13_suspected_128_128 12 rfl) (zi_at zh_dX13_suspected_128_128 13 rfl) (zi_at zh_dX13_suspected_128_128 14 rfl) rfl
theorem dX13_suspected_143 : decode cX13_suspected 143 = .ok (.iload 9, 2) := zo_21 (zi_at zh_dX13_suspected_128_128 15 rfl) (zi_at zh_dX13_suspected_143_144 0 rfl)
theorem dX13_suspected_145 : decode cX13_suspected 145 = .ok (.iload 4, 2) := zo_21 (zi_at zh_dX13_suspected_143_144 1 rfl) (zi_at zh_dX13_suspected_143_144 2 rfl)
theorem dX13_suspected_147 : decode cX13_suspected 147 = .ok (.if_icmp .ge 19, 3) := zo_162 (zi_at zh_dX13_suspected_143_144 3 rfl) (zi_at zh_dX13_suspected_143_144 4 rfl) (zi_at zh_dX13_suspected_143_144 5 rfl) rfl
theorem dX13_suspected_150 : decode cX13_suspected 150 = .ok (.lload 5, 2) := zo_22 (zi_at zh_dX13_suspected_143_144 6 rfl) (zi_at zh_dX13_suspected_143_144 7 rfl)
theorem dX13_suspected_152 : decode cX13_suspected 152 = .ok (.aload_n 0, 1) := zo_42 (zi_at zh_dX13_suspected_143_144 8 rfl)
theorem dX13_suspected_153 : decode cX13_suspected 153 = .ok (.getfield 222, 3) := zo_180 (zi_at zh_dX13_suspected_143_144 9 rfl) (zi_at zh_dX13_suspected_143_144 10 rfl) (zi_at zh_dX13_suspected_143_144 11 rfl) rfl
theorem dX13_suspected_156 : decode cX13_suspected 156 = .ok (.iload 9, 2) := zo_21 (zi_at zh_dX13_suspected_143_144 12 rfl) (zi_at zh_dX13_suspected_143_144 13 rfl)
theorem dX13_suspected_158 : decode cX13_suspected 158 = .ok (.iaload, 1) := zo_46 (zi_at zh_dX13_suspected_143_144 14 rfl)
theorem dX13_suspected_159 : decode cX13_suspected 159 = .ok (.i2l, 1) := zo_133 (zi_at zh_dX13_suspected_143_144 15 rfl)
theorem dX13_suspected_160 : decode cX13_suspected 160 = .ok (.ladd, 1) := zo_97 (zi_at zh_dX13_suspected_160_160 0 rfl)
theorem dX13_suspected_161 : decode cX13_suspected 161 = .ok (.lstore 5, 2) := zo_55 (zi_at zh_dX13_suspected_160_160 1 rfl) (zi_at zh_dX13_suspected_160_160 2 rfl)
theorem dX13_suspected_163 : decode cX13_suspected 163 = .ok (.goto 16, 3) := zo_167 (zi_at zh_dX13_suspected_160_160 3 rfl) (zi_at zh_dX13_suspected_160_160 4 rfl) (zi_at zh_dX13_suspected_160_160 5 rfl) rfl
theorem dX13_suspected_166 : decode cX13_suspected 166 = .ok (.lload 7, 2) := zo_22 (zi_at zh_dX13_suspected_160_160 6 rfl) (zi_at zh_dX13_suspected_160_160 7 rfl)
theorem dX13_suspected_168 : decode cX13_suspected 168 = .ok (.aload_n 0, 1) := zo_42 (zi_at zh_dX13_suspected_160_160 8 rfl)
theorem dX13_suspected_169 : decode cX13_suspected 169 = .ok (.getfield 222, 3) := zo_180 (zi_at zh_dX13_suspected_160_160 9 rfl) (zi_at zh_dX13_suspected_160_160 10 rfl) (zi_at zh_dX13_suspected_160_160 11 rfl) rfl
theorem dX13_suspected_172 : decode cX13_suspected 172 = .ok (.iload 9, 2) := zo_21 (zi_at zh_dX13_suspected_160_160 12 rfl) (zi_at zh_dX13_suspected_160_160 13 rfl)
theorem dX13_suspected_174 : decode cX13_suspected 174 = .ok (.iaload, 1) := zo_46 (zi_at zh_dX13_suspected_160_160 14 rfl)
theorem dX13_suspected_175 : decode cX13_suspected 175 = .ok (.i2l, 1) := zo_133 (zi_at zh_dX13_suspected_160_160 15 rfl)
theorem dX13_suspected_176 : decode cX13_suspected 176 = .ok (.ladd, 1) := zo_97 (zi_at zh_dX13_suspected_176_176 0 rfl)
theorem dX13_suspected_177 : decode cX13_suspected 177 = .ok (.lstore 7, 2) := zo_55 (zi_at zh_dX13_suspected_176_176 1 rfl) (zi_at zh_dX13_suspected_176_176 2 rfl)
theorem dX13_suspected_179 : decode cX13_suspected 179 = .ok (.iinc 9 1, 3) := zo_132 (zi_at zh_dX13_suspected_176_176 3 rfl) (zi_at zh_dX13_suspected_176_176 4 rfl) (zi_at zh_dX13_suspected_176_176 5 rfl) rfl
theorem dX13_suspected_182 : decode cX13_suspected 182 = .ok (.goto (-45), 3) := zo_167 (zi_at zh_dX13_suspected_176_176 6 rfl) (zi_at zh_dX13_suspected_176_176 7 rfl) (zi_at zh_dX13_suspected_176_176 8 rfl) rfl
theorem dX13_suspected_185 : decode cX13_suspected 185 = .ok (.lload 7, 2) := zo_22 (zi_at zh_dX13_suspected_176_176 9 rfl) (zi_at zh_dX13_suspected_176_176 10 rfl)
theorem dX13_suspected_187 : decode cX13_suspected 187 = .ok (.iload_n 2, 1) := zo_28 (zi_at zh_dX13_suspected_176_176 11 rfl)
theorem dX13_suspected_188 : decode cX13_suspected 188 = .ok (.iload 4, 2) := zo_21 (zi_at zh_dX13_suspected_176_176 12 rfl) (zi_at zh_dX13_suspected_176_176 13 rfl)
theorem dX13_suspected_190 : decode cX13_suspected 190 = .ok (.isub, 1) := zo_100 (zi_at zh_dX13_suspected_176_176 14 rfl)
theorem dX13_suspected_191 : decode cX13_suspected 191 = .ok (.i2l, 1) := zo_133 (zi_at zh_dX13_suspected_176_176 15 rfl)
theorem dX13_suspected_192 : decode cX13_suspected 192 = .ok (.ldiv, 1) := zo_109 (zi_at zh_dX13_suspected_192_192 0 rfl)
theorem dX13_suspected_193 : decode cX13_suspected 193 = .ok (.lload 5, 2) := zo_22 (zi_at zh_dX13_suspected_192_192 1 rfl) (zi_at zh_dX13_suspected_192_192 2 rfl)
theorem dX13_suspected_195 : decode cX13_suspected 195 = .ok (.iload 4, 2) := zo_21 (zi_at zh_dX13_suspected_192_192 3 rfl) (zi_at zh_dX13_suspected_192_192 4 rfl)
theorem dX13_suspected_197 : decode cX13_suspected 197 = .ok (.i2l, 1) := zo_133 (zi_at zh_dX13_suspected_192_192 5 rfl)
theorem dX13_suspected_198 : decode cX13_suspected 198 = .ok (.ldiv, 1) := zo_109 (zi_at zh_dX13_suspected_192_192 6 rfl)
theorem dX13_suspected_199 : decode cX13_suspected 199 = .ok (.lsub, 1) := zo_101 (zi_at zh_dX13_suspected_192_192 7 rfl)
theorem dX13_suspected_200 : decode cX13_suspected 200 = .ok (.l2i, 1) := zo_136 (zi_at zh_dX13_suspected_192_192 8 rfl)
theorem dX13_suspected_201 : decode cX13_suspected 201 = .ok (.istore 9, 2) := zo_54 (zi_at zh_dX13_suspected_192_192 9 rfl) (zi_at zh_dX13_suspected_192_192 10 rfl)
theorem dX13_suspected_203 : decode cX13_suspected 203 = .ok (.iload_n 3, 1) := zo_29 (zi_at zh_dX13_suspected_192_192 11 rfl)
theorem dX13_suspected_204 : decode cX13_suspected 204 = .ok (.iconst (-1), 1) := zo_2 (zi_at zh_dX13_suspected_192_192 12 rfl)
theorem dX13_suspected_205 : decode cX13_suspected 205 = .ok (.if_icmp .eq 21, 3) := zo_159 (zi_at zh_dX13_suspected_192_192 13 rfl) (zi_at zh_dX13_suspected_192_192 14 rfl) (zi_at zh_dX13_suspected_192_192 15 rfl) rfl
theorem dX13_suspected_208 : decode cX13_suspected 208 = .ok (.iload 9, 2) := zo_21 (zi_at zh_dX13_suspected_208_208 0 rfl) (zi_at zh_dX13_suspected_208_208 1 rfl)
theorem dX13_suspected_210 : decode cX13_suspected 210 = .ok (.invokestatic 474, 3) := zo_184 (zi_at zh_dX13_suspected_208_208 2 rfl) (zi_at zh_dX13_suspected_208_208 3 rfl) (zi_at zh_dX13_suspected_208_208 4 rfl) rfl
theorem dX13_suspected_213 : decode cX13_suspected 213 = .ok (.aload_n 0, 1) := zo_42 (zi_at zh_dX13_suspected_208_208 5 rfl)
theorem dX13_suspected_214 : decode cX13_suspected 214 = .ok (.getfield 536, 3) := zo_180 (zi_at zh_dX13_suspected_208_208 6 rfl) (zi_at zh_dX13_suspected_208_208 7 rfl) (zi_at zh_dX13_suspected_208_208 8 rfl) rfl
theorem dX13_suspected_217 : decode cX13_suspected 217 = .ok (.invokestatic 474, 3) := zo_184 (zi_at zh_dX13_suspected_208_208 9 rfl) (zi_at zh_dX13_suspected_208_208 10 rfl) (zi_at zh_dX13_suspected_208_208 11 rfl) rfl
theorem dX13_suspected_220 : decode cX13_suspected 220 = .ok (.if_icmp .gt 6, 3) := zo_163 (zi_at zh_dX13_suspected_208_208 12 rfl) (zi_at zh_dX13_suspected_208_208 13 rfl) (zi_at zh_dX13_suspected_208_208 14 rfl) rfl
theorem dX13_suspected_223 : decode cX13_suspected 223 = .ok (.goto 17, 3) := zo_167 (zi_at zh_dX13_suspected_208_208 15 rfl) (zi_at zh_dX13_suspected_223_224 0 rfl) (zi_at zh_dX13_suspected_223_224 1 rfl) rfl
theorem dX13_suspected_226 : decode cX13_suspected 226 = .ok (.aload_n 0, 1) := zo_42 (zi_at zh_dX13_suspected_223_224 2 rfl)
theorem dX13_suspected_227 : decode cX13_suspected 227 = .ok (.getfield 219, 3) := zo_180 (zi_at zh_dX13_suspected_223_224 3 rfl) (zi_at zh_dX13_suspected_223_224 4 rfl) (zi_at zh_dX13_suspected_223_224 5 rfl) rfl
theorem dX13_suspected_230 : decode cX13_suspected 230 = .ok (.iload 4, 2) := zo_21 (zi_at zh_dX13_suspected_223_224 6 rfl) (zi_at zh_dX13_suspected_223_224 7 rfl)
theorem dX13_suspected_232 : decode cX13_suspected 232 = .ok (.iaload, 1) := zo_46 (zi_at zh_dX13_suspected_223_224 8 rfl)
theorem dX13_suspected_233 : decode cX13_suspected 233 = .ok (.istore_n 3, 1) := zo_62 (zi_at zh_dX13_suspected_223_224 9 rfl)
theorem dX13_suspected_234 : decode cX13_suspected 234 = .ok (.aload_n 0, 1) := zo_42 (zi_at zh_dX13_suspected_223_224 10 rfl)
theorem dX13_suspected_235 : decode cX13_suspected 235 = .ok (.iload 9, 2) := zo_21 (zi_at zh_dX13_suspected_223_224 11 rfl) (zi_at zh_dX13_suspected_223_224 12 rfl)
theorem dX13_suspected_237 : decode cX13_suspected 237 = .ok (.putfield 536, 3) := zo_181 (zi_at zh_dX13_suspected_223_224 13 rfl) (zi_at zh_dX13_suspected_223_224 14 rfl) (zi_at zh_dX13_suspected_223_224 15 rfl) rfl
theorem dX13_suspected_240 : decode cX13_suspected 240 = .ok (.iinc 4 1, 3) := zo_132 (zi_at zh_dX13_suspected_240_240 0 rfl) (zi_at zh_dX13_suspected_240_240 1 rfl) (zi_at zh_dX13_suspected_240_240 2 rfl) rfl
theorem dX13_suspected_243 : decode cX13_suspected 243 = .ok (.goto (-123), 3) := zo_167 (zi_at zh_dX13_suspected_240_240 3 rfl) (zi_at zh_dX13_suspected_240_240 4 rfl) (zi_at zh_dX13_suspected_240_240 5 rfl) rfl
theorem dX13_suspected_246 : decode cX13_suspected 246 = .ok (.iload_n 3, 1) := zo_29 (zi_at zh_dX13_suspected_240_240 6 rfl)
theorem dX13_suspected_247 : decode cX13_suspected 247 = .ok (.ireturn, 1) := zo_172 (zi_at zh_dX13_suspected_240_240 7 rfl)
theorem dX13_suspect_0 : decode cX13_suspect 0 = .ok (.aload_n 0, 1) := zo_42 (zi_at zh_dX13_suspect_0_0 0 rfl)
theorem dX13_suspect_1 : decode cX13_suspect 1 = .ok (.iconst 0, 1) := zo_3 (zi_at zh_dX13_suspect_0_0 1 rfl)
theorem dX13_suspect_2 : decode cX13_suspect 2 = .ok (.putfield 228, 3) := zo_181 (zi_at zh_dX13_suspect_0_0 2 rfl) (zi_at zh_dX13_suspect_0_0 3 rfl) (zi_at zh_dX13_suspect_0_0 4 rfl) rfl
theorem dX13_suspect_5 : decode cX13_suspect 5 = .ok (.aload_n 0, 1) := zo_42 (zi_at zh_dX13_suspect_0_0 5 rfl)
theorem dX13_suspect_6 : decode cX13_suspect 6 = .ok (.iload_n 1, 1) := zo_27 (zi_at zh_dX13_suspect_0_0 6 rfl)
theorem dX13_suspect_7 : decode cX13_suspect 7 = .ok (.invokevirtual 245, 3) := zo_182 (zi_at zh_dX13_suspect_0_0 7 rfl) (zi_at zh_dX13_suspect_0_0 8 rfl) (zi_at zh_dX13_suspect_0_0 9 rfl) rfl
theorem dX13_suspect_10 : decode cX13_suspect 10 = .ok (.ifCond .eq 12, 3) := zo_153 (zi_at zh_dX13_suspect_0_0 10 rfl) (zi_at zh_dX13_suspect_0_0 11 rfl) (zi_at zh_dX13_suspect_0_0 12 rfl) rfl
theorem dX13_suspect_13 : decode cX13_suspect 13 = .ok (.iload_n 2, 1) := zo_28 (zi_at zh_dX13_suspect_0_0 13 rfl)
theorem dX13_suspect_14 : decode cX13_suspect 14 = .ok (.iconst 0, 1) := zo_3 (zi_at zh_dX13_suspect_0_0 14 rfl)
theorem dX13_suspect_15 : decode cX13_suspect 15 = .ok (.iconst 1, 1) := zo_4 (zi_at zh_dX13_suspect_0_0 15 rfl)
theorem dX13_suspect_16 : decode cX13_suspect 16 = .ok (.invokestatic 235, 3) := zo_184 (zi_at zh_dX13_suspect_16_16 0 rfl) (zi_at zh_dX13_suspect_16_16 1 rfl) (zi_at zh_dX13_suspect_16_16 2 rfl) rfl
theorem dX13_suspect_19 : decode cX13_suspect 19 = .ok (.ifCond .ne 7, 3) := zo_154 (zi_at zh_dX13_suspect_16_16 3 rfl) (zi_at zh_dX13_suspect_16_16 4 rfl) (zi_at zh_dX13_suspect_16_16 5 rfl) rfl
theorem dX13_suspect_22 : decode cX13_suspect 22 = .ok (.ldc_w 431, 3) := zo_19 (zi_at zh_dX13_suspect_16_16 6 rfl) (zi_at zh_dX13_suspect_16_16 7 rfl) (zi_at zh_dX13_suspect_16_16 8 rfl) rfl
theorem dX13_suspect_25 : decode cX13_suspect 25 = .ok (.ireturn, 1) := zo_172 (zi_at zh_dX13_suspect_16_16 9 rfl)
theorem dX13_suspect_26 : decode cX13_suspect 26 = .ok (.aload_n 0, 1) := zo_42 (zi_at zh_dX13_suspect_16_16 10 rfl)
theorem dX13_suspect_27 : decode cX13_suspect 27 = .ok (.iload_n 1, 1) := zo_27 (zi_at zh_dX13_suspect_16_16 11 rfl)
theorem dX13_suspect_28 : decode cX13_suspect 28 = .ok (.invokevirtual 539, 3) := zo_182 (zi_at zh_dX13_suspect_16_16 12 rfl) (zi_at zh_dX13_suspect_16_16 13 rfl) (zi_at zh_dX13_suspect_16_16 14 rfl) rfl
theorem dX13_suspect_31 : decode cX13_suspect 31 = .ok (.istore_n 3, 1) := zo_62 (zi_at zh_dX13_suspect_16_16 15 rfl)
theorem dX13_suspect_32 : decode cX13_suspect 32 = .ok (.iload_n 3, 1) := zo_29 (zi_at zh_dX13_suspect_32_32 0 rfl)
theorem dX13_suspect_33 : decode cX13_suspect 33 = .ok (.iconst (-1), 1) := zo_2 (zi_at zh_dX13_suspect_32_32 1 rfl)
theorem dX13_suspect_34 : decode cX13_suspect 34 = .ok (.if_icmp .ne 9, 3) := zo_160 (zi_at zh_dX13_suspect_32_32 2 rfl) (zi_at zh_dX13_suspect_32_32 3 rfl) (zi_at zh_dX13_suspect_32_32 4 rfl) rfl
theorem dX13_suspect_37 : decode cX13_suspect 37 = .ok (.ldc_w 431, 3) := zo_19 (zi_at zh_dX13_suspect_32_32 5 rfl) (zi_at zh_dX13_suspect_32_32 6 rfl) (zi_at zh_dX13_suspect_32_32 7 rfl) rfl
theorem dX13_suspect_40 : decode cX13_suspect 40 = .ok (.goto 15, 3) := zo_167 (zi_at zh_dX13_suspect_32_32 8 rfl) (zi_at zh_dX13_suspect_32_32 9 rfl) (zi_at zh_dX13_suspect_32_32 10 rfl) rfl
theorem dX13_suspect_43 : decode cX13_suspect 43 = .ok (.iload_n 2, 1) := zo_28 (zi_at zh_dX13_suspect_32_32 11 rfl)
theorem dX13_suspect_44 : decode cX13_suspect 44 = .ok (.ifCond .ne 7, 3) := zo_154 (zi_at zh_dX13_suspect_32_32 12 rfl) (zi_at zh_dX13_suspect_32_32 13 rfl) (zi_at zh_dX13_suspect_32_32 14 rfl) rfl
theorem dX13_suspect_47 : decode cX13_suspect 47 = .ok (.iload_n 3, 1) := zo_29 (zi_at zh_dX13_suspect_32_32 15 rfl)
theorem dX13_suspect_48 : decode cX13_suspect 48 = .ok (.goto 7, 3) := zo_167 (zi_at zh_dX13_suspect_48_48 0 rfl) (zi_at zh_dX13_suspect_48_48 1 rfl) (zi_at zh_dX13_suspect_48_48 2 rfl) rfl
theorem dX13_suspect_51 : decode cX13_suspect 51 = .ok (.aload_n 0, 1) := zo_42 (zi_at zh_dX13_suspect_48_48 3 rfl)
theorem dX13_suspect_52 : decode cX13_suspect 52 = .ok (.getfield 536, 3) := zo_180 (zi_at zh_dX13_suspect_48_48 4 rfl) (zi_at zh_dX13_suspect_48_48 5 rfl) (zi_at zh_dX13_suspect_48_48 6 rfl) rfl
theorem dX13_suspect_55 : decode cX13_suspect 55 = .ok (.ireturn, 1) := zo_172 (zi_at zh_dX13_suspect_48_48 7 rfl)
theorem hz_yX13_suspected_1 : yX13_suspected.cls ≠ "java/lang/invoke/MethodHandle" ∧ yX13_suspected.cls ≠ "java/lang/invoke/VarHandle" ∧ (parseMethodDescriptor yX13_suspected.desc).map (fun d => d.parameters.length) = some 1 := by decide +kernel

def v_suspectedM : List Cond := .code yX13_suspected cX13_suspected 10 (some .int) :: vA
abbrev rm_suspectedM : Room := { frames := 74, cells := 0, slots := 0, locals := 2960 }
def w_suspectedM : Nat → Nat → Bool := wl [12, 66, 69, 70] [(0, 18), (0, 19), (0, 20), (0, 21), (0, 22), (0, 23), (0, 24), (0, 25), (0, 26), (0, 95)]
set_option maxHeartbeats 4000000 in
set_option maxRecDepth 100000 in
theorem q_suspectedM (l : Launch) (dC : Nat → ClassId) (dI : Nat → Nat → Nat) (cT : Nat → ClassId) (ad : Nat → Nat) (E : Nat → va_E) (sz : Nat) (a0 : Int32) (hI0 : IX cT shM spM 72 ad E) (hh0 : 0 ≤ a0.toInt ∧ a0.toInt ≤ 15) (hh1 : TXM E) : Met l yX13_suspected v_suspectedM rm_suspectedM (va_Pc [.ref (ad 0), .int a0] (HW dC dI (TYM cT) 72 ad E sz)) (va_Qi (S := Nat → va_E) (fun r u => IX cT shM spM 72 ad u ∧ Kp w_suspectedM E u ∧ ((-1 ≤ r.toInt ∧ r.toInt ≤ 19) ∧ ((r.toInt = -1 → ∀ w9 : Int, SpR (fun r9 => ctM E a0 (xi (E 0) 1) r9 ∧ dyM E r9 ≤ (xi (E 0) 1).toInt) (dyM E) (rtM E a0 (xi (E 0) 1)) (xi (E 0) 46).toNatClampNeg w9 (-1000000000)) ∧ (¬ r.toInt = -1 → ∀ w9 : Int, SpR (fun r9 => ctM E a0 (xi (E 0) 1) r9 ∧ dyM E r9 ≤ (xi (E 0) 1).toInt) (dyM E) (rtM E a0 (xi (E 0) 1)) (xi (E 0) 46).toNatClampNeg w9 (if w9 = 0 then r.toInt else (xi (u 0) 95).toInt))))) (HB dC dI 72 ad) (va_A (WX 72 ad E) sz)) 0 0 (va_A (WX 72 ad E) sz) := by
  refine Met.ofW (cc := cX13_suspected) (maxL := 10) (ret := (some .int)) (by decide) rfl ?_
  intro p e s m args below meth c s₁ B hml hv
  obtain ⟨hargs, hsz, hP, hK, hD0, hEV⟩ := hv
  subst hsz
  have hx := B.exec
  have hb := B.bytes
  have hr := B.returns
  have hts := atoms_spec (ws := v_suspectedM) B.pre
  have hown : s.vm.findClass RX13 = some m.cls := findClass_of_methodNamed B.named
  have hlocks := B.notSynchronized
  have hinX13 : ∀ w ∈ u_ws RX13 TX13 97, w ∈ v_suspectedM := fun w h => vA_in _ w (in_X13 w h)
  generalize hAe : va_A (WX 72 ad E) s.heap.size = A at hEV ⊢
  have hA : ∀ q : Nat, s.heap.size ≤ q → A q := fun q h => by rw [← hAe]; exact Or.inr h
  have hD : va_D A (WX 72 ad E) := by rw [← hAe]; exact hD0.self
  have hS : va_S A s.heap s.heap [] := va_S.rf
  have hI := hI0
  have hKp : Kp w_suspectedM E E := Kp.rf
  have hl := lv_entry ([.ref (ad 0), .int a0]) (n := 10) (Nat.le_of_ble_eq_true rfl)
  obtain ⟨Q, hQ⟩ : ∃ Q, Q = MQ below (va_Qi (S := Nat → va_E) (fun r u => IX cT shM spM 72 ad u ∧ Kp w_suspectedM E u ∧ ((-1 ≤ r.toInt ∧ r.toInt ≤ 19) ∧ ((r.toInt = -1 → ∀ w9 : Int, SpR (fun r9 => ctM E a0 (xi (E 0) 1) r9 ∧ dyM E r9 ≤ (xi (E 0) 1).toInt) (dyM E) (rtM E a0 (xi (E 0) 1)) (xi (E 0) 46).toNatClampNeg w9 (-1000000000)) ∧ (¬ r.toInt = -1 → ∀ w9 : Int, SpR (fun r9 => ctM E a0 (xi (E 0) 1) r9 ∧ dyM E r9 ≤ (xi (E 0) 1).toInt) (dyM E) (rtM E a0 (xi (E 0) 1)) (xi (E 0) 46).toNatClampNeg w9 (if w9 = 0 then r.toInt else (xi (u 0) 95).toInt))))) (HB dC dI 72 ad) (A)) args s 0 0 (A) := ⟨_, rfl⟩
  rw [← hQ, show entryFrame m args 10 = _ from (congrArg (fun z => entryFrame m z 10) hargs).trans (lg_entry_eq _ _ _)]
  generalize (lg_sl ([.ref (ad 0), .int a0]) ++ List.replicate (10 - (lg_sl ([.ref (ad 0), .int a0])).length) Slot.unset).toArray = ls at hl ⊢
  have hl : lv_has ls 10 [(0, .ref (ad 0)), (1, .int a0)] := hl
  obtain ⟨g1, hg1⟩ : ∃ g, xi (E 69) = g := ⟨_, rfl⟩
  obtain ⟨g2, hg2⟩ : ∃ g, xi (E 70) = g := ⟨_, rfl⟩
  have z0z : (0 : Int32).toInt = 0 := rfl
  have ib1 : 0 ≤ (xi (E 0) 1).toInt ∧ (xi (E 0) 1).toInt ≤ 400 := hI0.iv 0 (Nat.le_of_ble_eq_true rfl) rfl (Nat.le_of_ble_eq_true rfl) rfl
  have ib46 : 0 ≤ (xi (E 0) 46).toInt ∧ (xi (E 0) 46).toInt ≤ 20 := hI0.iv 0 (Nat.le_of_ble_eq_true rfl) rfl (Nat.le_of_ble_eq_true rfl) rfl
  have z0 := ln_0
  have z1 := ln_1
  refine lv_iconst (v := 0) hx hb dX13_suspected_0 (by decide) ?_
  refine lv_istore_n (lv' := [(2, .int 0), (0, .ref (ad 0)), (1, .int a0)]) hx hb dX13_suspected_1 rfl hl (by decide) rfl (fun ls hl => ?_)
  refine lv_iconst (v := 0) hx hb dX13_suspected_2 (by decide) ?_
  refine lv_istore_n (lv' := [(3, .int 0), (2, .int 0), (0, .ref (ad 0)), (1, .int a0)]) hx hb dX13_suspected_3 rfl hl (by decide) rfl (fun ls hl => ?_)
  have hL4 : ∀ d : Nat, ∀ (g4_69 : Nat → Int32) (g4_70 : Nat → Int32) (v4_3 : Int32) (v4_2 : Int32) (E4_ : Nat → va_E) (H : Heap) (locs : List Loc) (ls : Array Slot), 0 ≤ v4_3.toInt ∧ v4_3.toInt ≤ 401 → 0 ≤ v4_2.toInt ∧ v4_2.toInt ≤ 20 → v4_2.toInt ≤ (cLt (xi (E 13)) v4_3.toInt (xi (E 0) 46).toNatClampNeg : Int) → LsD (ctM E a0 (xi (E 0) 1)) (dyM E) (rtM E a0 (xi (E 0) 1)) (xi (E 0) 46).toNatClampNeg v4_3.toInt 0 v4_2.toNatClampNeg g4_69 g4_70 → v4_3.toInt ≤ (xi (E 0) 1).toInt + 1 → 401 - v4_3.toInt < (d : Int) → IX cT shM spM 72 ad E4_ → Kp w_suspectedM E E4_ → xi (E4_ 69) = g4_69 → xi (E4_ 70) = g4_70 → va_P (dC, dI) vwCl (WX 72 ad E4_) H → va_S A s.heap H locs → lv_has ls 10 [(3, .int v4_3), (2, .int v4_2), (0, .ref (ad 0)), (1, .int a0)] → W p l e (headSpec v_suspectedM rm_suspectedM).room s m args below meth c H locs 0 0 Q (F0 m 4 ls []) := by
    intro d
    induction d with
    | zero =>
      intro g4_69 g4_70 v4_3 v4_2 E4_ H locs ls hv4_3 hv4_2 hx4_0 hx4_1 hx4_2 hx4_3 hI hKp hr4_69 hr4_70 hP hS hl
      exact absurd hx4_3 (by first | exact ms_zu hv4_3.2 | omega)
    | succ d ih4 =>
      intro g4_69 g4_70 v4_3 v4_2 E4_ H locs ls hv4_3 hv4_2 hx4_0 hx4_1 hx4_2 hx4_3 hI hKp hr4_69 hr4_70 hP hS hl
      refine lv_iload_n hx hb dX13_suspected_4 rfl (lv_at hl 0 rfl) ?_
      refine lv_aload_n hx hb dX13_suspected_5 rfl (lv_at hl 2 rfl) ?_
      have i3 : 0 ≤ (xi (E 0) 1).toInt ∧ (xi (E 0) 1).toInt ≤ 400 := hI0.iv 0 (Nat.le_of_ble_eq_true rfl) rfl (Nat.le_of_ble_eq_true rfl) rfl
      refine th_get (ci := 14) (C := RX13) (T := TX13) (N := 97) (v := .int (xi (E 0) 1)) hx hb hts hinX13 hown hK hP hI 0 (Nat.le_of_ble_eq_true rfl) rfl rfl 1 (Nat.le_of_ble_eq_true rfl) (hts _ (vA_in _ _ (in_24 _ (zs16 (zs4 (zs4 (zs1 (zs1 (zs1 (zs0)))))))))) (fun _ h9 => h9) (th_v0 hKp hI0 0 (Nat.le_of_ble_eq_true rfl) rfl (Nat.le_of_ble_eq_true rfl) rfl rfl) dX13_suspected_6 ?_
      refine lv_icmp_gt (tgt := 115) hx hb dX13_suspected_9 (by decide) (fun c4 => ?_) (fun c4 => ?_)
      · --9 taken
        have t5 : (xi (E 0) 1).toInt < v4_3.toInt := ti_lt c4
        have i6 : 1 ≤ v4_3.toInt ∧ v4_3.toInt ≤ 401 := iv_lt_r t5 i3 hv4_3 (by decide)
        have k7 : ∀ i9 : Nat, i9 < v4_2.toNatClampNeg → 0 ≤ (g4_70 i9).toInt ∧ (g4_70 i9).toInt ≤ 400000000 := fun i9 h9 => hx4_1.bd hI0 h9
        refine lv_iconst (v := -1) hx hb dX13_suspected_115 (by decide) ?_
        refine lv_istore_n (lv' := [(3, .int (-1)), (2, .int v4_2), (0, .ref (ad 0)), (1, .int a0)]) hx hb dX13_suspected_116 rfl hl (by decide) rfl (fun ls hl => ?_)
        refine lv_iconst (v := 2) hx hb dX13_suspected_117 (by decide) ?_
        refine lv_istore (lv' := [(4, .int 2), (3, .int (-1)), (2, .int v4_2), (0, .ref (ad 0)), (1, .int a0)]) hx hb dX13_suspected_118 hl (by decide) rfl (fun ls hl => ?_)
        obtain ⟨y8, ey8⟩ : ∃ y, xi (E4_ 0) 95 = y := ⟨_, rfl⟩
        have fy8 : xv (E4_ 0) 95 = .int y8 := (hI.fi 0 (Nat.le_of_ble_eq_true rfl) rfl (Nat.le_of_ble_eq_true rfl) rfl).trans (congrArg Value.int ey8)
        have hL120 : ∀ d : Nat, ∀ (w120_0_95 : Int32) (v120_4 : Int32) (v120_3 : Int32) (E120_ : Nat → va_E) (H : Heap) (locs : List Loc) (ls : Array Slot), 2 ≤ v120_4.toInt ∧ v120_4.toInt ≤ 19 → -1 ≤ v120_3.toInt ∧ v120_3.toInt ≤ 19 → BsM (fun k9 : Nat => jpG (fun i9 : Nat => (g4_70 i9).toInt) k9 v4_2.toNatClampNeg) g4_69 v120_4.toNatClampNeg v120_3.toInt w120_0_95.toInt → v120_4.toInt = 2 ∨ v120_4.toInt + 1 ≤ v4_2.toInt → v120_3.toInt = -1 ∨ (-400000000 ≤ w120_0_95.toInt ∧ w120_0_95.toInt ≤ 400000000) → 19 - v120_4.toInt < (d : Int) → IX cT shM spM 72 ad E120_ → Kp w_suspectedM E E120_ → xv (E120_ 0) 95 = .int w120_0_95 → xi (E120_ 69) = g4_69 → xi (E120_ 70) = g4_70 → va_P (dC, dI) vwCl (WX 72 ad E120_) H → va_S A s.heap H locs → lv_has ls 10 [(4, .int v120_4), (3, .int v120_3), (2, .int v4_2), (0, .ref (ad 0)), (1, .int a0)] → W p l e (headSpec v_suspectedM rm_suspectedM).room s m args below meth c H locs 0 0 Q (F0 m 120 ls []) := by
          intro d
          induction d with
          | zero =>
            intro w120_0_95 v120_4 v120_3 E120_ H locs ls hv120_4 hv120_3 hx120_0 hx120_1 hx120_2 hx120_3 hI hKp hs120_0_95 hr120_69 hr120_70 hP hS hl
            exact absurd hx120_3 (by first | exact ms_zu hv120_4.2 | omega)
          | succ d ih120 =>
            intro w120_0_95 v120_4 v120_3 E120_ H locs ls hv120_4 hv120_3 hx120_0 hx120_1 hx120_2 hx120_3 hI hKp hs120_0_95 hr120_69 hr120_70 hP hS hl
            refine lv_iload hx hb dX13_suspected_120 (lv_at hl 0 rfl) ?_
            refine lv_iload_n hx hb dX13_suspected_122 rfl (lv_at hl 2 rfl) ?_
            refine lv_iconst (v := 2) hx hb dX13_suspected_123 (by decide) ?_
            refine lv_isub hx hb dX13_suspected_124 ?_
            refine lv_topi (fun y9 ey9 => ?_)
            obtain ⟨ty9, iy9⟩ := ti_sub (e := (-2)) (f := 18) hv4_2 ln_2 ey9 (by decide)
            have ty9 : y9.toInt = v4_2.toInt - 2 := ty9
            have iy9 : -2 ≤ y9.toInt ∧ y9.toInt ≤ 18 := iy9
            refine lv_icmp_gt (tgt := 246) hx hb dX13_suspected_125 (by decide) (fun c10 => ?_) (fun c10 => ?_)
            · --125 taken
              have t11 : y9.toInt < v120_4.toInt := ti_lt c10
              refine lv_iload_n hx hb dX13_suspected_246 rfl (lv_at hl 1 rfl) ?_
              rw [hQ]
              exact W.iret (v := v120_3) hx hb hr (fun t ht hW => ⟨⟨v120_3, E120_, rfl, ⟨hI, hKp, ⟨hv120_3, (by rw [show xi (E120_ 0) 95 = w120_0_95 from congrArg vi hs120_0_95]; exact LsD.sp (P := ctM E a0 (xi (E 0) 1)) (d := v4_3.toInt) hx4_1 (fun r9 h9 => and_congr Iff.rfl (show dyM E r9 ≤ (xi (E 0) 1).toInt ↔ dyM E r9 < v4_3.toInt by omega)) (by rw [tn_, tn_]; omega) (by rw [tn_, tn_]; omega) hx120_0)⟩⟩, by show va_P (dC, dI) vwCl (WX 72 ad E120_) t.heap; rw [ht]; exact hP⟩, hS.F ht⟩) hS.2.2 dX13_suspected_247
            · --125 not
              have t12 : v120_4.toInt ≤ y9.toInt := ti_nlt c10
              have i13 : 2 ≤ v120_4.toInt ∧ v120_4.toInt ≤ 18 := iv_le_l t12 hv120_4 iy9 (by decide)
              have i14 : 2 ≤ y9.toInt ∧ y9.toInt ≤ 18 := iv_le_r t12 hv120_4 iy9 (by decide)
              refine lv_lconst hx hb dX13_suspected_128 rfl ?_
              refine lv_topl (fun y15 ey15 => ?_)
              refine lv_lstore (lv' := [(5, .long y15), (4, .int v120_4), (3, .int v120_3), (2, .int v4_2), (0, .ref (ad 0)), (1, .int a0)]) hx hb dX13_suspected_129 hl (by decide) rfl (fun ls hl => ?_)
              refine lv_lconst hx hb dX13_suspected_131 rfl ?_
              refine lv_topl (fun y16 ey16 => ?_)
              refine lv_lstore (lv' := [(7, .long y16), (5, .long y15), (4, .int v120_4), (3, .int v120_3), (2, .int v4_2), (0, .ref (ad 0)), (1, .int a0)]) hx hb dX13_suspected_132 hl (by decide) rfl (fun ls hl => ?_)
              refine lv_iconst (v := 0) hx hb dX13_suspected_134 (by decide) ?_
              refine lv_istore (lv' := [(9, .int 0), (7, .long y16), (5, .long y15), (4, .int v120_4), (3, .int v120_3), (2, .int v4_2), (0, .ref (ad 0)), (1, .int a0)]) hx hb dX13_suspected_135 hl (by decide) rfl (fun ls hl => ?_)
              have hL137 : ∀ d : Nat, ∀ (v137_9 : Int32) (v137_7 : Int64) (v137_5 : Int64) (H : Heap) (locs : List Loc) (ls : Array Slot), 0 ≤ v137_9.toInt ∧ v137_9.toInt ≤ 20 → v137_5.toInt = sumF (fun i9 : Nat => (g4_70 i9).toInt) (min v137_9.toNatClampNeg v120_4.toNatClampNeg) → v137_7.toInt = sumF (fun i9 => (fun i9 : Nat => (g4_70 i9).toInt) (v120_4.toNatClampNeg + i9)) (v137_9.toNatClampNeg - v120_4.toNatClampNeg) → 0 ≤ v137_5.toInt ∧ v137_5.toInt ≤ 400000000 * ((min v137_9.toNatClampNeg v120_4.toNatClampNeg : Nat) : Int) → 0 ≤ v137_7.toInt ∧ v137_7.toInt ≤ 400000000 * ((v137_9.toNatClampNeg - v120_4.toNatClampNeg : Nat) : Int) → v137_9.toInt ≤ v4_2.toInt → 20 - v137_9.toInt < (d : Int) → va_P (dC, dI) vwCl (WX 72 ad E120_) H → va_S A s.heap H locs → lv_has ls 10 [(9, .int v137_9), (7, .long v137_7), (5, .long v137_5), (4, .int v120_4), (3, .int v120_3), (2, .int v4_2), (0, .ref (ad 0)), (1, .int a0)] → W p l e (headSpec v_suspectedM rm_suspectedM).room s m args below meth c H locs 0 0 Q (F0 m 137 ls []) := by
                intro d
                induction d with
                | zero =>
                  intro v137_9 v137_7 v137_5 H locs ls hv137_9 hx137_0 hx137_1 hx137_2 hx137_3 hx137_4 hx137_5 hP hS hl
                  exact absurd hx137_5 (by first | exact ms_zu hv137_9.2 | omega)
                | succ d ih137 =>
                  intro v137_9 v137_7 v137_5 H locs ls hv137_9 hx137_0 hx137_1 hx137_2 hx137_3 hx137_4 hx137_5 hP hS hl
                  refine lv_iload hx hb dX13_suspected_137 (lv_at hl 0 rfl) ?_
                  refine lv_iload_n hx hb dX13_suspected_139 rfl (lv_at hl 5 rfl) ?_
                  refine lv_icmp_ge (tgt := 185) hx hb dX13_suspected_140 (by decide) (fun c17 => ?_) (fun c17 => ?_)
                  · --140 taken
                    have t18 : v4_2.toInt ≤ v137_9.toInt := ti_le c17
                    refine lv_lload hx hb dX13_suspected_185 (lv_at hl 1 rfl) ?_
                    refine lv_iload_n hx hb dX13_suspected_187 rfl (lv_at hl 5 rfl) ?_
                    refine lv_iload hx hb dX13_suspected_188 (lv_at hl 3 rfl) ?_
                    refine lv_isub hx hb dX13_suspected_190 ?_
                    refine lv_topi (fun y19 ey19 => ?_)
                    obtain ⟨ty19, iy19⟩ := ti_sub (e := (-18)) (f := 18) hv4_2 i13 ey19 (by decide)
                    have ty19 : y19.toInt = v4_2.toInt - v120_4.toInt := ty19
                    have iy19 : -18 ≤ y19.toInt ∧ y19.toInt ≤ 18 := iy19
                    refine lv_i2l hx hb dX13_suspected_191 rfl ?_
                    refine lv_topl (fun y20 ey20 => ?_)
                    refine lv_ldiv hx hb dX13_suspected_192 (i2l_n0 ey20 (by omega)) ?_
                    refine lv_topl (fun y21 ey21 => ?_)
                    refine lv_lload hx hb dX13_suspected_193 (lv_at hl 2 rfl) ?_
                    refine lv_iload hx hb dX13_suspected_195 (lv_at hl 3 rfl) ?_
                    refine lv_i2l hx hb dX13_suspected_197 rfl ?_
                    refine lv_topl (fun y22 ey22 => ?_)
                    refine lv_ldiv hx hb dX13_suspected_198 (i2l_n0 ey22 (by omega)) ?_
                    refine lv_topl (fun y23 ey23 => ?_)
                    refine lv_lsub hx hb dX13_suspected_199 ?_
                    refine lv_topl (fun y24 ey24 => ?_)
                    refine lv_l2i hx hb dX13_suspected_200 rfl ?_
                    refine lv_topi (fun y25 ey25 => ?_)
                    have k26 := jp_of ey20 ey21 ey22 ey23 ey24 ey25 (by have h9 := hx137_3; have z1 := tn_ v4_2; have z2 := tn_ v137_9; have z3 := tn_ v120_4; omega) (by omega) (by have h9 := hx137_2; have z1 := tn_ v4_2; have z2 := tn_ v137_9; have z3 := tn_ v120_4; omega) (by omega)
                    have k27 : y25.toInt = jpG (fun i9 : Nat => (g4_70 i9).toInt) v120_4.toNatClampNeg v4_2.toNatClampNeg := jpG_of (by rw [tn_]; omega) (by rw [tn_, tn_]; omega) (by have h9 := hx137_1; rw [show v137_9.toNatClampNeg = v4_2.toNatClampNeg by rw [tn_, tn_]; omega] at h9; exact h9) (by have h9 := hx137_0; rw [show min v137_9.toNatClampNeg v120_4.toNatClampNeg = v120_4.toNatClampNeg by rw [tn_, tn_]; omega] at h9; exact h9) (by rw [tn_ v4_2, tn_ v120_4]; omega) (by rw [tn_]; omega) k26.1
                    have i28 : -400000000 ≤ y25.toInt ∧ y25.toInt ≤ 400000000 := by omega
                    refine lv_istore (lv' := [(9, .int y25), (7, .long v137_7), (5, .long v137_5), (4, .int v120_4), (3, .int v120_3), (2, .int v4_2), (0, .ref (ad 0)), (1, .int a0)]) hx hb dX13_suspected_201 hl (by decide) rfl (fun ls hl => ?_)
                    refine lv_iload_n hx hb dX13_suspected_203 rfl (lv_at hl 4 rfl) ?_
                    refine lv_iconst (v := -1) hx hb dX13_suspected_204 (by decide) ?_
                    refine lv_icmp_eq (tgt := 226) hx hb dX13_suspected_205 (by decide) (fun c29 => ?_) (fun c29 => ?_)
                    · --205 taken
                      have t30 : v120_3.toInt = -1 := ti_eq c29
                      have i31 : -1 ≤ v120_3.toInt ∧ v120_3.toInt ≤ -1 := iv_eqi t30 hv120_3 (il_ (-1)) (by decide)
                      refine lv_aload_n hx hb dX13_suspected_226 rfl (lv_at hl 6 rfl) ?_
                      refine th_get (ci := 14) (C := RX13) (T := TX13) (N := 97) (v := .ref (ad 69)) hx hb hts hinX13 hown hK hP hI 0 (Nat.le_of_ble_eq_true rfl) rfl rfl 93 (Nat.le_of_ble_eq_true rfl) (hts _ (vA_in _ _ (in_32 _ (zs16 (zs0))))) (fun _ h9 => h9) (hI.fr 0 (Nat.le_of_ble_eq_true rfl) rfl (Nat.le_of_ble_eq_true rfl) 69 rfl) dX13_suspected_227 ?_
                      refine lv_iload hx hb dX13_suspected_230 (lv_at hl 3 rfl) ?_
                      have n33 : vp_in v120_4 20 := (iv_in (n := 20) i13 (by decide))
                      refine th_iald hx hb hK hP hI 69 (Nat.le_of_ble_eq_true rfl) rfl rfl n33 dX13_suspected_232 (fun y32 ey32 => ?_)
                      have iy32 : 0 ≤ y32.toInt ∧ y32.toInt ≤ 19 := hI.el 69 (Nat.le_of_ble_eq_true rfl) rfl n33 (fun _ => rfl) ey32
                      have ey32 := ey32.trans (congrFun hr120_69 _)
                      refine lv_istore_n (lv' := [(3, .int y32), (9, .int y25), (7, .long v137_7), (5, .long v137_5), (4, .int v120_4), (2, .int v4_2), (0, .ref (ad 0)), (1, .int a0)]) hx hb dX13_suspected_233 rfl hl (by decide) rfl (fun ls hl => ?_)
                      refine lv_aload_n hx hb dX13_suspected_234 rfl (lv_at hl 6 rfl) ?_
                      refine lv_iload hx hb dX13_suspected_235 (lv_at hl 1 rfl) ?_
                      refine th_put (ci := 14) (C := RX13) (T := TX13) (N := 97) (v := .int y25) (ty := .int) hx hb hts hinX13 tyX13 tyX13_ok nmX13 hown hK hP (WX_D hD) hS hI 0 (Nat.le_of_ble_eq_true rfl) rfl rfl 95 (Nat.le_of_ble_eq_true rfl) (hts _ (vA_in _ _ (in_33 _ (zs16 (zs4 (zs4 (zs4 (zs0)))))))) (fun _ h9 => h9) rfl (by decide +kernel) rfl rfl (okI rfl (iv_w i28 (by decide))) dX13_suspected_237 (fun H locs E34 pw35 hI hP hS => ?_)
                      have hKp := hKp.pw pw35 rfl
                      obtain ⟨y36, ey36⟩ : ∃ y : Int32, y = v120_4 + (1 : Int32) := ⟨_, rfl⟩
                      obtain ⟨ty36, iy36⟩ := ti_add (e := 3) (f := 19) i13 ln_1 ey36 (by decide)
                      have ty36 : y36.toInt = v120_4.toInt + 1 := ty36
                      have iy36 : 3 ≤ y36.toInt ∧ y36.toInt ≤ 19 := iy36
                      refine lv_iinc (v := y36) (lv' := [(4, .int y36), (3, .int y32), (9, .int y25), (7, .long v137_7), (5, .long v137_5), (2, .int v4_2), (0, .ref (ad 0)), (1, .int a0)]) hx hb dX13_suspected_240 hl (k := 4) rfl (by rw [ey36]; rfl) (by decide) rfl (fun ls hl => ?_)
                      refine lv_goto (tgt := 120) hx hb dX13_suspected_243 (by decide) ?_
                      exact ih120 y25 y36 y32 E34 _ _ _ (iv_w iy36 (by decide)) (iv_w iy32 (by decide)) (hx120_0.one (by omega) (by rw [tn_ y36, tn_ v120_4]; omega) (by rw [← ey32, tn_ y32]; omega) k27) (Or.inr (by omega)) (Or.inr k26.2) (by first | exact ms_su hx120_3 ty36 (by decide) | omega) hI hKp pw35.1 ((pw35.ef 69 (Nat.ne_of_beq_eq_false rfl)).trans hr120_69) ((pw35.ef 70 (Nat.ne_of_beq_eq_false rfl)).trans hr120_70) hP hS (lv_sub hl [0, 1, 5, 6, 7] rfl)
                    · --205 not
                      have t37 : ¬ v120_3.toInt = -1 := ti_ne c29
                      have i38 : 0 ≤ v120_3.toInt ∧ v120_3.toInt ≤ 19 := iv_ne_l t37 hv120_3 (il_ (-1))
                      refine lv_iload hx hb dX13_suspected_208 (lv_at hl 0 rfl) ?_
                      refine va_mabs hx hb (by rw [hml]; exact hl.1.symm) hown (hts _ (vA_in _ _ (in_25 _ (zs16 (zs16 (zs1 (zs1 (zs0)))))))) (hts _ (vA_in _ _ (in_23 _ (zs4 (zs4 (zs1 (zs1 (zs0)))))))) (hts _ (vA_in _ _ (in_0 _ (zs16 (zs16 (zs1 (zs0))))))) (hts _ (vA_in _ _ (in_23 _ (zs4 (zs4 (zs1 (zs1 (zs1 (zs0))))))))) (Nat.le_of_ble_eq_true rfl) (Nat.le_of_ble_eq_true rfl) (Nat.le_of_ble_eq_true rfl) (Nat.le_of_ble_eq_true rfl) dX13_suspected_210 ?_
                      refine lv_topi (fun y39 ey39 => ?_)
                      obtain ⟨ty39, iy39⟩ := ti_abs (e := 0) (f := 400000000) i28 ey39 (by decide)
                      have iy39 : 0 ≤ y39.toInt ∧ y39.toInt ≤ 400000000 := iy39
                      refine lv_aload_n hx hb dX13_suspected_213 rfl (lv_at hl 6 rfl) ?_
                      refine th_get (ci := 14) (C := RX13) (T := TX13) (N := 97) (v := .int w120_0_95) hx hb hts hinX13 hown hK hP hI 0 (Nat.le_of_ble_eq_true rfl) rfl rfl 95 (Nat.le_of_ble_eq_true rfl) (hts _ (vA_in _ _ (in_33 _ (zs16 (zs4 (zs4 (zs4 (zs0)))))))) (fun _ h9 => h9) hs120_0_95 dX13_suspected_214 ?_
                      refine va_mabs hx hb (by rw [hml]; exact hl.1.symm) hown (hts _ (vA_in _ _ (in_25 _ (zs16 (zs16 (zs1 (zs1 (zs0)))))))) (hts _ (vA_in _ _ (in_23 _ (zs4 (zs4 (zs1 (zs1 (zs0)))))))) (hts _ (vA_in _ _ (in_0 _ (zs16 (zs16 (zs1 (zs0))))))) (hts _ (vA_in _ _ (in_23 _ (zs4 (zs4 (zs1 (zs1 (zs1 (zs0))))))))) (Nat.le_of_ble_eq_true rfl) (Nat.le_of_ble_eq_true rfl) (Nat.le_of_ble_eq_true rfl) (Nat.le_of_ble_eq_true rfl) dX13_suspected_217 ?_
                      refine lv_topi (fun y40 ey40 => ?_)
                      have k41 := (ti_abs (e := 0) (f := 400000000) (a := -400000000) (b := 400000000) (hx120_2.resolve_left (by omega)) ey40 (by decide)).1
                      refine lv_icmp_gt (tgt := 226) hx hb dX13_suspected_220 (by decide) (fun c42 => ?_) (fun c42 => ?_)
                      · --220 taken
                        have t43 : y40.toInt < y39.toInt := ti_lt c42
                        have i44 : -2147483648 ≤ y40.toInt ∧ y40.toInt ≤ 399999999 := iv_lt_l t43 (iv_all _) iy39 (by decide)
                        refine lv_aload_n hx hb dX13_suspected_226 rfl (lv_at hl 6 rfl) ?_
                        refine th_get (ci := 14) (C := RX13) (T := TX13) (N := 97) (v := .ref (ad 69)) hx hb hts hinX13 hown hK hP hI 0 (Nat.le_of_ble_eq_true rfl) rfl rfl 93 (Nat.le_of_ble_eq_true rfl) (hts _ (vA_in _ _ (in_32 _ (zs16 (zs0))))) (fun _ h9 => h9) (hI.fr 0 (Nat.le_of_ble_eq_true rfl) rfl (Nat.le_of_ble_eq_true rfl) 69 rfl) dX13_suspected_227 ?_
                        refine lv_iload hx hb dX13_suspected_230 (lv_at hl 3 rfl) ?_
                        have n46 : vp_in v120_4 20 := (iv_in (n := 20) i13 (by decide))
                        refine th_iald hx hb hK hP hI 69 (Nat.le_of_ble_eq_true rfl) rfl rfl n46 dX13_suspected_232 (fun y45 ey45 => ?_)
                        have iy45 : 0 ≤ y45.toInt ∧ y45.toInt ≤ 19 := hI.el 69 (Nat.le_of_ble_eq_true rfl) rfl n46 (fun _ => rfl) ey45
                        have ey45 := ey45.trans (congrFun hr120_69 _)
                        refine lv_istore_n (lv' := [(3, .int y45), (9, .int y25), (7, .long v137_7), (5, .long v137_5), (4, .int v120_4), (2, .int v4_2), (0, .ref (ad 0)), (1, .int a0)]) hx hb dX13_suspected_233 rfl hl (by decide) rfl (fun ls hl => ?_)
                        refine lv_aload_n hx hb dX13_suspected_234 rfl (lv_at hl 6 rfl) ?_
                        refine lv_iload hx hb dX13_suspected_235 (lv_at hl 1 rfl) ?_
                        refine th_put (ci := 14) (C := RX13) (T := TX13) (N := 97) (v := .int y25) (ty := .int) hx hb hts hinX13 tyX13 tyX13_ok nmX13 hown hK hP (WX_D hD) hS hI 0 (Nat.le_of_ble_eq_true rfl) rfl rfl 95 (Nat.le_of_ble_eq_true rfl) (hts _ (vA_in _ _ (in_33 _ (zs16 (zs4 (zs4 (zs4 (zs0)))))))) (fun _ h9 => h9) rfl (by decide +kernel) rfl rfl (okI rfl (iv_w i28 (by decide))) dX13_suspected_237 (fun H locs E47 pw48 hI hP hS => ?_)
                        have hKp := hKp.pw pw48 rfl
                        obtain ⟨y49, ey49⟩ : ∃ y : Int32, y = v120_4 + (1 : Int32) := ⟨_, rfl⟩
                        obtain ⟨ty49, iy49⟩ := ti_add (e := 3) (f := 19) i13 ln_1 ey49 (by decide)
                        have ty49 : y49.toInt = v120_4.toInt + 1 := ty49
                        have iy49 : 3 ≤ y49.toInt ∧ y49.toInt ≤ 19 := iy49
                        refine lv_iinc (v := y49) (lv' := [(4, .int y49), (3, .int y45), (9, .int y25), (7, .long v137_7), (5, .long v137_5), (2, .int v4_2), (0, .ref (ad 0)), (1, .int a0)]) hx hb dX13_suspected_240 hl (k := 4) rfl (by rw [ey49]; rfl) (by decide) rfl (fun ls hl => ?_)
                        refine lv_goto (tgt := 120) hx hb dX13_suspected_243 (by decide) ?_
                        exact ih120 y25 y49 y45 E47 _ _ _ (iv_w iy49 (by decide)) (iv_w iy45 (by decide)) (hx120_0.yes (by omega) (by rw [← k27]; have q9 := k41; unfold ab; omega) (by rw [tn_ y49, tn_ v120_4]; omega) (by rw [← ey45, tn_ y45]; omega) k27) (Or.inr (by omega)) (Or.inr k26.2) (by first | exact ms_su hx120_3 ty49 (by decide) | omega) hI hKp pw48.1 ((pw48.ef 69 (Nat.ne_of_beq_eq_false rfl)).trans hr120_69) ((pw48.ef 70 (Nat.ne_of_beq_eq_false rfl)).trans hr120_70) hP hS (lv_sub hl [0, 1, 5, 6, 7] rfl)
                      · --220 not
                        have t50 : y39.toInt ≤ y40.toInt := ti_nlt c42
                        have i51 : 0 ≤ y40.toInt ∧ y40.toInt ≤ 2147483647 := iv_le_r t50 iy39 (iv_all _) (by decide)
                        refine lv_goto (tgt := 240) hx hb dX13_suspected_223 (by decide) ?_
                        obtain ⟨y52, ey52⟩ : ∃ y : Int32, y = v120_4 + (1 : Int32) := ⟨_, rfl⟩
                        obtain ⟨ty52, iy52⟩ := ti_add (e := 3) (f := 19) i13 ln_1 ey52 (by decide)
                        have ty52 : y52.toInt = v120_4.toInt + 1 := ty52
                        have iy52 : 3 ≤ y52.toInt ∧ y52.toInt ≤ 19 := iy52
                        refine lv_iinc (v := y52) (lv' := [(4, .int y52), (9, .int y25), (7, .long v137_7), (5, .long v137_5), (3, .int v120_3), (2, .int v4_2), (0, .ref (ad 0)), (1, .int a0)]) hx hb dX13_suspected_240 hl (k := 3) rfl (by rw [ey52]; rfl) (by decide) rfl (fun ls hl => ?_)
                        refine lv_goto (tgt := 120) hx hb dX13_suspected_243 (by decide) ?_
                        exact ih120 w120_0_95 y52 v120_3 E120_ _ _ _ (iv_w iy52 (by decide)) (iv_w i38 (by decide)) (hx120_0.no (by omega) (by rw [← k27]; have q9 := k41; unfold ab; omega) (by rw [tn_ y52, tn_ v120_4]; omega)) (Or.inr (by omega)) hx120_2 (by first | exact ms_su hx120_3 ty52 (by decide) | omega) hI hKp hs120_0_95 hr120_69 hr120_70 hP hS (lv_sub hl [0, 4, 5, 6, 7] rfl)
                  · --140 not
                    have t53 : v137_9.toInt < v4_2.toInt := ti_nle c17
                    have i54 : 0 ≤ v137_9.toInt ∧ v137_9.toInt ≤ 19 := iv_lt_l t53 hv137_9 hv4_2 (by decide)
                    have i55 : 1 ≤ v4_2.toInt ∧ v4_2.toInt ≤ 20 := iv_lt_r t53 hv137_9 hv4_2 (by decide)
                    refine lv_iload hx hb dX13_suspected_143 (lv_at hl 0 rfl) ?_
                    refine lv_iload hx hb dX13_suspected_145 (lv_at hl 3 rfl) ?_
                    refine lv_icmp_ge (tgt := 166) hx hb dX13_suspected_147 (by decide) (fun c56 => ?_) (fun c56 => ?_)
                    · --147 taken
                      have t57 : v120_4.toInt ≤ v137_9.toInt := ti_le c56
                      have i58 : 2 ≤ v137_9.toInt ∧ v137_9.toInt ≤ 19 := iv_le_r t57 i13 i54 (by decide)
                      refine lv_lload hx hb dX13_suspected_166 (lv_at hl 1 rfl) ?_
                      refine lv_aload_n hx hb dX13_suspected_168 rfl (lv_at hl 6 rfl) ?_
                      refine th_get (ci := 14) (C := RX13) (T := TX13) (N := 97) (v := .ref (ad 70)) hx hb hts hinX13 hown hK hP hI 0 (Nat.le_of_ble_eq_true rfl) rfl rfl 94 (Nat.le_of_ble_eq_true rfl) (hts _ (vA_in _ _ (in_32 _ (zs16 (zs1 (zs0)))))) (fun _ h9 => h9) (hI.fr 0 (Nat.le_of_ble_eq_true rfl) rfl (Nat.le_of_ble_eq_true rfl) 70 rfl) dX13_suspected_169 ?_
                      refine lv_iload hx hb dX13_suspected_172 (lv_at hl 0 rfl) ?_
                      have n60 : vp_in v137_9 20 := (iv_in (n := 20) i58 (by decide))
                      refine th_iald hx hb hK hP hI 70 (Nat.le_of_ble_eq_true rfl) rfl rfl n60 dX13_suspected_174 (fun y59 ey59 => ?_)
                      have ey59 := ey59.trans (congrFun hr120_70 _)
                      refine lv_i2l hx hb dX13_suspected_175 rfl ?_
                      refine lv_topl (fun y61 ey61 => ?_)
                      refine lv_ladd hx hb dX13_suspected_176 ?_
                      refine lv_topl (fun y62 ey62 => ?_)
                      have k63 : y62.toInt = v137_7.toInt + (g4_70 v137_9.toNatClampNeg).toInt ∧ 0 ≤ (g4_70 v137_9.toNatClampNeg).toInt ∧ (g4_70 v137_9.toNatClampNeg).toInt ≤ 400000000 := by have q1 : y61.toInt = (g4_70 v137_9.toNatClampNeg).toInt := (by rw [ey61, l_of, ey59]); have q2 := k7 v137_9.toNatClampNeg (by rw [tn_ v137_9, tn_ v4_2]; omega); have q3 := hx137_2; have q4 := hx137_3; have z2 := tn_ v137_9; have z3 := tn_ v120_4; have q5 := l_add ey62 (by omega) (by omega); omega
                      refine lv_lstore (lv' := [(7, .long y62), (9, .int v137_9), (5, .long v137_5), (4, .int v120_4), (3, .int v120_3), (2, .int v4_2), (0, .ref (ad 0)), (1, .int a0)]) hx hb dX13_suspected_177 hl (by decide) rfl (fun ls hl => ?_)
                      obtain ⟨y64, ey64⟩ : ∃ y : Int32, y = v137_9 + (1 : Int32) := ⟨_, rfl⟩
                      obtain ⟨ty64, iy64⟩ := ti_add (e := 3) (f := 20) i58 ln_1 ey64 (by decide)
                      have ty64 : y64.toInt = v137_9.toInt + 1 := ty64
                      have iy64 : 3 ≤ y64.toInt ∧ y64.toInt ≤ 20 := iy64
                      refine lv_iinc (v := y64) (lv' := [(9, .int y64), (7, .long y62), (5, .long v137_5), (4, .int v120_4), (3, .int v120_3), (2, .int v4_2), (0, .ref (ad 0)), (1, .int a0)]) hx hb dX13_suspected_179 hl (k := 1) rfl (by rw [ey64]; rfl) (by decide) rfl (fun ls hl => ?_)
                      refine lv_goto (tgt := 137) hx hb dX13_suspected_182 (by decide) ?_
                      exact ih137 y64 y62 v137_5 _ _ _ (iv_w iy64 (by decide)) (by rw [show min y64.toNatClampNeg v120_4.toNatClampNeg = min v137_9.toNatClampNeg v120_4.toNatClampNeg by rw [tn_ y64, tn_ v137_9, tn_ v120_4]; omega]; exact hx137_0) (sumF_st hx137_1 (by rw [tn_ y64, tn_ v137_9, tn_ v120_4]; omega) (by show _ = _ + (g4_70 (v120_4.toNatClampNeg + (v137_9.toNatClampNeg - v120_4.toNatClampNeg))).toInt; rw [show v120_4.toNatClampNeg + (v137_9.toNatClampNeg - v120_4.toNatClampNeg) = v137_9.toNatClampNeg by rw [tn_ v137_9, tn_ v120_4]; omega]; exact k63.1)) (by have h9 := hx137_2; have z1 := tn_ y64; have z2 := tn_ v137_9; have z3 := tn_ v120_4; omega) (by have h9 := hx137_3; have h8 := k63; have z1 := tn_ y64; have z2 := tn_ v137_9; have z3 := tn_ v120_4; omega) (by omega) (by first | exact ms_su hx137_5 ty64 (by decide) | omega) hP hS (lv_sub hl [0, 1, 2, 3, 4, 5, 6, 7] rfl)
                    · --147 not
                      have t65 : v137_9.toInt < v120_4.toInt := ti_nle c56
                      have i66 : 0 ≤ v137_9.toInt ∧ v137_9.toInt ≤ 17 := iv_lt_l t65 i54 i13 (by decide)
                      refine lv_lload hx hb dX13_suspected_150 (lv_at hl 2 rfl) ?_
                      refine lv_aload_n hx hb dX13_suspected_152 rfl (lv_at hl 6 rfl) ?_
                      refine th_get (ci := 14) (C := RX13) (T := TX13) (N := 97) (v := .ref (ad 70)) hx hb hts hinX13 hown hK hP hI 0 (Nat.le_of_ble_eq_true rfl) rfl rfl 94 (Nat.le_of_ble_eq_true rfl) (hts _ (vA_in _ _ (in_32 _ (zs16 (zs1 (zs0)))))) (fun _ h9 => h9) (hI.fr 0 (Nat.le_of_ble_eq_true rfl) rfl (Nat.le_of_ble_eq_true rfl) 70 rfl) dX13_suspected_153 ?_
                      refine lv_iload hx hb dX13_suspected_156 (lv_at hl 0 rfl) ?_
                      have n68 : vp_in v137_9 20 := (iv_in (n := 20) i66 (by decide))
                      refine th_iald hx hb hK hP hI 70 (Nat.le_of_ble_eq_true rfl) rfl rfl n68 dX13_suspected_158 (fun y67 ey67 => ?_)
                      have ey67 := ey67.trans (congrFun hr120_70 _)
                      refine lv_i2l hx hb dX13_suspected_159 rfl ?_
                      refine lv_topl (fun y69 ey69 => ?_)
                      refine lv_ladd hx hb dX13_suspected_160 ?_
                      refine lv_topl (fun y70 ey70 => ?_)
                      have k71 : y70.toInt = v137_5.toInt + (g4_70 v137_9.toNatClampNeg).toInt ∧ 0 ≤ (g4_70 v137_9.toNatClampNeg).toInt ∧ (g4_70 v137_9.toNatClampNeg).toInt ≤ 400000000 := by have q1 : y69.toInt = (g4_70 v137_9.toNatClampNeg).toInt := (by rw [ey69, l_of, ey67]); have q2 := k7 v137_9.toNatClampNeg (by rw [tn_ v137_9, tn_ v4_2]; omega); have q3 := hx137_2; have q4 := hx137_3; have z2 := tn_ v137_9; have z3 := tn_ v120_4; have q5 := l_add ey70 (by omega) (by omega); omega
                      refine lv_lstore (lv' := [(5, .long y70), (9, .int v137_9), (7, .long v137_7), (4, .int v120_4), (3, .int v120_3), (2, .int v4_2), (0, .ref (ad 0)), (1, .int a0)]) hx hb dX13_suspected_161 hl (by decide) rfl (fun ls hl => ?_)
                      refine lv_goto (tgt := 179) hx hb dX13_suspected_163 (by decide) ?_
                      obtain ⟨y72, ey72⟩ : ∃ y : Int32, y = v137_9 + (1 : Int32) := ⟨_, rfl⟩
                      obtain ⟨ty72, iy72⟩ := ti_add (e := 1) (f := 18) i66 ln_1 ey72 (by decide)
                      have ty72 : y72.toInt = v137_9.toInt + 1 := ty72
                      have iy72 : 1 ≤ y72.toInt ∧ y72.toInt ≤ 18 := iy72
                      refine lv_iinc (v := y72) (lv' := [(9, .int y72), (5, .long y70), (7, .long v137_7), (4, .int v120_4), (3, .int v120_3), (2, .int v4_2), (0, .ref (ad 0)), (1, .int a0)]) hx hb dX13_suspected_179 hl (k := 1) rfl (by rw [ey72]; rfl) (by decide) rfl (fun ls hl => ?_)
                      refine lv_goto (tgt := 137) hx hb dX13_suspected_182 (by decide) ?_
                      exact ih137 y72 v137_7 y70 _ _ _ (iv_w iy72 (by decide)) (sumF_st hx137_0 (by rw [tn_ y72, tn_ v137_9, tn_ v120_4]; omega) (by show _ = _ + (g4_70 (min v137_9.toNatClampNeg v120_4.toNatClampNeg)).toInt; rw [show min v137_9.toNatClampNeg v120_4.toNatClampNeg = v137_9.toNatClampNeg by rw [tn_ v137_9, tn_ v120_4]; omega]; exact k71.1)) (by rw [show y72.toNatClampNeg - v120_4.toNatClampNeg = v137_9.toNatClampNeg - v120_4.toNatClampNeg by rw [tn_ y72, tn_ v137_9, tn_ v120_4]; omega]; exact hx137_1) (by have h9 := hx137_2; have h8 := k71; have z1 := tn_ y72; have z2 := tn_ v137_9; have z3 := tn_ v120_4; omega) (by have h9 := hx137_3; have z1 := tn_ y72; have z2 := tn_ v137_9; have z3 := tn_ v120_4; omega) (by omega) (by first | exact ms_su hx137_5 ty72 (by decide) | omega) hP hS (lv_sub hl [0, 2, 1, 3, 4, 5, 6, 7] rfl)
              exact hL137 (21) (0 : Int32) y16 y15 _ _ _ (iv_w ln_0 (by decide)) (by have z0 : y15.toInt = 0 := (by rw [ey15]; decide); rw [show min (0 : Int32).toNatClampNeg v120_4.toNatClampNeg = 0 from Nat.min_eq_left (Nat.zero_le _)]; exact z0) (by have z0 : y16.toInt = 0 := (by rw [ey16]; decide); rw [show (0 : Int32).toNatClampNeg - v120_4.toNatClampNeg = 0 from Nat.zero_sub _]; exact z0) (by have z0 : y15.toInt = 0 := (by rw [ey15]; decide); omega) (by have z0 : y16.toInt = 0 := (by rw [ey16]; decide); omega) (by have z9 := ln_0; omega) (by have h9 := ln_0; first | exact ms_bu h9.1 (by decide) | omega) hP hS (lv_sub hl [0, 1, 2, 3, 4, 5, 6, 7] rfl)
        exact hL120 (18) y8 (2 : Int32) (-1 : Int32) E4_ _ _ _ (iv_w ln_2 (by decide)) (iv_w ln_m1 (by decide)) (Or.inl ⟨(by have z9 := ln_m1; omega), rfl⟩) (Or.inl (by have z9 := ln_2; omega)) (Or.inl (by have z9 := ln_m1; omega)) (by have h9 := ln_2; first | exact ms_bu h9.1 (by decide) | omega) hI hKp fy8 hr4_69 hr4_70 hP hS (lv_sub hl [0, 1, 2, 3, 4] rfl)
      · --9 not
        have t73 : v4_3.toInt ≤ (xi (E 0) 1).toInt := ti_nlt c4
        have i74 : 0 ≤ v4_3.toInt ∧ v4_3.toInt ≤ 400 := iv_le_l t73 hv4_3 i3 (by decide)
        refine lv_iconst (v := 0) hx hb dX13_suspected_12 (by decide) ?_
        refine lv_istore (lv' := [(4, .int 0), (3, .int v4_3), (2, .int v4_2), (0, .ref (ad 0)), (1, .int a0)]) hx hb dX13_suspected_13 hl (by decide) rfl (fun ls hl => ?_)
        have hL15 : ∀ d : Nat, ∀ (g15_69 : Nat → Int32) (g15_70 : Nat → Int32) (v15_4 : Int32) (v15_2 : Int32) (E15_ : Nat → va_E) (H : Heap) (locs : List Loc) (ls : Array Slot), 0 ≤ v15_4.toInt ∧ v15_4.toInt ≤ 20 → 0 ≤ v15_2.toInt ∧ v15_2.toInt ≤ 20 → v15_2.toInt ≤ (cLt (xi (E 13)) v4_3.toInt (xi (E 0) 46).toNatClampNeg : Int) + (cEq (xi (E 13)) v4_3.toInt v15_4.toNatClampNeg : Int) → v15_4.toInt ≤ (xi (E 0) 46).toInt → LsD (ctM E a0 (xi (E 0) 1)) (dyM E) (rtM E a0 (xi (E 0) 1)) (xi (E 0) 46).toNatClampNeg v4_3.toInt v15_4.toNatClampNeg v15_2.toNatClampNeg g15_69 g15_70 → 20 - v15_4.toInt < (d : Int) → IX cT shM spM 72 ad E15_ → Kp w_suspectedM E E15_ → xi (E15_ 69) = g15_69 → xi (E15_ 70) = g15_70 → va_P (dC, dI) vwCl (WX 72 ad E15_) H → va_S A s.heap H locs → lv_has ls 10 [(4, .int v15_4), (3, .int v4_3), (2, .int v15_2), (0, .ref (ad 0)), (1, .int a0)] → W p l e (headSpec v_suspectedM rm_suspectedM).room s m args below meth c H locs 0 0 Q (F0 m 15 ls []) := by
          intro d
          induction d with
          | zero =>
            intro g15_69 g15_70 v15_4 v15_2 E15_ H locs ls hv15_4 hv15_2 hx15_0 hx15_1 hx15_2 hx15_3 hI hKp hr15_69 hr15_70 hP hS hl
            exact absurd hx15_3 (by first | exact ms_zu hv15_4.2 | omega)
          | succ d ih15 =>
            intro g15_69 g15_70 v15_4 v15_2 E15_ H locs ls hv15_4 hv15_2 hx15_0 hx15_1 hx15_2 hx15_3 hI hKp hr15_69 hr15_70 hP hS hl
            refine lv_iload hx hb dX13_suspected_15 (lv_at hl 0 rfl) ?_
            refine lv_aload_n hx hb dX13_suspected_17 rfl (lv_at hl 3 rfl) ?_
            have i75 : 0 ≤ (xi (E 0) 46).toInt ∧ (xi (E 0) 46).toInt ≤ 20 := hI0.iv 0 (Nat.le_of_ble_eq_true rfl) rfl (Nat.le_of_ble_eq_true rfl) rfl
            refine th_get (ci := 14) (C := RX13) (T := TX13) (N := 97) (v := .int (xi (E 0) 46)) hx hb hts hinX13 hown hK hP hI 0 (Nat.le_of_ble_eq_true rfl) rfl rfl 46 (Nat.le_of_ble_eq_true rfl) (hts _ (vA_in _ _ (in_24 _ (zs16 (zs1 (zs0)))))) (fun _ h9 => h9) (th_v0 hKp hI0 0 (Nat.le_of_ble_eq_true rfl) rfl (Nat.le_of_ble_eq_true rfl) rfl rfl) dX13_suspected_18 ?_
            refine lv_icmp_ge (tgt := 109) hx hb dX13_suspected_21 (by decide) (fun c76 => ?_) (fun c76 => ?_)
            · --21 taken
              have t77 : (xi (E 0) 46).toInt ≤ v15_4.toInt := ti_le c76
              obtain ⟨y78, ey78⟩ : ∃ y : Int32, y = v4_3 + (1 : Int32) := ⟨_, rfl⟩
              obtain ⟨ty78, iy78⟩ := ti_add (e := 1) (f := 401) i74 ln_1 ey78 (by decide)
              have ty78 : y78.toInt = v4_3.toInt + 1 := ty78
              have iy78 : 1 ≤ y78.toInt ∧ y78.toInt ≤ 401 := iy78
              refine lv_iinc (v := y78) (lv' := [(3, .int y78), (4, .int v15_4), (2, .int v15_2), (0, .ref (ad 0)), (1, .int a0)]) hx hb dX13_suspected_109 hl (k := 1) rfl (by rw [ey78]; rfl) (by decide) rfl (fun ls hl => ?_)
              refine lv_goto (tgt := 4) hx hb dX13_suspected_112 (by decide) ?_
              exact ih4 g15_69 g15_70 y78 v15_2 E15_ _ _ _ (iv_w iy78 (by decide)) hv15_2 (by have h9 := cLt_s (xi (E 13)) v4_3.toInt (xi (E 0) 46).toNatClampNeg; rw [show v4_3.toInt + 1 = y78.toInt from by omega] at h9; have h8 : v15_4.toNatClampNeg = (xi (E 0) 46).toNatClampNeg := tn_ge (by omega) (by omega); rw [h8] at hx15_0; omega) (hx15_2.day (by rw [tn_ v15_4, tn_ (xi (E 0) 46)]; omega) (by omega)) (by omega) (by first | exact ms_su hx4_3 ty78 (by decide) | omega) hI hKp hr15_69 hr15_70 hP hS (lv_sub hl [0, 2, 3, 4] rfl)
            · --21 not
              have t79 : v15_4.toInt < (xi (E 0) 46).toInt := ti_nle c76
              have i80 : 0 ≤ v15_4.toInt ∧ v15_4.toInt ≤ 19 := iv_lt_l t79 hv15_4 i75 (by decide)
              have i81 : 1 ≤ (xi (E 0) 46).toInt ∧ (xi (E 0) 46).toInt ≤ 20 := iv_lt_r t79 hv15_4 i75 (by decide)
              refine lv_aload_n hx hb dX13_suspected_24 rfl (lv_at hl 3 rfl) ?_
              refine th_get (ci := 14) (C := RX13) (T := TX13) (N := 97) (v := .ref (ad 13)) hx hb hts hinX13 hown hK hP hI 0 (Nat.le_of_ble_eq_true rfl) rfl rfl 27 (Nat.le_of_ble_eq_true rfl) (hts _ (vA_in _ _ (in_27 _ (zs16 (zs16 (zs0)))))) (fun _ h9 => h9) (hI.fr 0 (Nat.le_of_ble_eq_true rfl) rfl (Nat.le_of_ble_eq_true rfl) 13 rfl) dX13_suspected_25 ?_
              refine lv_iload hx hb dX13_suspected_28 (lv_at hl 0 rfl) ?_
              have n83 : vp_in v15_4 20 := (iv_in (n := 20) i80 (by decide))
              refine th_iald hx hb hK hP hI 13 (Nat.le_of_ble_eq_true rfl) rfl rfl n83 dX13_suspected_30 (fun y82 ey82 => ?_)
              have iy82 : 0 ≤ y82.toInt ∧ y82.toInt ≤ 400 := hI.el 13 (Nat.le_of_ble_eq_true rfl) rfl n83 (fun _ => rfl) ey82
              have ey82 := ey82.trans (hKp.ei 13 _ rfl)
              refine lv_iload_n hx hb dX13_suspected_31 rfl (lv_at hl 1 rfl) ?_
              refine lv_icmp_ne (tgt := 45) hx hb dX13_suspected_32 (by decide) (fun c84 => ?_) (fun c84 => ?_)
              · --32 taken
                have t85 : ¬ y82.toInt = v4_3.toInt := ti_ne c84
                refine lv_ldcw hx hb hown (hts _ (vA_in _ _ (in_27 _ (zs16 (zs4 (zs1 (zs0))))))) dX13_suspected_45 ?_
                refine lv_istore (lv' := [(5, .int (-1000000000)), (4, .int v15_4), (3, .int v4_3), (2, .int v15_2), (0, .ref (ad 0)), (1, .int a0)]) hx hb dX13_suspected_48 hl (by decide) rfl (fun ls hl => ?_)
                refine lv_iload hx hb dX13_suspected_50 (lv_at hl 0 rfl) ?_
                refine lv_ldcw hx hb hown (hts _ (vA_in _ _ (in_27 _ (zs16 (zs4 (zs1 (zs0))))))) dX13_suspected_52 ?_
                refine lv_icmp_ne (tgt := 61) hx hb dX13_suspected_55 (by decide) (fun c86 => ?_) (fun c86 => ?_)
                · --55 taken
                  exact absurd c86 (by decide)
                · --55 not
                  refine lv_goto (tgt := 103) hx hb dX13_suspected_58 (by decide) ?_
                  obtain ⟨y87, ey87⟩ : ∃ y : Int32, y = v15_4 + (1 : Int32) := ⟨_, rfl⟩
                  obtain ⟨ty87, iy87⟩ := ti_add (e := 1) (f := 20) i80 ln_1 ey87 (by decide)
                  have ty87 : y87.toInt = v15_4.toInt + 1 := ty87
                  have iy87 : 1 ≤ y87.toInt ∧ y87.toInt ≤ 20 := iy87
                  refine lv_iinc (v := y87) (lv' := [(4, .int y87), (5, .int (-1000000000)), (3, .int v4_3), (2, .int v15_2), (0, .ref (ad 0)), (1, .int a0)]) hx hb dX13_suspected_103 hl (k := 1) rfl (by rw [ey87]; rfl) (by decide) rfl (fun ls hl => ?_)
                  refine lv_goto (tgt := 15) hx hb dX13_suspected_106 (by decide) ?_
                  exact ih15 g15_69 g15_70 y87 v15_2 E15_ _ _ _ (iv_w iy87 (by decide)) hv15_2 (by have h9 := tn_s ty87 hv15_4 (by decide); rw [h9]; have h8 := cEq_le_s (xi (E 13)) v4_3.toInt v15_4.toNatClampNeg; omega) (by omega) (hx15_2.no (fun q9 => by have h9 : (xi (E 13) v15_4.toNatClampNeg).toInt = v4_3.toInt := q9.2; rw [← ey82] at h9; omega) (by rw [tn_ y87, tn_ v15_4]; omega)) (by first | exact ms_su hx15_3 ty87 (by decide) | omega) hI hKp hr15_69 hr15_70 hP hS (lv_sub hl [0, 2, 3, 4, 5] rfl)
              · --32 not
                have t88 : y82.toInt = v4_3.toInt := ti_eq c84
                refine lv_aload_n hx hb dX13_suspected_35 rfl (lv_at hl 3 rfl) ?_
                refine lv_iload hx hb dX13_suspected_36 (lv_at hl 0 rfl) ?_
                refine lv_iload_n hx hb dX13_suspected_38 rfl (lv_at hl 4 rfl) ?_
                refine th_i (va_runV (As := [.int v15_4, .int a0]) (rest := []) ⟨hx, hb, hml, hown, hts⟩ (q_middleOfM l dC dI cT ad E15_ H.size v15_4 a0 hI i80 hh0 (by exact hh1.cg (fun j9 => hKp.ei 8 j9 rfl) (fun j9 => hKp.ei 9 j9 rfl) (hKp.ei 0 17 rfl))) (cwV 2 hts (gi_V (in_31 _ (zs16 (zs4 (zs0)))) (in_31 _ (zs16 (zs4 (zs1 (zs0))))) (in_31 _ (zs16 (zs4 (zs1 (zs1 (zs0)))))) (in_24 _ (zs4 (zs4 (zs4 (zs1 (zs1 (zs1 (zs0)))))))) (in_31 _ (zs16 (zs4 (zs1 (zs1 (zs1 (zs0)))))))) rfl rfl rfl ⟨rfl, hz_yX13_middleOf_2⟩ ⟨Nat.le_of_ble_eq_true rfl, Nat.le_of_ble_eq_true rfl⟩) ⟨HW_bl, va_recv hK hP (ci := 14) (q0 := 0) rfl (hI.ob 0 (Nat.le_of_ble_eq_true rfl) rfl), (HW_wi hP hK (WX_D hD) hS hA hEV)⟩ rfl rfl hl.1 rfl (lv_room (Nat.le_of_ble_eq_true rfl)) dX13_suspected_39 ⟨Nat.le_of_ble_eq_true rfl, Nat.le_of_ble_eq_true rfl⟩) (WX_D hD) hS hA (fun r89 E90 H locs hw hP hS => ?_)
                obtain ⟨hI, kq91, hw⟩ := hw
                have hKb := hKp
                have hKp := hKp.tr kq91 (wl_sub rfl rfl)
                have f92 := hw
                have i93 : 0 ≤ (xi (E 0) 8).toInt ∧ (xi (E 0) 8).toInt ≤ 16 := (show 0 ≤ (xi (E 0) 8).toInt ∧ (xi (E 0) 8).toInt ≤ 16 from hI0.iv 0 (Nat.le_of_ble_eq_true rfl) rfl (Nat.le_of_ble_eq_true rfl) rfl)
                try rw [hKb.ei 0 1 rfl] at f92
                try rw [hKb.ei 0 8 rfl] at f92
                have k95 : KdN E E15_ := KdN.of hKb rfl rfl rfl rfl rfl
                have k94 : MdM E a0 (xi (E 0) 1) v15_4.toNatClampNeg r89 := by unfold MdM; rw [nI_tn (show 0 ≤ v15_4.toInt by omega)]; exact MdV_kd k95 f92
                have k96 := MdM_in hI0 k94
                refine lv_goto (tgt := 48) hx hb dX13_suspected_42 (by decide) ?_
                refine lv_istore (lv' := [(5, .int r89), (4, .int v15_4), (3, .int v4_3), (2, .int v15_2), (0, .ref (ad 0)), (1, .int a0)]) hx hb dX13_suspected_48 hl (by decide) rfl (fun ls hl => ?_)
                refine lv_iload hx hb dX13_suspected_50 (lv_at hl 0 rfl) ?_
                refine lv_ldcw hx hb hown (hts _ (vA_in _ _ (in_27 _ (zs16 (zs4 (zs1 (zs0))))))) dX13_suspected_52 ?_
                refine lv_icmp_ne (tgt := 61) hx hb dX13_suspected_55 (by decide) (fun c97 => ?_) (fun c97 => ?_)
                · --55 taken
                  have t98 : ¬ r89.toInt = -1000000000 := ti_ne c97
                  have q9 := cLE_le (xi (E 13)) v4_3.toInt (v15_4.toNatClampNeg + 1) (xi (E 0) 46).toNatClampNeg (by rw [tn_, tn_]; omega)
                  rw [cEq_hit (g := (xi (E 13))) (d := v4_3.toInt) (k := v15_4.toNatClampNeg) (by rw [← ey82]; exact t88)] at q9
                  have q8 : ((xi (E 0) 46).toNatClampNeg : Nat) ≤ 20 := by rw [tn_]; omega
                  have i99 : 0 ≤ v15_2.toInt ∧ v15_2.toInt ≤ 19 := by omega
                  refine lv_aload_n hx hb dX13_suspected_61 rfl (lv_at hl 4 rfl) ?_
                  refine th_get (ci := 14) (C := RX13) (T := TX13) (N := 97) (v := .ref (ad 69)) hx hb hts hinX13 hown hK hP hI 0 (Nat.le_of_ble_eq_true rfl) rfl rfl 93 (Nat.le_of_ble_eq_true rfl) (hts _ (vA_in _ _ (in_32 _ (zs16 (zs0))))) (fun _ h9 => h9) (hI.fr 0 (Nat.le_of_ble_eq_true rfl) rfl (Nat.le_of_ble_eq_true rfl) 69 rfl) dX13_suspected_62 ?_
                  refine lv_iload_n hx hb dX13_suspected_65 rfl (lv_at hl 3 rfl) ?_
                  refine lv_iload hx hb dX13_suspected_66 (lv_at hl 1 rfl) ?_
                  have n100 : vp_in v15_2 20 := (iv_in (n := 20) i99 (by decide))
                  refine th_iast hx hb hK hP (WX_D hD) hS hI 69 (Nat.le_of_ble_eq_true rfl) rfl rfl n100 (okI rfl i80) dX13_suspected_68 (fun H locs E101 pw102 hI hP hS => ?_)
                  have hKp := hKp.pw pw102 rfl
                  obtain ⟨g103, eg103⟩ : ∃ z : Nat → Int32, z = upd g15_69 v15_2.toNatClampNeg v15_4 := ⟨_, rfl⟩
                  have hg103 : xi (E101 69) = g103 := by rw [pw102.eu, ((kq91.ef 69 (fun _ => rfl)).trans hr15_69), eg103]
                  refine lv_aload_n hx hb dX13_suspected_69 rfl (lv_at hl 4 rfl) ?_
                  refine th_get (ci := 14) (C := RX13) (T := TX13) (N := 97) (v := .ref (ad 70)) hx hb hts hinX13 hown hK hP hI 0 (Nat.le_of_ble_eq_true rfl) rfl rfl 94 (Nat.le_of_ble_eq_true rfl) (hts _ (vA_in _ _ (in_32 _ (zs16 (zs1 (zs0)))))) (fun _ h9 => h9) (hI.fr 0 (Nat.le_of_ble_eq_true rfl) rfl (Nat.le_of_ble_eq_true rfl) 70 rfl) dX13_suspected_70 ?_
                  refine lv_iload_n hx hb dX13_suspected_73 rfl (lv_at hl 3 rfl) ?_
                  refine lv_ldc2 hx hb hown (hts _ (vA_in _ _ (in_33 _ (zs16 (zs16 (zs1 (zs0))))))) dX13_suspected_74 ?_
                  refine lv_topl (fun y104 ey104 => ?_)
                  refine lv_iload hx hb dX13_suspected_77 (lv_at hl 0 rfl) ?_
                  refine lv_i2l hx hb dX13_suspected_79 rfl ?_
                  refine lv_topl (fun y105 ey105 => ?_)
                  refine lv_lmul hx hb dX13_suspected_80 ?_
                  refine lv_topl (fun y106 ey106 => ?_)
                  refine lv_iconst (v := 1) hx hb dX13_suspected_81 (by decide) ?_
                  refine lv_aload_n hx hb dX13_suspected_82 rfl (lv_at hl 4 rfl) ?_
                  refine lv_iload hx hb dX13_suspected_83 (lv_at hl 1 rfl) ?_
                  refine lv_iload_n hx hb dX13_suspected_85 rfl (lv_at hl 5 rfl) ?_
                  refine lv_aload_n hx hb dX13_suspected_86 rfl (lv_at hl 4 rfl) ?_
                  refine th_get (ci := 14) (C := RX13) (T := TX13) (N := 97) (v := .int (xi (E 0) 1)) hx hb hts hinX13 hown hK hP hI 0 (Nat.le_of_ble_eq_true rfl) rfl rfl 1 (Nat.le_of_ble_eq_true rfl) (hts _ (vA_in _ _ (in_24 _ (zs16 (zs4 (zs4 (zs1 (zs1 (zs1 (zs0)))))))))) (fun _ h9 => h9) (th_v0 hKp hI0 0 (Nat.le_of_ble_eq_true rfl) rfl (Nat.le_of_ble_eq_true rfl) rfl rfl) dX13_suspected_87 ?_
                  refine th_i (va_runV (As := [.int v15_4, .int a0, .int (xi (E 0) 1)]) (rest := [.int 1, .long y106, .int v15_2, .ref (ad 70)]) ⟨hx, hb, hml, hown, hts⟩ (q_correctedOfM l dC dI cT ad E101 H.size v15_4 a0 (xi (E 0) 1) hI i80 (by rw [(KdN.of hKp rfl rfl rfl rfl rfl).lr]; exact CdM_0 (by have h9 := MdM_ok k94 (by omega); rw [nI_tn (show 0 ≤ v15_4.toInt by omega)] at h9; exact h9)) (by exact hh1.cg (fun j9 => hKp.ei 8 j9 rfl) (fun j9 => hKp.ei 9 j9 rfl) (hKp.ei 0 17 rfl))) (cwV 3 hts (gi_V (in_30 _ (zs4 (zs4 (zs4 (zs0))))) (in_30 _ (zs4 (zs4 (zs4 (zs1 (zs0)))))) (in_30 _ (zs4 (zs4 (zs4 (zs1 (zs1 (zs0))))))) (in_24 _ (zs4 (zs4 (zs4 (zs1 (zs1 (zs1 (zs0)))))))) (in_30 _ (zs4 (zs4 (zs4 (zs1 (zs1 (zs1 (zs0))))))))) rfl rfl rfl ⟨rfl, hz_yX13_correctedOf_3⟩ ⟨Nat.le_of_ble_eq_true rfl, Nat.le_of_ble_eq_true rfl⟩) ⟨HW_bl, va_recv hK hP (ci := 14) (q0 := 0) rfl (hI.ob 0 (Nat.le_of_ble_eq_true rfl) rfl), (HW_wi hP hK (WX_D hD) hS hA hEV)⟩ rfl rfl hl.1 rfl (lv_room (Nat.le_of_ble_eq_true rfl)) dX13_suspected_90 ⟨Nat.le_of_ble_eq_true rfl, Nat.le_of_ble_eq_true rfl⟩) (WX_D hD) hS hA (fun r107 E108 H locs hw hP hS => ?_)
                  obtain ⟨hI, kq109, hw⟩ := hw
                  have hKb := hKp
                  have hKp := hKp.tr kq109 (wl_sub rfl rfl)
                  have f110 := hw
                  have k112 : KdN E E101 := KdN.of hKb rfl rfl rfl rfl rfl
                  have k111 : r107 = tmB E (nI v15_4.toNatClampNeg) a0 (xi (E 0) 1) := by rw [nI_tn (show 0 ≤ v15_4.toInt by omega)]; exact f110.trans (k112.tm v15_4 a0 (xi (E 0) 1))
                  refine va_mmax hx hb (by rw [hml]; exact hl.1.symm) hown (hts _ (vA_in _ _ (in_25 _ (zs16 (zs4 (zs4 (zs1 (zs1 (zs1 (zs0)))))))))) (hts _ (vA_in _ _ (in_0 _ (zs16 (zs16 (zs0)))))) (hts _ (vA_in _ _ (in_0 _ (zs16 (zs16 (zs1 (zs0))))))) (hts _ (vA_in _ _ (in_0 _ (zs16 (zs16 (zs1 (zs1 (zs0)))))))) (Nat.le_of_ble_eq_true rfl) (Nat.le_of_ble_eq_true rfl) (Nat.le_of_ble_eq_true rfl) (Nat.le_of_ble_eq_true rfl) dX13_suspected_93 ?_
                  refine lv_topi (fun y113 ey113 => ?_)
                  obtain ⟨ty113, iy113⟩ := ti_max (e := 1) (f := 2147483647) ln_1 (iv_all _) ey113 (by decide)
                  have iy113 : 1 ≤ y113.toInt ∧ y113.toInt ≤ 2147483647 := iy113
                  refine lv_i2l hx hb dX13_suspected_96 rfl ?_
                  refine lv_topl (fun y114 ey114 => ?_)
                  refine lv_ldiv hx hb dX13_suspected_97 (i2l_n0 ey114 (by omega)) ?_
                  refine lv_topl (fun y115 ey115 => ?_)
                  refine lv_l2i hx hb dX13_suspected_98 rfl ?_
                  refine lv_topi (fun y116 ey116 => ?_)
                  have k117 : y116.toInt = rtI r89 (tmB E (nI v15_4.toNatClampNeg) a0 (xi (E 0) 1)) := rt_of ((congrArg Int64.toInt ey104).trans (by decide)) ey105 ey106 ey114 ey115 ey116 (k96.resolve_left (by omega)) (by have q9 := ty113; have q8 := ln_1; rw [← k111]; omega)
                  have n118 : vp_in v15_2 20 := (iv_in (n := 20) i99 (by decide))
                  refine th_iast hx hb hK hP (WX_D hD) hS hI 70 (Nat.le_of_ble_eq_true rfl) rfl rfl n118 (okI rfl (iv_all _)) dX13_suspected_99 (fun H locs E119 pw120 hI hP hS => ?_)
                  have hKp := hKp.pw pw120 rfl
                  obtain ⟨g121, eg121⟩ : ∃ z : Nat → Int32, z = upd g15_70 v15_2.toNatClampNeg y116 := ⟨_, rfl⟩
                  have hg121 : xi (E119 70) = g121 := by rw [pw120.eu, ((kq109.ef 70 (fun _ => rfl)).trans ((pw102.ef 70 (Nat.ne_of_beq_eq_false rfl)).trans ((kq91.ef 70 (fun _ => rfl)).trans hr15_70))), eg121]
                  obtain ⟨y122, ey122⟩ : ∃ y : Int32, y = v15_2 + (1 : Int32) := ⟨_, rfl⟩
                  obtain ⟨ty122, iy122⟩ := ti_add (e := 1) (f := 20) i99 ln_1 ey122 (by decide)
                  have ty122 : y122.toInt = v15_2.toInt + 1 := ty122
                  have iy122 : 1 ≤ y122.toInt ∧ y122.toInt ≤ 20 := iy122
                  refine lv_iinc (v := y122) (lv' := [(2, .int y122), (5, .int r89), (4, .int v15_4), (3, .int v4_3), (0, .ref (ad 0)), (1, .int a0)]) hx hb dX13_suspected_100 hl (k := 3) rfl (by rw [ey122]; rfl) (by decide) rfl (fun ls hl => ?_)
                  obtain ⟨y123, ey123⟩ : ∃ y : Int32, y = v15_4 + (1 : Int32) := ⟨_, rfl⟩
                  obtain ⟨ty123, iy123⟩ := ti_add (e := 1) (f := 20) i80 ln_1 ey123 (by decide)
                  have ty123 : y123.toInt = v15_4.toInt + 1 := ty123
                  have iy123 : 1 ≤ y123.toInt ∧ y123.toInt ≤ 20 := iy123
                  refine lv_iinc (v := y123) (lv' := [(4, .int y123), (2, .int y122), (5, .int r89), (3, .int v4_3), (0, .ref (ad 0)), (1, .int a0)]) hx hb dX13_suspected_103 hl (k := 2) rfl (by rw [ey123]; rfl) (by decide) rfl (fun ls hl => ?_)
                  refine lv_goto (tgt := 15) hx hb dX13_suspected_106 (by decide) ?_
                  exact ih15 g103 g121 y123 y122 E119 _ _ _ (iv_w iy123 (by decide)) (iv_w iy122 (by decide)) (by have h9 := tn_s ty123 hv15_4 (by decide); rw [h9]; rw [cEq_hit (g := (xi (E 13))) (d := v4_3.toInt) (k := v15_4.toNatClampNeg) (by rw [← ey82]; exact t88)]; omega) (by omega) (hx15_2.yes ⟨_, k94, (by omega)⟩ (by show (xi (E 13) v15_4.toNatClampNeg).toInt = v4_3.toInt; rw [← ey82]; omega) (by rw [tn_ v15_4, tn_ (xi (E 0) 46)]; omega) eg103 eg121 rfl rfl rfl ⟨_, k94, (by omega), k117⟩ (by rw [tn_ y122, tn_ v15_2]; omega) (by rw [tn_ y123, tn_ v15_4]; omega)) (by first | exact ms_su hx15_3 ty123 (by decide) | omega) hI hKp ((pw120.ef 69 (Nat.ne_of_beq_eq_false rfl)).trans ((kq109.ef 69 (fun _ => rfl)).trans hg103)) hg121 hP hS (lv_sub hl [0, 3, 1, 4, 5] rfl)
                · --55 not
                  have t124 : r89.toInt = -1000000000 := ti_eq c97
                  have i125 : -1000000000 ≤ r89.toInt ∧ r89.toInt ≤ -1000000000 := iv_eqi t124 (iv_all _) (il_ (-1000000000)) (by decide)
                  refine lv_goto (tgt := 103) hx hb dX13_suspected_58 (by decide) ?_
                  obtain ⟨y126, ey126⟩ : ∃ y : Int32, y = v15_4 + (1 : Int32) := ⟨_, rfl⟩
                  obtain ⟨ty126, iy126⟩ := ti_add (e := 1) (f := 20) i80 ln_1 ey126 (by decide)
                  have ty126 : y126.toInt = v15_4.toInt + 1 := ty126
                  have iy126 : 1 ≤ y126.toInt ∧ y126.toInt ≤ 20 := iy126
                  refine lv_iinc (v := y126) (lv' := [(4, .int y126), (5, .int r89), (3, .int v4_3), (2, .int v15_2), (0, .ref (ad 0)), (1, .int a0)]) hx hb dX13_suspected_103 hl (k := 1) rfl (by rw [ey126]; rfl) (by decide) rfl (fun ls hl => ?_)
                  refine lv_goto (tgt := 15) hx hb dX13_suspected_106 (by decide) ?_
                  exact ih15 g15_69 g15_70 y126 v15_2 E90 _ _ _ (iv_w iy126 (by decide)) hv15_2 (by have h9 := tn_s ty126 hv15_4 (by decide); rw [h9]; have h8 := cEq_le_s (xi (E 13)) v4_3.toInt v15_4.toNatClampNeg; omega) (by omega) (hx15_2.no (fun q9 => by obtain ⟨⟨x9, h8, h9⟩, -⟩ := q9; rw [MdV.fn h8 k94] at h9; omega) (by rw [tn_ y126, tn_ v15_4]; omega)) (by first | exact ms_su hx15_3 ty126 (by decide) | omega) hI hKp ((kq91.ef 69 (fun _ => rfl)).trans hr15_69) ((kq91.ef 70 (fun _ => rfl)).trans hr15_70) hP hS (lv_sub hl [0, 2, 3, 4, 5] rfl)
        exact hL15 (21) g4_69 g4_70 (0 : Int32) v4_2 E4_ _ _ _ (iv_w ln_0 (by decide)) hv4_2 (by show _ ≤ _ + ((0 : Nat) : Int); omega) (by have h9 := (show 0 ≤ (xi (E 0) 46).toInt ∧ (xi (E 0) 46).toInt ≤ 20 from hI0.iv 0 (Nat.le_of_ble_eq_true rfl) rfl (Nat.le_of_ble_eq_true rfl) rfl); have h8 := ln_0; omega) hx4_1 (by have h9 := ln_0; first | exact ms_bu h9.1 (by decide) | omega) hI hKp hr4_69 hr4_70 hP hS (lv_sub hl [0, 1, 2, 3, 4] rfl)
  exact hL4 (402) g1 g2 (0 : Int32) (0 : Int32) E _ _ _ (iv_w ln_0 (by decide)) (iv_w ln_0 (by decide)) (by have h9 := ln_0; omega) (LsD.start (fun r9 h9 => (show (0 : Int) ≤ (xi (E 13) r9).toInt ∧ (xi (E 13) r9).toInt ≤ 400 from hI0.iv 13 (Nat.le_of_ble_eq_true rfl) (t := 1) (c := 0) (nf := 20) rfl (show r9 < 20 by rw [tn_] at h9; omega) rfl).1) rfl) (by have z9 := ln_0; have z8 := ib1; omega) (by have h9 := ln_0; first | exact ms_bu h9.1 (by decide) | omega) hI hKp hg1 hg2 hP hS (lv_sub hl [0, 1, 2, 3] rfl)
def v_suspectM : List Cond := .code yX13_suspect cX13_suspect 4 (some .int) :: vA
abbrev rm_suspectM : Room := { frames := 75, cells := 0, slots := 0, locals := 3000 }
def w_suspectM : Nat → Nat → Bool := wl [12, 66, 69, 70] [(0, 0), (0, 18), (0, 19), (0, 20), (0, 21), (0, 22), (0, 23), (0, 24), (0, 25), (0, 26), (0, 95)]
set_option maxHeartbeats 4000000 in
set_option maxRecDepth 100000 in
theorem q_suspectM (l : Launch) (dC : Nat → ClassId) (dI : Nat → Nat → Nat) (cT : Nat → ClassId) (ad : Nat → Nat) (E : Nat → va_E) (sz : Nat) (a0 : Int32) (a1 : Int32) (hI0 : IX cT shM spM 72 ad E) (hh0 : TXM E) : Met l yX13_suspect v_suspectM rm_suspectM (va_Pc [.ref (ad 0), .int a0, .int a1] (HW dC dI (TYM cT) 72 ad E sz)) (va_Qi (S := Nat → va_E) (fun r u => IX cT shM spM 72 ad u ∧ Kp w_suspectM E u ∧ ((((((0 ≤ a0.toInt ∧ a0.toInt < (xi (E 0) 8).toInt) ∧ (0 ≤ a1.toInt ∧ a1.toInt ≤ 1)) → (SpR (fun r9 => ctM E a0 (xi (E 0) 1) r9 ∧ dyM E r9 ≤ (xi (E 0) 1).toInt) (dyM E) (rtM E a0 (xi (E 0) 1)) (xi (E 0) 46).toNatClampNeg a1.toInt r.toInt)) ∧ (¬ ((0 ≤ a0.toInt ∧ a0.toInt < (xi (E 0) 8).toInt) ∧ (0 ≤ a1.toInt ∧ a1.toInt ≤ 1)) → (r.toInt = -1000000000)))))) (HB dC dI 72 ad) (va_A (WX 72 ad E) sz)) 0 0 (va_A (WX 72 ad E) sz) := by
  refine Met.ofW (cc := cX13_suspect) (maxL := 4) (ret := (some .int)) (by decide) rfl ?_
  intro p e s m args below meth c s₁ B hml hv
  obtain ⟨hargs, hsz, hP, hK, hD0, hEV⟩ := hv
  subst hsz
  have hx := B.exec
  have hb := B.bytes
  have hr := B.returns
  have hts := atoms_spec (ws := v_suspectM) B.pre
  have hown : s.vm.findClass RX13 = some m.cls := findClass_of_methodNamed B.named
  have hlocks := B.notSynchronized
  have hinX13 : ∀ w ∈ u_ws RX13 TX13 97, w ∈ v_suspectM := fun w h => vA_in _ w (in_X13 w h)
  generalize hAe : va_A (WX 72 ad E) s.heap.size = A at hEV ⊢
  have hA : ∀ q : Nat, s.heap.size ≤ q → A q := fun q h => by rw [← hAe]; exact Or.inr h
  have hD : va_D A (WX 72 ad E) := by rw [← hAe]; exact hD0.self
  have hS : va_S A s.heap s.heap [] := va_S.rf
  have hI := hI0
  have hKp : Kp w_suspectM E E := Kp.rf
  have hl := lv_entry ([.ref (ad 0), .int a0, .int a1]) (n := 4) (Nat.le_of_ble_eq_true rfl)
  obtain ⟨Q, hQ⟩ : ∃ Q, Q = MQ below (va_Qi (S := Nat → va_E) (fun r u => IX cT shM spM 72 ad u ∧ Kp w_suspectM E u ∧ ((((((0 ≤ a0.toInt ∧ a0.toInt < (xi (E 0) 8).toInt) ∧ (0 ≤ a1.toInt ∧ a1.toInt ≤ 1)) → (SpR (fun r9 => ctM E a0 (xi (E 0) 1) r9 ∧ dyM E r9 ≤ (xi (E 0) 1).toInt) (dyM E) (rtM E a0 (xi (E 0) 1)) (xi (E 0) 46).toNatClampNeg a1.toInt r.toInt)) ∧ (¬ ((0 ≤ a0.toInt ∧ a0.toInt < (xi (E 0) 8).toInt) ∧ (0 ≤ a1.toInt ∧ a1.toInt ≤ 1)) → (r.toInt = -1000000000)))))) (HB dC dI 72 ad) (A)) args s 0 0 (A) := ⟨_, rfl⟩
  rw [← hQ, show entryFrame m args 4 = _ from (congrArg (fun z => entryFrame m z 4) hargs).trans (lg_entry_eq _ _ _)]
  generalize (lg_sl ([.ref (ad 0), .int a0, .int a1]) ++ List.replicate (4 - (lg_sl ([.ref (ad 0), .int a0, .int a1])).length) Slot.unset).toArray = ls at hl ⊢
  have hl : lv_has ls 4 [(0, .ref (ad 0)), (1, .int a0), (2, .int a1)] := hl
  refine lv_aload_n hx hb dX13_suspect_0 rfl (lv_at hl 0 rfl) ?_
  refine lv_iconst (v := 0) hx hb dX13_suspect_1 (by decide) ?_
  refine th_put (ci := 14) (C := RX13) (T := TX13) (N := 97) (v := .int 0) (ty := .int) hx hb hts hinX13 tyX13 tyX13_ok nmX13 hown hK hP (WX_D hD) hS hI 0 (Nat.le_of_ble_eq_true rfl) rfl rfl 0 (Nat.le_of_ble_eq_true rfl) (hts _ (vA_in _ _ (in_24 _ (zs4 (zs4 (zs1 (zs1 (zs0)))))))) (fun _ h9 => h9) rfl (by decide +kernel) rfl rfl (okI rfl (iv_w ln_0 (by decide))) dX13_suspect_2 (fun H locs E1 pw2 hI hP hS => ?_)
  have hKp := hKp.pw pw2 rfl
  refine lv_aload_n hx hb dX13_suspect_5 rfl (lv_at hl 0 rfl) ?_
  refine lv_iload_n hx hb dX13_suspect_6 rfl (lv_at hl 1 rfl) ?_
  refine th_ri (va_runV (As := [.int a0]) (rest := []) ⟨hx, hb, hml, hown, hts⟩ (q_isBoat l dC dI cT ad E1 H.size a0 hI) (cwV 1 hts (gi_V (in_24 _ (zs16 (zs1 (zs1 (zs0))))) (in_24 _ (zs16 (zs1 (zs1 (zs1 (zs0)))))) (in_24 _ (zs16 (zs4 (zs0)))) (in_24 _ (zs4 (zs4 (zs4 (zs1 (zs1 (zs1 (zs0)))))))) (in_24 _ (zs16 (zs4 (zs1 (zs0)))))) rfl rfl rfl ⟨rfl, hz_yX13_isBoat_1⟩ ⟨Nat.le_of_ble_eq_true rfl, Nat.le_of_ble_eq_true rfl⟩) ⟨HW_bl, va_recv hK hP (ci := 14) (q0 := 0) rfl (hI.ob 0 (Nat.le_of_ble_eq_true rfl) rfl), (HW_wi hP hK (WX_D hD) hS hA hEV)⟩ rfl rfl hl.1 rfl (lv_room (Nat.le_of_ble_eq_true rfl)) dX13_suspect_7 ⟨Nat.le_of_ble_eq_true rfl, Nat.le_of_ble_eq_true rfl⟩) hS hP (fun r3 H locs hw hP hS => ?_)
  rcases hw with hw | hw
  · -- isBoat, case 0
    obtain ⟨rfl, f4, f5⟩ := hw
    have i6 : 0 ≤ (xi (E 0) 8).toInt ∧ (xi (E 0) 8).toInt ≤ 16 := (show 0 ≤ (xi (E 0) 8).toInt ∧ (xi (E 0) 8).toInt ≤ 16 from hI0.iv 0 (Nat.le_of_ble_eq_true rfl) rfl (Nat.le_of_ble_eq_true rfl) rfl)
    try rw [hKp.ei 0 8 rfl] at f4
    refine lv_if_eq (tgt := 22) hx hb dX13_suspect_10 (by decide) (fun c7 => ?_) (fun c7 => ?_)
    · --10 taken
      exact absurd c7 (by decide)
    · --10 not
      refine lv_iload_n hx hb dX13_suspect_13 rfl (lv_at hl 2 rfl) ?_
      refine lv_iconst (v := 0) hx hb dX13_suspect_14 (by decide) ?_
      refine lv_iconst (v := 1) hx hb dX13_suspect_15 (by decide) ?_
      refine th_pi (va_runS (As := [.int a1, .int 0, .int 1]) (rest := []) ⟨hx, hb, hml, hown, hts⟩ (q_isIn l a1 (0 : Int32) (1 : Int32)) (va_cwS 3 hts (gi_S (in_24 _ (zs16 (zs4 (zs4 (zs4 (zs0)))))) (in_24 _ (zs16 (zs4 (zs4 (zs4 (zs1 (zs0))))))) (in_24 _ (zs4 (zs4 (zs4 (zs1 (zs1 (zs1 (zs0)))))))) (in_24 _ (zs16 (zs4 (zs4 (zs4 (zs1 (zs1 (zs0))))))))) rfl rfl rfl hz_yX13_isIn_3 ⟨Nat.le_of_ble_eq_true rfl, Nat.le_of_ble_eq_true rfl⟩) ⟨fun _ _ _ _ q => q, fun _ _ _ => ⟨rfl, trivial⟩⟩ rfl rfl hl.1 rfl (lv_room (Nat.le_of_ble_eq_true rfl)) dX13_suspect_16 ⟨Nat.le_of_ble_eq_true rfl, Nat.le_of_ble_eq_true rfl⟩) hS (fun r8 H1 locs1 hw hk1 hS => ?_)
      have hP := ub_keep hP hk1
      generalize H1 = H at hP hS ⊢
      generalize locs1 = locs at hS ⊢
      rcases hw with hw | hw
      · -- isIn, case 0
        obtain ⟨rfl, f9⟩ := hw
        have t10 : (0 : Int) ≤ a1.toInt := f9.1
        have t11 : a1.toInt ≤ 1 := f9.2
        have i12 : 0 ≤ a1.toInt ∧ a1.toInt ≤ 2147483647 := iv_le_r t10 (il_ 0) (iv_all _) (by decide)
        have i13 : 0 ≤ a1.toInt ∧ a1.toInt ≤ 1 := iv_le_l t11 i12 (il_ 1) (by decide)
        refine lv_if_ne (tgt := 26) hx hb dX13_suspect_19 (by decide) (fun c14 => ?_) (fun c14 => ?_)
        · --19 taken
          refine lv_aload_n hx hb dX13_suspect_26 rfl (lv_at hl 0 rfl) ?_
          refine lv_iload_n hx hb dX13_suspect_27 rfl (lv_at hl 1 rfl) ?_
          refine th_i (va_runV (As := [.int a0]) (rest := []) ⟨hx, hb, hml, hown, hts⟩ (q_suspectedM l dC dI cT ad E1 H.size a0 hI f5 (by exact hh0.cg (fun j9 => hKp.ei 8 j9 rfl) (fun j9 => hKp.ei 9 j9 rfl) (hKp.ei 0 17 rfl))) (cwV 1 hts (gi_V (in_33 _ (zs16 (zs4 (zs4 (zs4 (zs1 (zs0))))))) (in_33 _ (zs16 (zs4 (zs4 (zs4 (zs1 (zs1 (zs0)))))))) (in_33 _ (zs16 (zs4 (zs4 (zs4 (zs1 (zs1 (zs1 (zs0))))))))) (in_24 _ (zs4 (zs4 (zs4 (zs1 (zs1 (zs1 (zs0)))))))) (in_33 _ (zs16 (zs16 (zs0))))) rfl rfl rfl ⟨rfl, hz_yX13_suspected_1⟩ ⟨Nat.le_of_ble_eq_true rfl, Nat.le_of_ble_eq_true rfl⟩) ⟨HW_bl, va_recv hK hP (ci := 14) (q0 := 0) rfl (hI.ob 0 (Nat.le_of_ble_eq_true rfl) rfl), (HW_wi hP hK (WX_D hD) hS hA hEV)⟩ rfl rfl hl.1 rfl (lv_room (Nat.le_of_ble_eq_true rfl)) dX13_suspect_28 ⟨Nat.le_of_ble_eq_true rfl, Nat.le_of_ble_eq_true rfl⟩) (WX_D hD) hS hA (fun r15 E16 H locs hw hP hS => ?_)
          obtain ⟨hI, kq17, hw⟩ := hw
          have hKb := hKp
          have hKp := hKp.tr kq17 (wl_sub rfl rfl)
          obtain ⟨f18, f19⟩ := hw
          have i20 : 0 ≤ (xi (E 0) 1).toInt ∧ (xi (E 0) 1).toInt ≤ 400 := (show 0 ≤ (xi (E 0) 1).toInt ∧ (xi (E 0) 1).toInt ≤ 400 from hI0.iv 0 (Nat.le_of_ble_eq_true rfl) rfl (Nat.le_of_ble_eq_true rfl) rfl)
          have i21 : 0 ≤ (xi (E 0) 46).toInt ∧ (xi (E 0) 46).toInt ≤ 20 := (show 0 ≤ (xi (E 0) 46).toInt ∧ (xi (E 0) 46).toInt ≤ 20 from hI0.iv 0 (Nat.le_of_ble_eq_true rfl) rfl (Nat.le_of_ble_eq_true rfl) rfl)
          try rw [hKb.ei 0 1 rfl] at f19
          try rw [hKb.ei 0 46 rfl] at f19
          have k23 : KdN E E1 := KdN.of hKb rfl rfl rfl rfl rfl
          have k22 : (r15.toInt = -1 → ∀ w9 : Int, SpR (fun r9 => ctM E a0 (xi (E 0) 1) r9 ∧ dyM E r9 ≤ (xi (E 0) 1).toInt) (dyM E) (rtM E a0 (xi (E 0) 1)) (xi (E 0) 46).toNatClampNeg w9 (-1000000000)) ∧ (¬ r15.toInt = -1 → ∀ w9 : Int, SpR (fun r9 => ctM E a0 (xi (E 0) 1) r9 ∧ dyM E r9 ≤ (xi (E 0) 1).toInt) (dyM E) (rtM E a0 (xi (E 0) 1)) (xi (E 0) 46).toNatClampNeg w9 (if w9 = 0 then r15.toInt else (xi (E16 0) 95).toInt)) := by have h9 := f19; rw [ctM_kd k23 (hKb.ei 0 8 rfl), rtM_kd k23 (hKb.ei 0 8 rfl), dyM_kd (hKb.ef 13 (fun _ => rfl))] at h9; exact h9
          refine lv_istore_n (lv' := [(3, .int r15), (0, .ref (ad 0)), (1, .int a0), (2, .int a1)]) hx hb dX13_suspect_31 rfl hl (by decide) rfl (fun ls hl => ?_)
          refine lv_iload_n hx hb dX13_suspect_32 rfl (lv_at hl 0 rfl) ?_
          refine lv_iconst (v := -1) hx hb dX13_suspect_33 (by decide) ?_
          refine lv_icmp_ne (tgt := 43) hx hb dX13_suspect_34 (by decide) (fun c24 => ?_) (fun c24 => ?_)
          · --34 taken
            have t25 : ¬ r15.toInt = -1 := ti_ne c24
            have i26 : 0 ≤ r15.toInt ∧ r15.toInt ≤ 19 := iv_ne_l t25 f18 (il_ (-1))
            refine lv_iload_n hx hb dX13_suspect_43 rfl (lv_at hl 3 rfl) ?_
            refine lv_if_ne (tgt := 51) hx hb dX13_suspect_44 (by decide) (fun c27 => ?_) (fun c27 => ?_)
            · --44 taken
              have t28 : ¬ a1.toInt = 0 := ti_ne c27
              have i29 : 1 ≤ a1.toInt ∧ a1.toInt ≤ 1 := iv_ne_l t28 i13 (il_ 0)
              refine lv_aload_n hx hb dX13_suspect_51 rfl (lv_at hl 1 rfl) ?_
              obtain ⟨y30, ey30⟩ : ∃ y, xi (E16 0) 95 = y := ⟨_, rfl⟩
              have fy30 : xv (E16 0) 95 = .int y30 := (hI.fi 0 (Nat.le_of_ble_eq_true rfl) rfl (Nat.le_of_ble_eq_true rfl) rfl).trans (congrArg Value.int ey30)
              refine th_get (ci := 14) (C := RX13) (T := TX13) (N := 97) (v := .int y30) hx hb hts hinX13 hown hK hP hI 0 (Nat.le_of_ble_eq_true rfl) rfl rfl 95 (Nat.le_of_ble_eq_true rfl) (hts _ (vA_in _ _ (in_33 _ (zs16 (zs4 (zs4 (zs4 (zs0)))))))) (fun _ h9 => h9) fy30 dX13_suspect_52 ?_
              rw [hQ]
              exact W.iret (v := y30) hx hb hr (fun t ht hW => ⟨⟨y30, E16, rfl, ⟨hI, hKp, ⟨fun _ => SpR.eq (k22.2 (by omega) a1.toInt) (by rw [if_neg (by omega), ey30]), fun q9 => by exfalso; omega⟩⟩, by show va_P (dC, dI) vwCl (WX 72 ad E16) t.heap; rw [ht]; exact hP⟩, hS.F ht⟩) hS.2.2 dX13_suspect_55
            · --44 not
              have t31 : a1.toInt = 0 := ti_eq c27
              have i32 : 0 ≤ a1.toInt ∧ a1.toInt ≤ 0 := iv_eqi t31 i13 (il_ 0) (by decide)
              refine lv_iload_n hx hb dX13_suspect_47 rfl (lv_at hl 0 rfl) ?_
              refine lv_goto (tgt := 55) hx hb dX13_suspect_48 (by decide) ?_
              rw [hQ]
              exact W.iret (v := r15) hx hb hr (fun t ht hW => ⟨⟨r15, E16, rfl, ⟨hI, hKp, ⟨fun _ => SpR.eq (k22.2 (by omega) a1.toInt) (by rw [if_pos (by omega)]), fun q9 => by exfalso; omega⟩⟩, by show va_P (dC, dI) vwCl (WX 72 ad E16) t.heap; rw [ht]; exact hP⟩, hS.F ht⟩) hS.2.2 dX13_suspect_55
          · --34 not
            have t33 : r15.toInt = -1 := ti_eq c24
            have i34 : -1 ≤ r15.toInt ∧ r15.toInt ≤ -1 := iv_eqi t33 f18 (il_ (-1)) (by decide)
            refine lv_ldcw hx hb hown (hts _ (vA_in _ _ (in_27 _ (zs16 (zs4 (zs1 (zs0))))))) dX13_suspect_37 ?_
            refine lv_goto (tgt := 55) hx hb dX13_suspect_40 (by decide) ?_
            rw [hQ]
            exact W.iret (v := (-1000000000)) hx hb hr (fun t ht hW => ⟨⟨(-1000000000), E16, rfl, ⟨hI, hKp, ⟨fun _ => SpR.eq (k22.1 (by omega) a1.toInt) (by decide), fun q9 => by exfalso; omega⟩⟩, by show va_P (dC, dI) vwCl (WX 72 ad E16) t.heap; rw [ht]; exact hP⟩, hS.F ht⟩) hS.2.2 dX13_suspect_55
        · --19 not
          exact absurd c14 (by decide)
      · -- isIn, case 1
        obtain ⟨rfl, f35⟩ := hw
        have t36 : ¬ ((0 : Int) ≤ a1.toInt ∧ a1.toInt ≤ 1) := f35
        refine lv_if_ne (tgt := 26) hx hb dX13_suspect_19 (by decide) (fun c37 => ?_) (fun c37 => ?_)
        · --19 taken
          exact absurd c37 (by decide)
        · --19 not
          refine lv_ldcw hx hb hown (hts _ (vA_in _ _ (in_27 _ (zs16 (zs4 (zs1 (zs0))))))) dX13_suspect_22 ?_
          rw [hQ]
          exact W.iret (v := (-1000000000)) hx hb hr (fun t ht hW => ⟨⟨(-1000000000), E1, rfl, ⟨hI, hKp, ⟨fun q9 => by exfalso; omega, fun _ => rfl⟩⟩, by show va_P (dC, dI) vwCl (WX 72 ad E1) t.heap; rw [ht]; exact hP⟩, hS.F ht⟩) hS.2.2 dX13_suspect_25
  · -- isBoat, case 1
    obtain ⟨rfl, f38⟩ := hw
    have i39 : 0 ≤ (xi (E 0) 8).toInt ∧ (xi (E 0) 8).toInt ≤ 16 := (show 0 ≤ (xi (E 0) 8).toInt ∧ (xi (E 0) 8).toInt ≤ 16 from hI0.iv 0 (Nat.le_of_ble_eq_true rfl) rfl (Nat.le_of_ble_eq_true rfl) rfl)
    try rw [hKp.ei 0 8 rfl] at f38
    refine lv_if_eq (tgt := 22) hx hb dX13_suspect_10 (by decide) (fun c40 => ?_) (fun c40 => ?_)
    · --10 taken
      refine lv_ldcw hx hb hown (hts _ (vA_in _ _ (in_27 _ (zs16 (zs4 (zs1 (zs0))))))) dX13_suspect_22 ?_
      rw [hQ]
      exact W.iret (v := (-1000000000)) hx hb hr (fun t ht hW => ⟨⟨(-1000000000), E1, rfl, ⟨hI, hKp, ⟨fun q9 => by exfalso; omega, fun _ => rfl⟩⟩, by show va_P (dC, dI) vwCl (WX 72 ad E1) t.heap; rw [ht]; exact hP⟩, hS.F ht⟩) hS.2.2 dX13_suspect_25
    · --10 not
      exact absurd c40 (by decide)
section
/-! ===== the DRAW (pure) ===== -/
def plcL (x : Int64) (t : Int32) : Int32 := ((x.toUInt64 >>> ((33 : Int32).toInt64.toUInt64 &&& Int64.toUInt64 63)).toInt64 - (x.toUInt64 >>> ((33 : Int32).toInt64.toUInt64 &&& Int64.toUInt64 63)).toInt64 / t.toInt64 * t.toInt64).toInt32
def nxtL (x : Int64) : Int64 := x * 6364136223846793005 + 1442695040888963407
theorem plcL_of {x y z w : Int64} {t r : Int32} (ey : y = (x.toUInt64 >>> ((33 : Int32).toInt64.toUInt64 &&& Int64.toUInt64 63)).toInt64) (ez : z = t.toInt64) (ew : w = y - y / z * z) (er : r = w.toInt32) : r = plcL x t := by
  rw [er, ew, ez, ey]
  rfl
theorem nxtL_of {x a y b z : Int64} (ea : a = 6364136223846793005) (ey : y = x * a) (eb : b = 1442695040888963407) (ez : z = y + b) : z = nxtL x := by
  rw [ez, eb, ey, ea]
  rfl
/-- a row of weights, who is drawn by a number -/
def PkR (g : Nat → Int32) (N : Nat) (p : Int) (b : Nat) : Prop := b < N ∧ sumI g b ≤ p ∧ p < sumI g b + (g b).toInt
theorem sumI_cg {g g' : Nat → Int32} : ∀ n : Nat, (∀ i, i < n → g i = g' i) → sumI g n = sumI g' n := by
  intro n
  induction n with
  | zero => exact fun _ => rfl
  | succ n ih =>
    intro h
    show sumI g n + (g n).toInt = sumI g' n + (g' n).toInt
    rw [ih (fun i hi => h i (by omega)), h n (by omega)]
theorem PkR.un {g g' : Nat → Int32} {N n b b' : Nat} {p : Int} (hn : n ≤ N) (e : ∀ i, i < n → g i = g' i) (hz : ∀ i, n ≤ i → i < N → (g i).toInt = 0) (hp : ∀ i, i < n → 0 ≤ (g i).toInt) (h : PkR g N p b) (h' : PkR g' n p b') : b = b' := by
  obtain ⟨a1, a2, a3⟩ := h
  obtain ⟨c1, c2, c3⟩ := h'
  have hb : b < n := by
    by_cases q : b < n
    · exact q
    · have := hz b (by omega) a1
      omega
  rw [← sumI_cg b' (fun i hi => e i (by omega)), ← e b' c1] at c3
  rw [← sumI_cg b' (fun i hi => e i (by omega))] at c2
  rcases Nat.lt_trichotomy b b' with q | q | q
  · exfalso
    have h1 := sumI_mono (g := g) (k := b + 1) b' (by omega) (fun j hj => hp j (by omega))
    have h2 : sumI g (b + 1) = sumI g b + (g b).toInt := rfl
    omega
  · exact q
  · exfalso
    have h1 := sumI_mono (g := g) (k := b' + 1) b (by omega) (fun j hj => hp j (by omega))
    have h2 : sumI g (b' + 1) = sumI g b' + (g b').toInt := rfl
    omega
/-- the state behind k that were drawn -/
def DrR (g0 : Nat → Int32) (s0 : Int32) (x0 : Int64) (N : Nat) : Nat → (Nat → Int32) → Int32 → Int64 → Int32 → Prop
  | 0, g, s, x, d => g = g0 ∧ s = s0 ∧ x = x0 ∧ d = 0
  | k + 1, g, s, x, d => ∃ (g1 : Nat → Int32) (s1 : Int32) (x1 : Int64) (d1 b : Int32), DrR g0 s0 x0 N k g1 s1 x1 d1 ∧ x = nxtL x1 ∧ 0 ≤ b.toInt ∧ PkR g1 N (plcL x s1).toInt b.toNatClampNeg ∧ g = upd g1 b.toNatClampNeg 0 ∧ s = s1 - g1 b.toNatClampNeg ∧ d = d1 ||| (1 <<< (b &&& 31))
theorem DrR.go {g0 g1 g : Nat → Int32} {s0 s1 s v : Int32} {x0 x1 x : Int64} {N k k' : Nat} {d1 d b t : Int32} (h : DrR g0 s0 x0 N k g1 s1 x1 d1) (ex : x = nxtL x1) (hb : 0 ≤ b.toInt) (hp : PkR g1 N (plcL x s1).toInt b.toNatClampNeg) (eg : g = upd g1 b.toNatClampNeg 0) (ev : v = g1 b.toNatClampNeg) (es : s = s1 - v) (et : t = 1 <<< (b &&& 31)) (ed : d = d1 ||| t) (ek : k' = k + 1) : DrR g0 s0 x0 N k' g s x d := by
  subst ek
  exact ⟨g1, s1, x1, d1, b, h, ex, hb, hp, eg, by rw [es, ev], by rw [ed, et]⟩
theorem DrR.un {g0 g0' : Nat → Int32} {s0 : Int32} {x0 : Int64} {N n : Nat} (hn : n ≤ N) (e : ∀ i, i < n → g0 i = g0' i) (hz : ∀ i, n ≤ i → i < N → (g0 i).toInt = 0) (hp : ∀ i, i < n → 0 ≤ (g0 i).toInt) : ∀ (k : Nat) (g : Nat → Int32) (s : Int32) (x : Int64) (d : Int32) (g' : Nat → Int32) (s' : Int32) (x' : Int64) (d' : Int32), DrR g0 s0 x0 N k g s x d → DrR g0' s0 x0 n k g' s' x' d' → (∀ i, i < n → g i = g' i) ∧ (∀ i, n ≤ i → i < N → (g i).toInt = 0) ∧ (∀ i, i < n → 0 ≤ (g i).toInt) ∧ s = s' ∧ x = x' ∧ d = d' := by
  intro k
  induction k with
  | zero =>
    rintro g s x d g' s' x' d' ⟨a1, a2, a3, a4⟩ ⟨c1, c2, c3, c4⟩
    rw [a1, a2, a3, a4, c1, c2, c3, c4]
    exact ⟨e, hz, hp, rfl, rfl, rfl⟩
  | succ k ih =>
    rintro g s x d g' s' x' d' ⟨g1, s1, x1, d1, b, h, a1, a2, a3, a4, a5, a6⟩ ⟨g2, s2, x2, d2, b2, h2, c1, c2, c3, c4, c5, c6⟩
    obtain ⟨i1, i2, i3, i4, i5, i6⟩ := ih _ _ _ _ _ _ _ _ h h2
    have ex : x = x' := by rw [a1, c1, i5]
    rw [← i4, ← ex] at c3
    have eb : b.toNatClampNeg = b2.toNatClampNeg := a3.un hn i1 i2 i3 c3
    have eb2 : b = b2 := Int32.toInt_inj.mp (by
      rw [tn_, tn_] at eb
      omega)
    subst eb2
    have hbn : b.toNatClampNeg < n := c3.1
    refine ⟨fun i hi => ?_, fun i h8 h9 => ?_, fun i hi => ?_, ?_, ex, ?_⟩
    · rw [a4, c4]
      by_cases q : i = b.toNatClampNeg
      · rw [q, upd_i, upd_i]
      · rw [upd_j q, upd_j q]
        exact i1 i hi
    · rw [a4, upd_j (by omega)]
      exact i2 i h8 h9
    · rw [a4]
      by_cases q : i = b.toNatClampNeg
      · rw [q, upd_i]
        decide
      · rw [upd_j q]
        exact i3 i hi
    · rw [a5, c5, i4, i1 _ hbn]
    · rw [a6, c6, i6]
/-- the weight of a BOAT -/
def WgP (C : Prop) (Ft : Int → Prop) (nm w : Int) : Prop := (¬ C → w = 0) ∧ (C → ∃ f, Ft f ∧ (f = -1 → w = 1) ∧ (¬ f = -1 → w = 1 + ab (f - nm)))
theorem ab_nn {a : Int} : 0 ≤ ab a := ab_0 _
theorem WgP.nn {C : Prop} {Ft : Int → Prop} {nm w : Int} (h : WgP C Ft nm w) : 0 ≤ w ∧ (C ↔ 0 < w) := by
  by_cases c : C
  · obtain ⟨f, h1, h2, h3⟩ := h.2 c
    have h4 := ab_nn (a := f - nm)
    by_cases q : f = -1
    · have := h2 q
      exact ⟨by omega, ⟨fun _ => by omega, fun _ => c⟩⟩
    · have := h3 q
      exact ⟨by omega, ⟨fun _ => by omega, fun _ => c⟩⟩
  · have := h.1 c
    exact ⟨by omega, ⟨fun z => absurd z c, fun z => by omega⟩⟩
theorem WgP.un {C C' : Prop} {Ft Ft' : Int → Prop} {nm nm' w w' : Int} (h : WgP C Ft nm w) (h' : WgP C' Ft' nm' w') (ec : C ↔ C') (en : nm = nm') (ef : ∀ f f', Ft f → Ft' f' → f = f') : w = w' := by
  by_cases c : C
  · obtain ⟨f, h1, h2, h3⟩ := h.2 c
    obtain ⟨f', q1, q2, q3⟩ := h'.2 (ec.mp c)
    have e := ef f f' h1 q1
    subst e
    subst en
    by_cases z : f = -1
    · rw [h2 z, q2 z]
    · rw [h3 z, q3 z]
  · rw [h.1 c, h'.1 (fun z => c (ec.mpr z))]
theorem pos_cn {C : Nat → Prop} {g : Nat → Int32} : ∀ (n : Nat) (c : Int), CnR C n c → (∀ b, b < n → (C b ↔ 0 < (g b).toInt)) → (posI g n : Int) = c := by
  intro n
  induction n with
  | zero =>
    intro c h _
    have h1 : c = 0 := h
    rw [h1]
    rfl
  | succ n ih =>
    intro c h e
    have e1 := e n (by omega)
    rcases h with ⟨h1, h2⟩ | ⟨h1, h2⟩
    · have h3 := ih _ h2 (fun b hb => e b (by omega))
      simp only [posI]
      rw [if_pos (e1.mp h1)]
      omega
    · have h3 := ih _ h2 (fun b hb => e b (by omega))
      simp only [posI]
      rw [if_neg (fun z => h1 (e1.mpr z))]
      omega
/-- what a DRAW answers -/
def DwR (C : Nat → Prop) (W : Nat → Int → Prop) (N : Nat) (n : Int) (x0 : Int64) (r : Int32) : Prop := (n < 1 → r = -1) ∧ (1 ≤ n → ∃ c : Int, CnR C N c ∧ (c < n → r = -1) ∧ (n ≤ c → ∃ (g0 : Nat → Int32) (s0 : Int32) (g : Nat → Int32) (s : Int32) (x : Int64), (∀ b, b < N → W b (g0 b).toInt) ∧ s0.toInt = sumI g0 N ∧ DrR g0 s0 x0 N n.toNat g s x r))
theorem DwR.cg {C : Nat → Prop} {W W' : Nat → Int → Prop} {N : Nat} {n : Int} {x0 : Int64} {r : Int32} (h : DwR C W N n x0 r) (e : ∀ b, b < N → ∀ w, W b w → W' b w) : DwR C W' N n x0 r := by
  refine ⟨h.1, fun q => ?_⟩
  obtain ⟨c, h1, h2, h3⟩ := h.2 q
  refine ⟨c, h1, h2, fun z => ?_⟩
  obtain ⟨g0, s0, g, s, x, a1, a2, a3⟩ := h3 z
  exact ⟨g0, s0, g, s, x, fun b hb => e b hb _ (a1 b hb), a2, a3⟩
theorem DwR.un {C C' : Nat → Prop} {W W' : Nat → Int → Prop} {N k : Nat} {n : Int} {x0 : Int64} {r r' : Int32} (hk : k ≤ N) (h : DwR C W N n x0 r) (h' : DwR C' W' k n x0 r') (ec : ∀ b, b < k → (C b ↔ C' b)) (eo : ∀ b, k ≤ b → b < N → ¬ C b) (ew : ∀ b, b < k → ∀ w w', W b w → W' b w' → w = w') (wn : ∀ b w, W b w → 0 ≤ w ∧ (C b ↔ 0 < w)) : r = r' := by
  by_cases q : n < 1
  · rw [h.1 q, h'.1 q]
  · obtain ⟨c, h1, h2, h3⟩ := h.2 (by omega)
    obtain ⟨c', q1, q2, q3⟩ := h'.2 (by omega)
    have h4 := CnR.cut h1 hk eo
    have e : c = c' := CnR.un k _ _ h4 q1 ec
    subst e
    by_cases z : c < n
    · rw [h2 z, q2 z]
    · obtain ⟨g0, s0, g, s, x, a1, a2, a3⟩ := h3 (by omega)
      obtain ⟨g0', s0', g', s', x', b1, b2, b3⟩ := q3 (by omega)
      have e0 : ∀ i, i < k → g0 i = g0' i := fun i hi => Int32.toInt_inj.mp (ew i hi _ _ (a1 i (by omega)) (b1 i hi))
      have ez : ∀ i, k ≤ i → i < N → (g0 i).toInt = 0 := fun i h8 h9 => by
        have h7 := wn i _ (a1 i h9)
        have h6 : ¬ 0 < (g0 i).toInt := fun w => eo i h8 h9 (h7.2.mpr w)
        omega
      have ep : ∀ i, i < k → 0 ≤ (g0 i).toInt := fun i hi => (wn i _ (a1 i (by omega))).1
      have sz : ∀ m : Nat, k + m ≤ N → sumI g0 (k + m) = sumI g0 k := by
        intro m
        induction m with
        | zero => exact fun _ => rfl
        | succ m ih =>
          intro hm
          have h8 := ih (by omega)
          have h9 := ez (k + m) (by omega) (by omega)
          show sumI g0 (k + m) + (g0 (k + m)).toInt = sumI g0 k
          omega
      have es : s0 = s0' := Int32.toInt_inj.mp (by
        have h8 := sz (N - k) (by omega)
        rw [show k + (N - k) = N by omega, sumI_cg k e0] at h8
        omega)
      subst es
      exact (DrR.un hk e0 ez ep _ _ _ _ _ _ _ _ _ a3 b3).2.2.2.2.2

/-! ===== the DRAW of the class (pure) ===== -/
def cxK (E : Nat → va_E) (K b : Nat) : Prop := ∃ i, i < K ∧ (xi (E (64 * (i + 1) + 0)) 0).toInt = (b : Int)
def cxC (cf : Nat → Nat) (E : Nat → va_E) : Nat → Prop := cxK E (cf 0)
def MkR (C : Nat → Prop) (g : Nat → Int32) : Prop := ∀ b, b < 16 → (C b → (g b).toInt = 1) ∧ (¬ C b → (g b).toInt = 0)
theorem MkR.start {E : Nat → va_E} {g : Nat → Int32} (h : ∀ j, j < 16 → g j = 0) : MkR (cxK E 0) g := fun b hb => by
  refine ⟨fun ⟨i, hi, _⟩ => absurd hi (Nat.not_lt_zero i), fun _ => ?_⟩
  rw [h b hb]
  rfl
theorem MkR.step {E : Nat → va_E} {K K' : Nat} {g g' : Nat → Int32} {ix : Int32} (h : MkR (cxK E K) g) (e : g' = upd g ix.toNatClampNeg 1) (hi : ix = xi (E (64 * (K + 1) + 0)) 0) (hb : 0 ≤ ix.toInt) (ek : K' = K + 1) : MkR (cxK E K') g' := fun b h16 => by
  subst ek
  subst e
  by_cases q : b = ix.toNatClampNeg
  · refine ⟨fun _ => by rw [q, upd_i]; rfl, fun z => absurd ⟨K, by omega, ?_⟩ z⟩
    rw [← hi, q, tn_]
    omega
  · rw [upd_j q]
    refine ⟨fun ⟨i, h1, h2⟩ => (h b h16).1 ⟨i, ?_, h2⟩, fun z => (h b h16).2 (fun ⟨i, h1, h2⟩ => z ⟨i, by omega, h2⟩)⟩
    by_cases c : i = K
    · exfalso
      subst c
      rw [← hi] at h2
      rw [tn_] at q
      omega
    · omega
theorem CnR.mk {C : Nat → Prop} {g : Nat → Int32} {k k' c c' y : Int32} (h : CnR C k.toNatClampNeg c.toInt) (m : MkR C g) (hk : 0 ≤ k.toInt ∧ k.toInt < 16) (ey : y = g k.toNatClampNeg) (ec : c'.toInt = c.toInt + y.toInt) (ek : k'.toInt = k.toInt + 1) : CnR C k'.toNatClampNeg c'.toInt := by
  have e : k'.toNatClampNeg = k.toNatClampNeg + 1 := by
    rw [tn_, tn_]
    omega
  have hm := m k.toNatClampNeg (by rw [tn_]; omega)
  rw [← ey] at hm
  by_cases p : C k.toNatClampNeg
  · exact h.one p (by rw [ec, hm.1 p]) e
  · exact h.no p (by rw [ec, hm.2 p]; omega) e
theorem mk_01 {C : Nat → Prop} {g : Nat → Int32} {k y : Int32} (m : MkR C g) (hk : 0 ≤ k.toInt ∧ k.toInt < 16) (ey : y = g k.toNatClampNeg) : 0 ≤ y.toInt ∧ y.toInt ≤ 1 := by
  have hm := m k.toNatClampNeg (by rw [tn_]; omega)
  rw [← ey] at hm
  by_cases p : C k.toNatClampNeg
  · have := hm.1 p
    omega
  · have := hm.2 p
    omega
def ftO (E : Nat → va_E) (b : Nat) : Int → Nat → Int → Prop := fun v9 r9 x9 => ∃ m9 : Int32, MdO E r9 b m9 ∧ x9 = tFt (xi (E 44) (16 * r9 + b)) m9 v9
theorem FtO_cg {E E' : Nat → va_E} {b R : Nat} {f : Int} (k : K64 E E') (h3 : xi (E' 43) = xi (E 43)) (h4 : xi (E' 44) = xi (E 44)) (h6 : xi (E' 46) = xi (E 46)) (h : FtR (ctO E' b) (fun v9 r9 x9 => ∃ m9 : Int32, MdO E' r9 b m9 ∧ x9 = tFt (xi (E' 44) (16 * r9 + b)) m9 v9) R f) : FtR (ctO E b) (ftO E b) R f := by
  have e : ctO E' b = ctO E b := by
    unfold ctO
    rw [MdO_cg k h3 h6]
  rw [e, MdO_cg k h3 h6, h4] at h
  exact h
/-- the weight of a BOAT, from what stood there -/
def WgV (cf : Nat → Nat) (E : Nat → va_E) (q x : Int32) (b : Nat) (z : Int32) : Prop := (x.toInt = 0 → z.toInt = 0) ∧ (¬ x.toInt = 0 → ∃ f, FtR (ctO E b) (ftO E b) (cf 2) f ∧ (f = -1 → z.toInt = x.toInt) ∧ (¬ f = -1 → z.toInt = 1 + ab (f - numC cf E (nI b) q q)))
theorem nx_s {g : Nat → Int32} {k k' : Int32} {P : Nat → Int32 → Prop} (h : ∀ b, b < k.toNatClampNeg → P b (g b)) (hv : P k.toNatClampNeg (g k.toNatClampNeg)) (ek : k'.toInt = k.toInt + 1) (h0 : 0 ≤ k.toInt) : ∀ b, b < k'.toNatClampNeg → P b (g b) := fun b hb => by
  by_cases q : b = k.toNatClampNeg
  · rw [q]
    exact hv
  · exact h b (by rw [tn_] at hb q ⊢; omega)
theorem up_hi {g g' G : Nat → Int32} {k k' v : Int32} (h : ∀ b, k.toNatClampNeg ≤ b → g b = G b) (e : g' = upd g k.toNatClampNeg v) (ek : k'.toInt = k.toInt + 1) (h0 : 0 ≤ k.toInt) : ∀ b, k'.toNatClampNeg ≤ b → g' b = G b := fun b hb => by
  subst e
  have e1 : k'.toNatClampNeg = k.toNatClampNeg + 1 := by
    rw [tn_, tn_]
    omega
  rw [upd_j (by omega)]
  exact h b (by omega)
theorem nx_hi {g G : Nat → Int32} {k k' : Int32} (h : ∀ b, k.toNatClampNeg ≤ b → g b = G b) (ek : k'.toInt = k.toInt + 1) (h0 : 0 ≤ k.toInt) : ∀ b, k'.toNatClampNeg ≤ b → g b = G b := fun b hb => by
  have e1 : k'.toNatClampNeg = k.toNatClampNeg + 1 := by
    rw [tn_, tn_]
    omega
  exact h b (by omega)
/-- weights by what was told -/
def WdC (cf : Nat → Nat) (E : Nat → va_E) (q : Int32) (b : Nat) (w : Int) : Prop := WgP (cxC cf E b) (FtR (ctC cf E b q) (ftC cf E b q) (cf 2)) (numC cf E (nI b) q q) w
theorem Wg_c {cf : Nat → Nat} {E u : Nat → va_E} {G : Nat → Int32} {q z : Int32} {b : Nat} (k : K64 E u) (hm : MkR (cxC cf E) G) (hb : b < 16) (h20 : cf 2 ≤ 20) (l : ∀ r, r < cf 2 → ∀ o, o < 16 → LdB cf E u (nI r) q o) (h : WgV cf u q (G b) b z) : WdC cf E q b z.toInt := by
  have m := hm b hb
  refine ⟨fun c => h.1 (m.2 c), fun c => ?_⟩
  have g1 := m.1 c
  obtain ⟨f, h1, h2, h3⟩ := h.2 (by omega)
  refine ⟨f, FtR.c h1 k hb h20 l, fun z => by rw [h2 z, g1], fun z => ?_⟩
  rw [h3 z, numC_k k]
theorem Wd_pos {cf : Nat → Nat} {E : Nat → va_E} {g : Nat → Int32} {q : Int32} {c : Int} (hw : ∀ b, b < 16 → WdC cf E q b (g b).toInt) (hc : CnR (cxC cf E) 16 c) : (posI g 16 : Int) = c := pos_cn 16 c hc (fun b hb => (hw b hb).nn.2)
end

