set_option maxRecDepth 100000 in
theorem zh_dX13_draw_0_0 : zc cX13_draw 0 [42, 3, 181, 0, 228, 3, 54, 4, 3, 54, 5, 3, 54, 6, 21, 6] = true := by decide +kernel
set_option maxRecDepth 100000 in
theorem zh_dX13_draw_16_16 : zc cX13_draw 16 [42, 180, 0, 239, 162, 0, 146, 3, 54, 7, 3, 54, 8, 21, 8, 42] = true := by decide +kernel
set_option maxRecDepth 100000 in
theorem zh_dX13_draw_32_32 : zc cX13_draw 32 [180, 0, 242, 162, 0, 33, 21, 7, 154, 0, 15, 42, 180, 0, 9, 21] = true := by decide +kernel
set_option maxRecDepth 100000 in
theorem zh_dX13_draw_47_48 : zc cX13_draw 48 [8, 46, 21, 6, 160, 0, 7, 4, 167, 0, 4, 3, 54, 7, 132, 8] = true := by decide +kernel
set_option maxRecDepth 100000 in
theorem zh_dX13_draw_62_64 : zc cX13_draw 64 [1, 167, 255, 220, 21, 7, 153, 0, 12, 42, 21, 6, 182, 2, 19, 167] = true := by decide +kernel
set_option maxRecDepth 100000 in
theorem zh_dX13_draw_79_80 : zc cX13_draw 80 [0, 4, 2, 54, 8, 42, 180, 0, 225, 21, 6, 21, 7, 154, 0, 7] = true := by decide +kernel
set_option maxRecDepth 100000 in
theorem zh_dX13_draw_96_96 : zc cX13_draw 96 [3, 167, 0, 35, 21, 8, 2, 160, 0, 7, 4, 167, 0, 25, 4, 21] = true := by decide +kernel
set_option maxRecDepth 100000 in
theorem zh_dX13_draw_111_112 : zc cX13_draw 112 [8, 42, 21, 6, 42, 180, 0, 232, 42, 180, 0, 232, 182, 1, 131, 100] = true := by decide +kernel
set_option maxRecDepth 100000 in
theorem zh_dX13_draw_128_128 : zc cX13_draw 128 [184, 1, 218, 96, 79, 21, 4, 42, 180, 0, 225, 21, 6, 46, 96, 54] = true := by decide +kernel
set_option maxRecDepth 100000 in
theorem zh_dX13_draw_143_144 : zc cX13_draw 144 [4, 21, 5, 21, 7, 153, 0, 7, 4, 167, 0, 4, 3, 96, 54, 5] = true := by decide +kernel
set_option maxRecDepth 100000 in
theorem zh_dX13_draw_160_160 : zc cX13_draw 160 [132, 6, 1, 167, 255, 107, 27, 4, 161, 0, 9, 27, 21, 5, 164, 0] = true := by decide +kernel
set_option maxRecDepth 100000 in
theorem zh_dX13_draw_174_176 : zc cX13_draw 176 [5, 2, 172, 32, 55, 6, 3, 54, 8, 3, 54, 9, 21, 9, 27, 162] = true := by decide +kernel
set_option maxRecDepth 100000 in
theorem zh_dX13_draw_191_192 : zc cX13_draw 192 [0, 95, 22, 6, 20, 2, 30, 105, 20, 2, 32, 97, 55, 6, 22, 6] = true := by decide +kernel
set_option maxRecDepth 100000 in
theorem zh_dX13_draw_208_208 : zc cX13_draw 208 [16, 33, 125, 21, 4, 133, 113, 136, 54, 10, 3, 54, 11, 21, 10, 42] = true := by decide +kernel
set_option maxRecDepth 100000 in
theorem zh_dX13_draw_224_224 : zc cX13_draw 224 [180, 0, 225, 21, 11, 46, 161, 0, 21, 21, 10, 42, 180, 0, 225, 21] = true := by decide +kernel
set_option maxRecDepth 100000 in
theorem zh_dX13_draw_239_240 : zc cX13_draw 240 [11, 46, 100, 54, 10, 132, 11, 1, 167, 255, 229, 21, 8, 4, 21, 11] = true := by decide +kernel
set_option maxRecDepth 100000 in
theorem zh_dX13_draw_256_256 : zc cX13_draw 256 [120, 128, 54, 8, 21, 4, 42, 180, 0, 225, 21, 11, 46, 100, 54, 4] = true := by decide +kernel
set_option maxRecDepth 100000 in
theorem zh_dX13_draw_272_272 : zc cX13_draw 272 [42, 180, 0, 225, 21, 11, 3, 79, 132, 9, 1, 167, 255, 161, 21, 8] = true := by decide +kernel
set_option maxRecDepth 100000 in
theorem zh_dX13_draw_288_288 : zc cX13_draw 288 [172] = true := by decide +kernel
theorem dX13_draw_0 : decode cX13_draw 0 = .ok (.aload_n 0, 1) := zo_42 (zi_at zh_dX13_draw_0_0 0 rfl)
theorem dX13_draw_1 : decode cX13_draw 1 = .ok (.iconst 0, 1) := zo_3 (zi_at zh_dX13_draw_0_0 1 rfl)
theorem dX13_draw_2 : decode cX13_draw 2 = .ok (.putfield 228, 3) := zo_181 (zi_at zh_dX13_draw_0_0 2 rfl) (zi_at zh_dX13_draw_0_0 3 rfl) (zi_at zh_dX13_draw_0_0 4 rfl) rfl
theorem dX13_draw_5 : decode cX13_draw 5 = .ok (.iconst 0, 1) := zo_3 (zi_at zh_dX13_draw_0_0 5 rfl)
theorem dX13_draw_6 : decode cX13_draw 6 = .ok (.istore 4, 2) := zo_54 (zi_at zh_dX13_draw_0_0 6 rfl) (zi_at zh_dX13_draw_0_0 7 rfl)
theorem dX13_draw_8 : decode cX13_draw 8 = .ok (.iconst 0, 1) := zo_3 (zi_at zh_dX13_draw_0_0 8 rfl)
theorem dX13_draw_9 : decode cX13_draw 9 = .ok (.istore 5, 2) := zo_54 (zi_at zh_dX13_draw_0_0 9 rfl) (zi_at zh_dX13_draw_0_0 10 rfl)
theorem dX13_draw_11 : decode cX13_draw 11 = .ok (.iconst 0, 1) := zo_3 (zi_at zh_dX13_draw_0_0 11 rfl)
theorem dX13_draw_12 : decode cX13_draw 12 = .ok (.istore 6, 2) := zo_54 (zi_at zh_dX13_draw_0_0 12 rfl) (zi_at zh_dX13_draw_0_0 13 rfl)
theorem dX13_draw_14 : decode cX13_draw 14 = .ok (.iload 6, 2) := zo_21 (zi_at zh_dX13_draw_0_0 14 rfl) (zi_at zh_dX13_draw_0_0 15 rfl)
theorem dX13_draw_16 : decode cX13_draw 16 = .ok (.aload_n 0, 1) := zo_42 (zi_at zh_dX13_draw_16_16 0 rfl)
theorem dX13_draw_17 : decode cX13_draw 17 = .ok (.getfield 239, 3) := zo_180 (zi_at zh_dX13_draw_16_16 1 rfl) (zi_at zh_dX13_draw_16_16 2 rfl) (zi_at zh_dX13_draw_16_16 3 rfl) rfl
theorem dX13_draw_20 : decode cX13_draw 20 = .ok (.if_icmp .ge 146, 3) := zo_162 (zi_at zh_dX13_draw_16_16 4 rfl) (zi_at zh_dX13_draw_16_16 5 rfl) (zi_at zh_dX13_draw_16_16 6 rfl) rfl
theorem dX13_draw_23 : decode cX13_draw 23 = .ok (.iconst 0, 1) := zo_3 (zi_at zh_dX13_draw_16_16 7 rfl)
theorem dX13_draw_24 : decode cX13_draw 24 = .ok (.istore 7, 2) := zo_54 (zi_at zh_dX13_draw_16_16 8 rfl) (zi_at zh_dX13_draw_16_16 9 rfl)
theorem dX13_draw_26 : decode cX13_draw 26 = .ok (.iconst 0, 1) := zo_3 (zi_at zh_dX13_draw_16_16 10 rfl)
theorem dX13_draw_27 : decode cX13_draw 27 = .ok (.istore 8, 2) := zo_54 (zi_at zh_dX13_draw_16_16 11 rfl) (zi_at zh_dX13_draw_16_16 12 rfl)
theorem dX13_draw_29 : decode cX13_draw 29 = .ok (.iload 8, 2) := zo_21 (zi_at zh_dX13_draw_16_16 13 rfl) (zi_at zh_dX13_draw_16_16 14 rfl)
theorem dX13_draw_31 : decode cX13_draw 31 = .ok (.aload_n 0, 1) := zo_42 (zi_at zh_dX13_draw_16_16 15 rfl)
theorem dX13_draw_32 : decode cX13_draw 32 = .ok (.getfield 242, 3) := zo_180 (zi_at zh_dX13_draw_32_32 0 rfl) (zi_at zh_dX13_draw_32_32 1 rfl) (zi_at zh_dX13_draw_32_32 2 rfl) rfl
theorem dX13_draw_35 : decode cX13_draw 35 = .ok (.if_icmp .ge 33, 3) := zo_162 (zi_at zh_dX13_draw_32_32 3 rfl) (zi_at zh_dX13_draw_32_32 4 rfl) (zi_at zh_dX13_draw_32_32 5 rfl) rfl
theorem dX13_draw_38 : decode cX13_draw 38 = .ok (.iload 7, 2) := zo_21 (zi_at zh_dX13_draw_32_32 6 rfl) (zi_at zh_dX13_draw_32_32 7 rfl)
theorem dX13_draw_40 : decode cX13_draw 40 = .ok (.ifCond .ne 15, 3) := zo_154 (zi_at zh_dX13_draw_32_32 8 rfl) (zi_at zh_dX13_draw_32_32 9 rfl) (zi_at zh_dX13_draw_32_32 10 rfl) rfl
theorem dX13_draw_43 : decode cX13_draw 43 = .ok (.aload_n 0, 1) := zo_42 (zi_at zh_dX13_draw_32_32 11 rfl)
theorem dX13_draw_44 : decode cX13_draw 44 = .ok (.getfield 9, 3) := zo_180 (zi_at zh_dX13_draw_32_32 12 rfl) (zi_at zh_dX13_draw_32_32 13 rfl) (zi_at zh_dX13_draw_32_32 14 rfl) rfl
theorem dX13_draw_47 : decode cX13_draw 47 = .ok (.iload 8, 2) := zo_21 (zi_at zh_dX13_draw_32_32 15 rfl) (zi_at zh_dX13_draw_47_48 0 rfl)
theorem dX13_draw_49 : decode cX13_draw 49 = .ok (.iaload, 1) := zo_46 (zi_at zh_dX13_draw_47_48 1 rfl)
theorem dX13_draw_50 : decode cX13_draw 50 = .ok (.iload 6, 2) := zo_21 (zi_at zh_dX13_draw_47_48 2 rfl) (zi_at zh_dX13_draw_47_48 3 rfl)
theorem dX13_draw_52 : decode cX13_draw 52 = .ok (.if_icmp .ne 7, 3) := zo_160 (zi_at zh_dX13_draw_47_48 4 rfl) (zi_at zh_dX13_draw_47_48 5 rfl) (zi_at zh_dX13_draw_47_48 6 rfl) rfl
theorem dX13_draw_55 : decode cX13_draw 55 = .ok (.iconst 1, 1) := zo_4 (zi_at zh_dX13_draw_47_48 7 rfl)
theorem dX13_draw_56 : decode cX13_draw 56 = .ok (.goto 4, 3) := zo_167 (zi_at zh_dX13_draw_47_48 8 rfl) (zi_at zh_dX13_draw_47_48 9 rfl) (zi_at zh_dX13_draw_47_48 10 rfl) rfl
theorem dX13_draw_59 : decode cX13_draw 59 = .ok (.iconst 0, 1) := zo_3 (zi_at zh_dX13_draw_47_48 11 rfl)
theorem dX13_draw_60 : decode cX13_draw 60 = .ok (.istore 7, 2) := zo_54 (zi_at zh_dX13_draw_47_48 12 rfl) (zi_at zh_dX13_draw_47_48 13 rfl)
theorem dX13_draw_62 : decode cX13_draw 62 = .ok (.iinc 8 1, 3) := zo_132 (zi_at zh_dX13_draw_47_48 14 rfl) (zi_at zh_dX13_draw_47_48 15 rfl) (zi_at zh_dX13_draw_62_64 0 rfl) rfl
theorem dX13_draw_65 : decode cX13_draw 65 = .ok (.goto (-36), 3) := zo_167 (zi_at zh_dX13_draw_62_64 1 rfl) (zi_at zh_dX13_draw_62_64 2 rfl) (zi_at zh_dX13_draw_62_64 3 rfl) rfl
theorem dX13_draw_68 : decode cX13_draw 68 = .ok (.iload 7, 2) := zo_21 (zi_at zh_dX13_draw_62_64 4 rfl) (zi_at zh_dX13_draw_62_64 5 rfl)
theorem dX13_draw_70 : decode cX13_draw 70 = .ok (.ifCond .eq 12, 3) := zo_153 (zi_at zh_dX13_draw_62_64 6 rfl) (zi_at zh_dX13_draw_62_64 7 rfl) (zi_at zh_dX13_draw_62_64 8 rfl) rfl
theorem dX13_draw_73 : decode cX13_draw 73 = .ok (.aload_n 0, 1) := zo_42 (zi_at zh_dX13_draw_62_64 9 rfl)
theorem dX13_draw_74 : decode cX13_draw 74 = .ok (.iload 6, 2) := zo_21 (zi_at zh_dX13_draw_62_64 10 rfl) (zi_at zh_dX13_draw_62_64 11 rfl)
theorem dX13_draw_76 : decode cX13_draw 76 = .ok (.invokevirtual 531, 3) := zo_182 (zi_at zh_dX13_draw_62_64 12 rfl) (zi_at zh_dX13_draw_62_64 13 rfl) (zi_at zh_dX13_draw_62_64 14 rfl) rfl
theorem dX13_draw_79 : decode cX13_draw 79 = .ok (.goto 4, 3) := zo_167 (zi_at zh_dX13_draw_62_64 15 rfl) (zi_at zh_dX13_draw_79_80 0 rfl) (zi_at zh_dX13_draw_79_80 1 rfl) rfl
theorem dX13_draw_82 : decode cX13_draw 82 = .ok (.iconst (-1), 1) := zo_2 (zi_at zh_dX13_draw_79_80 2 rfl)
theorem dX13_draw_83 : decode cX13_draw 83 = .ok (.istore 8, 2) := zo_54 (zi_at zh_dX13_draw_79_80 3 rfl) (zi_at zh_dX13_draw_79_80 4 rfl)
theorem dX13_draw_85 : decode cX13_draw 85 = .ok (.aload_n 0, 1) := zo_42 (zi_at zh_dX13_draw_79_80 5 rfl)
theorem dX13_draw_86 : decode cX13_draw 86 = .ok (.getfield 225, 3) := zo_180 (zi_at zh_dX13_draw_79_80 6 rfl) (zi_at zh_dX13_draw_79_80 7 rfl) (zi_at zh_dX13_draw_79_80 8 rfl) rfl
theorem dX13_draw_89 : decode cX13_draw 89 = .ok (.iload 6, 2) := zo_21 (zi_at zh_dX13_draw_79_80 9 rfl) (zi_at zh_dX13_draw_79_80 10 rfl)
theorem dX13_draw_91 : decode cX13_draw 91 = .ok (.iload 7, 2) := zo_21 (zi_at zh_dX13_draw_79_80 11 rfl) (zi_at zh_dX13_draw_79_80 12 rfl)
theorem dX13_draw_93 : decode cX13_draw 93 = .ok (.ifCond .ne 7, 3) := zo_154 (zi_at zh_dX13_draw_79_80 13 rfl) (zi_at zh_dX13_draw_79_80 14 rfl) (zi_at zh_dX13_draw_79_80 15 rfl) rfl
theorem dX13_draw_96 : decode cX13_draw 96 = .ok (.iconst 0, 1) := zo_3 (zi_at zh_dX13_draw_96_96 0 rfl)
theorem dX13_draw_97 : decode cX13_draw 97 = .ok (.goto 35, 3) := zo_167 (zi_at zh_dX13_draw_96_96 1 rfl) (zi_at zh_dX13_draw_96_96 2 rfl) (zi_at zh_dX13_draw_96_96 3 rfl) rfl
theorem dX13_draw_100 : decode cX13_draw 100 = .ok (.iload 8, 2) := zo_21 (zi_at zh_dX13_draw_96_96 4 rfl) (zi_at zh_dX13_draw_96_96 5 rfl)
theorem dX13_draw_102 : decode cX13_draw 102 = .ok (.iconst (-1), 1) := zo_2 (zi_at zh_dX13_draw_96_96 6 rfl)
theorem dX13_draw_103 : decode cX13_draw 103 = .ok (.if_icmp .ne 7, 3) := zo_160 (zi_at zh_dX13_draw_96_96 7 rfl) (zi_at zh_dX13_draw_96_96 8 rfl) (zi_at zh_dX13_draw_96_96 9 rfl) rfl
theorem dX13_draw_106 : decode cX13_draw 106 = .ok (.iconst 1, 1) := zo_4 (zi_at zh_dX13_draw_96_96 10 rfl)
theorem dX13_draw_107 : decode cX13_draw 107 = .ok (.goto 25, 3) := zo_167 (zi_at zh_dX13_draw_96_96 11 rfl) (zi_at zh_dX13_draw_96_96 12 rfl) (zi_at zh_dX13_draw_96_96 13 rfl) rfl
theorem dX13_draw_110 : decode cX13_draw 110 = .ok (.iconst 1, 1) := zo_4 (zi_at zh_dX13_draw_96_96 14 rfl)
theorem dX13_draw_111 : decode cX13_draw 111 = .ok (.iload 8, 2) := zo_21 (zi_at zh_dX13_draw_96_96 15 rfl) (zi_at zh_dX13_draw_111_112 0 rfl)
theorem dX13_draw_113 : decode cX13_draw 113 = .ok (.aload_n 0, 1) := zo_42 (zi_at zh_dX13_draw_111_112 1 rfl)
theorem dX13_draw_114 : decode cX13_draw 114 = .ok (.iload 6, 2) := zo_21 (zi_at zh_dX13_draw_111_112 2 rfl) (zi_at zh_dX13_draw_111_112 3 rfl)
theorem dX13_draw_116 : decode cX13_draw 116 = .ok (.aload_n 0, 1) := zo_42 (zi_at zh_dX13_draw_111_112 4 rfl)
theorem dX13_draw_117 : decode cX13_draw 117 = .ok (.getfield 232, 3) := zo_180 (zi_at zh_dX13_draw_111_112 5 rfl) (zi_at zh_dX13_draw_111_112 6 rfl) (zi_at zh_dX13_draw_111_112 7 rfl) rfl
theorem dX13_draw_120 : decode cX13_draw 120 = .ok (.aload_n 0, 1) := zo_42 (zi_at zh_dX13_draw_111_112 8 rfl)
theorem dX13_draw_121 : decode cX13_draw 121 = .ok (.getfield 232, 3) := zo_180 (zi_at zh_dX13_draw_111_112 9 rfl) (zi_at zh_dX13_draw_111_112 10 rfl) (zi_at zh_dX13_draw_111_112 11 rfl) rfl
theorem dX13_draw_124 : decode cX13_draw 124 = .ok (.invokevirtual 387, 3) := zo_182 (zi_at zh_dX13_draw_111_112 12 rfl) (zi_at zh_dX13_draw_111_112 13 rfl) (zi_at zh_dX13_draw_111_112 14 rfl) rfl
theorem dX13_draw_127 : decode cX13_draw 127 = .ok (.isub, 1) := zo_100 (zi_at zh_dX13_draw_111_112 15 rfl)
theorem dX13_draw_128 : decode cX13_draw 128 = .ok (.invokestatic 474, 3) := zo_184 (zi_at zh_dX13_draw_128_128 0 rfl) (zi_at zh_dX13_draw_128_128 1 rfl) (zi_at zh_dX13_draw_128_128 2 rfl) rfl
theorem dX13_draw_131 : decode cX13_draw 131 = .ok (.iadd, 1) := zo_96 (zi_at zh_dX13_draw_128_128 3 rfl)
theorem dX13_draw_132 : decode cX13_draw 132 = .ok (.iastore, 1) := zo_79 (zi_at zh_dX13_draw_128_128 4 rfl)
theorem dX13_draw_133 : decode cX13_draw 133 = .ok (.iload 4, 2) := zo_21 (zi_at zh_dX13_draw_128_128 5 rfl) (zi_at zh_dX13_draw_128_128 6 rfl)
theorem dX13_draw_135 : decode cX13_draw 135 = .ok (.aload_n 0, 1) := zo_42 (zi_at zh_dX13_draw_128_128 7 rfl)
theorem dX13_draw_136 : decode cX13_draw 136 = .ok (.getfield 225, 3) := zo_180 (zi_at zh_dX13_draw_128_128 8 rfl) (zi_at zh_dX13_draw_128_128 9 rfl) (zi_at zh_dX13_draw_128_128 10 rfl) rfl
theorem dX13_draw_139 : decode cX13_draw 139 = .ok (.iload 6, 2) := zo_21 (zi_at zh_dX13_draw_128_128 11 rfl) (zi_at zh_dX13_draw_128_128 12 rfl)
theorem dX13_draw_141 : decode cX13_draw 141 = .ok (.iaload, 1) := zo_46 (zi_at zh_dX13_draw_128_128 13 rfl)
theorem dX13_draw_142 : decode cX13_draw 142 = .ok (.iadd, 1) := zo_96 (zi_at zh_dX13_draw_128_128 14 rfl)
theorem dX13_draw_143 : decode cX13_draw 143 = .ok (.istore 4, 2) := zo_54 (zi_at zh_dX13_draw_128_128 15 rfl) (zi_at zh_dX13_draw_143_144 0 rfl)
theorem dX13_draw_145 : decode cX13_draw 145 = .ok (.iload 5, 2) := zo_21 (zi_at zh_dX13_draw_143_144 1 rfl) (zi_at zh_dX13_draw_143_144 2 rfl)
theorem dX13_draw_147 : decode cX13_draw 147 = .ok (.iload 7, 2) := zo_21 (zi_at zh_dX13_draw_143_144 3 rfl) (zi_at zh_dX13_draw_143_144 4 rfl)
theorem dX13_draw_149 : decode cX13_draw 149 = .ok (.ifCond .eq 7, 3) := zo_153 (zi_at zh_dX13_draw_143_144 5 rfl) (zi_at zh_dX13_draw_143_144 6 rfl) (zi_at zh_dX13_draw_143_144 7 rfl) rfl
theorem dX13_draw_152 : decode cX13_draw 152 = .ok (.iconst 1, 1) := zo_4 (zi_at zh_dX13_draw_143_144 8 rfl)
theorem dX13_draw_153 : decode cX13_draw 153 = .ok (.goto 4, 3) := zo_167 (zi_at zh_dX13_draw_143_144 9 rfl) (zi_at zh_dX13_draw_143_144 10 rfl) (zi_at zh_dX13_draw_143_144 11 rfl) rfl
theorem dX13_draw_156 : decode cX13_draw 156 = .ok (.iconst 0, 1) := zo_3 (zi_at zh_dX13_draw_143_144 12 rfl)
theorem dX13_draw_157 : decode cX13_draw 157 = .ok (.iadd, 1) := zo_96 (zi_at zh_dX13_draw_143_144 13 rfl)
theorem dX13_draw_158 : decode cX13_draw 158 = .ok (.istore 5, 2) := zo_54 (zi_at zh_dX13_draw_143_144 14 rfl) (zi_at zh_dX13_draw_143_144 15 rfl)
theorem dX13_draw_160 : decode cX13_draw 160 = .ok (.iinc 6 1, 3) := zo_132 (zi_at zh_dX13_draw_160_160 0 rfl) (zi_at zh_dX13_draw_160_160 1 rfl) (zi_at zh_dX13_draw_160_160 2 rfl) rfl
theorem dX13_draw_163 : decode cX13_draw 163 = .ok (.goto (-149), 3) := zo_167 (zi_at zh_dX13_draw_160_160 3 rfl) (zi_at zh_dX13_draw_160_160 4 rfl) (zi_at zh_dX13_draw_160_160 5 rfl) rfl
theorem dX13_draw_166 : decode cX13_draw 166 = .ok (.iload_n 1, 1) := zo_27 (zi_at zh_dX13_draw_160_160 6 rfl)
theorem dX13_draw_167 : decode cX13_draw 167 = .ok (.iconst 1, 1) := zo_4 (zi_at zh_dX13_draw_160_160 7 rfl)
theorem dX13_draw_168 : decode cX13_draw 168 = .ok (.if_icmp .lt 9, 3) := zo_161 (zi_at zh_dX13_draw_160_160 8 rfl) (zi_at zh_dX13_draw_160_160 9 rfl) (zi_at zh_dX13_draw_160_160 10 rfl) rfl
theorem dX13_draw_171 : decode cX13_draw 171 = .ok (.iload_n 1, 1) := zo_27 (zi_at zh_dX13_draw_160_160 11 rfl)
theorem dX13_draw_172 : decode cX13_draw 172 = .ok (.iload 5, 2) := zo_21 (zi_at zh_dX13_draw_160_160 12 rfl) (zi_at zh_dX13_draw_160_160 13 rfl)
theorem dX13_draw_174 : decode cX13_draw 174 = .ok (.if_icmp .le 5, 3) := zo_164 (zi_at zh_dX13_draw_160_160 14 rfl) (zi_at zh_dX13_draw_160_160 15 rfl) (zi_at zh_dX13_draw_174_176 0 rfl) rfl
theorem dX13_draw_177 : decode cX13_draw 177 = .ok (.iconst (-1), 1) := zo_2 (zi_at zh_dX13_draw_174_176 1 rfl)
theorem dX13_draw_178 : decode cX13_draw 178 = .ok (.ireturn, 1) := zo_172 (zi_at zh_dX13_draw_174_176 2 rfl)
theorem dX13_draw_179 : decode cX13_draw 179 = .ok (.lload_n 2, 1) := zo_32 (zi_at zh_dX13_draw_174_176 3 rfl)
theorem dX13_draw_180 : decode cX13_draw 180 = .ok (.lstore 6, 2) := zo_55 (zi_at zh_dX13_draw_174_176 4 rfl) (zi_at zh_dX13_draw_174_176 5 rfl)
theorem dX13_draw_182 : decode cX13_draw 182 = .ok (.iconst 0, 1) := zo_3 (zi_at zh_dX13_draw_174_176 6 rfl)
theorem dX13_draw_183 : decode cX13_draw 183 = .ok (.istore 8, 2) := zo_54 (zi_at zh_dX13_draw_174_176 7 rfl) (zi_at zh_dX13_draw_174_176 8 rfl)
theorem dX13_draw_185 : decode cX13_draw 185 = .ok (.iconst 0, 1) := zo_3 (zi_at zh_dX13_draw_174_176 9 rfl)
theorem dX13_draw_186 : decode cX13_draw 186 = .ok (.istore 9, 2) := zo_54 (zi_at zh_dX13_draw_174_176 10 rfl) (zi_at zh_dX13_draw_174_176 11 rfl)
theorem dX13_draw_188 : decode cX13_draw 188 = .ok (.iload 9, 2) := zo_21 (zi_at zh_dX13_draw_174_176 12 rfl) (zi_at zh_dX13_draw_174_176 13 rfl)
theorem dX13_draw_190 : decode cX13_draw 190 = .ok (.iload_n 1, 1) := zo_27 (zi_at zh_dX13_draw_174_176 14 rfl)
theorem dX13_draw_191 : decode cX13_draw 191 = .ok (.if_icmp .ge 95, 3) := zo_162 (zi_at zh_dX13_draw_174_176 15 rfl) (zi_at zh_dX13_draw_191_192 0 rfl) (zi_at zh_dX13_draw_191_192 1 rfl) rfl
theorem dX13_draw_194 : decode cX13_draw 194 = .ok (.lload 6, 2) := zo_22 (zi_at zh_dX13_draw_191_192 2 rfl) (zi_at zh_dX13_draw_191_192 3 rfl)
theorem dX13_draw_196 : decode cX13_draw 196 = .ok (.ldc2_w 542, 3) := zo_20 (zi_at zh_dX13_draw_191_192 4 rfl) (zi_at zh_dX13_draw_191_192 5 rfl) (zi_at zh_dX13_draw_191_192 6 rfl) rfl
theorem dX13_draw_199 : decode cX13_draw 199 = .ok (.lmul, 1) := zo_105 (zi_at zh_dX13_draw_191_192 7 rfl)
theorem dX13_draw_200 : decode cX13_draw 200 = .ok (.ldc2_w 544, 3) := zo_20 (zi_at zh_dX13_draw_191_192 8 rfl) (zi_at zh_dX13_draw_191_192 9 rfl) (zi_at zh_dX13_draw_191_192 10 rfl) rfl
theorem dX13_draw_203 : decode cX13_draw 203 = .ok (.ladd, 1) := zo_97 (zi_at zh_dX13_draw_191_192 11 rfl)
theorem dX13_draw_204 : decode cX13_draw 204 = .ok (.lstore 6, 2) := zo_55 (zi_at zh_dX13_draw_191_192 12 rfl) (zi_at zh_dX13_draw_191_192 13 rfl)
theorem dX13_draw_206 : decode cX13_draw 206 = .ok (.lload 6, 2) := zo_22 (zi_at zh_dX13_draw_191_192 14 rfl) (zi_at zh_dX13_draw_191_192 15 rfl)
theorem dX13_draw_208 : decode cX13_draw 208 = .ok (.bipush 33, 2) := zo_16 (zi_at zh_dX13_draw_208_208 0 rfl) (zi_at zh_dX13_draw_208_208 1 rfl) rfl
theorem dX13_draw_210 : decode cX13_draw 210 = .ok (.lushr, 1) := zo_125 (zi_at zh_dX13_draw_208_208 2 rfl)
theorem dX13_draw_211 : decode cX13_draw 211 = .ok (.iload 4, 2) := zo_21 (zi_at zh_dX13_draw_208_208 3 rfl) (zi_at zh_dX13_draw_208_208 4 rfl)
theorem dX13_draw_213 : decode cX13_draw 213 = .ok (.i2l, 1) := zo_133 (zi_at zh_dX13_draw_208_208 5 rfl)
theorem dX13_draw_214 : decode cX13_draw 214 = .ok (.lrem, 1) := zo_113 (zi_at zh_dX13_draw_208_208 6 rfl)
theorem dX13_draw_215 : decode cX13_draw 215 = .ok (.l2i, 1) := zo_136 (zi_at zh_dX13_draw_208_208 7 rfl)
theorem dX13_draw_216 : decode cX13_draw 216 = .ok (.istore 10, 2) := zo_54 (zi_at zh_dX13_draw_208_208 8 rfl) (zi_at zh_dX13_draw_208_208 9 rfl)
theorem dX13_draw_218 : decode cX13_draw 218 = .ok (.iconst 0, 1) := zo_3 (zi_at zh_dX13_draw_208_208 10 rfl)
theorem dX13_draw_219 : decode cX13_draw 219 = .ok (.istore 11, 2) := zo_54 (zi_at zh_dX13_draw_208_208 11 rfl) (zi_at zh_dX13_draw_208_208 12 rfl)
theorem dX13_draw_221 : decode cX13_draw 221 = .ok (.iload 10, 2) := zo_21 (zi_at zh_dX13_draw_208_208 13 rfl) (zi_at zh_dX13_draw_208_208 14 rfl)
theorem dX13_draw_223 : decode cX13_draw 223 = .ok (.aload_n 0, 1) := zo_42 (zi_at zh_dX13_draw_208_208 15 rfl)
theorem dX13_draw_224 : decode cX13_draw 224 = .ok (.getfield 225, 3) := zo_180 (zi_at zh_dX13_draw_224_224 0 rfl) (zi_at zh_dX13_draw_224_224 1 rfl) (zi_at zh_dX13_draw_224_224 2 rfl) rfl
theorem dX13_draw_227 : decode cX13_draw 227 = .ok (.iload 11, 2) := zo_21 (zi_at zh_dX13_draw_224_224 3 rfl) (zi_at zh_dX13_draw_224_224 4 rfl)
theorem dX13_draw_229 : decode cX13_draw 229 = .ok (.iaload, 1) := zo_46 (zi_at zh_dX13_draw_224_224 5 rfl)
theorem dX13_draw_230 : decode cX13_draw 230 = .ok (.if_icmp .lt 21, 3) := zo_161 (zi_at zh_dX13_draw_224_224 6 rfl) (zi_at zh_dX13_draw_224_224 7 rfl) (zi_at zh_dX13_draw_224_224 8 rfl) rfl
theorem dX13_draw_233 : decode cX13_draw 233 = .ok (.iload 10, 2) := zo_21 (zi_at zh_dX13_draw_224_224 9 rfl) (zi_at zh_dX13_draw_224_224 10 rfl)
theorem dX13_draw_235 : decode cX13_draw 235 = .ok (.aload_n 0, 1) := zo_42 (zi_at zh_dX13_draw_224_224 11 rfl)
theorem dX13_draw_236 : decode cX13_draw 236 = .ok (.getfield 225, 3) := zo_180 (zi_at zh_dX13_draw_224_224 12 rfl) (zi_at zh_dX13_draw_224_224 13 rfl) (zi_at zh_dX13_draw_224_224 14 rfl) rfl
theorem dX13_draw_239 : decode cX13_draw 239 = .ok (.iload 11, 2) := zo_21 (zi_at zh_dX13_draw_224_224 15 rfl) (zi_at zh_dX13_draw_239_240 0 rfl)
theorem dX13_draw_241 : decode cX13_draw 241 = .ok (.iaload, 1) := zo_46 (zi_at zh_dX13_draw_239_240 1 rfl)
theorem dX13_draw_242 : decode cX13_draw 242 = .ok (.isub, 1) := zo_100 (zi_at zh_dX13_draw_239_240 2 rfl)
theorem dX13_draw_243 : decode cX13_draw 243 = .ok (.istore 10, 2) := zo_54 (zi_at zh_dX13_draw_239_240 3 rfl) (zi_at zh_dX13_draw_239_240 4 rfl)
theorem dX13_draw_245 : decode cX13_draw 245 = .ok (.iinc 11 1, 3) := zo_132 (zi_at zh_dX13_draw_239_240 5 rfl) (zi_at zh_dX13_draw_239_240 6 rfl) (zi_at zh_dX13_draw_239_240 7 rfl) rfl
theorem dX13_draw_248 : decode cX13_draw 248 = .ok (.goto (-27), 3) := zo_167 (zi_at zh_dX13_draw_239_240 8 rfl) (zi_at zh_dX13_draw_239_240 9 rfl) (zi_at zh_dX13_draw_239_240 10 rfl) rfl
theorem dX13_draw_251 : decode cX13_draw 251 = .ok (.iload 8, 2) := zo_21 (zi_at zh_dX13_draw_239_240 11 rfl) (zi_at zh_dX13_draw_239_240 12 rfl)
theorem dX13_draw_253 : decode cX13_draw 253 = .ok (.iconst 1, 1) := zo_4 (zi_at zh_dX13_draw_239_240 13 rfl)
theorem dX13_draw_254 : decode cX13_draw 254 = .ok (.iload 11, 2) := zo_21 (zi_at zh_dX13_draw_239_240 14 rfl) (zi_at zh_dX13_draw_239_240 15 rfl)
theorem dX13_draw_256 : decode cX13_draw 256 = .ok (.ishl, 1) := zo_120 (zi_at zh_dX13_draw_256_256 0 rfl)
theorem dX13_draw_257 : decode cX13_draw 257 = .ok (.ior, 1) := zo_128 (zi_at zh_dX13_draw_256_256 1 rfl)
theorem dX13_draw_258 : decode cX13_draw 258 = .ok (.istore 8, 2) := zo_54 (zi_at zh_dX13_draw_256_256 2 rfl) (zi_at zh_dX13_draw_256_256 3 rfl)
theorem dX13_draw_260 : decode cX13_draw 260 = .ok (.iload 4, 2) := zo_21 (zi_at zh_dX13_draw_256_256 4 rfl) (zi_at zh_dX13_draw_256_256 5 rfl)
theorem dX13_draw_262 : decode cX13_draw 262 = .ok (.aload_n 0, 1) := zo_42 (zi_at zh_dX13_draw_256_256 6 rfl)
theorem dX13_draw_263 : decode cX13_draw 263 = .ok (.getfield 225, 3) := zo_180 (zi_at zh_dX13_draw_256_256 7 rfl) (zi_at zh_dX13_draw_256_256 8 rfl) (zi_at zh_dX13_draw_256_256 9 rfl) rfl
theorem dX13_draw_266 : decode cX13_draw 266 = .ok (.iload 11, 2) := zo_21 (zi_at zh_dX13_draw_256_256 10 rfl) (zi_at zh_dX13_draw_256_256 11 rfl)
theorem dX13_draw_268 : decode cX13_draw 268 = .ok (.iaload, 1) := zo_46 (zi_at zh_dX13_draw_256_256 12 rfl)
theorem dX13_draw_269 : decode cX13_draw 269 = .ok (.isub, 1) := zo_100 (zi_at zh_dX13_draw_256_256 13 rfl)
theorem dX13_draw_270 : decode cX13_draw 270 = .ok (.istore 4, 2) := zo_54 (zi_at zh_dX13_draw_256_256 14 rfl) (zi_at zh_dX13_draw_256_256 15 rfl)
theorem dX13_draw_272 : decode cX13_draw 272 = .ok (.aload_n 0, 1) := zo_42 (zi_at zh_dX13_draw_272_272 0 rfl)
theorem dX13_draw_273 : decode cX13_draw 273 = .ok (.getfield 225, 3) := zo_180 (zi_at zh_dX13_draw_272_272 1 rfl) (zi_at zh_dX13_draw_272_272 2 rfl) (zi_at zh_dX13_draw_272_272 3 rfl) rfl
theorem dX13_draw_276 : decode cX13_draw 276 = .ok (.iload 11, 2) := zo_21 (zi_at zh_dX13_draw_272_272 4 rfl) (zi_at zh_dX13_draw_272_272 5 rfl)
theorem dX13_draw_278 : decode cX13_draw 278 = .ok (.iconst 0, 1) := zo_3 (zi_at zh_dX13_draw_272_272 6 rfl)
theorem dX13_draw_279 : decode cX13_draw 279 = .ok (.iastore, 1) := zo_79 (zi_at zh_dX13_draw_272_272 7 rfl)
theorem dX13_draw_280 : decode cX13_draw 280 = .ok (.iinc 9 1, 3) := zo_132 (zi_at zh_dX13_draw_272_272 8 rfl) (zi_at zh_dX13_draw_272_272 9 rfl) (zi_at zh_dX13_draw_272_272 10 rfl) rfl
theorem dX13_draw_283 : decode cX13_draw 283 = .ok (.goto (-95), 3) := zo_167 (zi_at zh_dX13_draw_272_272 11 rfl) (zi_at zh_dX13_draw_272_272 12 rfl) (zi_at zh_dX13_draw_272_272 13 rfl) rfl
theorem dX13_draw_286 : decode cX13_draw 286 = .ok (.iload 8, 2) := zo_21 (zi_at zh_dX13_draw_272_272 14 rfl) (zi_at zh_dX13_draw_272_272 15 rfl)
theorem dX13_draw_288 : decode cX13_draw 288 = .ok (.ireturn, 1) := zo_172 (zi_at zh_dX13_draw_288_288 0 rfl)

def v_drawM : List Cond := .code yX13_draw cX13_draw 12 (some .int) :: vA
abbrev rm_drawM : Room := { frames := 75, cells := 0, slots := 0, locals := 3000 }
def w_drawM : Nat → Nat → Bool := wl [12, 66, 67, 68, 71] [(0, 0), (0, 18), (0, 19), (0, 20), (0, 21), (0, 22), (0, 23), (0, 24), (0, 25), (0, 26)]
set_option maxHeartbeats 4000000 in
set_option maxRecDepth 100000 in
theorem q_drawM (l : Launch) (dC : Nat → ClassId) (dI : Nat → Nat → Nat) (cT : Nat → ClassId) (ad : Nat → Nat) (E : Nat → va_E) (sz : Nat) (a0 : Int32) (a1 : Int64) (hI0 : IX cT shM spM 72 ad E) (hh0 : TXM E) : Met l yX13_draw v_drawM rm_drawM (va_Pc [.ref (ad 0), .int a0, .long a1] (HW dC dI (TYM cT) 72 ad E sz)) (va_Qi (S := Nat → va_E) (fun r u => IX cT shM spM 72 ad u ∧ Kp w_drawM E u ∧ ((DwR (cxM E) (WdM E (xi (E 0) 1)) (xi (E 0) 8).toNatClampNeg a0.toInt a1 r))) (HB dC dI 72 ad) (va_A (WX 72 ad E) sz)) 0 0 (va_A (WX 72 ad E) sz) := by
  refine Met.ofW (cc := cX13_draw) (maxL := 12) (ret := (some .int)) (by decide) rfl ?_
  intro p e s m args below meth c s₁ B hml hv
  obtain ⟨hargs, hsz, hP, hK, hD0, hEV⟩ := hv
  subst hsz
  have hx := B.exec
  have hb := B.bytes
  have hr := B.returns
  have hts := atoms_spec (ws := v_drawM) B.pre
  have hown : s.vm.findClass RX13 = some m.cls := findClass_of_methodNamed B.named
  have hlocks := B.notSynchronized
  have hinX13 : ∀ w ∈ u_ws RX13 TX13 97, w ∈ v_drawM := fun w h => vA_in _ w (in_X13 w h)
  generalize hAe : va_A (WX 72 ad E) s.heap.size = A at hEV ⊢
  have hA : ∀ q : Nat, s.heap.size ≤ q → A q := fun q h => by rw [← hAe]; exact Or.inr h
  have hD : va_D A (WX 72 ad E) := by rw [← hAe]; exact hD0.self
  have hS : va_S A s.heap s.heap [] := va_S.rf
  have hI := hI0
  have hKp : Kp w_drawM E E := Kp.rf
  have hl := lv_entry ([.ref (ad 0), .int a0, .long a1]) (n := 12) (Nat.le_of_ble_eq_true rfl)
  obtain ⟨Q, hQ⟩ : ∃ Q, Q = MQ below (va_Qi (S := Nat → va_E) (fun r u => IX cT shM spM 72 ad u ∧ Kp w_drawM E u ∧ ((DwR (cxM E) (WdM E (xi (E 0) 1)) (xi (E 0) 8).toNatClampNeg a0.toInt a1 r))) (HB dC dI 72 ad) (A)) args s 0 0 (A) := ⟨_, rfl⟩
  rw [← hQ, show entryFrame m args 12 = _ from (congrArg (fun z => entryFrame m z 12) hargs).trans (lg_entry_eq _ _ _)]
  generalize (lg_sl ([.ref (ad 0), .int a0, .long a1]) ++ List.replicate (12 - (lg_sl ([.ref (ad 0), .int a0, .long a1])).length) Slot.unset).toArray = ls at hl ⊢
  have hl : lv_has ls 12 [(0, .ref (ad 0)), (1, .int a0), (2, .long a1)] := hl
  obtain ⟨g1, hg1⟩ : ∃ g, xi (E 71) = g := ⟨_, rfl⟩
  have z0z : (0 : Int32).toInt = 0 := rfl
  have ib8 : 0 ≤ (xi (E 0) 8).toInt ∧ (xi (E 0) 8).toInt ≤ 16 := hI0.iv 0 (Nat.le_of_ble_eq_true rfl) rfl (Nat.le_of_ble_eq_true rfl) rfl
  have ib9 : 0 ≤ (xi (E 0) 9).toInt ∧ (xi (E 0) 9).toInt ≤ 80 := hI0.iv 0 (Nat.le_of_ble_eq_true rfl) rfl (Nat.le_of_ble_eq_true rfl) rfl
  have z0 := ln_0
  have z1 := ln_1
  have zm1 := ln_m1
  refine lv_aload_n hx hb dX13_draw_0 rfl (lv_at hl 0 rfl) ?_
  refine lv_iconst (v := 0) hx hb dX13_draw_1 (by decide) ?_
  refine th_put (ci := 14) (C := RX13) (T := TX13) (N := 97) (v := .int 0) (ty := .int) hx hb hts hinX13 tyX13 tyX13_ok nmX13 hown hK hP (WX_D hD) hS hI 0 (Nat.le_of_ble_eq_true rfl) rfl rfl 0 (Nat.le_of_ble_eq_true rfl) (hts _ (vA_in _ _ (in_24 _ (zs4 (zs4 (zs1 (zs1 (zs0)))))))) (fun _ h9 => h9) rfl (by decide +kernel) rfl rfl (okI rfl (iv_w ln_0 (by decide))) dX13_draw_2 (fun H locs E2 pw3 hI hP hS => ?_)
  have hKp := hKp.pw pw3 rfl
  refine lv_iconst (v := 0) hx hb dX13_draw_5 (by decide) ?_
  refine lv_istore (lv' := [(4, .int 0), (0, .ref (ad 0)), (1, .int a0), (2, .long a1)]) hx hb dX13_draw_6 hl (by decide) rfl (fun ls hl => ?_)
  refine lv_iconst (v := 0) hx hb dX13_draw_8 (by decide) ?_
  refine lv_istore (lv' := [(5, .int 0), (4, .int 0), (0, .ref (ad 0)), (1, .int a0), (2, .long a1)]) hx hb dX13_draw_9 hl (by decide) rfl (fun ls hl => ?_)
  refine lv_iconst (v := 0) hx hb dX13_draw_11 (by decide) ?_
  refine lv_istore (lv' := [(6, .int 0), (5, .int 0), (4, .int 0), (0, .ref (ad 0)), (1, .int a0), (2, .long a1)]) hx hb dX13_draw_12 hl (by decide) rfl (fun ls hl => ?_)
  have hL14 : ∀ d : Nat, ∀ (g14_71 : Nat → Int32) (v14_6 : Int32) (v14_5 : Int32) (v14_4 : Int32) (E14_ : Nat → va_E) (H : Heap) (locs : List Loc) (ls : Array Slot), 0 ≤ v14_6.toInt ∧ v14_6.toInt ≤ 16 → 0 ≤ v14_5.toInt ∧ v14_5.toInt ≤ 16 → 0 ≤ v14_4.toInt ∧ v14_4.toInt ≤ 32016 → v14_4.toInt = sumI g14_71 v14_6.toNatClampNeg → v14_5.toInt = (posI g14_71 v14_6.toNatClampNeg : Int) → (0 ≤ v14_4.toInt ∧ v14_4.toInt ≤ 2001 * v14_6.toInt) → (0 ≤ v14_5.toInt ∧ v14_5.toInt ≤ v14_6.toInt) → v14_6.toInt ≤ (xi (E 0) 8).toInt → (∀ b9 : Nat, b9 < v14_6.toNatClampNeg → WdM E (xi (E 0) 1) b9 (g14_71 b9).toInt) → CnR (cxM E) v14_6.toNatClampNeg v14_5.toInt → 16 - v14_6.toInt < (d : Int) → IX cT shM spM 72 ad E14_ → Kp w_drawM E E14_ → xv (E14_ 0) 0 = .int 0 → xi (E14_ 71) = g14_71 → va_P (dC, dI) vwCl (WX 72 ad E14_) H → va_S A s.heap H locs → lv_has ls 12 [(6, .int v14_6), (5, .int v14_5), (4, .int v14_4), (0, .ref (ad 0)), (1, .int a0), (2, .long a1)] → W p l e (headSpec v_drawM rm_drawM).room s m args below meth c H locs 0 0 Q (F0 m 14 ls []) := by
    intro d
    induction d with
    | zero =>
      intro g14_71 v14_6 v14_5 v14_4 E14_ H locs ls hv14_6 hv14_5 hv14_4 hx14_0 hx14_1 hx14_2 hx14_3 hx14_4 hx14_5 hx14_6 hx14_7 hI hKp hs14_0_0 hr14_71 hP hS hl
      exact absurd hx14_7 (by first | exact ms_zu hv14_6.2 | omega)
    | succ d ih14 =>
      intro g14_71 v14_6 v14_5 v14_4 E14_ H locs ls hv14_6 hv14_5 hv14_4 hx14_0 hx14_1 hx14_2 hx14_3 hx14_4 hx14_5 hx14_6 hx14_7 hI hKp hs14_0_0 hr14_71 hP hS hl
      refine lv_iload hx hb dX13_draw_14 (lv_at hl 0 rfl) ?_
      refine lv_aload_n hx hb dX13_draw_16 rfl (lv_at hl 3 rfl) ?_
      have i4 : 0 ≤ (xi (E 0) 8).toInt ∧ (xi (E 0) 8).toInt ≤ 16 := hI0.iv 0 (Nat.le_of_ble_eq_true rfl) rfl (Nat.le_of_ble_eq_true rfl) rfl
      refine th_get (ci := 14) (C := RX13) (T := TX13) (N := 97) (v := .int (xi (E 0) 8)) hx hb hts hinX13 hown hK hP hI 0 (Nat.le_of_ble_eq_true rfl) rfl rfl 8 (Nat.le_of_ble_eq_true rfl) (hts _ (vA_in _ _ (in_24 _ (zs16 (zs4 (zs1 (zs1 (zs0)))))))) (fun _ h9 => h9) (th_v0 hKp hI0 0 (Nat.le_of_ble_eq_true rfl) rfl (Nat.le_of_ble_eq_true rfl) rfl rfl) dX13_draw_17 ?_
      refine lv_icmp_ge (tgt := 166) hx hb dX13_draw_20 (by decide) (fun c5 => ?_) (fun c5 => ?_)
      · --20 taken
        have t6 : (xi (E 0) 8).toInt ≤ v14_6.toInt := ti_le c5
        have hb14 : v14_6.toNatClampNeg = (xi (E 0) 8).toNatClampNeg := tn_ge (by omega) (by omega)
        rw [hb14] at hx14_0 hx14_1
        rw [hb14] at hx14_5 hx14_6
        refine lv_iload_n hx hb dX13_draw_166 rfl (lv_at hl 4 rfl) ?_
        refine lv_iconst (v := 1) hx hb dX13_draw_167 (by decide) ?_
        refine lv_icmp_lt (tgt := 177) hx hb dX13_draw_168 (by decide) (fun c7 => ?_) (fun c7 => ?_)
        · --168 taken
          have t8 : a0.toInt < 1 := ti_lt c7
          have i9 : -2147483648 ≤ a0.toInt ∧ a0.toInt ≤ 0 := iv_lt_l t8 (iv_all _) (il_ 1) (by decide)
          refine lv_iconst (v := -1) hx hb dX13_draw_177 (by decide) ?_
          rw [hQ]
          exact W.iret (v := (-1)) hx hb hr (fun t ht hW => ⟨⟨(-1), E14_, rfl, ⟨hI, hKp, ⟨fun _ => rfl, fun q9 => by exfalso; omega⟩⟩, by show va_P (dC, dI) vwCl (WX 72 ad E14_) t.heap; rw [ht]; exact hP⟩, hS.F ht⟩) hS.2.2 dX13_draw_178
        · --168 not
          have t10 : (1 : Int) ≤ a0.toInt := ti_nlt c7
          have i11 : 1 ≤ a0.toInt ∧ a0.toInt ≤ 2147483647 := iv_le_r t10 (il_ 1) (iv_all _) (by decide)
          refine lv_iload_n hx hb dX13_draw_171 rfl (lv_at hl 4 rfl) ?_
          refine lv_iload hx hb dX13_draw_172 (lv_at hl 1 rfl) ?_
          refine lv_icmp_le (tgt := 179) hx hb dX13_draw_174 (by decide) (fun c12 => ?_) (fun c12 => ?_)
          · --174 taken
            have t13 : a0.toInt ≤ v14_5.toInt := ti_le c12
            have i14 : 1 ≤ a0.toInt ∧ a0.toInt ≤ 16 := iv_le_l t13 i11 hv14_5 (by decide)
            have i15 : 1 ≤ v14_5.toInt ∧ v14_5.toInt ≤ 16 := iv_le_r t13 i11 hv14_5 (by decide)
            refine lv_lload_n hx hb dX13_draw_179 rfl (lv_at hl 5 rfl) ?_
            refine lv_lstore (lv' := [(6, .long a1), (5, .int v14_5), (4, .int v14_4), (0, .ref (ad 0)), (1, .int a0), (2, .long a1)]) hx hb dX13_draw_180 hl (by decide) rfl (fun ls hl => ?_)
            refine lv_iconst (v := 0) hx hb dX13_draw_182 (by decide) ?_
            refine lv_istore (lv' := [(8, .int 0), (6, .long a1), (5, .int v14_5), (4, .int v14_4), (0, .ref (ad 0)), (1, .int a0), (2, .long a1)]) hx hb dX13_draw_183 hl (by decide) rfl (fun ls hl => ?_)
            refine lv_iconst (v := 0) hx hb dX13_draw_185 (by decide) ?_
            refine lv_istore (lv' := [(9, .int 0), (8, .int 0), (6, .long a1), (5, .int v14_5), (4, .int v14_4), (0, .ref (ad 0)), (1, .int a0), (2, .long a1)]) hx hb dX13_draw_186 hl (by decide) rfl (fun ls hl => ?_)
            have hL188 : ∀ d : Nat, ∀ (g188_71 : Nat → Int32) (v188_9 : Int32) (v188_8 : Int32) (v188_6 : Int64) (v188_4 : Int32) (E188_ : Nat → va_E) (H : Heap) (locs : List Loc) (ls : Array Slot), 0 ≤ v188_9.toInt ∧ v188_9.toInt ≤ 16 → -2000 ≤ v188_4.toInt ∧ v188_4.toInt ≤ 32016 → v188_4.toInt = sumI g188_71 (xi (E 0) 8).toNatClampNeg → (v14_5.toInt - v188_9.toInt ≤ (posI g188_71 (xi (E 0) 8).toNatClampNeg : Int)) → DrR g14_71 v14_4 a1 (xi (E 0) 8).toNatClampNeg v188_9.toNatClampNeg g188_71 v188_4 v188_6 v188_8 → v188_9.toInt ≤ a0.toInt → 16 - v188_9.toInt < (d : Int) → IX cT shM spM 72 ad E188_ → Kp w_drawM E E188_ → xv (E188_ 0) 0 = .int 0 → xi (E188_ 71) = g188_71 → va_P (dC, dI) vwCl (WX 72 ad E188_) H → va_S A s.heap H locs → lv_has ls 12 [(9, .int v188_9), (8, .int v188_8), (6, .long v188_6), (5, .int v14_5), (4, .int v188_4), (0, .ref (ad 0)), (1, .int a0), (2, .long a1)] → W p l e (headSpec v_drawM rm_drawM).room s m args below meth c H locs 0 0 Q (F0 m 188 ls []) := by
              intro d
              induction d with
              | zero =>
                intro g188_71 v188_9 v188_8 v188_6 v188_4 E188_ H locs ls hv188_9 hv188_4 hx188_0 hx188_1 hx188_2 hx188_3 hx188_4 hI hKp hs188_0_0 hr188_71 hP hS hl
                exact absurd hx188_4 (by first | exact ms_zu hv188_9.2 | omega)
              | succ d ih188 =>
                intro g188_71 v188_9 v188_8 v188_6 v188_4 E188_ H locs ls hv188_9 hv188_4 hx188_0 hx188_1 hx188_2 hx188_3 hx188_4 hI hKp hs188_0_0 hr188_71 hP hS hl
                refine lv_iload hx hb dX13_draw_188 (lv_at hl 0 rfl) ?_
                refine lv_iload_n hx hb dX13_draw_190 rfl (lv_at hl 6 rfl) ?_
                refine lv_icmp_ge (tgt := 286) hx hb dX13_draw_191 (by decide) (fun c16 => ?_) (fun c16 => ?_)
                · --191 taken
                  have t17 : a0.toInt ≤ v188_9.toInt := ti_le c16
                  have i18 : 1 ≤ v188_9.toInt ∧ v188_9.toInt ≤ 16 := iv_le_r t17 i14 hv188_9 (by decide)
                  refine lv_iload hx hb dX13_draw_286 (lv_at hl 1 rfl) ?_
                  rw [hQ]
                  exact W.iret (v := v188_8) hx hb hr (fun t ht hW => ⟨⟨v188_8, E188_, rfl, ⟨hI, hKp, ⟨fun q9 => by exfalso; omega, fun _ => ⟨_, hx14_6, fun q9 => by exfalso; omega, fun _ => ⟨g14_71, v14_4, _, _, _, hx14_5, hx14_0, (by rw [show a0.toInt.toNat = v188_9.toNatClampNeg by rw [tn_]; omega]; exact hx188_2)⟩⟩⟩⟩, by show va_P (dC, dI) vwCl (WX 72 ad E188_) t.heap; rw [ht]; exact hP⟩, hS.F ht⟩) hS.2.2 dX13_draw_288
                · --191 not
                  have t19 : v188_9.toInt < a0.toInt := ti_nle c16
                  have i20 : 0 ≤ v188_9.toInt ∧ v188_9.toInt ≤ 15 := iv_lt_l t19 hv188_9 i14 (by decide)
                  have hnn : ∀ j, j < (xi (E 0) 8).toNatClampNeg → 0 ≤ (g188_71 j).toInt := fun j hj => by rw [← hr188_71]; exact (hI.iv 71 (Nat.le_of_ble_eq_true rfl) rfl (show j < 16 by rw [tn_] at hj; omega) rfl).1
                  have hps := sumI_pos (xi (E 0) 8).toNatClampNeg hnn
                  have h1s : 1 ≤ v188_4.toInt := by omega
                  have i21 : 1 ≤ v188_4.toInt ∧ v188_4.toInt ≤ 32016 := by omega
                  refine lv_lload hx hb dX13_draw_194 (lv_at hl 2 rfl) ?_
                  refine lv_ldc2 hx hb hown (hts _ (vA_in _ _ (in_31 _ (zs4 (zs4 (zs4 (zs0))))))) dX13_draw_196 ?_
                  refine lv_topl (fun y22 ey22 => ?_)
                  refine lv_lmul hx hb dX13_draw_199 ?_
                  refine lv_topl (fun y23 ey23 => ?_)
                  refine lv_ldc2 hx hb hown (hts _ (vA_in _ _ (in_31 _ (zs4 (zs4 (zs4 (zs1 (zs0)))))))) dX13_draw_200 ?_
                  refine lv_topl (fun y24 ey24 => ?_)
                  refine lv_ladd hx hb dX13_draw_203 ?_
                  refine lv_topl (fun y25 ey25 => ?_)
                  refine lv_lstore (lv' := [(6, .long y25), (9, .int v188_9), (8, .int v188_8), (5, .int v14_5), (4, .int v188_4), (0, .ref (ad 0)), (1, .int a0), (2, .long a1)]) hx hb dX13_draw_204 hl (by decide) rfl (fun ls hl => ?_)
                  refine lv_lload hx hb dX13_draw_206 (lv_at hl 0 rfl) ?_
                  refine lv_bipush (v := 33) hx hb dX13_draw_208 (by decide) ?_
                  refine lv_lushr hx hb dX13_draw_210 rfl ?_
                  refine lv_topl (fun y26 ey26 => ?_)
                  refine lv_iload hx hb dX13_draw_211 (lv_at hl 4 rfl) ?_
                  refine lv_i2l hx hb dX13_draw_213 rfl ?_
                  refine lv_topl (fun y27 ey27 => ?_)
                  refine lv_lrem hx hb dX13_draw_214 (i2l_n0 ey27 (by omega)) ?_
                  refine lv_topl (fun y28 ey28 => ?_)
                  refine lv_l2i hx hb dX13_draw_215 rfl ?_
                  refine lv_topi (fun y29 ey29 => ?_)
                  obtain ⟨q1y29, q2y29⟩ := dr_place ey26 ey27 ey28 ey29 (by omega) (by omega)
                  have i30 : 0 ≤ y29.toInt ∧ y29.toInt ≤ 32015 := by omega
                  have k31 : y29 = plcL y25 v188_4 := plcL_of ey26 ey27 ey28 ey29
                  refine lv_istore (lv' := [(10, .int y29), (6, .long y25), (9, .int v188_9), (8, .int v188_8), (5, .int v14_5), (4, .int v188_4), (0, .ref (ad 0)), (1, .int a0), (2, .long a1)]) hx hb dX13_draw_216 hl (by decide) rfl (fun ls hl => ?_)
                  refine lv_iconst (v := 0) hx hb dX13_draw_218 (by decide) ?_
                  refine lv_istore (lv' := [(11, .int 0), (10, .int y29), (6, .long y25), (9, .int v188_9), (8, .int v188_8), (5, .int v14_5), (4, .int v188_4), (0, .ref (ad 0)), (1, .int a0), (2, .long a1)]) hx hb dX13_draw_219 hl (by decide) rfl (fun ls hl => ?_)
                  have hL221 : ∀ d : Nat, ∀ (v221_11 : Int32) (v221_10 : Int32) (H : Heap) (locs : List Loc) (ls : Array Slot), 0 ≤ v221_11.toInt ∧ v221_11.toInt ≤ 16 → -2001 ≤ v221_10.toInt ∧ v221_10.toInt ≤ 32015 → (0 ≤ v221_10.toInt ∧ v221_10.toInt < sumI g188_71 (xi (E 0) 8).toNatClampNeg - sumI g188_71 v221_11.toNatClampNeg) → v221_11.toInt ≤ (xi (E 0) 8).toInt → v221_10.toInt = y29.toInt - sumI g188_71 v221_11.toNatClampNeg → 16 - v221_11.toInt < (d : Int) → va_P (dC, dI) vwCl (WX 72 ad E188_) H → va_S A s.heap H locs → lv_has ls 12 [(11, .int v221_11), (10, .int v221_10), (6, .long y25), (9, .int v188_9), (8, .int v188_8), (5, .int v14_5), (4, .int v188_4), (0, .ref (ad 0)), (1, .int a0), (2, .long a1)] → W p l e (headSpec v_drawM rm_drawM).room s m args below meth c H locs 0 0 Q (F0 m 221 ls []) := by
                    intro d
                    induction d with
                    | zero =>
                      intro v221_11 v221_10 H locs ls hv221_11 hv221_10 hx221_0 hx221_1 hx221_2 hx221_3 hP hS hl
                      exact absurd hx221_3 (by first | exact ms_zu hv221_11.2 | omega)
                    | succ d ih221 =>
                      intro v221_11 v221_10 H locs ls hv221_11 hv221_10 hx221_0 hx221_1 hx221_2 hx221_3 hP hS hl
                      refine lv_iload hx hb dX13_draw_221 (lv_at hl 1 rfl) ?_
                      have hlb : v221_11.toInt < (xi (E 0) 8).toInt := by
                        rcases (show v221_11.toInt < (xi (E 0) 8).toInt ∨ v221_11.toInt = (xi (E 0) 8).toInt by omega) with h9 | h9
                        · exact h9
                        · exfalso; have h8 := tn_ge (x := v221_11) (y := xi (E 0) 8) (by omega) (by omega); rw [h8] at hx221_0; omega
                      have i32 : 0 ≤ v221_11.toInt ∧ v221_11.toInt ≤ 15 := by omega
                      refine lv_aload_n hx hb dX13_draw_223 rfl (lv_at hl 7 rfl) ?_
                      refine th_get (ci := 14) (C := RX13) (T := TX13) (N := 97) (v := .ref (ad 71)) hx hb hts hinX13 hown hK hP hI 0 (Nat.le_of_ble_eq_true rfl) rfl rfl 96 (Nat.le_of_ble_eq_true rfl) (hts _ (vA_in _ _ (in_31 _ (zs4 (zs4 (zs1 (zs1 (zs1 (zs0))))))))) (fun _ h9 => h9) (hI.fr 0 (Nat.le_of_ble_eq_true rfl) rfl (Nat.le_of_ble_eq_true rfl) 71 rfl) dX13_draw_224 ?_
                      refine lv_iload hx hb dX13_draw_227 (lv_at hl 0 rfl) ?_
                      have n34 : vp_in v221_11 16 := (iv_in (n := 16) i32 (by decide))
                      refine th_iald hx hb hK hP hI 71 (Nat.le_of_ble_eq_true rfl) rfl rfl n34 dX13_draw_229 (fun y33 ey33 => ?_)
                      have iy33 : 0 ≤ y33.toInt ∧ y33.toInt ≤ 2001 := hI.el 71 (Nat.le_of_ble_eq_true rfl) rfl n34 (fun _ => rfl) ey33
                      have ey33 := ey33.trans (congrFun hr188_71 _)
                      refine lv_icmp_lt (tgt := 251) hx hb dX13_draw_230 (by decide) (fun c35 => ?_) (fun c35 => ?_)
                      · --230 taken
                        have t36 : v221_10.toInt < y33.toInt := ti_lt c35
                        have i37 : -2001 ≤ v221_10.toInt ∧ v221_10.toInt ≤ 2000 := iv_lt_l t36 hv221_10 iy33 (by decide)
                        have k38 : PkR g188_71 (xi (E 0) 8).toNatClampNeg (plcL y25 v188_4).toInt v221_11.toNatClampNeg := ⟨by rw [tn_, tn_]; omega, by rw [← k31]; omega, by rw [← k31, ← ey33]; omega⟩
                        refine lv_iload hx hb dX13_draw_251 (lv_at hl 4 rfl) ?_
                        refine lv_iconst (v := 1) hx hb dX13_draw_253 (by decide) ?_
                        refine lv_iload hx hb dX13_draw_254 (lv_at hl 0 rfl) ?_
                        refine lv_ishl hx hb dX13_draw_256 ?_
                        refine lv_topi (fun y39 ey39 => ?_)
                        have iy39 : 1 ≤ y39.toInt ∧ y39.toInt ≤ 65536 := ti_shl1 i32 ey39 (by decide)
                        refine lv_ior hx hb dX13_draw_257 ?_
                        refine lv_topi (fun y40 ey40 => ?_)
                        refine lv_istore (lv' := [(8, .int y40), (11, .int v221_11), (10, .int v221_10), (6, .long y25), (9, .int v188_9), (5, .int v14_5), (4, .int v188_4), (0, .ref (ad 0)), (1, .int a0), (2, .long a1)]) hx hb dX13_draw_258 hl (by decide) rfl (fun ls hl => ?_)
                        refine lv_iload hx hb dX13_draw_260 (lv_at hl 6 rfl) ?_
                        refine lv_aload_n hx hb dX13_draw_262 rfl (lv_at hl 7 rfl) ?_
                        refine th_get (ci := 14) (C := RX13) (T := TX13) (N := 97) (v := .ref (ad 71)) hx hb hts hinX13 hown hK hP hI 0 (Nat.le_of_ble_eq_true rfl) rfl rfl 96 (Nat.le_of_ble_eq_true rfl) (hts _ (vA_in _ _ (in_31 _ (zs4 (zs4 (zs1 (zs1 (zs1 (zs0))))))))) (fun _ h9 => h9) (hI.fr 0 (Nat.le_of_ble_eq_true rfl) rfl (Nat.le_of_ble_eq_true rfl) 71 rfl) dX13_draw_263 ?_
                        refine lv_iload hx hb dX13_draw_266 (lv_at hl 1 rfl) ?_
                        have n42 : vp_in v221_11 16 := (iv_in (n := 16) i32 (by decide))
                        refine th_iald hx hb hK hP hI 71 (Nat.le_of_ble_eq_true rfl) rfl rfl n42 dX13_draw_268 (fun y41 ey41 => ?_)
                        have iy41 : 0 ≤ y41.toInt ∧ y41.toInt ≤ 2001 := hI.el 71 (Nat.le_of_ble_eq_true rfl) rfl n42 (fun _ => rfl) ey41
                        have ey41 := ey41.trans (congrFun hr188_71 _)
                        refine lv_isub hx hb dX13_draw_269 ?_
                        refine lv_topi (fun y43 ey43 => ?_)
                        obtain ⟨ty43, iy43⟩ := ti_sub (e := (-2000)) (f := 32016) i21 iy41 ey43 (by decide)
                        have ty43 : y43.toInt = v188_4.toInt - y41.toInt := ty43
                        have iy43 : -2000 ≤ y43.toInt ∧ y43.toInt ≤ 32016 := iy43
                        refine lv_istore (lv' := [(4, .int y43), (8, .int y40), (11, .int v221_11), (10, .int v221_10), (6, .long y25), (9, .int v188_9), (5, .int v14_5), (0, .ref (ad 0)), (1, .int a0), (2, .long a1)]) hx hb dX13_draw_270 hl (by decide) rfl (fun ls hl => ?_)
                        refine lv_aload_n hx hb dX13_draw_272 rfl (lv_at hl 7 rfl) ?_
                        refine th_get (ci := 14) (C := RX13) (T := TX13) (N := 97) (v := .ref (ad 71)) hx hb hts hinX13 hown hK hP hI 0 (Nat.le_of_ble_eq_true rfl) rfl rfl 96 (Nat.le_of_ble_eq_true rfl) (hts _ (vA_in _ _ (in_31 _ (zs4 (zs4 (zs1 (zs1 (zs1 (zs0))))))))) (fun _ h9 => h9) (hI.fr 0 (Nat.le_of_ble_eq_true rfl) rfl (Nat.le_of_ble_eq_true rfl) 71 rfl) dX13_draw_273 ?_
                        refine lv_iload hx hb dX13_draw_276 (lv_at hl 2 rfl) ?_
                        refine lv_iconst (v := 0) hx hb dX13_draw_278 (by decide) ?_
                        have n44 : vp_in v221_11 16 := (iv_in (n := 16) i32 (by decide))
                        refine th_iast hx hb hK hP (WX_D hD) hS hI 71 (Nat.le_of_ble_eq_true rfl) rfl rfl n44 (okI rfl (iv_w ln_0 (by decide))) dX13_draw_279 (fun H locs E45 pw46 hI hP hS => ?_)
                        have hKp := hKp.pw pw46 rfl
                        obtain ⟨g47, eg47⟩ : ∃ z : Nat → Int32, z = upd g188_71 v221_11.toNatClampNeg (0 : Int32) := ⟨_, rfl⟩
                        have hg47 : xi (E45 71) = g47 := by rw [pw46.eu, hr188_71, eg47]
                        obtain ⟨y48, ey48⟩ : ∃ y : Int32, y = v188_9 + (1 : Int32) := ⟨_, rfl⟩
                        obtain ⟨ty48, iy48⟩ := ti_add (e := 1) (f := 16) i20 ln_1 ey48 (by decide)
                        have ty48 : y48.toInt = v188_9.toInt + 1 := ty48
                        have iy48 : 1 ≤ y48.toInt ∧ y48.toInt ≤ 16 := iy48
                        refine lv_iinc (v := y48) (lv' := [(9, .int y48), (4, .int y43), (8, .int y40), (11, .int v221_11), (10, .int v221_10), (6, .long y25), (5, .int v14_5), (0, .ref (ad 0)), (1, .int a0), (2, .long a1)]) hx hb dX13_draw_280 hl (k := 5) rfl (by rw [ey48]; rfl) (by decide) rfl (fun ls hl => ?_)
                        refine lv_goto (tgt := 188) hx hb dX13_draw_283 (by decide) ?_
                        exact ih188 g47 y48 y40 y25 y43 E45 _ _ _ (iv_w iy48 (by decide)) iy43 (by have h6 := sumI_upd (g := g188_71) (k := v221_11.toNatClampNeg) (x := 0) (xi (E 0) 8).toNatClampNeg (by rw [tn_, tn_]; omega); rw [← eg47] at h6; have h5 := congrArg Int32.toInt ey41; have z0 := ln_0; omega) (by have h6 := sumI_upd (g := g188_71) (k := v221_11.toNatClampNeg) (x := 0) (xi (E 0) 8).toNatClampNeg (by rw [tn_, tn_]; omega); rw [← eg47] at h6; have h5 := congrArg Int32.toInt ey41; have z0 := ln_0; have h4 := h6.2; split at h4 <;> split at h4 <;> omega) (hx188_2.go (nxtL_of ey22 ey23 ey24 ey25) (by omega) k38 eg47 ey41 ey43 ey39 ey40 (by rw [tn_ y48, tn_ v188_9]; omega)) (by omega) (by first | exact ms_su hx188_4 ty48 (by decide) | omega) hI hKp ((pw46.2 0 0 (fun q9 => absurd q9.1 (Nat.ne_of_beq_eq_false rfl))).trans hs188_0_0) hg47 hP hS (lv_sub hl [0, 2, 5, 6, 1, 7, 8, 9] rfl)
                      · --230 not
                        have t49 : y33.toInt ≤ v221_10.toInt := ti_nlt c35
                        have i50 : 0 ≤ v221_10.toInt ∧ v221_10.toInt ≤ 32015 := iv_le_r t49 iy33 hv221_10 (by decide)
                        refine lv_iload hx hb dX13_draw_233 (lv_at hl 1 rfl) ?_
                        refine lv_aload_n hx hb dX13_draw_235 rfl (lv_at hl 7 rfl) ?_
                        refine th_get (ci := 14) (C := RX13) (T := TX13) (N := 97) (v := .ref (ad 71)) hx hb hts hinX13 hown hK hP hI 0 (Nat.le_of_ble_eq_true rfl) rfl rfl 96 (Nat.le_of_ble_eq_true rfl) (hts _ (vA_in _ _ (in_31 _ (zs4 (zs4 (zs1 (zs1 (zs1 (zs0))))))))) (fun _ h9 => h9) (hI.fr 0 (Nat.le_of_ble_eq_true rfl) rfl (Nat.le_of_ble_eq_true rfl) 71 rfl) dX13_draw_236 ?_
                        refine lv_iload hx hb dX13_draw_239 (lv_at hl 0 rfl) ?_
                        have n52 : vp_in v221_11 16 := (iv_in (n := 16) i32 (by decide))
                        refine th_iald hx hb hK hP hI 71 (Nat.le_of_ble_eq_true rfl) rfl rfl n52 dX13_draw_241 (fun y51 ey51 => ?_)
                        have iy51 : 0 ≤ y51.toInt ∧ y51.toInt ≤ 2001 := hI.el 71 (Nat.le_of_ble_eq_true rfl) rfl n52 (fun _ => rfl) ey51
                        have ey51 := ey51.trans (congrFun hr188_71 _)
                        refine lv_isub hx hb dX13_draw_242 ?_
                        refine lv_topi (fun y53 ey53 => ?_)
                        obtain ⟨ty53, iy53⟩ := ti_sub (e := (-2001)) (f := 32015) i50 iy51 ey53 (by decide)
                        have ty53 : y53.toInt = v221_10.toInt - y51.toInt := ty53
                        have iy53 : -2001 ≤ y53.toInt ∧ y53.toInt ≤ 32015 := iy53
                        refine lv_istore (lv' := [(10, .int y53), (11, .int v221_11), (6, .long y25), (9, .int v188_9), (8, .int v188_8), (5, .int v14_5), (4, .int v188_4), (0, .ref (ad 0)), (1, .int a0), (2, .long a1)]) hx hb dX13_draw_243 hl (by decide) rfl (fun ls hl => ?_)
                        obtain ⟨y54, ey54⟩ : ∃ y : Int32, y = v221_11 + (1 : Int32) := ⟨_, rfl⟩
                        obtain ⟨ty54, iy54⟩ := ti_add (e := 1) (f := 16) i32 ln_1 ey54 (by decide)
                        have ty54 : y54.toInt = v221_11.toInt + 1 := ty54
                        have iy54 : 1 ≤ y54.toInt ∧ y54.toInt ≤ 16 := iy54
                        refine lv_iinc (v := y54) (lv' := [(11, .int y54), (10, .int y53), (6, .long y25), (9, .int v188_9), (8, .int v188_8), (5, .int v14_5), (4, .int v188_4), (0, .ref (ad 0)), (1, .int a0), (2, .long a1)]) hx hb dX13_draw_245 hl (k := 1) rfl (by rw [ey54]; rfl) (by decide) rfl (fun ls hl => ?_)
                        refine lv_goto (tgt := 221) hx hb dX13_draw_248 (by decide) ?_
                        exact ih221 y54 y53 _ _ _ (iv_w iy54 (by decide)) iy53 (by have h4 := congrArg Int32.toInt ey51; have h9 : y54.toNatClampNeg = v221_11.toNatClampNeg + 1 := (by rw [tn_, tn_]; omega); rw [h9]; have h5 := congrArg Int32.toInt ey33; show 0 ≤ _ ∧ _ < _ - (sumI _ _ + _); omega) (by omega) (by have h9 : y54.toNatClampNeg = v221_11.toNatClampNeg + 1 := (by rw [tn_, tn_]; omega); rw [h9]; have h5 := congrArg Int32.toInt ey33; have h4 := congrArg Int32.toInt ey51; show y53.toInt = y29.toInt - (sumI g188_71 v221_11.toNatClampNeg + (g188_71 v221_11.toNatClampNeg).toInt); omega) (by first | exact ms_su hx221_3 ty54 (by decide) | omega) hP hS (lv_sub hl [0, 1, 2, 3, 4, 5, 6, 7, 8, 9] rfl)
                  exact hL221 (17) (0 : Int32) y29 _ _ _ (iv_w ln_0 (by decide)) (iv_w i30 (by decide)) (by show 0 ≤ y29.toInt ∧ y29.toInt < _ - 0; omega) (by have h9 := ln_0; have h8 := i4; omega) (show y29.toInt = y29.toInt - 0 by omega) (by have h9 := ln_0; first | exact ms_bu h9.1 (by decide) | omega) hP hS (lv_sub hl [0, 1, 2, 3, 4, 5, 6, 7, 8, 9] rfl)
            exact hL188 (17) g14_71 (0 : Int32) (0 : Int32) a1 v14_4 E14_ _ _ _ (iv_w ln_0 (by decide)) (iv_w hv14_4 (by decide)) hx14_0 (by have h9 := hx14_1; have z0 := ln_0; omega) (show DrR g14_71 v14_4 a1 (xi (E 0) 8).toNatClampNeg 0 g14_71 v14_4 a1 0 from ⟨rfl, rfl, rfl, rfl⟩) (by have z9 := ln_0; omega) (by have h9 := ln_0; first | exact ms_bu h9.1 (by decide) | omega) hI hKp hs14_0_0 hr14_71 hP hS (lv_sub hl [0, 1, 2, 3, 4, 5, 6, 7] rfl)
          · --174 not
            have t55 : v14_5.toInt < a0.toInt := ti_nle c12
            refine lv_iconst (v := -1) hx hb dX13_draw_177 (by decide) ?_
            rw [hQ]
            exact W.iret (v := (-1)) hx hb hr (fun t ht hW => ⟨⟨(-1), E14_, rfl, ⟨hI, hKp, ⟨fun _ => rfl, fun _ => ⟨_, hx14_6, fun _ => rfl, fun q9 => by exfalso; omega⟩⟩⟩, by show va_P (dC, dI) vwCl (WX 72 ad E14_) t.heap; rw [ht]; exact hP⟩, hS.F ht⟩) hS.2.2 dX13_draw_178
      · --20 not
        have t56 : v14_6.toInt < (xi (E 0) 8).toInt := ti_nle c5
        have i57 : 0 ≤ v14_6.toInt ∧ v14_6.toInt ≤ 15 := iv_lt_l t56 hv14_6 i4 (by decide)
        have i58 : 1 ≤ (xi (E 0) 8).toInt ∧ (xi (E 0) 8).toInt ≤ 16 := iv_lt_r t56 hv14_6 i4 (by decide)
        have i59 : 0 ≤ v14_4.toInt ∧ v14_4.toInt ≤ 30015 := by omega
        have i60 : 0 ≤ v14_5.toInt ∧ v14_5.toInt ≤ 15 := by omega
        refine lv_iconst (v := 0) hx hb dX13_draw_23 (by decide) ?_
        refine lv_istore (lv' := [(7, .int 0), (6, .int v14_6), (5, .int v14_5), (4, .int v14_4), (0, .ref (ad 0)), (1, .int a0), (2, .long a1)]) hx hb dX13_draw_24 hl (by decide) rfl (fun ls hl => ?_)
        refine lv_iconst (v := 0) hx hb dX13_draw_26 (by decide) ?_
        refine lv_istore (lv' := [(8, .int 0), (7, .int 0), (6, .int v14_6), (5, .int v14_5), (4, .int v14_4), (0, .ref (ad 0)), (1, .int a0), (2, .long a1)]) hx hb dX13_draw_27 hl (by decide) rfl (fun ls hl => ?_)
        have hL29 : ∀ d : Nat, ∀ (v29_8 : Int32) (v29_7 : Int32) (H : Heap) (locs : List Loc) (ls : Array Slot), 0 ≤ v29_8.toInt ∧ v29_8.toInt ≤ 80 → 0 ≤ v29_7.toInt ∧ v29_7.toInt ≤ 1 → HsR (fun i9 => (xi (E 1) i9).toInt = ((v14_6.toNatClampNeg : Nat) : Int)) v29_8.toNatClampNeg v29_7.toInt → v29_8.toInt ≤ (xi (E 0) 9).toInt → 80 - v29_8.toInt < (d : Int) → va_P (dC, dI) vwCl (WX 72 ad E14_) H → va_S A s.heap H locs → lv_has ls 12 [(8, .int v29_8), (7, .int v29_7), (6, .int v14_6), (5, .int v14_5), (4, .int v14_4), (0, .ref (ad 0)), (1, .int a0), (2, .long a1)] → W p l e (headSpec v_drawM rm_drawM).room s m args below meth c H locs 0 0 Q (F0 m 29 ls []) := by
          intro d
          induction d with
          | zero =>
            intro v29_8 v29_7 H locs ls hv29_8 hv29_7 hx29_0 hx29_1 hx29_2 hP hS hl
            exact absurd hx29_2 (by first | exact ms_zu hv29_8.2 | omega)
          | succ d ih29 =>
            intro v29_8 v29_7 H locs ls hv29_8 hv29_7 hx29_0 hx29_1 hx29_2 hP hS hl
            refine lv_iload hx hb dX13_draw_29 (lv_at hl 0 rfl) ?_
            refine lv_aload_n hx hb dX13_draw_31 rfl (lv_at hl 5 rfl) ?_
            have i61 : 0 ≤ (xi (E 0) 9).toInt ∧ (xi (E 0) 9).toInt ≤ 80 := hI0.iv 0 (Nat.le_of_ble_eq_true rfl) rfl (Nat.le_of_ble_eq_true rfl) rfl
            refine th_get (ci := 14) (C := RX13) (T := TX13) (N := 97) (v := .int (xi (E 0) 9)) hx hb hts hinX13 hown hK hP hI 0 (Nat.le_of_ble_eq_true rfl) rfl rfl 9 (Nat.le_of_ble_eq_true rfl) (hts _ (vA_in _ _ (in_27 _ (zs4 (zs4 (zs1 (zs0))))))) (fun _ h9 => h9) (th_v0 hKp hI0 0 (Nat.le_of_ble_eq_true rfl) rfl (Nat.le_of_ble_eq_true rfl) rfl rfl) dX13_draw_32 ?_
            refine lv_icmp_ge (tgt := 68) hx hb dX13_draw_35 (by decide) (fun c62 => ?_) (fun c62 => ?_)
            · --35 taken
              have t63 : (xi (E 0) 9).toInt ≤ v29_8.toInt := ti_le c62
              have k64 : v29_7.toInt = 1 ↔ cxM E v14_6.toNatClampNeg := by have h9 := hx29_0.2; rw [show v29_8.toNatClampNeg = (xi (E 0) 9).toNatClampNeg by rw [tn_, tn_]; omega] at h9; exact h9
              have h01k64 := hx29_0.1
              refine lv_iload hx hb dX13_draw_68 (lv_at hl 1 rfl) ?_
              refine lv_if_eq (tgt := 82) hx hb dX13_draw_70 (by decide) (fun c65 => ?_) (fun c65 => ?_)
              · --70 taken
                have t66 : v29_7.toInt = 0 := ti_eq c65
                have i67 : 0 ≤ v29_7.toInt ∧ v29_7.toInt ≤ 0 := iv_eqi t66 hv29_7 (il_ 0) (by decide)
                refine lv_iconst (v := -1) hx hb dX13_draw_82 (by decide) ?_
                refine lv_istore (lv' := [(8, .int (-1)), (7, .int v29_7), (6, .int v14_6), (5, .int v14_5), (4, .int v14_4), (0, .ref (ad 0)), (1, .int a0), (2, .long a1)]) hx hb dX13_draw_83 hl (by decide) rfl (fun ls hl => ?_)
                refine lv_aload_n hx hb dX13_draw_85 rfl (lv_at hl 5 rfl) ?_
                refine th_get (ci := 14) (C := RX13) (T := TX13) (N := 97) (v := .ref (ad 71)) hx hb hts hinX13 hown hK hP hI 0 (Nat.le_of_ble_eq_true rfl) rfl rfl 96 (Nat.le_of_ble_eq_true rfl) (hts _ (vA_in _ _ (in_31 _ (zs4 (zs4 (zs1 (zs1 (zs1 (zs0))))))))) (fun _ h9 => h9) (hI.fr 0 (Nat.le_of_ble_eq_true rfl) rfl (Nat.le_of_ble_eq_true rfl) 71 rfl) dX13_draw_86 ?_
                refine lv_iload hx hb dX13_draw_89 (lv_at hl 2 rfl) ?_
                refine lv_iload hx hb dX13_draw_91 (lv_at hl 1 rfl) ?_
                refine lv_if_ne (tgt := 100) hx hb dX13_draw_93 (by decide) (fun c68 => ?_) (fun c68 => ?_)
                · --93 taken
                  have t69 : ¬ v29_7.toInt = 0 := ti_ne c68
                  have i70 : 1 ≤ v29_7.toInt ∧ v29_7.toInt ≤ 0 := iv_ne_l t69 i67 (il_ 0)
                  exact iv_no i70 (by decide)
                · --93 not
                  have t71 : v29_7.toInt = 0 := ti_eq c68
                  refine lv_iconst (v := 0) hx hb dX13_draw_96 (by decide) ?_
                  refine lv_goto (tgt := 132) hx hb dX13_draw_97 (by decide) ?_
                  have n72 : vp_in v14_6 16 := (iv_in (n := 16) i57 (by decide))
                  refine th_iast hx hb hK hP (WX_D hD) hS hI 71 (Nat.le_of_ble_eq_true rfl) rfl rfl n72 (okI rfl (iv_w ln_0 (by decide))) dX13_draw_132 (fun H locs E73 pw74 hI hP hS => ?_)
                  have hKp := hKp.pw pw74 rfl
                  obtain ⟨g75, eg75⟩ : ∃ z : Nat → Int32, z = upd g14_71 v14_6.toNatClampNeg (0 : Int32) := ⟨_, rfl⟩
                  have hg75 : xi (E73 71) = g75 := by rw [pw74.eu, hr14_71, eg75]
                  refine lv_iload hx hb dX13_draw_133 (lv_at hl 4 rfl) ?_
                  refine lv_aload_n hx hb dX13_draw_135 rfl (lv_at hl 5 rfl) ?_
                  refine th_get (ci := 14) (C := RX13) (T := TX13) (N := 97) (v := .ref (ad 71)) hx hb hts hinX13 hown hK hP hI 0 (Nat.le_of_ble_eq_true rfl) rfl rfl 96 (Nat.le_of_ble_eq_true rfl) (hts _ (vA_in _ _ (in_31 _ (zs4 (zs4 (zs1 (zs1 (zs1 (zs0))))))))) (fun _ h9 => h9) (hI.fr 0 (Nat.le_of_ble_eq_true rfl) rfl (Nat.le_of_ble_eq_true rfl) 71 rfl) dX13_draw_136 ?_
                  refine lv_iload hx hb dX13_draw_139 (lv_at hl 2 rfl) ?_
                  have n77 : vp_in v14_6 16 := (iv_in (n := 16) i57 (by decide))
                  refine th_iald hx hb hK hP hI 71 (Nat.le_of_ble_eq_true rfl) rfl rfl n77 dX13_draw_141 (fun y76 ey76 => ?_)
                  have iy76 : 0 ≤ y76.toInt ∧ y76.toInt ≤ 2001 := hI.el 71 (Nat.le_of_ble_eq_true rfl) rfl n77 (fun _ => rfl) ey76
                  have ey76 := ey76.trans (congrFun hg75 _)
                  refine lv_iadd hx hb dX13_draw_142 ?_
                  refine lv_topi (fun y78 ey78 => ?_)
                  obtain ⟨ty78, iy78⟩ := ti_add (e := 0) (f := 32016) i59 iy76 ey78 (by decide)
                  have ty78 : y78.toInt = v14_4.toInt + y76.toInt := ty78
                  have iy78 : 0 ≤ y78.toInt ∧ y78.toInt ≤ 32016 := iy78
                  refine lv_istore (lv' := [(4, .int y78), (8, .int (-1)), (7, .int v29_7), (6, .int v14_6), (5, .int v14_5), (0, .ref (ad 0)), (1, .int a0), (2, .long a1)]) hx hb dX13_draw_143 hl (by decide) rfl (fun ls hl => ?_)
                  refine lv_iload hx hb dX13_draw_145 (lv_at hl 4 rfl) ?_
                  refine lv_iload hx hb dX13_draw_147 (lv_at hl 2 rfl) ?_
                  refine lv_if_eq (tgt := 156) hx hb dX13_draw_149 (by decide) (fun c79 => ?_) (fun c79 => ?_)
                  · --149 taken
                    have t80 : v29_7.toInt = 0 := ti_eq c79
                    refine lv_iconst (v := 0) hx hb dX13_draw_156 (by decide) ?_
                    refine lv_iadd hx hb dX13_draw_157 ?_
                    refine lv_topi (fun y81 ey81 => ?_)
                    obtain ⟨ty81, iy81⟩ := ti_add (e := 0) (f := 15) i60 ln_0 ey81 (by decide)
                    have ty81 : y81.toInt = v14_5.toInt + 0 := ty81
                    have iy81 : 0 ≤ y81.toInt ∧ y81.toInt ≤ 15 := iy81
                    refine lv_istore (lv' := [(5, .int y81), (4, .int y78), (8, .int (-1)), (7, .int v29_7), (6, .int v14_6), (0, .ref (ad 0)), (1, .int a0), (2, .long a1)]) hx hb dX13_draw_158 hl (by decide) rfl (fun ls hl => ?_)
                    obtain ⟨y82, ey82⟩ : ∃ y : Int32, y = v14_6 + (1 : Int32) := ⟨_, rfl⟩
                    obtain ⟨ty82, iy82⟩ := ti_add (e := 1) (f := 16) i57 ln_1 ey82 (by decide)
                    have ty82 : y82.toInt = v14_6.toInt + 1 := ty82
                    have iy82 : 1 ≤ y82.toInt ∧ y82.toInt ≤ 16 := iy82
                    refine lv_iinc (v := y82) (lv' := [(6, .int y82), (5, .int y81), (4, .int y78), (8, .int (-1)), (7, .int v29_7), (0, .ref (ad 0)), (1, .int a0), (2, .long a1)]) hx hb dX13_draw_160 hl (k := 4) rfl (by rw [ey82]; rfl) (by decide) rfl (fun ls hl => ?_)
                    refine lv_goto (tgt := 14) hx hb dX13_draw_163 (by decide) ?_
                    exact ih14 g75 y82 y81 y78 E73 _ _ _ (iv_w iy82 (by decide)) (iv_w iy81 (by decide)) iy78 (by have h7 := congrArg Int32.toInt (show y76 = (0 : Int32) from by rw [ey76, eg75, pk_us]); have h6 := (sumI_push (g := g14_71) (b := v14_6) (b2 := y82) (x := (0 : Int32)) (by omega) (by omega) ty82 eg75); have h5 := ln_0; have z0 := ln_0; have z1 := ln_1; omega) (by have h7 := congrArg Int32.toInt (show y76 = (0 : Int32) from by rw [ey76, eg75, pk_us]); have h6 := (sumI_push (g := g14_71) (b := v14_6) (b2 := y82) (x := (0 : Int32)) (by omega) (by omega) ty82 eg75); have h5 := ln_0; have z0 := ln_0; have z1 := ln_1; have h4 := h6.2; split at h4 <;> omega) (by have h7 := congrArg Int32.toInt (show y76 = (0 : Int32) from by rw [ey76, eg75, pk_us]); have h6 := (sumI_push (g := g14_71) (b := v14_6) (b2 := y82) (x := (0 : Int32)) (by omega) (by omega) ty82 eg75); have h5 := ln_0; have z0 := ln_0; have z1 := ln_1; omega) (by have h7 := congrArg Int32.toInt (show y76 = (0 : Int32) from by rw [ey76, eg75, pk_us]); have h6 := (sumI_push (g := g14_71) (b := v14_6) (b2 := y82) (x := (0 : Int32)) (by omega) (by omega) ty82 eg75); have h5 := ln_0; have z0 := ln_0; have z1 := ln_1; omega) (by omega) (up_s (P := (fun b9 z9 => WdM E (xi (E 0) 1) b9 z9.toInt)) hx14_5 eg75 (show WdM E (xi (E 0) 1) v14_6.toNatClampNeg (0 : Int32).toInt from ⟨fun _ => rfl, fun q9 => by exfalso; have q8 := k64.mpr q9; omega⟩) (by omega) (by omega)) (cnM_n hx14_6 (fun q9 => by have q8 := k64.mpr q9; omega) (by omega) (by omega) (by omega)) (by first | exact ms_su hx14_7 ty82 (by decide) | omega) hI hKp ((pw74.2 0 0 (fun q9 => absurd q9.1 (Nat.ne_of_beq_eq_false rfl))).trans hs14_0_0) hg75 hP hS (lv_sub hl [0, 1, 2, 5, 6, 7] rfl)
                  · --149 not
                    have t83 : ¬ v29_7.toInt = 0 := ti_ne c79
                    have i84 : 1 ≤ v29_7.toInt ∧ v29_7.toInt ≤ 0 := iv_ne_l t83 i67 (il_ 0)
                    exact iv_no i84 (by decide)
              · --70 not
                have t85 : ¬ v29_7.toInt = 0 := ti_ne c65
                have i86 : 1 ≤ v29_7.toInt ∧ v29_7.toInt ≤ 1 := iv_ne_l t85 hv29_7 (il_ 0)
                refine lv_aload_n hx hb dX13_draw_73 rfl (lv_at hl 5 rfl) ?_
                refine lv_iload hx hb dX13_draw_74 (lv_at hl 2 rfl) ?_
                refine th_i (va_runV (As := [.int v14_6]) (rest := []) ⟨hx, hb, hml, hown, hts⟩ (q_fitOfM l dC dI cT ad E14_ H.size v14_6 hI i57 (by exact hh0.cg (fun j9 => hKp.ei 8 j9 rfl) (fun j9 => hKp.ei 9 j9 rfl) (hKp.ei 0 17 rfl))) (cwV 1 hts (gi_V (in_31 _ (zs4 (zs4 (zs4 (zs1 (zs1 (zs0))))))) (in_31 _ (zs4 (zs4 (zs4 (zs1 (zs1 (zs1 (zs0)))))))) (in_31 _ (zs16 (zs0))) (in_24 _ (zs4 (zs4 (zs4 (zs1 (zs1 (zs1 (zs0)))))))) (in_31 _ (zs16 (zs1 (zs0))))) rfl rfl rfl ⟨rfl, hz_yX13_fitOf_1⟩ ⟨Nat.le_of_ble_eq_true rfl, Nat.le_of_ble_eq_true rfl⟩) ⟨HW_bl, va_recv hK hP (ci := 14) (q0 := 0) rfl (hI.ob 0 (Nat.le_of_ble_eq_true rfl) rfl), (HW_wi hP hK (WX_D hD) hS hA hEV)⟩ rfl rfl hl.1 rfl (lv_room (Nat.le_of_ble_eq_true rfl)) dX13_draw_76 ⟨Nat.le_of_ble_eq_true rfl, Nat.le_of_ble_eq_true rfl⟩) (WX_D hD) hS hA (fun r87 E88 H locs hw hP hS => ?_)
                obtain ⟨hI, kq89, hw⟩ := hw
                have hKb := hKp
                have hKp := hKp.tr kq89 (wl_sub rfl rfl)
                obtain ⟨f90, f91⟩ := hw
                have i92 : 0 ≤ (xi (E 0) 1).toInt ∧ (xi (E 0) 1).toInt ≤ 400 := (show 0 ≤ (xi (E 0) 1).toInt ∧ (xi (E 0) 1).toInt ≤ 400 from hI0.iv 0 (Nat.le_of_ble_eq_true rfl) rfl (Nat.le_of_ble_eq_true rfl) rfl)
                have i93 : 0 ≤ (xi (E 0) 46).toInt ∧ (xi (E 0) 46).toInt ≤ 20 := (show 0 ≤ (xi (E 0) 46).toInt ∧ (xi (E 0) 46).toInt ≤ 20 from hI0.iv 0 (Nat.le_of_ble_eq_true rfl) rfl (Nat.le_of_ble_eq_true rfl) rfl)
                try rw [hKb.ei 0 1 rfl] at f91
                try rw [hKb.ei 0 46 rfl] at f91
                have k95 : KdN E E14_ := KdN.of hKb rfl rfl rfl rfl rfl
                have k94 : FtR (ftMP E (nI v14_6.toNatClampNeg) (xi (E 0) 1)) (ftMF E (nI v14_6.toNatClampNeg) (xi (E 0) 1)) (xi (E 0) 46).toNatClampNeg r87.toInt := by rw [nI_tn (show 0 ≤ v14_6.toInt by omega)]; exact FtR_kd k95 (hKb.ei 0 8 rfl) f91
                refine lv_goto (tgt := 83) hx hb dX13_draw_79 (by decide) ?_
                refine lv_istore (lv' := [(8, .int r87), (7, .int v29_7), (6, .int v14_6), (5, .int v14_5), (4, .int v14_4), (0, .ref (ad 0)), (1, .int a0), (2, .long a1)]) hx hb dX13_draw_83 hl (by decide) rfl (fun ls hl => ?_)
                refine lv_aload_n hx hb dX13_draw_85 rfl (lv_at hl 5 rfl) ?_
                refine th_get (ci := 14) (C := RX13) (T := TX13) (N := 97) (v := .ref (ad 71)) hx hb hts hinX13 hown hK hP hI 0 (Nat.le_of_ble_eq_true rfl) rfl rfl 96 (Nat.le_of_ble_eq_true rfl) (hts _ (vA_in _ _ (in_31 _ (zs4 (zs4 (zs1 (zs1 (zs1 (zs0))))))))) (fun _ h9 => h9) (hI.fr 0 (Nat.le_of_ble_eq_true rfl) rfl (Nat.le_of_ble_eq_true rfl) 71 rfl) dX13_draw_86 ?_
                refine lv_iload hx hb dX13_draw_89 (lv_at hl 2 rfl) ?_
                refine lv_iload hx hb dX13_draw_91 (lv_at hl 1 rfl) ?_
                refine lv_if_ne (tgt := 100) hx hb dX13_draw_93 (by decide) (fun c96 => ?_) (fun c96 => ?_)
                · --93 taken
                  have t97 : ¬ v29_7.toInt = 0 := ti_ne c96
                  refine lv_iload hx hb dX13_draw_100 (lv_at hl 0 rfl) ?_
                  refine lv_iconst (v := -1) hx hb dX13_draw_102 (by decide) ?_
                  refine lv_icmp_ne (tgt := 110) hx hb dX13_draw_103 (by decide) (fun c98 => ?_) (fun c98 => ?_)
                  · --103 taken
                    have t99 : ¬ r87.toInt = -1 := ti_ne c98
                    have i100 : 0 ≤ r87.toInt ∧ r87.toInt ≤ 2000 := iv_ne_l t99 f90 (il_ (-1))
                    refine lv_iconst (v := 1) hx hb dX13_draw_110 (by decide) ?_
                    refine lv_iload hx hb dX13_draw_111 (lv_at hl 0 rfl) ?_
                    refine lv_aload_n hx hb dX13_draw_113 rfl (lv_at hl 5 rfl) ?_
                    refine lv_iload hx hb dX13_draw_114 (lv_at hl 2 rfl) ?_
                    refine lv_aload_n hx hb dX13_draw_116 rfl (lv_at hl 5 rfl) ?_
                    refine th_get (ci := 14) (C := RX13) (T := TX13) (N := 97) (v := .int (xi (E 0) 1)) hx hb hts hinX13 hown hK hP hI 0 (Nat.le_of_ble_eq_true rfl) rfl rfl 1 (Nat.le_of_ble_eq_true rfl) (hts _ (vA_in _ _ (in_24 _ (zs16 (zs4 (zs4 (zs1 (zs1 (zs1 (zs0)))))))))) (fun _ h9 => h9) (th_v0 hKp hI0 0 (Nat.le_of_ble_eq_true rfl) rfl (Nat.le_of_ble_eq_true rfl) rfl rfl) dX13_draw_117 ?_
                    refine lv_aload_n hx hb dX13_draw_120 rfl (lv_at hl 5 rfl) ?_
                    refine th_get (ci := 14) (C := RX13) (T := TX13) (N := 97) (v := .int (xi (E 0) 1)) hx hb hts hinX13 hown hK hP hI 0 (Nat.le_of_ble_eq_true rfl) rfl rfl 1 (Nat.le_of_ble_eq_true rfl) (hts _ (vA_in _ _ (in_24 _ (zs16 (zs4 (zs4 (zs1 (zs1 (zs1 (zs0)))))))))) (fun _ h9 => h9) (th_v0 hKp hI0 0 (Nat.le_of_ble_eq_true rfl) rfl (Nat.le_of_ble_eq_true rfl) rfl rfl) dX13_draw_121 ?_
                    refine th_i (va_runV (As := [.int v14_6, .int (xi (E 0) 1), .int (xi (E 0) 1)]) (rest := [.int r87, .int 1, .int v14_6, .ref (ad 71)]) ⟨hx, hb, hml, hown, hts⟩ (q_numberOfM l dC dI cT ad E88 H.size v14_6 (xi (E 0) 1) (xi (E 0) 1) hI (by exact hh0.cg (fun j9 => hKp.ei 8 j9 rfl) (fun j9 => hKp.ei 9 j9 rfl) (hKp.ei 0 17 rfl))) (cwV 3 hts (gi_V (in_28 _ (zs16 (zs4 (zs1 (zs1 (zs0)))))) (in_28 _ (zs16 (zs4 (zs1 (zs1 (zs1 (zs0))))))) (in_28 _ (zs16 (zs4 (zs4 (zs0))))) (in_24 _ (zs4 (zs4 (zs4 (zs1 (zs1 (zs1 (zs0)))))))) (in_28 _ (zs16 (zs4 (zs4 (zs1 (zs0))))))) rfl rfl rfl ⟨rfl, hz_yX13_numberOf_3⟩ ⟨Nat.le_of_ble_eq_true rfl, Nat.le_of_ble_eq_true rfl⟩) ⟨HW_bl, va_recv hK hP (ci := 14) (q0 := 0) rfl (hI.ob 0 (Nat.le_of_ble_eq_true rfl) rfl), (HW_wi hP hK (WX_D hD) hS hA hEV)⟩ rfl rfl hl.1 rfl (lv_room (Nat.le_of_ble_eq_true rfl)) dX13_draw_124 ⟨Nat.le_of_ble_eq_true rfl, Nat.le_of_ble_eq_true rfl⟩) (WX_D hD) hS hA (fun r101 E102 H locs hw hP hS => ?_)
                    obtain ⟨hI, kq103, hw⟩ := hw
                    have hKb := hKp
                    have hKp := hKp.tr kq103 (wl_sub rfl rfl)
                    have f104 := hw
                    have k106 : KdN E E88 := KdN.of hKb rfl rfl rfl rfl rfl
                    have k105 : r101.toInt = numM E (nI v14_6.toNatClampNeg) (xi (E 0) 1) (xi (E 0) 1) := by rw [nI_tn (show 0 ≤ v14_6.toInt by omega)]; exact f104.trans (k106.nm _ _ _)
                    have i107 : 500 ≤ r101.toInt ∧ r101.toInt ≤ 2000 := by have h9 := numM_in (E := E) (boat := nI v14_6.toNatClampNeg) (day := (xi (E 0) 1)) (q := (xi (E 0) 1)); omega
                    refine lv_isub hx hb dX13_draw_127 ?_
                    refine lv_topi (fun y108 ey108 => ?_)
                    obtain ⟨ty108, iy108⟩ := ti_sub (e := (-2000)) (f := 1500) i100 i107 ey108 (by decide)
                    have ty108 : y108.toInt = r87.toInt - r101.toInt := ty108
                    have iy108 : -2000 ≤ y108.toInt ∧ y108.toInt ≤ 1500 := iy108
                    refine va_mabs hx hb (by rw [hml]; exact hl.1.symm) hown (hts _ (vA_in _ _ (in_25 _ (zs16 (zs16 (zs1 (zs1 (zs0)))))))) (hts _ (vA_in _ _ (in_23 _ (zs4 (zs4 (zs1 (zs1 (zs0)))))))) (hts _ (vA_in _ _ (in_0 _ (zs16 (zs16 (zs1 (zs0))))))) (hts _ (vA_in _ _ (in_23 _ (zs4 (zs4 (zs1 (zs1 (zs1 (zs0))))))))) (Nat.le_of_ble_eq_true rfl) (Nat.le_of_ble_eq_true rfl) (Nat.le_of_ble_eq_true rfl) (Nat.le_of_ble_eq_true rfl) dX13_draw_128 ?_
                    refine lv_topi (fun y109 ey109 => ?_)
                    obtain ⟨ty109, iy109⟩ := ti_abs (e := 0) (f := 2000) iy108 ey109 (by decide)
                    have iy109 : 0 ≤ y109.toInt ∧ y109.toInt ≤ 2000 := iy109
                    have k110 : y109.toInt = ab (r87.toInt - numM E (nI v14_6.toNatClampNeg) (xi (E 0) 1) (xi (E 0) 1)) := by rw [← k105]; unfold ab; exact dite (0 ≤ r87.toInt - r101.toInt) (fun q6 => by rw [if_pos q6]; omega) (fun q6 => by rw [if_neg q6]; omega)
                    refine lv_iadd hx hb dX13_draw_131 ?_
                    refine lv_topi (fun y111 ey111 => ?_)
                    obtain ⟨ty111, iy111⟩ := ti_add (e := 1) (f := 2001) ln_1 iy109 ey111 (by decide)
                    have ty111 : y111.toInt = 1 + y109.toInt := ty111
                    have iy111 : 1 ≤ y111.toInt ∧ y111.toInt ≤ 2001 := iy111
                    have n112 : vp_in v14_6 16 := (iv_in (n := 16) i57 (by decide))
                    refine th_iast hx hb hK hP (WX_D hD) hS hI 71 (Nat.le_of_ble_eq_true rfl) rfl rfl n112 (okI rfl (iv_w iy111 (by decide))) dX13_draw_132 (fun H locs E113 pw114 hI hP hS => ?_)
                    have hKp := hKp.pw pw114 rfl
                    obtain ⟨g115, eg115⟩ : ∃ z : Nat → Int32, z = upd g14_71 v14_6.toNatClampNeg y111 := ⟨_, rfl⟩
                    have hg115 : xi (E113 71) = g115 := by rw [pw114.eu, ((kq103.ef 71 (fun _ => rfl)).trans ((kq89.ef 71 (fun _ => rfl)).trans hr14_71)), eg115]
                    refine lv_iload hx hb dX13_draw_133 (lv_at hl 4 rfl) ?_
                    refine lv_aload_n hx hb dX13_draw_135 rfl (lv_at hl 5 rfl) ?_
                    refine th_get (ci := 14) (C := RX13) (T := TX13) (N := 97) (v := .ref (ad 71)) hx hb hts hinX13 hown hK hP hI 0 (Nat.le_of_ble_eq_true rfl) rfl rfl 96 (Nat.le_of_ble_eq_true rfl) (hts _ (vA_in _ _ (in_31 _ (zs4 (zs4 (zs1 (zs1 (zs1 (zs0))))))))) (fun _ h9 => h9) (hI.fr 0 (Nat.le_of_ble_eq_true rfl) rfl (Nat.le_of_ble_eq_true rfl) 71 rfl) dX13_draw_136 ?_
                    refine lv_iload hx hb dX13_draw_139 (lv_at hl 2 rfl) ?_
                    have n117 : vp_in v14_6 16 := (iv_in (n := 16) i57 (by decide))
                    refine th_iald hx hb hK hP hI 71 (Nat.le_of_ble_eq_true rfl) rfl rfl n117 dX13_draw_141 (fun y116 ey116 => ?_)
                    have iy116 : 0 ≤ y116.toInt ∧ y116.toInt ≤ 2001 := hI.el 71 (Nat.le_of_ble_eq_true rfl) rfl n117 (fun _ => rfl) ey116
                    have ey116 := ey116.trans (congrFun hg115 _)
                    refine lv_iadd hx hb dX13_draw_142 ?_
                    refine lv_topi (fun y118 ey118 => ?_)
                    obtain ⟨ty118, iy118⟩ := ti_add (e := 0) (f := 32016) i59 iy116 ey118 (by decide)
                    have ty118 : y118.toInt = v14_4.toInt + y116.toInt := ty118
                    have iy118 : 0 ≤ y118.toInt ∧ y118.toInt ≤ 32016 := iy118
                    refine lv_istore (lv' := [(4, .int y118), (8, .int r87), (7, .int v29_7), (6, .int v14_6), (5, .int v14_5), (0, .ref (ad 0)), (1, .int a0), (2, .long a1)]) hx hb dX13_draw_143 hl (by decide) rfl (fun ls hl => ?_)
                    refine lv_iload hx hb dX13_draw_145 (lv_at hl 4 rfl) ?_
                    refine lv_iload hx hb dX13_draw_147 (lv_at hl 2 rfl) ?_
                    refine lv_if_eq (tgt := 156) hx hb dX13_draw_149 (by decide) (fun c119 => ?_) (fun c119 => ?_)
                    · --149 taken
                      have t120 : v29_7.toInt = 0 := ti_eq c119
                      have i121 : 1 ≤ v29_7.toInt ∧ v29_7.toInt ≤ 0 := iv_eqi t120 i86 (il_ 0) (by decide)
                      exact iv_no i121 (by decide)
                    · --149 not
                      have t122 : ¬ v29_7.toInt = 0 := ti_ne c119
                      refine lv_iconst (v := 1) hx hb dX13_draw_152 (by decide) ?_
                      refine lv_goto (tgt := 157) hx hb dX13_draw_153 (by decide) ?_
                      refine lv_iadd hx hb dX13_draw_157 ?_
                      refine lv_topi (fun y123 ey123 => ?_)
                      obtain ⟨ty123, iy123⟩ := ti_add (e := 1) (f := 16) i60 ln_1 ey123 (by decide)
                      have ty123 : y123.toInt = v14_5.toInt + 1 := ty123
                      have iy123 : 1 ≤ y123.toInt ∧ y123.toInt ≤ 16 := iy123
                      refine lv_istore (lv' := [(5, .int y123), (4, .int y118), (8, .int r87), (7, .int v29_7), (6, .int v14_6), (0, .ref (ad 0)), (1, .int a0), (2, .long a1)]) hx hb dX13_draw_158 hl (by decide) rfl (fun ls hl => ?_)
                      obtain ⟨y124, ey124⟩ : ∃ y : Int32, y = v14_6 + (1 : Int32) := ⟨_, rfl⟩
                      obtain ⟨ty124, iy124⟩ := ti_add (e := 1) (f := 16) i57 ln_1 ey124 (by decide)
                      have ty124 : y124.toInt = v14_6.toInt + 1 := ty124
                      have iy124 : 1 ≤ y124.toInt ∧ y124.toInt ≤ 16 := iy124
                      refine lv_iinc (v := y124) (lv' := [(6, .int y124), (5, .int y123), (4, .int y118), (8, .int r87), (7, .int v29_7), (0, .ref (ad 0)), (1, .int a0), (2, .long a1)]) hx hb dX13_draw_160 hl (k := 4) rfl (by rw [ey124]; rfl) (by decide) rfl (fun ls hl => ?_)
                      refine lv_goto (tgt := 14) hx hb dX13_draw_163 (by decide) ?_
                      exact ih14 g115 y124 y123 y118 E113 _ _ _ (iv_w iy124 (by decide)) (iv_w iy123 (by decide)) iy118 (by have h7 := congrArg Int32.toInt (show y116 = y111 from by rw [ey116, eg115, pk_us]); have h6 := (sumI_push (g := g14_71) (b := v14_6) (b2 := y124) (x := y111) (by omega) (by omega) ty124 eg115); have h5 := iy111; have z0 := ln_0; have z1 := ln_1; omega) (by have h7 := congrArg Int32.toInt (show y116 = y111 from by rw [ey116, eg115, pk_us]); have h6 := (sumI_push (g := g14_71) (b := v14_6) (b2 := y124) (x := y111) (by omega) (by omega) ty124 eg115); have h5 := iy111; have z0 := ln_0; have z1 := ln_1; have h4 := h6.2; split at h4 <;> omega) (by have h7 := congrArg Int32.toInt (show y116 = y111 from by rw [ey116, eg115, pk_us]); have h6 := (sumI_push (g := g14_71) (b := v14_6) (b2 := y124) (x := y111) (by omega) (by omega) ty124 eg115); have h5 := iy111; have z0 := ln_0; have z1 := ln_1; omega) (by have h7 := congrArg Int32.toInt (show y116 = y111 from by rw [ey116, eg115, pk_us]); have h6 := (sumI_push (g := g14_71) (b := v14_6) (b2 := y124) (x := y111) (by omega) (by omega) ty124 eg115); have h5 := iy111; have z0 := ln_0; have z1 := ln_1; omega) (by omega) (up_s (P := (fun b9 z9 => WdM E (xi (E 0) 1) b9 z9.toInt)) hx14_5 eg115 (show WdM E (xi (E 0) 1) v14_6.toNatClampNeg y111.toInt from ⟨fun q9 => absurd (k64.mp (by omega)) q9, fun _ => ⟨_, k94, fun q9 => by exfalso; omega, fun _ => by rw [← k110]; have z1 := ln_1; omega⟩⟩) (by omega) (by omega)) (cnM_y hx14_6 (k64.mp (by omega)) (by have z1 := ln_1; omega) (by omega) (by omega)) (by first | exact ms_su hx14_7 ty124 (by decide) | omega) hI hKp ((pw114.2 0 0 (fun q9 => absurd q9.1 (Nat.ne_of_beq_eq_false rfl))).trans ((kq103 0 0 rfl).trans ((kq89 0 0 rfl).trans hs14_0_0))) hg115 hP hS (lv_sub hl [0, 1, 2, 5, 6, 7] rfl)
                  · --103 not
                    have t125 : r87.toInt = -1 := ti_eq c98
                    have i126 : -1 ≤ r87.toInt ∧ r87.toInt ≤ -1 := iv_eqi t125 f90 (il_ (-1)) (by decide)
                    refine lv_iconst (v := 1) hx hb dX13_draw_106 (by decide) ?_
                    refine lv_goto (tgt := 132) hx hb dX13_draw_107 (by decide) ?_
                    have n127 : vp_in v14_6 16 := (iv_in (n := 16) i57 (by decide))
                    refine th_iast hx hb hK hP (WX_D hD) hS hI 71 (Nat.le_of_ble_eq_true rfl) rfl rfl n127 (okI rfl (iv_w ln_1 (by decide))) dX13_draw_132 (fun H locs E128 pw129 hI hP hS => ?_)
                    have hKp := hKp.pw pw129 rfl
                    obtain ⟨g130, eg130⟩ : ∃ z : Nat → Int32, z = upd g14_71 v14_6.toNatClampNeg (1 : Int32) := ⟨_, rfl⟩
                    have hg130 : xi (E128 71) = g130 := by rw [pw129.eu, ((kq89.ef 71 (fun _ => rfl)).trans hr14_71), eg130]
                    refine lv_iload hx hb dX13_draw_133 (lv_at hl 4 rfl) ?_
                    refine lv_aload_n hx hb dX13_draw_135 rfl (lv_at hl 5 rfl) ?_
                    refine th_get (ci := 14) (C := RX13) (T := TX13) (N := 97) (v := .ref (ad 71)) hx hb hts hinX13 hown hK hP hI 0 (Nat.le_of_ble_eq_true rfl) rfl rfl 96 (Nat.le_of_ble_eq_true rfl) (hts _ (vA_in _ _ (in_31 _ (zs4 (zs4 (zs1 (zs1 (zs1 (zs0))))))))) (fun _ h9 => h9) (hI.fr 0 (Nat.le_of_ble_eq_true rfl) rfl (Nat.le_of_ble_eq_true rfl) 71 rfl) dX13_draw_136 ?_
                    refine lv_iload hx hb dX13_draw_139 (lv_at hl 2 rfl) ?_
                    have n132 : vp_in v14_6 16 := (iv_in (n := 16) i57 (by decide))
                    refine th_iald hx hb hK hP hI 71 (Nat.le_of_ble_eq_true rfl) rfl rfl n132 dX13_draw_141 (fun y131 ey131 => ?_)
                    have iy131 : 0 ≤ y131.toInt ∧ y131.toInt ≤ 2001 := hI.el 71 (Nat.le_of_ble_eq_true rfl) rfl n132 (fun _ => rfl) ey131
                    have ey131 := ey131.trans (congrFun hg130 _)
                    refine lv_iadd hx hb dX13_draw_142 ?_
                    refine lv_topi (fun y133 ey133 => ?_)
                    obtain ⟨ty133, iy133⟩ := ti_add (e := 0) (f := 32016) i59 iy131 ey133 (by decide)
                    have ty133 : y133.toInt = v14_4.toInt + y131.toInt := ty133
                    have iy133 : 0 ≤ y133.toInt ∧ y133.toInt ≤ 32016 := iy133
                    refine lv_istore (lv' := [(4, .int y133), (8, .int r87), (7, .int v29_7), (6, .int v14_6), (5, .int v14_5), (0, .ref (ad 0)), (1, .int a0), (2, .long a1)]) hx hb dX13_draw_143 hl (by decide) rfl (fun ls hl => ?_)
                    refine lv_iload hx hb dX13_draw_145 (lv_at hl 4 rfl) ?_
                    refine lv_iload hx hb dX13_draw_147 (lv_at hl 2 rfl) ?_
                    refine lv_if_eq (tgt := 156) hx hb dX13_draw_149 (by decide) (fun c134 => ?_) (fun c134 => ?_)
                    · --149 taken
                      have t135 : v29_7.toInt = 0 := ti_eq c134
                      have i136 : 1 ≤ v29_7.toInt ∧ v29_7.toInt ≤ 0 := iv_eqi t135 i86 (il_ 0) (by decide)
                      exact iv_no i136 (by decide)
                    · --149 not
                      have t137 : ¬ v29_7.toInt = 0 := ti_ne c134
                      refine lv_iconst (v := 1) hx hb dX13_draw_152 (by decide) ?_
                      refine lv_goto (tgt := 157) hx hb dX13_draw_153 (by decide) ?_
                      refine lv_iadd hx hb dX13_draw_157 ?_
                      refine lv_topi (fun y138 ey138 => ?_)
                      obtain ⟨ty138, iy138⟩ := ti_add (e := 1) (f := 16) i60 ln_1 ey138 (by decide)
                      have ty138 : y138.toInt = v14_5.toInt + 1 := ty138
                      have iy138 : 1 ≤ y138.toInt ∧ y138.toInt ≤ 16 := iy138
                      refine lv_istore (lv' := [(5, .int y138), (4, .int y133), (8, .int r87), (7, .int v29_7), (6, .int v14_6), (0, .ref (ad 0)), (1, .int a0), (2, .long a1)]) hx hb dX13_draw_158 hl (by decide) rfl (fun ls hl => ?_)
                      obtain ⟨y139, ey139⟩ : ∃ y : Int32, y = v14_6 + (1 : Int32) := ⟨_, rfl⟩
                      obtain ⟨ty139, iy139⟩ := ti_add (e := 1) (f := 16) i57 ln_1 ey139 (by decide)
                      have ty139 : y139.toInt = v14_6.toInt + 1 := ty139
                      have iy139 : 1 ≤ y139.toInt ∧ y139.toInt ≤ 16 := iy139
                      refine lv_iinc (v := y139) (lv' := [(6, .int y139), (5, .int y138), (4, .int y133), (8, .int r87), (7, .int v29_7), (0, .ref (ad 0)), (1, .int a0), (2, .long a1)]) hx hb dX13_draw_160 hl (k := 4) rfl (by rw [ey139]; rfl) (by decide) rfl (fun ls hl => ?_)
                      refine lv_goto (tgt := 14) hx hb dX13_draw_163 (by decide) ?_
                      exact ih14 g130 y139 y138 y133 E128 _ _ _ (iv_w iy139 (by decide)) (iv_w iy138 (by decide)) iy133 (by have h7 := congrArg Int32.toInt (show y131 = (1 : Int32) from by rw [ey131, eg130, pk_us]); have h6 := (sumI_push (g := g14_71) (b := v14_6) (b2 := y139) (x := (1 : Int32)) (by omega) (by omega) ty139 eg130); have h5 := ln_1; have z0 := ln_0; have z1 := ln_1; omega) (by have h7 := congrArg Int32.toInt (show y131 = (1 : Int32) from by rw [ey131, eg130, pk_us]); have h6 := (sumI_push (g := g14_71) (b := v14_6) (b2 := y139) (x := (1 : Int32)) (by omega) (by omega) ty139 eg130); have h5 := ln_1; have z0 := ln_0; have z1 := ln_1; have h4 := h6.2; split at h4 <;> omega) (by have h7 := congrArg Int32.toInt (show y131 = (1 : Int32) from by rw [ey131, eg130, pk_us]); have h6 := (sumI_push (g := g14_71) (b := v14_6) (b2 := y139) (x := (1 : Int32)) (by omega) (by omega) ty139 eg130); have h5 := ln_1; have z0 := ln_0; have z1 := ln_1; omega) (by have h7 := congrArg Int32.toInt (show y131 = (1 : Int32) from by rw [ey131, eg130, pk_us]); have h6 := (sumI_push (g := g14_71) (b := v14_6) (b2 := y139) (x := (1 : Int32)) (by omega) (by omega) ty139 eg130); have h5 := ln_1; have z0 := ln_0; have z1 := ln_1; omega) (by omega) (up_s (P := (fun b9 z9 => WdM E (xi (E 0) 1) b9 z9.toInt)) hx14_5 eg130 (show WdM E (xi (E 0) 1) v14_6.toNatClampNeg (1 : Int32).toInt from ⟨fun q9 => absurd (k64.mp (by omega)) q9, fun _ => ⟨_, k94, fun _ => rfl, fun q9 => by exfalso; omega⟩⟩) (by omega) (by omega)) (cnM_y hx14_6 (k64.mp (by omega)) (by have z1 := ln_1; omega) (by omega) (by omega)) (by first | exact ms_su hx14_7 ty139 (by decide) | omega) hI hKp ((pw129.2 0 0 (fun q9 => absurd q9.1 (Nat.ne_of_beq_eq_false rfl))).trans ((kq89 0 0 rfl).trans hs14_0_0)) hg130 hP hS (lv_sub hl [0, 1, 2, 5, 6, 7] rfl)
                · --93 not
                  have t140 : v29_7.toInt = 0 := ti_eq c96
                  have i141 : 1 ≤ v29_7.toInt ∧ v29_7.toInt ≤ 0 := iv_eqi t140 i86 (il_ 0) (by decide)
                  exact iv_no i141 (by decide)
            · --35 not
              have t142 : v29_8.toInt < (xi (E 0) 9).toInt := ti_nle c62
              have i143 : 0 ≤ v29_8.toInt ∧ v29_8.toInt ≤ 79 := iv_lt_l t142 hv29_8 i61 (by decide)
              have i144 : 1 ≤ (xi (E 0) 9).toInt ∧ (xi (E 0) 9).toInt ≤ 80 := iv_lt_r t142 hv29_8 i61 (by decide)
              refine lv_iload hx hb dX13_draw_38 (lv_at hl 1 rfl) ?_
              refine lv_if_ne (tgt := 55) hx hb dX13_draw_40 (by decide) (fun c145 => ?_) (fun c145 => ?_)
              · --40 taken
                have t146 : ¬ v29_7.toInt = 0 := ti_ne c145
                have i147 : 1 ≤ v29_7.toInt ∧ v29_7.toInt ≤ 1 := iv_ne_l t146 hv29_7 (il_ 0)
                refine lv_iconst (v := 1) hx hb dX13_draw_55 (by decide) ?_
                refine lv_goto (tgt := 60) hx hb dX13_draw_56 (by decide) ?_
                refine lv_istore (lv' := [(7, .int 1), (8, .int v29_8), (6, .int v14_6), (5, .int v14_5), (4, .int v14_4), (0, .ref (ad 0)), (1, .int a0), (2, .long a1)]) hx hb dX13_draw_60 hl (by decide) rfl (fun ls hl => ?_)
                obtain ⟨y148, ey148⟩ : ∃ y : Int32, y = v29_8 + (1 : Int32) := ⟨_, rfl⟩
                obtain ⟨ty148, iy148⟩ := ti_add (e := 1) (f := 80) i143 ln_1 ey148 (by decide)
                have ty148 : y148.toInt = v29_8.toInt + 1 := ty148
                have iy148 : 1 ≤ y148.toInt ∧ y148.toInt ≤ 80 := iy148
                refine lv_iinc (v := y148) (lv' := [(8, .int y148), (7, .int 1), (6, .int v14_6), (5, .int v14_5), (4, .int v14_4), (0, .ref (ad 0)), (1, .int a0), (2, .long a1)]) hx hb dX13_draw_62 hl (k := 1) rfl (by rw [ey148]; rfl) (by decide) rfl (fun ls hl => ?_)
                refine lv_goto (tgt := 29) hx hb dX13_draw_65 (by decide) ?_
                exact ih29 y148 (1 : Int32) _ _ _ (iv_w iy148 (by decide)) (iv_w ln_1 (by decide)) (hx29_0.keep (by omega) (show (1 : Int32).toInt = 1 from rfl) (by rw [tn_ y148, tn_ v29_8]; omega)) (by omega) (by first | exact ms_su hx29_2 ty148 (by decide) | omega) hP hS (lv_sub hl [0, 1, 2, 3, 4, 5, 6, 7] rfl)
              · --40 not
                have t149 : v29_7.toInt = 0 := ti_eq c145
                have i150 : 0 ≤ v29_7.toInt ∧ v29_7.toInt ≤ 0 := iv_eqi t149 hv29_7 (il_ 0) (by decide)
                refine lv_aload_n hx hb dX13_draw_43 rfl (lv_at hl 5 rfl) ?_
                refine th_get (ci := 14) (C := RX13) (T := TX13) (N := 97) (v := .ref (ad 1)) hx hb hts hinX13 hown hK hP hI 0 (Nat.le_of_ble_eq_true rfl) rfl rfl 2 (Nat.le_of_ble_eq_true rfl) (hts _ (vA_in _ _ (in_27 _ (zs4 (zs4 (zs1 (zs1 (zs0)))))))) (fun _ h9 => h9) (hI.fr 0 (Nat.le_of_ble_eq_true rfl) rfl (Nat.le_of_ble_eq_true rfl) 1 rfl) dX13_draw_44 ?_
                refine lv_iload hx hb dX13_draw_47 (lv_at hl 0 rfl) ?_
                have n152 : vp_in v29_8 80 := (iv_in (n := 80) i143 (by decide))
                refine th_iald hx hb hK hP hI 1 (Nat.le_of_ble_eq_true rfl) rfl rfl n152 dX13_draw_49 (fun y151 ey151 => ?_)
                have iy151 : 0 ≤ y151.toInt ∧ y151.toInt ≤ 15 := hI.el 1 (Nat.le_of_ble_eq_true rfl) rfl n152 (fun _ => rfl) ey151
                have ey151 := ey151.trans (hKp.ei 1 _ rfl)
                refine lv_iload hx hb dX13_draw_50 (lv_at hl 2 rfl) ?_
                refine lv_icmp_ne (tgt := 59) hx hb dX13_draw_52 (by decide) (fun c153 => ?_) (fun c153 => ?_)
                · --52 taken
                  have t154 : ¬ y151.toInt = v14_6.toInt := ti_ne c153
                  refine lv_iconst (v := 0) hx hb dX13_draw_59 (by decide) ?_
                  refine lv_istore (lv' := [(7, .int 0), (8, .int v29_8), (6, .int v14_6), (5, .int v14_5), (4, .int v14_4), (0, .ref (ad 0)), (1, .int a0), (2, .long a1)]) hx hb dX13_draw_60 hl (by decide) rfl (fun ls hl => ?_)
                  obtain ⟨y155, ey155⟩ : ∃ y : Int32, y = v29_8 + (1 : Int32) := ⟨_, rfl⟩
                  obtain ⟨ty155, iy155⟩ := ti_add (e := 1) (f := 80) i143 ln_1 ey155 (by decide)
                  have ty155 : y155.toInt = v29_8.toInt + 1 := ty155
                  have iy155 : 1 ≤ y155.toInt ∧ y155.toInt ≤ 80 := iy155
                  refine lv_iinc (v := y155) (lv' := [(8, .int y155), (7, .int 0), (6, .int v14_6), (5, .int v14_5), (4, .int v14_4), (0, .ref (ad 0)), (1, .int a0), (2, .long a1)]) hx hb dX13_draw_62 hl (k := 1) rfl (by rw [ey155]; rfl) (by decide) rfl (fun ls hl => ?_)
                  refine lv_goto (tgt := 29) hx hb dX13_draw_65 (by decide) ?_
                  exact ih29 y155 (0 : Int32) _ _ _ (iv_w iy155 (by decide)) (iv_w ln_0 (by decide)) (hx29_0.no (by omega) (fun q9 => by have q8 : (xi (E 1) v29_8.toNatClampNeg).toInt = ((v14_6.toNatClampNeg : Nat) : Int) := q9; rw [← ey151, tn_ v14_6] at q8; omega) (show (0 : Int32).toInt = 0 from rfl) (by rw [tn_ y155, tn_ v29_8]; omega)) (by omega) (by first | exact ms_su hx29_2 ty155 (by decide) | omega) hP hS (lv_sub hl [0, 1, 2, 3, 4, 5, 6, 7] rfl)
                · --52 not
                  have t156 : y151.toInt = v14_6.toInt := ti_eq c153
                  refine lv_iconst (v := 1) hx hb dX13_draw_55 (by decide) ?_
                  refine lv_goto (tgt := 60) hx hb dX13_draw_56 (by decide) ?_
                  refine lv_istore (lv' := [(7, .int 1), (8, .int v29_8), (6, .int v14_6), (5, .int v14_5), (4, .int v14_4), (0, .ref (ad 0)), (1, .int a0), (2, .long a1)]) hx hb dX13_draw_60 hl (by decide) rfl (fun ls hl => ?_)
                  obtain ⟨y157, ey157⟩ : ∃ y : Int32, y = v29_8 + (1 : Int32) := ⟨_, rfl⟩
                  obtain ⟨ty157, iy157⟩ := ti_add (e := 1) (f := 80) i143 ln_1 ey157 (by decide)
                  have ty157 : y157.toInt = v29_8.toInt + 1 := ty157
                  have iy157 : 1 ≤ y157.toInt ∧ y157.toInt ≤ 80 := iy157
                  refine lv_iinc (v := y157) (lv' := [(8, .int y157), (7, .int 1), (6, .int v14_6), (5, .int v14_5), (4, .int v14_4), (0, .ref (ad 0)), (1, .int a0), (2, .long a1)]) hx hb dX13_draw_62 hl (k := 1) rfl (by rw [ey157]; rfl) (by decide) rfl (fun ls hl => ?_)
                  refine lv_goto (tgt := 29) hx hb dX13_draw_65 (by decide) ?_
                  exact ih29 y157 (1 : Int32) _ _ _ (iv_w iy157 (by decide)) (iv_w ln_1 (by decide)) (HsR.hit (P := (fun i9 => (xi (E 1) i9).toInt = ((v14_6.toNatClampNeg : Nat) : Int))) (by show (xi (E 1) v29_8.toNatClampNeg).toInt = ((v14_6.toNatClampNeg : Nat) : Int); rw [← ey151, tn_ v14_6]; omega) (show (1 : Int32).toInt = 1 from rfl) (by rw [tn_ y157, tn_ v29_8]; omega)) (by omega) (by first | exact ms_su hx29_2 ty157 (by decide) | omega) hP hS (lv_sub hl [0, 1, 2, 3, 4, 5, 6, 7] rfl)
        exact hL29 (81) (0 : Int32) (0 : Int32) _ _ _ (iv_w ln_0 (by decide)) (iv_w ln_0 (by decide)) (HsR.start (show (0 : Int32).toInt = 0 from rfl)) (by have z9 := ln_0; omega) (by have h9 := ln_0; first | exact ms_bu h9.1 (by decide) | omega) hP hS (lv_sub hl [0, 1, 2, 3, 4, 5, 6, 7] rfl)
  exact hL14 (17) g1 (0 : Int32) (0 : Int32) (0 : Int32) E2 _ _ _ (iv_w ln_0 (by decide)) (iv_w ln_0 (by decide)) (iv_w ln_0 (by decide)) rfl rfl (by decide) (by decide) (by have h9 := ln_0; have h8 := (show 0 ≤ (xi (E 0) 8).toInt ∧ (xi (E 0) 8).toInt ≤ 16 from hI0.iv 0 (Nat.le_of_ble_eq_true rfl) rfl (Nat.le_of_ble_eq_true rfl) rfl); omega) (fun b9 h9 => absurd h9 (Nat.not_lt_zero b9)) (show CnR (cxM E) 0 (0 : Int32).toInt from rfl) (by have h9 := ln_0; first | exact ms_bu h9.1 (by decide) | omega) hI hKp pw3.1 ((pw3.ef 71 (Nat.ne_of_beq_eq_false rfl)).trans hg1) hP hS (lv_sub hl [0, 1, 2, 3, 4, 5] rfl)
section
/-! ===== SCORES (pure) ===== -/
/-- what is thrown out behind k throw outs: rows by RACES -/
def ThR (p : Nat → Int) (K : Nat) : Nat → (Nat → Int32) → Prop
  | 0, t => ∀ r, r < K → t r = 0
  | k + 1, t => ∃ (t0 : Nat → Int32) (w : Nat), ThR p K k t0 ∧ (w < K ∧ t0 w = 0) ∧ (∀ r, r < K → t0 r = 0 → p r < p w ∨ (p r = p w ∧ r ≤ w)) ∧ ∀ r, r < K → t r = if r = w then 1 else t0 r
theorem ThR.cg {p p' : Nat → Int} {K : Nat} : ∀ (k : Nat) (t t' : Nat → Int32), ThR p K k t → (∀ r, r < K → p r = p' r) → (∀ r, r < K → t r = t' r) → ThR p' K k t' := by
  intro k
  induction k with
  | zero =>
    intro t t' h _ e r hr
    rw [← e r hr]
    exact h r hr
  | succ k ih =>
    rintro t t' ⟨t0, w, h1, h2, h3, h4⟩ ep e
    refine ⟨t0, w, ih t0 t0 h1 ep (fun _ _ => rfl), h2, fun r hr z => ?_, fun r hr => ?_⟩
    · rw [← ep r hr, ← ep w h2.1]
      exact h3 r hr z
    · rw [← e r hr]
      exact h4 r hr
theorem ThR.un {p p' : Nat → Int} {K : Nat} (ep : ∀ r, r < K → p r = p' r) : ∀ (k : Nat) (t t' : Nat → Int32), ThR p K k t → ThR p' K k t' → ∀ r, r < K → t r = t' r := by
  intro k
  induction k with
  | zero =>
    intro t t' h h' r hr
    rw [h r hr, h' r hr]
  | succ k ih =>
    rintro t t' ⟨t0, w, h1, h2, h3, h4⟩ ⟨t1, w', q1, q2, q3, q4⟩ r hr
    have e0 := ih t0 t1 h1 q1
    have ew : w = w' := by
      have a1 := h3 w' q2.1 (by rw [e0 w' q2.1]; exact q2.2)
      have a2 := q3 w h2.1 (by rw [← e0 w h2.1]; exact h2.2)
      rw [← ep w' q2.1, ← ep w h2.1] at a2
      omega
    subst ew
    rw [h4 r hr, q4 r hr, e0 r hr]
theorem ThR.one {p : Nat → Int} {K k k' w : Nat} {t t' : Nat → Int32} (h : ThR p K k t) (hw : w < K) (h0 : t w = 0) (hm : ∀ r, r < K → t r = 0 → p r < p w ∨ (p r = p w ∧ r ≤ w)) (e : ∀ r, r < K → t' r = if r = w then 1 else t r) (ek : k' = k + 1) : ThR p K k' t' := by
  subst ek
  exact ⟨t, w, h, ⟨hw, h0⟩, hm, e⟩
theorem ThR.b1 {p : Nat → Int} {K : Nat} : ∀ (k : Nat) (t : Nat → Int32), ThR p K k t → ∀ r, r < K → t r = 0 ∨ t r = 1 := by
  intro k
  induction k with
  | zero => exact fun t h r hr => Or.inl (h r hr)
  | succ k ih =>
    rintro t ⟨t0, w, h1, -, -, h4⟩ r hr
    rw [h4 r hr]
    by_cases q : r = w
    · rw [if_pos q]
      exact Or.inr rfl
    · rw [if_neg q]
      exact ih t0 h1 r hr
/-- how many are kept -/
theorem ThR.kept {p : Nat → Int} {K : Nat} : ∀ (k : Nat) (t : Nat → Int32), ThR p K k t → CnR (fun r => t r = 0) K ((K : Int) - (k : Int)) := by
  have al : ∀ (n : Nat) (t : Nat → Int32), (∀ r, r < n → t r = 0) → CnR (fun r => t r = 0) n (n : Int) := by
    intro n
    induction n with
    | zero => exact fun t _ => rfl
    | succ n ih =>
      intro t h
      refine Or.inl ⟨h n (by omega), ?_⟩
      rw [show ((n + 1 : Nat) : Int) - 1 = (n : Int) by omega]
      exact ih t (fun r hr => h r (by omega))
  have mi : ∀ (n w : Nat) (t t' : Nat → Int32) (c : Int), CnR (fun r => t r = 0) n c → w < n → t w = 0 → (∀ r, r < n → t' r = if r = w then 1 else t r) → CnR (fun r => t' r = 0) n (c - 1) := by
    intro n
    induction n with
    | zero => exact fun w t t' c _ hw => absurd hw (Nat.not_lt_zero w)
    | succ n ih =>
      intro w t t' c h hw h0 e
      by_cases q : w = n
      · subst q
        rcases h with ⟨-, h2⟩ | ⟨h1, -⟩
        · refine Or.inr ⟨?_, ?_⟩
          · show ¬ t' w = 0
            rw [e w (by omega), if_pos rfl]
            decide
          · exact h2.cg w _ (fun r hr => by rw [e r (by omega), if_neg (by omega)])
        · exact absurd h0 h1
      · have en := e n (by omega)
        rw [if_neg (fun z => q z.symm)] at en
        rcases h with ⟨h1, h2⟩ | ⟨h1, h2⟩
        · refine Or.inl ⟨?_, ih w t t' (c - 1) h2 (by omega) h0 (fun r hr => e r (by omega))⟩
          show t' n = 0
          rw [en]
          exact h1
        · refine Or.inr ⟨?_, ih w t t' c h2 (by omega) h0 (fun r hr => e r (by omega))⟩
          show ¬ t' n = 0
          rw [en]
          exact h1
  intro k
  induction k with
  | zero =>
    intro t h
    rw [show (K : Int) - ((0 : Nat) : Int) = (K : Int) by omega]
    exact al K t h
  | succ k ih =>
    rintro t ⟨t0, w, h1, h2, -, h4⟩
    rw [show (K : Int) - ((k + 1 : Nat) : Int) = (K : Int) - (k : Int) - 1 by omega]
    exact mi K w t0 t _ (ih t0 h1) h2.1 h2.2 h4
/-- the TOTAL of a BOAT -/
def ttF (p : Nat → Int) (t : Nat → Int32) (r : Nat) : Int := if t r = 0 then p r else 0
theorem tt_cg {p p' : Nat → Int} {t t' : Nat → Int32} {K : Nat} (ep : ∀ r, r < K → p r = p' r) (e : ∀ r, r < K → t r = t' r) : sumF (ttF p t) K = sumF (ttF p' t') K := sumF_cg K (fun r hr => by
  unfold ttF
  rw [ep r hr, e r hr])
theorem tt_all {p : Nat → Int} {t : Nat → Int32} {K : Nat} (e : ∀ r, r < K → t r = 0) : sumF (ttF p t) K = sumF p K := sumF_cg K (fun r hr => if_pos (e r hr))
theorem tt_one {p : Nat → Int} {t t' : Nat → Int32} {w : Nat} : ∀ K : Nat, w < K → t w = 0 → (∀ r, r < K → t' r = if r = w then 1 else t r) → sumF (ttF p t') K = sumF (ttF p t) K - p w := by
  intro K
  induction K with
  | zero => exact fun h => absurd h (Nat.not_lt_zero w)
  | succ K ih =>
    intro hw h0 e
    show sumF (ttF p t') K + ttF p t' K = sumF (ttF p t) K + ttF p t K - p w
    by_cases q : w = K
    · subst q
      have e1 : sumF (ttF p t') w = sumF (ttF p t) w := tt_cg (fun _ _ => rfl) (fun r hr => by rw [e r (by omega), if_neg (by omega)])
      have ew : t' w = 1 := by
        have h9 := e w (by omega)
        rw [if_pos rfl] at h9
        exact h9
      have e2 : ttF p t' w = 0 := by
        unfold ttF
        rw [ew]
        exact if_neg (by decide)
      have e3 : ttF p t w = p w := if_pos h0
      omega
    · have e1 := ih (by omega) h0 (fun r hr => e r (by omega))
      have ek : t' K = t K := by
        have h9 := e K (by omega)
        rw [if_neg (fun z => q z.symm)] at h9
        exact h9
      have e2 : ttF p t' K = ttF p t K := by
        unfold ttF
        rw [ek]
      omega
theorem tt_b {p : Nat → Int} {t : Nat → Int32} {K : Nat} (hp : ∀ r, r < K → 0 ≤ p r ∧ p r ≤ 10000) : 0 ≤ sumF (ttF p t) K ∧ sumF (ttF p t) K ≤ 10000 * (K : Int) := by
  refine ⟨sumF_nn K (fun r hr => ?_), sumF_le K (fun r hr => ?_)⟩
  · unfold ttF
    have := hp r hr
    split <;> omega
  · unfold ttF
    have := hp r hr
    split <;> omega
/-- all SCORES: rows by RACES and BOATS -/
def ScA (Pt : Nat → Nat → Int → Prop) (Sc : Nat → Prop) (n K o : Nat) (P T S O : Nat → Int32) : Prop := ∀ b, b < n → (∀ r, r < K → Pt r b (P (16 * r + b)).toInt) ∧ ((S b).toInt = 1 ↔ Sc b) ∧ ThR (fun r => (P (16 * r + b)).toInt) K o (fun r => T (16 * r + b)) ∧ (O b).toInt = sumF (ttF (fun r => (P (16 * r + b)).toInt) (fun r => T (16 * r + b))) K
def ScE (n K : Nat) (P T S O P' T' S' O' : Nat → Int32) : Prop := ∀ b, b < n → (∀ r, r < K → P (16 * r + b) = P' (16 * r + b) ∧ T (16 * r + b) = T' (16 * r + b)) ∧ ((S b).toInt = 1 ↔ (S' b).toInt = 1) ∧ (O b).toInt = (O' b).toInt
theorem ScA.un {Pt Pt' : Nat → Nat → Int → Prop} {Sc Sc' : Nat → Prop} {n K o : Nat} {P T S O P' T' S' O' : Nat → Int32} (h : ScA Pt Sc n K o P T S O) (h' : ScA Pt' Sc' n K o P' T' S' O') (ep : ∀ r b, r < K → b < n → ∀ x y, Pt r b x → Pt' r b y → x = y) (es : ∀ b, b < n → (Sc b ↔ Sc' b)) : ScE n K P T S O P' T' S' O' := fun b hb => by
  obtain ⟨a1, a2, a3, a4⟩ := h b hb
  obtain ⟨c1, c2, c3, c4⟩ := h' b hb
  have e1 : ∀ r, r < K → (P (16 * r + b)).toInt = (P' (16 * r + b)).toInt := fun r hr => ep r b hr hb _ _ (a1 r hr) (c1 r hr)
  have e2 := ThR.un e1 o _ _ a3 c3
  exact ⟨fun r hr => ⟨Int32.toInt_inj.mp (e1 r hr), e2 r hr⟩, a2.trans ((es b hb).trans c2.symm), by rw [a4, c4]; exact tt_cg e1 e2⟩
/-! ===== who is BETTER ===== -/
def LexR (g g' : Nat → Int32) (n : Nat) (e : Prop) : Prop := (∃ k, k < n ∧ (∀ j, j < k → g j = g' j) ∧ (g k).toInt < (g' k).toInt) ∨ ((∀ j, j < n → g j = g' j) ∧ e)
def RevR (p p' : Nat → Int32) (K : Nat) (e : Prop) : Prop := (∃ k, k < K ∧ (∀ j, k < j → j < K → p j = p' j) ∧ (p k).toInt < (p' k).toInt) ∨ ((∀ j, j < K → p j = p' j) ∧ e)
theorem LexR.cg {g g' f f' : Nat → Int32} {n : Nat} {e e' : Prop} (h1 : ∀ j, j < n → g j = f j) (h2 : ∀ j, j < n → g' j = f' j) (h3 : e ↔ e') : LexR g g' n e ↔ LexR f f' n e' := by
  constructor
  · rintro (⟨k, a1, a2, a3⟩ | ⟨a1, a2⟩)
    · exact Or.inl ⟨k, a1, fun j hj => by rw [← h1 j (by omega), ← h2 j (by omega)]; exact a2 j hj, by rw [← h1 k a1, ← h2 k a1]; exact a3⟩
    · exact Or.inr ⟨fun j hj => by rw [← h1 j hj, ← h2 j hj]; exact a1 j hj, h3.mp a2⟩
  · rintro (⟨k, a1, a2, a3⟩ | ⟨a1, a2⟩)
    · exact Or.inl ⟨k, a1, fun j hj => by rw [h1 j (by omega), h2 j (by omega)]; exact a2 j hj, by rw [h1 k a1, h2 k a1]; exact a3⟩
    · exact Or.inr ⟨fun j hj => by rw [h1 j hj, h2 j hj]; exact a1 j hj, h3.mpr a2⟩
theorem RevR.cg {g g' f f' : Nat → Int32} {n : Nat} {e : Prop} (h1 : ∀ j, j < n → g j = f j) (h2 : ∀ j, j < n → g' j = f' j) : RevR g g' n e ↔ RevR f f' n e := by
  constructor
  · rintro (⟨k, a1, a2, a3⟩ | ⟨a1, a2⟩)
    · exact Or.inl ⟨k, a1, fun j h8 hj => by rw [← h1 j hj, ← h2 j hj]; exact a2 j h8 hj, by rw [← h1 k a1, ← h2 k a1]; exact a3⟩
    · exact Or.inr ⟨fun j hj => by rw [← h1 j hj, ← h2 j hj]; exact a1 j hj, a2⟩
  · rintro (⟨k, a1, a2, a3⟩ | ⟨a1, a2⟩)
    · exact Or.inl ⟨k, a1, fun j h8 hj => by rw [h1 j hj, h2 j hj]; exact a2 j h8 hj, by rw [h1 k a1, h2 k a1]; exact a3⟩
    · exact Or.inr ⟨fun j hj => by rw [h1 j hj, h2 j hj]; exact a1 j hj, a2⟩
/-- how the comparison of two rows goes on -/
theorem LexR.lt {g g' : Nat → Int32} {n k : Nat} {e : Prop} (hk : k < n) (h : ∀ j, j < k → g j = g' j) (hl : (g k).toInt < (g' k).toInt) : LexR g g' n e := Or.inl ⟨k, hk, h, hl⟩
theorem LexR.gt {g g' : Nat → Int32} {n k : Nat} {e : Prop} (hk : k < n) (h : ∀ j, j < k → g j = g' j) (hl : (g' k).toInt < (g k).toInt) : ¬ LexR g g' n e := by
  rintro (⟨j, a1, a2, a3⟩ | ⟨a1, -⟩)
  · rcases Nat.lt_trichotomy j k with q | q | q
    · rw [h j q] at a3
      omega
    · subst q
      omega
    · rw [a2 k q] at hl
      omega
  · rw [a1 k hk] at hl
    omega
theorem LexR.eq {g g' : Nat → Int32} {n : Nat} {e : Prop} (h : ∀ j, j < n → g j = g' j) : LexR g g' n e ↔ e := by
  constructor
  · rintro (⟨j, a1, a2, a3⟩ | ⟨-, a2⟩)
    · rw [h j a1] at a3
      omega
    · exact a2
  · exact fun a => Or.inr ⟨h, a⟩
theorem RevR.lt {p p' : Nat → Int32} {K k : Nat} {e : Prop} (hk : k < K) (h : ∀ j, k < j → j < K → p j = p' j) (hl : (p k).toInt < (p' k).toInt) : RevR p p' K e := Or.inl ⟨k, hk, h, hl⟩
theorem RevR.gt {p p' : Nat → Int32} {K k : Nat} {e : Prop} (hk : k < K) (h : ∀ j, k < j → j < K → p j = p' j) (hl : (p' k).toInt < (p k).toInt) : ¬ RevR p p' K e := by
  rintro (⟨j, a1, a2, a3⟩ | ⟨a1, -⟩)
  · rcases Nat.lt_trichotomy j k with q | q | q
    · rw [a2 k q hk] at hl
      omega
    · subst q
      omega
    · rw [h j q a1] at a3
      omega
  · rw [a1 k hk] at hl
    omega
theorem RevR.eq {p p' : Nat → Int32} {K : Nat} {e : Prop} (h : ∀ j, j < K → p j = p' j) : RevR p p' K e ↔ e := by
  constructor
  · rintro (⟨j, a1, a2, a3⟩ | ⟨-, a2⟩)
    · rw [h j a1] at a3
      omega
    · exact a2
  · exact fun a => Or.inr ⟨h, a⟩
/-- the kept POINTS of a BOAT, rising -/
def KpR (P T : Nat → Int32) (K b n : Nat) (g : Nat → Int32) : Prop := MR (fun r => T (16 * r + b) = 0) (fun r => P (16 * r + b)) 99 K n g
def BtP (P T O : Nat → Int32) (K a b : Nat) : Prop := (O a).toInt < (O b).toInt ∨ ((O a).toInt = (O b).toInt ∧ ∃ (n n' : Nat) (g g' : Nat → Int32), KpR P T K a n g ∧ KpR P T K b n' g' ∧ LexR g g' n (RevR (fun r => P (16 * r + a)) (fun r => P (16 * r + b)) K (a < b)))
theorem KpR.un {P T P' T' : Nat → Int32} {K b n n' : Nat} {g g' : Nat → Int32} (h : KpR P T K b n g) (h' : KpR P' T' K b n' g') (e : ∀ r, r < K → P (16 * r + b) = P' (16 * r + b) ∧ T (16 * r + b) = T' (16 * r + b)) : n = n' ∧ ∀ i, i < n → g i = g' i := MR.un K n n' g g' h h' (fun i hi => by rw [(e i hi).2]) (fun i hi _ => (e i hi).1)
theorem KpR.cg {P T P' T' : Nat → Int32} {K b n : Nat} {g : Nat → Int32} (h : KpR P T K b n g) (e : ∀ r, r < K → P (16 * r + b) = P' (16 * r + b) ∧ T (16 * r + b) = T' (16 * r + b)) : KpR P' T' K b n g := MR.cg K n g h (fun i hi => by rw [(e i hi).2]) (fun i hi _ => (e i hi).1)
theorem MR.cn {F : Nat → Prop} {T : Nat → Int32} {sk : Nat} : ∀ (k n : Nat) (g : Nat → Int32), MR F T sk k n g → k ≤ sk → CnR F k (n : Int) := by
  intro k
  induction k with
  | zero =>
    intro n g h _
    have h1 : n = 0 := h
    rw [h1]
    rfl
  | succ k ih =>
    intro n g h hs
    rcases h with ⟨h1, h2⟩ | ⟨h1, n0, g0, h2, h3, -⟩
    · exact Or.inr ⟨fun z => h1 ⟨by omega, z⟩, ih n g h2 (by omega)⟩
    · refine Or.inl ⟨h1.2, ?_⟩
      rw [show (n : Int) - 1 = (n0 : Int) by omega]
      exact ih n0 g0 h2 (by omega)
theorem KpR.num {P T : Nat → Int32} {p : Nat → Int} {K b n o : Nat} {g : Nat → Int32} (h : KpR P T K b n g) (ht : ThR p K o (fun r => T (16 * r + b))) (hK : K ≤ 20) : (n : Int) = (K : Int) - (o : Int) := CnR.un K _ _ (MR.cn K n g h (by omega)) (ht.kept o _) (fun _ _ => Iff.rfl)
theorem BtP.cg {P T O P' T' O' S S' : Nat → Int32} {n K a b : Nat} (e : ScE n K P T S O P' T' S' O') (ha : a < n) (hb : b < n) : BtP P T O K a b ↔ BtP P' T' O' K a b := by
  obtain ⟨a1, -, a3⟩ := e a ha
  obtain ⟨b1, -, b3⟩ := e b hb
  unfold BtP
  rw [a3, b3]
  refine or_congr Iff.rfl (and_congr Iff.rfl ⟨?_, ?_⟩)
  · rintro ⟨m, m', g, g', h1, h2, h3⟩
    exact ⟨m, m', g, g', h1.cg a1, h2.cg b1, (LexR.cg (fun _ _ => rfl) (fun _ _ => rfl) (RevR.cg (fun j hj => (a1 j hj).1) (fun j hj => (b1 j hj).1))).mp h3⟩
  · rintro ⟨m, m', g, g', h1, h2, h3⟩
    exact ⟨m, m', g, g', h1.cg (fun r hr => ⟨(a1 r hr).1.symm, (a1 r hr).2.symm⟩), h2.cg (fun r hr => ⟨(b1 r hr).1.symm, (b1 r hr).2.symm⟩), (LexR.cg (fun _ _ => rfl) (fun _ _ => rfl) (RevR.cg (fun j hj => (a1 j hj).1) (fun j hj => (b1 j hj).1))).mpr h3⟩
/-- the BOAT than which i others are BETTER -/
def bqF (S : Nat → Prop) (B : Nat → Nat → Prop) (b o : Nat) : Prop := ¬ o = b ∧ S o ∧ B o b
def RkR (S : Nat → Prop) (B : Nat → Nat → Prop) (n : Nat) (i r : Int) : Prop := (∃ b, b < n ∧ S b ∧ CnR (bqF S B b) n i ∧ (∀ b', b' < b → S b' → ¬ CnR (bqF S B b') n i) ∧ r = (b : Int)) ∨ ((∀ b, b < n → S b → ¬ CnR (bqF S B b) n i) ∧ r = -1)
theorem RkR.un {S S' : Nat → Prop} {B B' : Nat → Nat → Prop} {n : Nat} {i r r' : Int} (h : RkR S B n i r) (h' : RkR S' B' n i r') (es : ∀ b, b < n → (S b ↔ S' b)) (eb : ∀ a b, a < n → b < n → (B a b ↔ B' a b)) : r = r' := by
  have ec : ∀ b, b < n → (CnR (bqF S B b) n i ↔ CnR (bqF S' B' b) n i) := fun b hb => by
    have e : ∀ o, o < n → (bqF S B b o ↔ bqF S' B' b o) := fun o ho => and_congr Iff.rfl (and_congr (es o ho) (eb o b ho hb))
    exact ⟨fun z => z.cg n i e, fun z => z.cg n i (fun o ho => (e o ho).symm)⟩
  rcases h with ⟨b, a1, a2, a3, a4, a5⟩ | ⟨a1, a2⟩ <;> rcases h' with ⟨c, c1, c2, c3, c4, c5⟩ | ⟨c1, c2⟩
  · rcases Nat.lt_trichotomy b c with q | q | q
    · exact absurd ((ec b a1).mp a3) (c4 b q ((es b a1).mp a2))
    · rw [a5, c5, q]
    · exact absurd ((ec c c1).mpr c3) (a4 c q ((es c c1).mpr c2))
  · exact absurd ((ec b a1).mp a3) (c1 b a1 ((es b a1).mp a2))
  · exact absurd ((ec c c1).mpr c3) (a1 c c1 ((es c c1).mpr c2))
  · rw [a2, c2]

/-! ===== SCORES of the class (pure) ===== -/
theorem CnR.z {P : Nat → Prop} : ∀ (n : Nat) (c : Int), CnR P n c → (∀ k, k < n → ¬ P k) → c = 0 := by
  intro n
  induction n with
  | zero => exact fun c h _ => h
  | succ n ih =>
    intro c h e
    rcases h with ⟨h1, -⟩ | ⟨-, h2⟩
    · exact absurd h1 (e n (by omega))
    · exact ih c h2 (fun k hk => e k (by omega))
/-- the worst so far of those that are kept -/
def WsI (p : Nat → Int) (t : Nat → Int32) (k : Nat) (w m : Int) : Prop := (w = -1 ∧ m = 0 ∧ ∀ r, r < k → ¬ t r = 0) ∨ ∃ j : Nat, w = (j : Int) ∧ j < k ∧ t j = 0 ∧ m = p j ∧ ∀ r, r < k → t r = 0 → p r < p j ∨ (p r = p j ∧ r ≤ j)
theorem WsI.start {p : Nat → Int} {t : Nat → Int32} {w m : Int} (h : w = -1) (h2 : m = 0) : WsI p t 0 w m := Or.inl ⟨h, h2, fun r hr => absurd hr (Nat.not_lt_zero r)⟩
theorem WsI.out {p : Nat → Int} {t : Nat → Int32} {k k' : Nat} {w m : Int} {y : Int32} (h : WsI p t k w m) (ey : y = t k) (hy : ¬ y.toInt = 0) (ek : k' = k + 1) : WsI p t k' w m := by
  subst ek
  have ht : ¬ t k = 0 := fun z => hy (by rw [ey, z]; rfl)
  rcases h with ⟨h1, h2, h3⟩ | ⟨j, h1, h2, h3, h4, h5⟩
  · refine Or.inl ⟨h1, h2, fun r hr => ?_⟩
    by_cases q : r = k
    · rw [q]
      exact ht
    · exact h3 r (by omega)
  · refine Or.inr ⟨j, h1, by omega, h3, h4, fun r hr z => ?_⟩
    by_cases q : r = k
    · rw [q] at z
      exact absurd z ht
    · exact h5 r (by omega) z
theorem WsI.low {p : Nat → Int} {t : Nat → Int32} {k k' : Nat} {w m : Int} (h : WsI p t k w m) (hp : 0 ≤ p k) (hl : p k < m) (ek : k' = k + 1) : WsI p t k' w m := by
  subst ek
  rcases h with ⟨h1, h2, h3⟩ | ⟨j, h1, h2, h3, h4, h5⟩
  · omega
  · refine Or.inr ⟨j, h1, by omega, h3, h4, fun r hr z => ?_⟩
    by_cases q : r = k
    · rw [q]
      omega
    · exact h5 r (by omega) z
theorem WsI.new {p : Nat → Int} {t : Nat → Int32} {k k' : Nat} {w m w' m' : Int} {y : Int32} (h : WsI p t k w m) (ey : y = t k) (hy : y.toInt = 0) (hg : w = -1 ∨ m ≤ p k) (ew : w' = (k : Int)) (em : m' = p k) (ek : k' = k + 1) : WsI p t k' w' m' := by
  subst ek
  have ht : t k = 0 := by
    rw [← ey]
    exact Int32.toInt_inj.mp hy
  refine Or.inr ⟨k, ew, by omega, ht, em, fun r hr z => ?_⟩
  by_cases q : r = k
  · rw [q]
    omega
  · rcases h with ⟨h1, h2, h3⟩ | ⟨j, h1, h2, h3, h4, h5⟩
    · exact absurd z (h3 r (by omega))
    · have h6 := h5 r (by omega) z
      omega
theorem WsI.get {p : Nat → Int} {t : Nat → Int32} {k : Nat} {w m : Int} (h : WsI p t k w m) (hw : ¬ w = -1) : m = p w.toNat := by
  rcases h with ⟨h1, -, -⟩ | ⟨j, h1, -, -, h4, -⟩
  · exact absurd h1 hw
  · rw [h4, h1]
    rfl
theorem WsI.use {p : Nat → Int} {t : Nat → Int32} {k : Nat} {w : Int} (h : ∃ m, WsI p t k w m) (hw : ¬ w = -1) : (w.toNat < k ∧ t w.toNat = 0) ∧ ∀ r, r < k → t r = 0 → p r < p w.toNat ∨ (p r = p w.toNat ∧ r ≤ w.toNat) := by
  obtain ⟨m, h⟩ := h
  rcases h with ⟨h1, -, -⟩ | ⟨j, h1, h2, h3, -, h5⟩
  · exact absurd h1 hw
  · rw [h1]
    exact ⟨⟨h2, h3⟩, h5⟩
theorem WsI.no {p q : Nat → Int} {t : Nat → Int32} {k K : Nat} {w : Int} (h : ∃ m, WsI p t K w m) (hw : w = -1) (ht : ThR q K k t) (hk : k < K) : False := by
  obtain ⟨m, h⟩ := h
  rcases h with ⟨-, -, h3⟩ | ⟨j, h1, -⟩
  · have h4 := CnR.z K _ (ht.kept k t) h3
    omega
  · omega
/-- columns -/
theorem cl_s {g g' : Nat → Int32} {k k' ix v : Int32} {b : Nat} {P : Nat → Int32 → Prop} (h : ∀ r, r < k.toNatClampNeg → P r (g (16 * r + b))) (e : g' = upd g ix.toNatClampNeg v) (hix : ix.toNatClampNeg = 16 * k.toNatClampNeg + b) (hv : P k.toNatClampNeg v) (ek : k'.toInt = k.toInt + 1) (h0 : 0 ≤ k.toInt) : ∀ r, r < k'.toNatClampNeg → P r (g' (16 * r + b)) := fun r hr => by
  subst e
  by_cases q : r = k.toNatClampNeg
  · rw [q, ← hix, upd_i]
    exact hv
  · rw [upd_j (by omega)]
    exact h r (by rw [tn_] at hr q ⊢; omega)
theorem cl_if {g g' : Nat → Int32} {ix : Int32} {w b : Nat} (e : g' = upd g ix.toNatClampNeg 1) (hix : ix.toNatClampNeg = 16 * w + b) : ∀ r : Nat, g' (16 * r + b) = if r = w then 1 else g (16 * r + b) := fun r => by
  subst e
  by_cases q : r = w
  · rw [if_pos q, q, ← hix, upd_i]
  · rw [if_neg q, upd_j (by omega)]
/-- the other columns stand -/
def Frm (g g' : Nat → Int32) (b : Nat) : Prop := ∀ r b' : Nat, b' < 16 → ¬ b' = b → g' (16 * r + b') = g (16 * r + b')
theorem Frm.rf {g : Nat → Int32} {b : Nat} : Frm g g b := fun _ _ _ _ => rfl
theorem Frm.up {g g1 g' : Nat → Int32} {b k : Nat} {ix v : Int32} (h : Frm g g1 b) (e : g' = upd g1 ix.toNatClampNeg v) (hix : ix.toNatClampNeg = 16 * k + b) (hb : b < 16) : Frm g g' b := fun r b' h1 h2 => by
  rw [e, upd_j (by omega)]
  exact h r b' h1 h2
theorem Frm.tr {g g1 g' : Nat → Int32} {b : Nat} (h : Frm g g1 b) (h' : Frm g1 g' b) : Frm g g' b := fun r b' h1 h2 => (h' r b' h1 h2).trans (h r b' h1 h2)
/-- as many are kept of each -/
def KeQ (P T : Nat → Int32) (K a b : Nat) : Prop := ∀ (n n' : Nat) (g g' : Nat → Int32), KpR P T K a n g → KpR P T K b n' g' → n = n'
theorem Bt_iff {P T O : Nat → Int32} {K a b n n' : Nat} {g g' : Nat → Int32} (ho : (O a).toInt = (O b).toInt) (h1 : KpR P T K a n g) (h2 : KpR P T K b n' g') (hk : KeQ P T K a b) : BtP P T O K a b ↔ LexR g g' n (RevR (fun r => P (16 * r + a)) (fun r => P (16 * r + b)) K (a < b)) := by
  have en := hk n n' g g' h1 h2
  subst en
  constructor
  · rintro (q | ⟨-, m, m', f, f', q1, q2, q3⟩)
    · omega
    · obtain ⟨a1, a2⟩ := KpR.un q1 h1 (fun _ _ => ⟨rfl, rfl⟩)
      obtain ⟨c1, c2⟩ := KpR.un q2 h2 (fun _ _ => ⟨rfl, rfl⟩)
      subst a1
      subst c1
      exact (LexR.cg a2 c2 Iff.rfl).mp q3
  · exact fun q => Or.inr ⟨ho, n, n, g, g', h1, h2, q⟩
theorem Bt_lt {P T O : Nat → Int32} {K a b : Nat} (h : (O a).toInt < (O b).toInt) : BtP P T O K a b := Or.inl h
theorem Bt_gt {P T O : Nat → Int32} {K a b : Nat} (h : (O b).toInt < (O a).toInt) : ¬ BtP P T O K a b := by
  rintro (q | ⟨q, -⟩) <;> omega
theorem sx_eq {g G : Nat → Int32} {k k' y z : Int32} (h : ∀ j, j < k.toNatClampNeg → g j = G j) (ey : y = g k.toNatClampNeg) (ez : z = G k.toNatClampNeg) (e : y.toInt = z.toInt) (ek : k'.toInt = k.toInt + 1) (h0 : 0 ≤ k.toInt) : ∀ j, j < k'.toNatClampNeg → g j = G j := fun j hj => by
  by_cases q : j = k.toNatClampNeg
  · rw [q, ← ey, ← ez]
    exact Int32.toInt_inj.mp e
  · exact h j (by rw [tn_] at hj q ⊢; omega)
theorem rx_eq {g G : Nat → Int32} {K : Nat} {k k' y z : Int32} (h : ∀ j : Nat, k.toInt < (j : Int) → j < K → g j = G j) (ey : y = g k.toNatClampNeg) (ez : z = G k.toNatClampNeg) (e : y.toInt = z.toInt) (ek : k'.toInt = k.toInt - 1) (h0 : 0 ≤ k.toInt) : ∀ j : Nat, k'.toInt < (j : Int) → j < K → g j = G j := fun j hj hK => by
  by_cases q : j = k.toNatClampNeg
  · rw [q, ← ey, ← ez]
    exact Int32.toInt_inj.mp e
  · exact h j (by rw [tn_] at q; omega) hK
end

