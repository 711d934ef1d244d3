set_option maxRecDepth 100000 in
theorem zh_dX13_draw_0_0 : zc cX13_draw 0 [42, 3, 181, 0, 228, 3, 54, 4, 3, 54, 5, 3, 54, 6, 21, 6] = true := by decide +kernel
set_option maxRecDepth 100000 in
theorem zh_dX13_draw_16_16 : zc cX13_draw 16 [42, 180, 0, 239, 162, 0, 146, 3, 54, 7, 3, 54, 8, 21, 8, 42] = true := by decide +kernel
set_option maxRecDepth 100000 in
theorem zh_dX13_draw_32_32 : zc cX13_draw 32 [180, 0, 242, 162, 0, 33, 21, 7, 154, 0, 15, 42, 180, 0, 9, 21] = true := by decide +kernel
set_option maxRecDepth 100000 in
theorem zh_dX13_draw_47_48 : zc cX13_draw 48 [8, 46, 21, 6, 160, 0, 7, 4, 167, 0, 4, 3, 54, 7, 132, 8] = true := by decide +kernel
set_option maxRecDepth 100000 in
theorem zh_dX13_draw_62_64 : zc cX13_draw 64 [1, 167, 255, 220, 21, 7, 153, 0, 12, 42, 21, 6, 182, 2, 19, 167] = true := by decide +kernel
set_option maxRecDepth 100000 in
theorem zh_dX13_draw_79_80 : zc cX13_draw 80 [0, 4, 2, 54, 8, 42, 180, 0, 225, 21, 6, 21, 7, 154, 0, 7] = true := by decide +kernel
set_option maxRecDepth 100000 in
theorem zh_dX13_draw_96_96 : zc cX13_draw 96 [3, 167, 0, 35, 21, 8, 2, 160, 0, 7, 4, 167, 0, 25, 4, 21] = true := by decide +kernel
set_option maxRecDepth 100000 in
theorem zh_dX13_draw_111_112 : zc cX13_draw 112 [8, 42, 21, 6, 42, 180, 0, 232, 42, 180, 0, 232, 182, 1, 131, 100] = true := by decide +kernel
set_option maxRecDepth 100000 in
theorem zh_dX13_draw_128_128 : zc cX13_draw 128 [184, 1, 218, 96, 79, 21, 4, 42, 180, 0, 225, 21, 6, 46, 96, 54] = true := by decide +kernel
set_option maxRecDepth 100000 in
theorem zh_dX13_draw_143_144 : zc cX13_draw 144 [4, 21, 5, 21, 7, 153, 0, 7, 4, 167, 0, 4, 3, 96, 54, 5] = true := by decide +kernel
set_option maxRecDepth 100000 in
theorem zh_dX13_draw_160_160 : zc cX13_draw 160 [132, 6, 1, 167, 255, 107, 27, 4, 161, 0, 9, 27, 21, 5, 164, 0] = true := by decide +kernel
set_option maxRecDepth 100000 in
theorem zh_dX13_draw_174_176 : zc cX13_draw 176 [5, 2, 172, 32, 55, 6, 3, 54, 8, 3, 54, 9, 21, 9, 27, 162] = true := by decide +kernel
set_option maxRecDepth 100000 in
theorem zh_dX13_draw_191_192 : zc cX13_draw 192 [0, 95, 22, 6, 20, 2, 30, 105, 20, 2, 32, 97, 55, 6, 22, 6] = true := by decide +kernel
set_option maxRecDepth 100000 in
theorem zh_dX13_draw_208_208 : zc cX13_draw 208 [16, 33, 125, 21, 4, 133, 113, 136, 54, 10, 3, 54, 11, 21, 10, 42] = true := by decide +kernel
set_option maxRecDepth 100000 in
theorem zh_dX13_draw_224_224 : zc cX13_draw 224 [180, 0, 225, 21, 11, 46, 161, 0, 21, 21, 10, 42, 180, 0, 225, 21] = true := by decide +kernel
set_option maxRecDepth 100000 in
theorem zh_dX13_draw_239_240 : zc cX13_draw 240 [11, 46, 100, 54, 10, 132, 11, 1, 167, 255, 229, 21, 8, 4, 21, 11] = true := by decide +kernel
set_option maxRecDepth 100000 in
theorem zh_dX13_draw_256_256 : zc cX13_draw 256 [120, 128, 54, 8, 21, 4, 42, 180, 0, 225, 21, 11, 46, 100, 54, 4] = true := by decide +kernel
set_option maxRecDepth 100000 in
theorem zh_dX13_draw_272_272 : zc cX13_draw 272 [42, 180, 0, 225, 21, 11, 3, 79, 132, 9, 1, 167, 255, 161, 21, 8] = true := by decide +kernel
set_option maxRecDepth 100000 in
theorem zh_dX13_draw_288_288 : zc cX13_draw 288 [172] = true := by decide +kernel
theorem dX13_draw_0 : decode cX13_draw 0 = .ok (.aload_n 0, 1) := zo_42 (zi_at zh_dX13_draw_0_0 0 rfl)
theorem dX13_draw_1 : decode cX13_draw 1 = .ok (.iconst 0, 1) := zo_3 (zi_at zh_dX13_draw_0_0 1 rfl)
theorem dX13_draw_2 : decode cX13_draw 2 = .ok (.putfield 228, 3) := zo_181 (zi_at zh_dX13_draw_0_0 2 rfl) (zi_at zh_dX13_draw_0_0 3 rfl) (zi_at zh_dX13_draw_0_0 4 rfl) rfl
theorem dX13_draw_5 : decode cX13_draw 5 = .ok (.iconst 0, 1) := zo_3 (zi_at zh_dX13_draw_0_0 5 rfl)
theorem dX13_draw_6 : decode cX13_draw 6 = .ok (.istore 4, 2) := zo_54 (zi_at zh_dX13_draw_0_0 6 rfl) (zi_at zh_dX13_draw_0_0 7 rfl)
theorem dX13_draw_8 : decode cX13_draw 8 = .ok (.iconst 0, 1) := zo_3 (zi_at zh_dX13_draw_0_0 8 rfl)
theorem dX13_draw_9 : decode cX13_draw 9 = .ok (.istore 5, 2) := zo_54 (zi_at zh_dX13_draw_0_0 9 rfl) (zi_at zh_dX13_draw_0_0 10 rfl)
theorem dX13_draw_11 : decode cX13_draw 11 = .ok (.iconst 0, 1) := zo_3 (zi_at zh_dX13_draw_0_0 11 rfl)
theorem dX13_draw_12 : decode cX13_draw 12 = .ok (.istore 6, 2) := zo_54 (zi_at zh_dX13_draw_0_0 12 rfl) (zi_at zh_dX13_draw_0_0 13 rfl)
theorem dX13_draw_14 : decode cX13_draw 14 = .ok (.iload 6, 2) := zo_21 (zi_at zh_dX13_draw_0_0 14 rfl) (zi_at zh_dX13_draw_0_0 15 rfl)
theorem dX13_draw_16 : decode cX13_draw 16 = .ok (.aload_n 0, 1) := zo_42 (zi_at zh_dX13_draw_16_16 0 rfl)
theorem dX13_draw_17 : decode cX13_draw 17 = .ok (.getfield 239, 3) := zo_180 (zi_at zh_dX13_draw_16_16 1 rfl) (zi_at zh_dX13_draw_16_16 2 rfl) (zi_at zh_dX13_draw_16_16 3 rfl) rfl
theorem dX13_draw_20 : decode cX13_draw 20 = .ok (.if_icmp .ge 146, 3) := zo_162 (zi_at zh_dX13_draw_16_16 4 rfl) (zi_at zh_dX13_draw_16_16 5 rfl) (zi_at zh_dX13_draw_16_16 6 rfl) rfl
theorem dX13_draw_23 : decode cX13_draw 23 = .ok (.iconst 0, 1) := zo_3 (zi_at zh_dX13_draw_16_16 7 rfl)
theorem dX13_draw_24 : decode cX13_draw 24 = .ok (.istore 7, 2) := zo_54 (zi_at zh_dX13_draw_16_16 8 rfl) (zi_at zh_dX13_draw_16_16 9 rfl)
theorem dX13_draw_26 : decode cX13_draw 26 = .ok (.iconst 0, 1) := zo_3 (zi_at zh_dX13_draw_16_16 10 rfl)
theorem dX13_draw_27 : decode cX13_draw 27 = .ok (.istore 8, 2) := zo_54 (zi_at zh_dX13_draw_16_16 11 rfl) (zi_at zh_dX13_draw_16_16 12 rfl)
theorem dX13_draw_29 : decode cX13_draw 29 = .ok (.iload 8, 2) := zo_21 (zi_at zh_dX13_draw_16_16 13 rfl) (zi_at zh_dX13_draw_16_16 14 rfl)
theorem dX13_draw_31 : decode cX13_draw 31 = .ok (.aload_n 0, 1) := zo_42 (zi_at zh_dX13_draw_16_16 15 rfl)
theorem dX13_draw_32 : decode cX13_draw 32 = .ok (.getfield 242, 3) := zo_180 (zi_at zh_dX13_draw_32_32 0 rfl) (zi_at zh_dX13_draw_32_32 1 rfl) (zi_at zh_dX13_draw_32_32 2 rfl) rfl
theorem dX13_draw_35 : decode cX13_draw 35 = .ok (.if_icmp .ge 33, 3) := zo_162 (zi_at zh_dX13_draw_32_32 3 rfl) (zi_at zh_dX13_draw_32_32 4 rfl) (zi_at zh_dX13_draw_32_32 5 rfl) rfl
theorem dX13_draw_38 : decode cX13_draw 38 = .ok (.iload 7, 2) := zo_21 (zi_at zh_dX13_draw_32_32 6 rfl) (zi_at zh_dX13_draw_32_32 7 rfl)
theorem dX13_draw_40 : decode cX13_draw 40 = .ok (.ifCond .ne 15, 3) := zo_154 (zi_at zh_dX13_draw_32_32 8 rfl) (zi_at zh_dX13_draw_32_32 9 rfl) (zi_at zh_dX13_draw_32_32 10 rfl) rfl
theorem dX13_draw_43 : decode cX13_draw 43 = .ok (.aload_n 0, 1) := zo_42 (zi_at zh_dX13_draw_32_32 11 rfl)
theorem dX13_draw_44 : decode cX13_draw 44 = .ok (.getfield 9, 3) := zo_180 (zi_at zh_dX13_draw_32_32 12 rfl) (zi_at zh_dX13_draw_32_32 13 rfl) (zi_at zh_dX13_draw_32_32 14 rfl) rfl
theorem dX13_draw_47 : decode cX13_draw 47 = .ok (.iload 8, 2) := zo_21 (zi_at zh_dX13_draw_32_32 15 rfl) (zi_at zh_dX13_draw_47_48 0 rfl)
theorem dX13_draw_49 : decode cX13_draw 49 = .ok (.iaload, 1) := zo_46 (zi_at zh_dX13_draw_47_48 1 rfl)
theorem dX13_draw_50 : decode cX13_draw 50 = .ok (.iload 6, 2) := zo_21 (zi_at zh_dX13_draw_47_48 2 rfl) (zi_at zh_dX13_draw_47_48 3 rfl)
theorem dX13_draw_52 : decode cX13_draw 52 = .ok (.if_icmp .ne 7, 3) := zo_160 (zi_at zh_dX13_draw_47_48 4 rfl) (zi_at zh_dX13_draw_47_48 5 rfl) (zi_at zh_dX13_draw_47_48 6 rfl) rfl
theorem dX13_draw_55 : decode cX13_draw 55 = .ok (.iconst 1, 1) := zo_4 (zi_at zh_dX13_draw_47_48 7 rfl)
theorem dX13_draw_56 : decode cX13_draw 56 = .ok (.goto 4, 3) := zo_167 (zi_at zh_dX13_draw_47_48 8 rfl) (zi_at zh_dX13_draw_47_48 9 rfl) (zi_at zh_dX13_draw_47_48 10 rfl) rfl
theorem dX13_draw_59 : decode cX13_draw 59 = .ok (.iconst 0, 1) := zo_3 (zi_at zh_dX13_draw_47_48 11 rfl)
theorem dX13_draw_60 : decode cX13_draw 60 = .ok (.istore 7, 2) := zo_54 (zi_at zh_dX13_draw_47_48 12 rfl) (zi_at zh_dX13_draw_47_48 13 rfl)
theorem dX13_draw_62 : decode cX13_draw 62 = .ok (.iinc 8 1, 3) := zo_132 (zi_at zh_dX13_draw_47_48 14 rfl) (zi_at zh_dX13_draw_47_48 15 rfl) (zi_at zh_dX13_draw_62_64 0 rfl) rfl
theorem dX13_draw_65 : decode cX13_draw 65 = .ok (.goto (-36), 3) := zo_167 (zi_at zh_dX13_draw_62_64 1 rfl) (zi_at zh_dX13_draw_62_64 2 rfl) (zi_at zh_dX13_draw_62_64 3 rfl) rfl
theorem dX13_draw_68 : decode cX13_draw 68 = .ok (.iload 7, 2) := zo_21 (zi_at zh_dX13_draw_62_64 4 rfl) (zi_at zh_dX13_draw_62_64 5 rfl)
theorem dX13_draw_70 : decode cX13_draw 70 = .ok (.ifCond .eq 12, 3) := zo_153 (zi_at zh_dX13_draw_62_64 6 rfl) (zi_at zh_dX13_draw_62_64 7 rfl) (zi_at zh_dX13_draw_62_64 8 rfl) rfl
theorem dX13_draw_73 : decode cX13_draw 73 = .ok (.aload_n 0, 1) := zo_42 (zi_at zh_dX13_draw_62_64 9 rfl)
theorem dX13_draw_74 : decode cX13_draw 74 = .ok (.iload 6, 2) := zo_21 (zi_at zh_dX13_draw_62_64 10 rfl) (zi_at zh_dX13_draw_62_64 11 rfl)
theorem dX13_draw_76 : decode cX13_draw 76 = .ok (.invokevirtual 531, 3) := zo_182 (zi_at zh_dX13_draw_62_64 12 rfl) (zi_at zh_dX13_draw_62_64 13 rfl) (zi_at zh_dX13_draw_62_64 14 rfl) rfl
theorem dX13_draw_79 : decode cX13_draw 79 = .ok (.goto 4, 3) := zo_167 (zi_at zh_dX13_draw_62_64 15 rfl) (zi_at zh_dX13_draw_79_80 0 rfl) (zi_at zh_dX13_draw_79_80 1 rfl) rfl
theorem dX13_draw_82 : decode cX13_draw 82 = .ok (.iconst (-1), 1) := zo_2 (zi_at zh_dX13_draw_79_80 2 rfl)
theorem dX13_draw_83 : decode cX13_draw 83 = .ok (.istore 8, 2) := zo_54 (zi_at zh_dX13_draw_79_80 3 rfl) (zi_at zh_dX13_draw_79_80 4 rfl)
theorem dX13_draw_85 : decode cX13_draw 85 = .ok (.aload_n 0, 1) := zo_42 (zi_at zh_dX13_draw_79_80 5 rfl)
theorem dX13_draw_86 : decode cX13_draw 86 = .ok (.getfield 225, 3) := zo_180 (zi_at zh_dX13_draw_79_80 6 rfl) (zi_at zh_dX13_draw_79_80 7 rfl) (zi_at zh_dX13_draw_79_80 8 rfl) rfl
theorem dX13_draw_89 : decode cX13_draw 89 = .ok (.iload 6, 2) := zo_21 (zi_at zh_dX13_draw_79_80 9 rfl) (zi_at zh_dX13_draw_79_80 10 rfl)
theorem dX13_draw_91 : decode cX13_draw 91 = .ok (.iload 7, 2) := zo_21 (zi_at zh_dX13_draw_79_80 11 rfl) (zi_at zh_dX13_draw_79_80 12 rfl)
theorem dX13_draw_93 : decode cX13_draw 93 = .ok (.ifCond .ne 7, 3) := zo_154 (zi_at zh_dX13_draw_79_80 13 rfl) (zi_at zh_dX13_draw_79_80 14 rfl) (zi_at zh_dX13_draw_79_80 15 rfl) rfl
theorem dX13_draw_96 : decode cX13_draw 96 = .ok (.iconst 0, 1) := zo_3 (zi_at zh_dX13_draw_96_96 0 rfl)
theorem dX13_draw_97 : decode cX13_draw 97 = .ok (.goto 35, 3) := zo_167 (zi_at zh_dX13_draw_96_96 1 rfl) (zi_at zh_dX13_draw_96_96 2 rfl) (zi_at zh_dX13_draw_96_96 3 rfl) rfl
theorem dX13_draw_100 : decode cX13_draw 100 = .ok (.iload 8, 2) := zo_21 (zi_at zh_dX13_draw_96_96 4 rfl) (zi_at zh_dX13_draw_96_96 5 rfl)
theorem dX13_draw_102 : decode cX13_draw 102 = .ok (.iconst (-1), 1) := zo_2 (zi_at zh_dX13_draw_96_96 6 rfl)
theorem dX13_draw_103 : decode cX13_draw 103 = .ok (.if_icmp .ne 7, 3) := zo_160 (zi_at zh_dX13_draw_96_96 7 rfl) (zi_at zh_dX13_draw_96_96 8 rfl) (zi_at zh_dX13_draw_96_96 9 rfl) rfl
theorem dX13_draw_106 : decode cX13_draw 106 = .ok (.iconst 1, 1) := zo_4 (zi_at zh_dX13_draw_96_96 10 rfl)
theorem dX13_draw_107 : decode cX13_draw 107 = .ok (.goto 25, 3) := zo_167 (zi_at zh_dX13_draw_96_96 11 rfl) (zi_at zh_dX13_draw_96_96 12 rfl) (zi_at zh_dX13_draw_96_96 13 rfl) rfl
theorem dX13_draw_110 : decode cX13_draw 110 = .ok (.iconst 1, 1) := zo_4 (zi_at zh_dX13_draw_96_96 14 rfl)
theorem dX13_draw_111 : decode cX13_draw 111 = .ok (.iload 8, 2) := zo_21 (zi_at zh_dX13_draw_96_96 15 rfl) (zi_at zh_dX13_draw_111_112 0 rfl)
theorem dX13_draw_113 : decode cX13_draw 113 = .ok (.aload_n 0, 1) := zo_42 (zi_at zh_dX13_draw_111_112 1 rfl)
theorem dX13_draw_114 : decode cX13_draw 114 = .ok (.iload 6, 2) := zo_21 (zi_at zh_dX13_draw_111_112 2 rfl) (zi_at zh_dX13_draw_111_112 3 rfl)
theorem dX13_draw_116 : decode cX13_draw 116 = .ok (.aload_n 0, 1) := zo_42 (zi_at zh_dX13_draw_111_112 4 rfl)
theorem dX13_draw_117 : decode cX13_draw 117 = .ok (.getfield 232, 3) := zo_180 (zi_at zh_dX13_draw_111_112 5 rfl) (zi_at zh_dX13_draw_111_112 6 rfl) (zi_at zh_dX13_draw_111_112 7 rfl) rfl
theorem dX13_draw_120 : decode cX13_draw 120 = .ok (.aload_n 0, 1) := zo_42 (zi_at zh_dX13_draw_111_112 8 rfl)
theorem dX13_draw_121 : decode cX13_draw 121 = .ok (.getfield 232, 3) := zo_180 (zi_at zh_dX13_draw_111_112 9 rfl) (zi_at zh_dX13_draw_111_112 10 rfl) (zi_at zh_dX13_draw_111_112 11 rfl) rfl
theorem dX13_draw_124 : decode cX13_draw 124 = .ok (.invokevirtual 387, 3) := zo_182 (zi_at zh_dX13_draw_111_112 12 rfl) (zi_at zh_dX13_draw_111_112 13 rfl) (zi_at zh_dX13_draw_111_112 14 rfl) rfl
theorem dX13_draw_127 : decode cX13_draw 127 = .ok (.isub, 1) := zo_100 (zi_at zh_dX13_draw_111_112 15 rfl)
theorem dX13_draw_128 : decode cX13_draw 128 = .ok (.invokestatic 474, 3) := zo_184 (zi_at zh_dX13_draw_128_128 0 rfl) (zi_at zh_dX13_draw_128_128 1 rfl) (zi_at zh_dX13_draw_128_128 2 rfl) rfl
theorem dX13_draw_131 : decode cX13_draw 131 = .ok (.iadd, 1) := zo_96 (zi_at zh_dX13_draw_128_128 3 rfl)
theorem dX13_draw_132 : decode cX13_draw 132 = .ok (.iastore, 1) := zo_79 (zi_at zh_dX13_draw_128_128 4 rfl)
theorem dX13_draw_133 : decode cX13_draw 133 = .ok (.iload 4, 2) := zo_21 (zi_at zh_dX13_draw_128_128 5 rfl) (zi_at zh_dX13_draw_128_128 6 rfl)
theorem dX13_draw_135 : decode cX13_draw 135 = .ok (.aload_n 0, 1) := zo_42 (zi_at zh_dX13_draw_128_128 7 rfl)
theorem dX13_draw_136 : decode cX13_draw 136 = .ok (.getfield 225, 3) := zo_180 (zi_at zh_dX13_draw_128_128 8 rfl) (zi_at zh_dX13_draw_128_128 9 rfl) (zi_at zh_dX13_draw_128_128 10 rfl) rfl
theorem dX13_draw_139 : decode cX13_draw 139 = .ok (.iload 6, 2) := zo_21 (zi_at zh_dX13_draw_128_128 11 rfl) (zi_at zh_dX13_draw_128_128 12 rfl)
theorem dX13_draw_141 : decode cX13_draw 141 = .ok (.iaload, 1) := zo_46 (zi_at zh_dX13_draw_128_128 13 rfl)
theorem dX13_draw_142 : decode cX13_draw 142 = .ok (.iadd, 1) := zo_96 (zi_at zh_dX13_draw_128_128 14 rfl)
theorem dX13_draw_143 : decode cX13_draw 143 = .ok (.istore 4, 2) := zo_54 (zi_at zh_dX13_draw_128_128 15 rfl) (zi_at zh_dX13_draw_143_144 0 rfl)
theorem dX13_draw_145 : decode cX13_draw 145 = .ok (.iload 5, 2) := zo_21 (zi_at zh_dX13_draw_143_144 1 rfl) (zi_at zh_dX13_draw_143_144 2 rfl)
theorem dX13_draw_147 : decode cX13_draw 147 = .ok (.iload 7, 2) := zo_21 (zi_at zh_dX13_draw_143_144 3 rfl) (zi_at zh_dX13_draw_143_144 4 rfl)
theorem dX13_draw_149 : decode cX13_draw 149 = .ok (.ifCond .eq 7, 3) := zo_153 (zi_at zh_dX13_draw_143_144 5 rfl) (zi_at zh_dX13_draw_143_144 6 rfl) (zi_at zh_dX13_draw_143_144 7 rfl) rfl
theorem dX13_draw_152 : decode cX13_draw 152 = .ok (.iconst 1, 1) := zo_4 (zi_at zh_dX13_draw_143_144 8 rfl)
theorem dX13_draw_153 : decode cX13_draw 153 = .ok (.goto 4, 3) := zo_167 (zi_at zh_dX13_draw_143_144 9 rfl) (zi_at zh_dX13_draw_143_144 10 rfl) (zi_at zh_dX13_draw_143_144 11 rfl) rfl
theorem dX13_draw_156 : decode cX13_draw 156 = .ok (.iconst 0, 1) := zo_3 (zi_at zh_dX13_draw_143_144 12 rfl)
theorem dX13_draw_157 : decode cX13_draw 157 = .ok (.iadd, 1) := zo_96 (zi_at zh_dX13_draw_143_144 13 rfl)
theorem dX13_draw_158 : decode cX13_draw 158 = .ok (.istore 5, 2) := zo_54 (zi_at zh_dX13_draw_143_144 14 rfl) (zi_at zh_dX13_draw_143_144 15 rfl)
theorem dX13_draw_160 : decode cX13_draw 160 = .ok (.iinc 6 1, 3) := zo_132 (zi_at zh_dX13_draw_160_160 0 rfl) (zi_at zh_dX13_draw_160_160 1 rfl) (zi_at zh_dX13_draw_160_160 2 rfl) rfl
theorem dX13_draw_163 : decode cX13_draw 163 = .ok (.goto (-149), 3) := zo_167 (zi_at zh_dX13_draw_160_160 3 rfl) (zi_at zh_dX13_draw_160_160 4 rfl) (zi_at zh_dX13_draw_160_160 5 rfl) rfl
theorem dX13_draw_166 : decode cX13_draw 166 = .ok (.iload_n 1, 1) := zo_27 (zi_at zh_dX13_draw_160_160 6 rfl)
theorem dX13_draw_167 : decode cX13_draw 167 = .ok (.iconst 1, 1) := zo_4 (zi_at zh_dX13_draw_160_160 7 rfl)
theorem dX13_draw_168 : decode cX13_draw 168 = .ok (.if_icmp .lt 9, 3) := zo_161 (zi_at zh_dX13_draw_160_160 8 rfl) (zi_at zh_dX13_draw_160_160 9 rfl) (zi_at zh_dX13_draw_160_160 10 rfl) rfl
theorem dX13_draw_171 : decode cX13_draw 171 = .ok (.iload_n 1, 1) := zo_27 (zi_at zh_dX13_draw_160_160 11 rfl)
theorem dX13_draw_172 : decode cX13_draw 172 = .ok (.iload 5, 2) := zo_21 (zi_at zh_dX13_draw_160_160 12 rfl) (zi_at zh_dX13_draw_160_160 13 rfl)
theorem dX13_draw_174 : decode cX13_draw 174 = .ok (.if_icmp .le 5, 3) := zo_164 (zi_at zh_dX13_draw_160_160 14 rfl) (zi_at zh_dX13_draw_160_160 15 rfl) (zi_at zh_dX13_draw_174_176 0 rfl) rfl
theorem dX13_draw_177 : decode cX13_draw 177 = .ok (.iconst (-1), 1) := zo_2 (zi_at zh_dX13_draw_174_176 1 rfl)
theorem dX13_draw_178 : decode cX13_draw 178 = .ok (.ireturn, 1) := zo_172 (zi_at zh_dX13_draw_174_176 2 rfl)
theorem dX13_draw_179 : decode cX13_draw 179 = .ok (.lload_n 2, 1) := zo_32 (zi_at zh_dX13_draw_174_176 3 rfl)
theorem dX13_draw_180 : decode cX13_draw 180 = .ok (.lstore 6, 2) := zo_55 (zi_at zh_dX13_draw_174_176 4 rfl) (zi_at zh_dX13_draw_174_176 5 rfl)
theorem dX13_draw_182 : decode cX13_draw 182 = .ok (.iconst 0, 1) := zo_3 (zi_at zh_dX13_draw_174_176 6 rfl)
theorem dX13_draw_183 : decode cX13_draw 183 = .ok (.istore 8, 2) := zo_54 (zi_at zh_dX13_draw_174_176 7 rfl) (zi_at zh_dX13_draw_174_176 8 rfl)
theorem dX13_draw_185 : decode cX13_draw 185 = .ok (.iconst 0, 1) := zo_3 (zi_at zh_dX13_draw_174_176 9 rfl)
theorem dX13_draw_186 : decode cX13_draw 186 = .ok (.istore 9, 2) := zo_54 (zi_at zh_dX13_draw_174_176 10 rfl) (zi_at zh_dX13_draw_174_176 11 rfl)
theorem dX13_draw_188 : decode cX13_draw 188 = .ok (.iload 9, 2) := zo_21 (zi_at zh_dX13_draw_174_176 12 rfl) (zi_at zh_dX13_draw_174_176 13 rfl)
theorem dX13_draw_190 : decode cX13_draw 190 = .ok (.iload_n 1, 1) := zo_27 (zi_at zh_dX13_draw_174_176 14 rfl)
theorem dX13_draw_191 : decode cX13_draw 191 = .ok (.if_icmp .ge 95, 3) := zo_162 (zi_at zh_dX13_draw_174_176 15 rfl) (zi_at zh_dX13_draw_191_192 0 rfl) (zi_at zh_dX13_draw_191_192 1 rfl) rfl
theorem dX13_draw_194 : decode cX13_draw 194 = .ok (.lload 6, 2) := zo_22 (zi_at zh_dX13_draw_191_192 2 rfl) (zi_at zh_dX13_draw_191_192 3 rfl)
theorem dX13_draw_196 : decode cX13_draw 196 = .ok (.ldc2_w 542, 3) := zo_20 (zi_at zh_dX13_draw_191_192 4 rfl) (zi_at zh_dX13_draw_191_192 5 rfl) (zi_at zh_dX13_draw_191_192 6 rfl) rfl
theorem dX13_draw_199 : decode cX13_draw 199 = .ok (.lmul, 1) := zo_105 (zi_at zh_dX13_draw_191_192 7 rfl)
theorem dX13_draw_200 : decode cX13_draw 200 = .ok (.ldc2_w 544, 3) := zo_20 (zi_at zh_dX13_draw_191_192 8 rfl) (zi_at zh_dX13_draw_191_192 9 rfl) (zi_at zh_dX13_draw_191_192 10 rfl) rfl
theorem dX13_draw_203 : decode cX13_draw 203 = .ok (.ladd, 1) := zo_97 (zi_at zh_dX13_draw_191_192 11 rfl)
theorem dX13_draw_204 : decode cX13_draw 204 = .ok (.lstore 6, 2) := zo_55 (zi_at zh_dX13_draw_191_192 12 rfl) (zi_at zh_dX13_draw_191_192 13 rfl)
theorem dX13_draw_206 : decode cX13_draw 206 = .ok (.lload 6, 2) := zo_22 (zi_at zh_dX13_draw_191_192 14 rfl) (zi_at zh_dX13_draw_191_192 15 rfl)
theorem dX13_draw_208 : decode cX13_draw 208 = .ok (.bipush 33, 2) := zo_16 (zi_at zh_dX13_draw_208_208 0 rfl) (zi_at zh_dX13_draw_208_208 1 rfl) rfl
theorem dX13_draw_210 : decode cX13_draw 210 = .ok (.lushr, 1) := zo_125 (zi_at zh_dX13_draw_208_208 2 rfl)
theorem dX13_draw_211 : decode cX13_draw 211 = .ok (.iload 4, 2) := zo_21 (zi_at zh_dX13_draw_208_208 3 rfl) (zi_at zh_dX13_draw_208_208 4 rfl)
theorem dX13_draw_213 : decode cX13_draw 213 = .ok (.i2l, 1) := zo_133 (zi_at zh_dX13_draw_208_208 5 rfl)
theorem dX13_draw_214 : decode cX13_draw 214 = .ok (.lrem, 1) := zo_113 (zi_at zh_dX13_draw_208_208 6 rfl)
theorem dX13_draw_215 : decode cX13_draw 215 = .ok (.l2i, 1) := zo_136 (zi_at zh_dX13_draw_208_208 7 rfl)
theorem dX13_draw_216 : decode cX13_draw 216 = .ok (.istore 10, 2) := zo_54 (zi_at zh_dX13_draw_208_208 8 rfl) (zi_at zh_dX13_draw_208_208 9 rfl)
theorem dX13_draw_218 : decode cX13_draw 218 = .ok (.iconst 0, 1) := zo_3 (zi_at zh_dX13_draw_208_208 10 rfl)
theorem dX13_draw_219 : decode cX13_draw 219 = .ok (.istore 11, 2) := zo_54 (zi_at zh_dX13_draw_208_208 11 rfl) (zi_at zh_dX13_draw_208_208 12 rfl)
theorem dX13_draw_221 : decode cX13_draw 221 = .ok (.iload 10, 2) := zo_21 (zi_at zh_dX13_draw_208_208 13 rfl) (zi_at zh_dX13_draw_208_208 14 rfl)
theorem dX13_draw_223 : decode cX13_draw 223 = .ok (.aload_n 0, 1) := zo_42 (zi_at zh_dX13_draw_208_208 15 rfl)
theorem dX13_draw_224 : decode cX13_draw 224 = .ok (.getfield 225, 3) := zo_180 (zi_at zh_dX13_draw_224_224 0 rfl) (zi_at zh_dX13_draw_224_224 1 rfl) (zi_at zh_dX13_draw_224_224 2 rfl) rfl
theorem dX13_draw_227 : decode cX13_draw 227 = .ok (.iload 11, 2) := zo_21 (zi_at zh_dX13_draw_224_224 3 rfl) (zi_at zh_dX13_draw_224_224 4 rfl)
theorem dX13_draw_229 : decode cX13_draw 229 = .ok (.iaload, 1) := zo_46 (zi_at zh_dX13_draw_224_224 5 rfl)
theorem dX13_draw_230 : decode cX13_draw 230 = .ok (.if_icmp .lt 21, 3) := zo_161 (zi_at zh_dX13_draw_224_224 6 rfl) (zi_at zh_dX13_draw_224_224 7 rfl) (zi_at zh_dX13_draw_224_224 8 rfl) rfl
theorem dX13_draw_233 : decode cX13_draw 233 = .ok (.iload 10, 2) := zo_21 (zi_at zh_dX13_draw_224_224 9 rfl) (zi_at zh_dX13_draw_224_224 10 rfl)
theorem dX13_draw_235 : decode cX13_draw 235 = .ok (.aload_n 0, 1) := zo_42 (zi_at zh_dX13_draw_224_224 11 rfl)
theorem dX13_draw_236 : decode cX13_draw 236 = .ok (.getfield 225, 3) := zo_180 (zi_at zh_dX13_draw_224_224 12 rfl) (zi_at zh_dX13_draw_224_224 13 rfl) (zi_at zh_dX13_draw_224_224 14 rfl) rfl
theorem dX13_draw_239 : decode cX13_draw 239 = .ok (.iload 11, 2) := zo_21 (zi_at zh_dX13_draw_224_224 15 rfl) (zi_at zh_dX13_draw_239_240 0 rfl)
theorem dX13_draw_241 : decode cX13_draw 241 = .ok (.iaload, 1) := zo_46 (zi_at zh_dX13_draw_239_240 1 rfl)
theorem dX13_draw_242 : decode cX13_draw 242 = .ok (.isub, 1) := zo_100 (zi_at zh_dX13_draw_239_240 2 rfl)
theorem dX13_draw_243 : decode cX13_draw 243 = .ok (.istore 10, 2) := zo_54 (zi_at zh_dX13_draw_239_240 3 rfl) (zi_at zh_dX13_draw_239_240 4 rfl)
theorem dX13_draw_245 : decode cX13_draw 245 = .ok (.iinc 11 1, 3) := zo_132 (zi_at zh_dX13_draw_239_240 5 rfl) (zi_at zh_dX13_draw_239_240 6 rfl) (zi_at zh_dX13_draw_239_240 7 rfl) rfl
theorem dX13_draw_248 : decode cX13_draw 248 = .ok (.goto (-27), 3) := zo_167 (zi_at zh_dX13_draw_239_240 8 rfl) (zi_at zh_dX13_draw_239_240 9 rfl) (zi_at zh_dX13_draw_239_240 10 rfl) rfl
theorem dX13_draw_251 : decode cX13_draw 251 = .ok (.iload 8, 2) := zo_21 (zi_at zh_dX13_draw_239_240 11 rfl) (zi_at zh_dX13_draw_239_240 12 rfl)
theorem dX13_draw_253 : decode cX13_draw 253 = .ok (.iconst 1, 1) := zo_4 (zi_at zh_dX13_draw_239_240 13 rfl)
theorem dX13_draw_254 : decode cX13_draw 254 = .ok (.iload 11, 2) := zo_21 (zi_at zh_dX13_draw_239_240 14 rfl) (zi_at zh_dX13_draw_239_240 15 rfl)
theorem dX13_draw_256 : decode cX13_draw 256 = .ok (.ishl, 1) := zo_120 (zi_at zh_dX13_draw_256_256 0 rfl)
theorem dX13_draw_257 : decode cX13_draw 257 = .ok (.ior, 1) := zo_128 (zi_at zh_dX13_draw_256_256 1 rfl)
theorem dX13_draw_258 : decode cX13_draw 258 = .ok (.istore 8, 2) := zo_54 (zi_at zh_dX13_draw_256_256 2 rfl) (zi_at zh_dX13_draw_256_256 3 rfl)
theorem dX13_draw_260 : decode cX13_draw 260 = .ok (.iload 4, 2) := zo_21 (zi_at zh_dX13_draw_256_256 4 rfl) (zi_at zh_dX13_draw_256_256 5 rfl)
theorem dX13_draw_262 : decode cX13_draw 262 = .ok (.aload_n 0, 1) := zo_42 (zi_at zh_dX13_draw_256_256 6 rfl)
theorem dX13_draw_263 : decode cX13_draw 263 = .ok (.getfield 225, 3) := zo_180 (zi_at zh_dX13_draw_256_256 7 rfl) (zi_at zh_dX13_draw_256_256 8 rfl) (zi_at zh_dX13_draw_256_256 9 rfl) rfl
theorem dX13_draw_266 : decode cX13_draw 266 = .ok (.iload 11, 2) := zo_21 (zi_at zh_dX13_draw_256_256 10 rfl) (zi_at zh_dX13_draw_256_256 11 rfl)
theorem dX13_draw_268 : decode cX13_draw 268 = .ok (.iaload, 1) := zo_46 (zi_at zh_dX13_draw_256_256 12 rfl)
theorem dX13_draw_269 : decode cX13_draw 269 = .ok (.isub, 1) := zo_100 (zi_at zh_dX13_draw_256_256 13 rfl)
theorem dX13_draw_270 : decode cX13_draw 270 = .ok (.istore 4, 2) := zo_54 (zi_at zh_dX13_draw_256_256 14 rfl) (zi_at zh_dX13_draw_256_256 15 rfl)
theorem dX13_draw_272 : decode cX13_draw 272 = .ok (.aload_n 0, 1) := zo_42 (zi_at zh_dX13_draw_272_272 0 rfl)
theorem dX13_draw_273 : decode cX13_draw 273 = .ok (.getfield 225, 3) := zo_180 (zi_at zh_dX13_draw_272_272 1 rfl) (zi_at zh_dX13_draw_272_272 2 rfl) (zi_at zh_dX13_draw_272_272 3 rfl) rfl
theorem dX13_draw_276 : decode cX13_draw 276 = .ok (.iload 11, 2) := zo_21 (zi_at zh_dX13_draw_272_272 4 rfl) (zi_at zh_dX13_draw_272_272 5 rfl)
theorem dX13_draw_278 : decode cX13_draw 278 = .ok (.iconst 0, 1) := zo_3 (zi_at zh_dX13_draw_272_272 6 rfl)
theorem dX13_draw_279 : decode cX13_draw 279 = .ok (.iastore, 1) := zo_79 (zi_at zh_dX13_draw_272_272 7 rfl)
theorem dX13_draw_280 : decode cX13_draw 280 = .ok (.iinc 9 1, 3) := zo_132 (zi_at zh_dX13_draw_272_272 8 rfl) (zi_at zh_dX13_draw_272_272 9 rfl) (zi_at zh_dX13_draw_272_272 10 rfl) rfl
theorem dX13_draw_283 : decode cX13_draw 283 = .ok (.goto (-95), 3) := zo_167 (zi_at zh_dX13_draw_272_272 11 rfl) (zi_at zh_dX13_draw_272_272 12 rfl) (zi_at zh_dX13_draw_272_272 13 rfl) rfl
theorem dX13_draw_286 : decode cX13_draw 286 = .ok (.iload 8, 2) := zo_21 (zi_at zh_dX13_draw_272_272 14 rfl) (zi_at zh_dX13_draw_272_272 15 rfl)
theorem dX13_draw_288 : decode cX13_draw 288 = .ok (.ireturn, 1) := zo_172 (zi_at zh_dX13_draw_288_288 0 rfl)
theorem hz_yX13_fitOf_1 : yX13_fitOf.cls ≠ "java/lang/invoke/MethodHandle" ∧ yX13_fitOf.cls ≠ "java/lang/invoke/VarHandle" ∧ (parseMethodDescriptor yX13_fitOf.desc).map (fun d => d.parameters.length) = some 1 := by decide +kernel

theorem sumI_push {g g' : Nat → Int32} {b b2 x : Int32} (hb : 0 ≤ b.toInt) (hb2 : b.toInt ≤ 100) (t : b2.toInt = b.toInt + 1) (e : g' = upd g b.toNatClampNeg x) : sumI g' b2.toNatClampNeg = sumI g b.toNatClampNeg + x.toInt ∧ (posI g' b2.toNatClampNeg : Int) = posI g b.toNatClampNeg + (if 0 < x.toInt then 1 else 0) := by
  have e2 : b2.toNatClampNeg = b.toNatClampNeg + 1 := by rw [tn_, tn_]; omega
  subst e
  have h1 := sumI_out (g := g) (k := b.toNatClampNeg) (x := x) b.toNatClampNeg (Nat.le_refl _)
  rw [e2]
  simp only [sumI, posI, h1.1, h1.2, pk_us]
  constructor
  · trivial
  · split <;> omega
theorem dr_place {x y z w : Int64} {t r : Int32} (ey : y = (x.toUInt64 >>> ((33 : Int32).toInt64.toUInt64 &&& Int64.toUInt64 63)).toInt64) (ez : z = t.toInt64) (ew : w = y - y / z * z) (er : r = w.toInt32) (ht : 1 ≤ t.toInt) (ht2 : t.toInt ≤ 100000) : 0 ≤ r.toInt ∧ r.toInt < t.toInt := by
  have e33 : ((33 : Int32).toInt64.toUInt64 &&& Int64.toUInt64 63) = 33 := by decide
  rw [e33] at ey
  have hk : (x.toUInt64 >>> 33).toNat < 2 ^ 31 := by
    rw [UInt64.toNat_shiftRight, show (33 : UInt64).toNat % 64 = 33 from by decide, Nat.shiftRight_eq_div_pow]
    have := x.toUInt64.toNat_lt
    omega
  have ey2 : y = lN (x.toUInt64 >>> 33).toNat := by
    have hu : ∀ u : UInt64, u.toInt64 = lN u.toNat := fun u => by
      apply Int64.toBitVec_inj.mp
      show u.toBitVec = BitVec.ofNat 64 u.toBitVec.toNat
      simp
    rw [ey, hu]
  have hb : t.toNatClampNeg < 2 ^ 31 := by rw [tn_]; omega
  have et : t = nI t.toNatClampNeg := (nI_tn (by omega)).symm
  have ez2 : z = lN t.toNatClampNeg := (ez.trans (congrArg Int32.toInt64 et)).trans (nI_l hb)
  have h0 : 0 < t.toNatClampNeg := by rw [tn_]; omega
  rw [er, ew, ey2, ez2, pk_lRem (by omega) h0 (by omega), lN_i]
  have hm := Nat.mod_lt (x.toUInt64 >>> 33).toNat h0
  rw [nI_toInt (by omega)]
  have := tn_ t
  omega
section
def v_draw : List Cond := .code yX13_draw cX13_draw 12 (some .int) :: vA
abbrev rm_draw : Room := { frames := 75, cells := 0, slots := 0, locals := 3000 }
def w_draw : Nat → Nat → Bool := wl [12, 66, 67, 68, 71] [(0, 0), (0, 18), (0, 19), (0, 20), (0, 21), (0, 22), (0, 23), (0, 24), (0, 25), (0, 26)]
set_option maxHeartbeats 4000000 in
set_option maxRecDepth 100000 in
theorem q_draw (l : Launch) (dC : Nat → ClassId) (dI : Nat → Nat → Nat) (cT : Nat → ClassId) (ad : Nat → Nat) (E : Nat → va_E) (sz : Nat) (a0 : Int32) (a1 : Int64) (hI0 : IX cT shM spM 72 ad E)  : Met l yX13_draw v_draw rm_draw (va_Pc [.ref (ad 0), .int a0, .long a1] (HW dC dI (TYM cT) 72 ad E sz)) (va_Qi (S := Nat → va_E) (fun r u => IX cT shM spM 72 ad u ∧ Kp w_draw E u ∧ (True)) (HB dC dI 72 ad) (va_A (WX 72 ad E) sz)) 0 0 (va_A (WX 72 ad E) sz) := by
  refine Met.ofW (cc := cX13_draw) (maxL := 12) (ret := (some .int)) (by decide) rfl ?_
  intro p e s m args below meth c s₁ B hml hv
  obtain ⟨hargs, hsz, hP, hK, hD0, hEV⟩ := hv
  subst hsz
  have hx := B.exec
  have hb := B.bytes
  have hr := B.returns
  have hts := atoms_spec (ws := v_draw) B.pre
  have hown : s.vm.findClass RX13 = some m.cls := findClass_of_methodNamed B.named
  have hlocks := B.notSynchronized
  have hinX13 : ∀ w ∈ u_ws RX13 TX13 97, w ∈ v_draw := fun w h => vA_in _ w (in_X13 w h)
  generalize hAe : va_A (WX 72 ad E) s.heap.size = A at hEV ⊢
  have hA : ∀ q : Nat, s.heap.size ≤ q → A q := fun q h => by rw [← hAe]; exact Or.inr h
  have hD : va_D A (WX 72 ad E) := by rw [← hAe]; exact hD0.self
  have hS : va_S A s.heap s.heap [] := va_S.rf
  have hI := hI0
  have hKp : Kp w_draw E E := Kp.rf
  have hl := lv_entry ([.ref (ad 0), .int a0, .long a1]) (n := 12) (Nat.le_of_ble_eq_true rfl)
  obtain ⟨Q, hQ⟩ : ∃ Q, Q = MQ below (va_Qi (S := Nat → va_E) (fun r u => IX cT shM spM 72 ad u ∧ Kp w_draw E u ∧ (True)) (HB dC dI 72 ad) (A)) args s 0 0 (A) := ⟨_, rfl⟩
  rw [← hQ, show entryFrame m args 12 = _ from (congrArg (fun z => entryFrame m z 12) hargs).trans (lg_entry_eq _ _ _)]
  generalize (lg_sl ([.ref (ad 0), .int a0, .long a1]) ++ List.replicate (12 - (lg_sl ([.ref (ad 0), .int a0, .long a1])).length) Slot.unset).toArray = ls at hl ⊢
  have hl : lv_has ls 12 [(0, .ref (ad 0)), (1, .int a0), (2, .long a1)] := hl
  refine lv_aload_n hx hb dX13_draw_0 rfl (lv_at hl 0 rfl) ?_
  refine lv_iconst (v := 0) hx hb dX13_draw_1 (by decide) ?_
  refine th_put (ci := 14) (C := RX13) (T := TX13) (N := 97) (v := .int 0) (ty := .int) hx hb hts hinX13 tyX13 tyX13_ok nmX13 hown hK hP (WX_D hD) hS hI 0 (Nat.le_of_ble_eq_true rfl) rfl rfl 0 (Nat.le_of_ble_eq_true rfl) (hts _ (vA_in _ _ (in_24 _ (zs4 (zs4 (zs1 (zs1 (zs0)))))))) (fun _ h9 => h9) rfl (by decide +kernel) rfl rfl (okI rfl (iv_w ln_0 (by decide))) dX13_draw_2 (fun H locs E1 pw2 hI hP hS => ?_)
  have hKp := hKp.pw pw2 rfl
  refine lv_iconst (v := 0) hx hb dX13_draw_5 (by decide) ?_
  refine lv_istore (lv' := [(4, .int 0), (0, .ref (ad 0)), (1, .int a0), (2, .long a1)]) hx hb dX13_draw_6 hl (by decide) rfl (fun ls hl => ?_)
  refine lv_iconst (v := 0) hx hb dX13_draw_8 (by decide) ?_
  refine lv_istore (lv' := [(5, .int 0), (4, .int 0), (0, .ref (ad 0)), (1, .int a0), (2, .long a1)]) hx hb dX13_draw_9 hl (by decide) rfl (fun ls hl => ?_)
  refine lv_iconst (v := 0) hx hb dX13_draw_11 (by decide) ?_
  refine lv_istore (lv' := [(6, .int 0), (5, .int 0), (4, .int 0), (0, .ref (ad 0)), (1, .int a0), (2, .long a1)]) hx hb dX13_draw_12 hl (by decide) rfl (fun ls hl => ?_)
  obtain ⟨g3, hg3⟩ : ∃ g, xi (E1 71) = g := ⟨_, rfl⟩
  have hL14 : ∀ d : Nat, ∀ (g14_71 : Nat → Int32) (v14_6 : Int32) (v14_5 : Int32) (v14_4 : Int32) (E14_ : Nat → va_E) (H : Heap) (locs : List Loc) (ls : Array Slot), 0 ≤ v14_6.toInt ∧ v14_6.toInt ≤ 16 → 0 ≤ v14_5.toInt ∧ v14_5.toInt ≤ 16 → 0 ≤ v14_4.toInt ∧ v14_4.toInt ≤ 32016 → v14_4.toInt = sumI g14_71 v14_6.toNatClampNeg → v14_5.toInt = (posI g14_71 v14_6.toNatClampNeg : Int) → (0 ≤ v14_4.toInt ∧ v14_4.toInt ≤ 2001 * v14_6.toInt) → (0 ≤ v14_5.toInt ∧ v14_5.toInt ≤ v14_6.toInt) → v14_6.toInt ≤ (xi (E 0) 8).toInt → 16 - v14_6.toInt < (d : Int) → IX cT shM spM 72 ad E14_ → Kp w_draw E E14_ → xv (E14_ 0) 0 = .int 0 → xi (E14_ 71) = g14_71 → va_P (dC, dI) vwCl (WX 72 ad E14_) H → va_S A s.heap H locs → lv_has ls 12 [(6, .int v14_6), (5, .int v14_5), (4, .int v14_4), (0, .ref (ad 0)), (1, .int a0), (2, .long a1)] → W p l e (headSpec v_draw rm_draw).room s m args below meth c H locs 0 0 Q (F0 m 14 ls []) := by
    intro d
    induction d with
    | zero =>
      intro g14_71 v14_6 v14_5 v14_4 E14_ H locs ls hv14_6 hv14_5 hv14_4 hx14_0 hx14_1 hx14_2 hx14_3 hx14_4 hx14_5 hI hKp hs14_0_0 hr14_71 hP hS hl
      exact absurd hx14_5 (by first | exact ms_zu hv14_6.2 | omega)
    | succ d ih14 =>
      intro g14_71 v14_6 v14_5 v14_4 E14_ H locs ls hv14_6 hv14_5 hv14_4 hx14_0 hx14_1 hx14_2 hx14_3 hx14_4 hx14_5 hI hKp hs14_0_0 hr14_71 hP hS hl
      refine lv_iload hx hb dX13_draw_14 (lv_at hl 0 rfl) ?_
      refine lv_aload_n hx hb dX13_draw_16 rfl (lv_at hl 3 rfl) ?_
      have i4 : 0 ≤ (xi (E 0) 8).toInt ∧ (xi (E 0) 8).toInt ≤ 16 := hI0.iv 0 (Nat.le_of_ble_eq_true rfl) rfl (Nat.le_of_ble_eq_true rfl) rfl
      refine th_get (ci := 14) (C := RX13) (T := TX13) (N := 97) (v := .int (xi (E 0) 8)) hx hb hts hinX13 hown hK hP hI 0 (Nat.le_of_ble_eq_true rfl) rfl rfl 8 (Nat.le_of_ble_eq_true rfl) (hts _ (vA_in _ _ (in_24 _ (zs16 (zs4 (zs1 (zs1 (zs0)))))))) (fun _ h9 => h9) (th_v0 hKp hI0 0 (Nat.le_of_ble_eq_true rfl) rfl (Nat.le_of_ble_eq_true rfl) rfl rfl) dX13_draw_17 ?_
      refine lv_icmp_ge (tgt := 166) hx hb dX13_draw_20 (by decide) (fun c5 => ?_) (fun c5 => ?_)
      · --20 taken
        have t6 : (xi (E 0) 8).toInt ≤ v14_6.toInt := ti_le c5
        have hb14 : v14_6.toNatClampNeg = (xi (E 0) 8).toNatClampNeg := tn_ge (by omega) (by omega)
        rw [hb14] at hx14_0 hx14_1
        refine lv_iload_n hx hb dX13_draw_166 rfl (lv_at hl 4 rfl) ?_
        refine lv_iconst (v := 1) hx hb dX13_draw_167 (by decide) ?_
        refine lv_icmp_lt (tgt := 177) hx hb dX13_draw_168 (by decide) (fun c7 => ?_) (fun c7 => ?_)
        · --168 taken
          have t8 : a0.toInt < 1 := ti_lt c7
          have i9 : -2147483648 ≤ a0.toInt ∧ a0.toInt ≤ 0 := iv_lt_l t8 (iv_all _) (il_ 1) (by decide)
          refine lv_iconst (v := -1) hx hb dX13_draw_177 (by decide) ?_
          rw [hQ]
          exact W.iret (v := (-1)) hx hb hr (fun t ht hW => ⟨⟨(-1), E14_, rfl, ⟨hI, hKp, trivial⟩, by show va_P (dC, dI) vwCl (WX 72 ad E14_) t.heap; rw [ht]; exact hP⟩, hS.F ht⟩) hS.2.2 dX13_draw_178
        · --168 not
          have t10 : (1 : Int) ≤ a0.toInt := ti_nlt c7
          have i11 : 1 ≤ a0.toInt ∧ a0.toInt ≤ 2147483647 := iv_le_r t10 (il_ 1) (iv_all _) (by decide)
          refine lv_iload_n hx hb dX13_draw_171 rfl (lv_at hl 4 rfl) ?_
          refine lv_iload hx hb dX13_draw_172 (lv_at hl 1 rfl) ?_
          refine lv_icmp_le (tgt := 179) hx hb dX13_draw_174 (by decide) (fun c12 => ?_) (fun c12 => ?_)
          · --174 taken
            have t13 : a0.toInt ≤ v14_5.toInt := ti_le c12
            have i14 : 1 ≤ a0.toInt ∧ a0.toInt ≤ 16 := iv_le_l t13 i11 hv14_5 (by decide)
            have i15 : 1 ≤ v14_5.toInt ∧ v14_5.toInt ≤ 16 := iv_le_r t13 i11 hv14_5 (by decide)
            refine lv_lload_n hx hb dX13_draw_179 rfl (lv_at hl 5 rfl) ?_
            refine lv_lstore (lv' := [(6, .long a1), (5, .int v14_5), (4, .int v14_4), (0, .ref (ad 0)), (1, .int a0), (2, .long a1)]) hx hb dX13_draw_180 hl (by decide) rfl (fun ls hl => ?_)
            refine lv_iconst (v := 0) hx hb dX13_draw_182 (by decide) ?_
            refine lv_istore (lv' := [(8, .int 0), (6, .long a1), (5, .int v14_5), (4, .int v14_4), (0, .ref (ad 0)), (1, .int a0), (2, .long a1)]) hx hb dX13_draw_183 hl (by decide) rfl (fun ls hl => ?_)
            refine lv_iconst (v := 0) hx hb dX13_draw_185 (by decide) ?_
            refine lv_istore (lv' := [(9, .int 0), (8, .int 0), (6, .long a1), (5, .int v14_5), (4, .int v14_4), (0, .ref (ad 0)), (1, .int a0), (2, .long a1)]) hx hb dX13_draw_186 hl (by decide) rfl (fun ls hl => ?_)
            have hL188 : ∀ d : Nat, ∀ (g188_71 : Nat → Int32) (v188_9 : Int32) (v188_8 : Int32) (v188_6 : Int64) (v188_4 : Int32) (E188_ : Nat → va_E) (H : Heap) (locs : List Loc) (ls : Array Slot), 0 ≤ v188_9.toInt ∧ v188_9.toInt ≤ 16 → -2000 ≤ v188_4.toInt ∧ v188_4.toInt ≤ 32016 → v188_4.toInt = sumI g188_71 (xi (E 0) 8).toNatClampNeg → (v14_5.toInt - v188_9.toInt ≤ (posI g188_71 (xi (E 0) 8).toNatClampNeg : Int)) → 16 - v188_9.toInt < (d : Int) → IX cT shM spM 72 ad E188_ → Kp w_draw E E188_ → xv (E188_ 0) 0 = .int 0 → xi (E188_ 71) = g188_71 → va_P (dC, dI) vwCl (WX 72 ad E188_) H → va_S A s.heap H locs → lv_has ls 12 [(9, .int v188_9), (8, .int v188_8), (6, .long v188_6), (5, .int v14_5), (4, .int v188_4), (0, .ref (ad 0)), (1, .int a0), (2, .long a1)] → W p l e (headSpec v_draw rm_draw).room s m args below meth c H locs 0 0 Q (F0 m 188 ls []) := by
              intro d
              induction d with
              | zero =>
                intro g188_71 v188_9 v188_8 v188_6 v188_4 E188_ H locs ls hv188_9 hv188_4 hx188_0 hx188_1 hx188_2 hI hKp hs188_0_0 hr188_71 hP hS hl
                exact absurd hx188_2 (by first | exact ms_zu hv188_9.2 | omega)
              | succ d ih188 =>
                intro g188_71 v188_9 v188_8 v188_6 v188_4 E188_ H locs ls hv188_9 hv188_4 hx188_0 hx188_1 hx188_2 hI hKp hs188_0_0 hr188_71 hP hS hl
                refine lv_iload hx hb dX13_draw_188 (lv_at hl 0 rfl) ?_
                refine lv_iload_n hx hb dX13_draw_190 rfl (lv_at hl 6 rfl) ?_
                refine lv_icmp_ge (tgt := 286) hx hb dX13_draw_191 (by decide) (fun c16 => ?_) (fun c16 => ?_)
                · --191 taken
                  have t17 : a0.toInt ≤ v188_9.toInt := ti_le c16
                  have i18 : 1 ≤ v188_9.toInt ∧ v188_9.toInt ≤ 16 := iv_le_r t17 i14 hv188_9 (by decide)
                  refine lv_iload hx hb dX13_draw_286 (lv_at hl 1 rfl) ?_
                  rw [hQ]
                  exact W.iret (v := v188_8) hx hb hr (fun t ht hW => ⟨⟨v188_8, E188_, rfl, ⟨hI, hKp, trivial⟩, by show va_P (dC, dI) vwCl (WX 72 ad E188_) t.heap; rw [ht]; exact hP⟩, hS.F ht⟩) hS.2.2 dX13_draw_288
                · --191 not
                  have t19 : v188_9.toInt < a0.toInt := ti_nle c16
                  have i20 : 0 ≤ v188_9.toInt ∧ v188_9.toInt ≤ 15 := iv_lt_l t19 hv188_9 i14 (by decide)
                  have hnn : ∀ j, j < (xi (E 0) 8).toNatClampNeg → 0 ≤ (g188_71 j).toInt := fun j hj => by rw [← hr188_71]; exact (hI.iv 71 (Nat.le_of_ble_eq_true rfl) rfl (show j < 16 by rw [tn_] at hj; omega) rfl).1
                  have hps := sumI_pos (xi (E 0) 8).toNatClampNeg hnn
                  have h1s : 1 ≤ v188_4.toInt := by omega
                  have i21 : 1 ≤ v188_4.toInt ∧ v188_4.toInt ≤ 32016 := by omega
                  refine lv_lload hx hb dX13_draw_194 (lv_at hl 2 rfl) ?_
                  refine lv_ldc2 hx hb hown (hts _ (vA_in _ _ (in_31 _ (zs4 (zs4 (zs4 (zs0))))))) dX13_draw_196 ?_
                  refine lv_topl (fun y22 ey22 => ?_)
                  refine lv_lmul hx hb dX13_draw_199 ?_
                  refine lv_topl (fun y23 ey23 => ?_)
                  refine lv_ldc2 hx hb hown (hts _ (vA_in _ _ (in_31 _ (zs4 (zs4 (zs4 (zs1 (zs0)))))))) dX13_draw_200 ?_
                  refine lv_topl (fun y24 ey24 => ?_)
                  refine lv_ladd hx hb dX13_draw_203 ?_
                  refine lv_topl (fun y25 ey25 => ?_)
                  refine lv_lstore (lv' := [(6, .long y25), (9, .int v188_9), (8, .int v188_8), (5, .int v14_5), (4, .int v188_4), (0, .ref (ad 0)), (1, .int a0), (2, .long a1)]) hx hb dX13_draw_204 hl (by decide) rfl (fun ls hl => ?_)
                  refine lv_lload hx hb dX13_draw_206 (lv_at hl 0 rfl) ?_
                  refine lv_bipush (v := 33) hx hb dX13_draw_208 (by decide) ?_
                  refine lv_lushr hx hb dX13_draw_210 rfl ?_
                  refine lv_topl (fun y26 ey26 => ?_)
                  refine lv_iload hx hb dX13_draw_211 (lv_at hl 4 rfl) ?_
                  refine lv_i2l hx hb dX13_draw_213 rfl ?_
                  refine lv_topl (fun y27 ey27 => ?_)
                  refine lv_lrem hx hb dX13_draw_214 (i2l_n0 ey27 (by omega)) ?_
                  refine lv_topl (fun y28 ey28 => ?_)
                  refine lv_l2i hx hb dX13_draw_215 rfl ?_
                  refine lv_topi (fun y29 ey29 => ?_)
                  obtain ⟨q1y29, q2y29⟩ := dr_place ey26 ey27 ey28 ey29 (by omega) (by omega)
                  have i30 : 0 ≤ y29.toInt ∧ y29.toInt ≤ 32015 := by omega
                  refine lv_istore (lv' := [(10, .int y29), (6, .long y25), (9, .int v188_9), (8, .int v188_8), (5, .int v14_5), (4, .int v188_4), (0, .ref (ad 0)), (1, .int a0), (2, .long a1)]) hx hb dX13_draw_216 hl (by decide) rfl (fun ls hl => ?_)
                  refine lv_iconst (v := 0) hx hb dX13_draw_218 (by decide) ?_
                  refine lv_istore (lv' := [(11, .int 0), (10, .int y29), (6, .long y25), (9, .int v188_9), (8, .int v188_8), (5, .int v14_5), (4, .int v188_4), (0, .ref (ad 0)), (1, .int a0), (2, .long a1)]) hx hb dX13_draw_219 hl (by decide) rfl (fun ls hl => ?_)
                  have hL221 : ∀ d : Nat, ∀ (v221_11 : Int32) (v221_10 : Int32) (H : Heap) (locs : List Loc) (ls : Array Slot), 0 ≤ v221_11.toInt ∧ v221_11.toInt ≤ 16 → -2001 ≤ v221_10.toInt ∧ v221_10.toInt ≤ 32015 → (0 ≤ v221_10.toInt ∧ v221_10.toInt < sumI g188_71 (xi (E 0) 8).toNatClampNeg - sumI g188_71 v221_11.toNatClampNeg) → v221_11.toInt ≤ (xi (E 0) 8).toInt → 16 - v221_11.toInt < (d : Int) → va_P (dC, dI) vwCl (WX 72 ad E188_) H → va_S A s.heap H locs → lv_has ls 12 [(11, .int v221_11), (10, .int v221_10), (6, .long y25), (9, .int v188_9), (8, .int v188_8), (5, .int v14_5), (4, .int v188_4), (0, .ref (ad 0)), (1, .int a0), (2, .long a1)] → W p l e (headSpec v_draw rm_draw).room s m args below meth c H locs 0 0 Q (F0 m 221 ls []) := by
                    intro d
                    induction d with
                    | zero =>
                      intro v221_11 v221_10 H locs ls hv221_11 hv221_10 hx221_0 hx221_1 hx221_2 hP hS hl
                      exact absurd hx221_2 (by first | exact ms_zu hv221_11.2 | omega)
                    | succ d ih221 =>
                      intro v221_11 v221_10 H locs ls hv221_11 hv221_10 hx221_0 hx221_1 hx221_2 hP hS hl
                      refine lv_iload hx hb dX13_draw_221 (lv_at hl 1 rfl) ?_
                      have hlb : v221_11.toInt < (xi (E 0) 8).toInt := by
                        rcases (show v221_11.toInt < (xi (E 0) 8).toInt ∨ v221_11.toInt = (xi (E 0) 8).toInt by omega) with h9 | h9
                        · exact h9
                        · exfalso; have h8 := tn_ge (x := v221_11) (y := xi (E 0) 8) (by omega) (by omega); rw [h8] at hx221_0; omega
                      have i31 : 0 ≤ v221_11.toInt ∧ v221_11.toInt ≤ 15 := by omega
                      refine lv_aload_n hx hb dX13_draw_223 rfl (lv_at hl 7 rfl) ?_
                      refine th_get (ci := 14) (C := RX13) (T := TX13) (N := 97) (v := .ref (ad 71)) hx hb hts hinX13 hown hK hP hI 0 (Nat.le_of_ble_eq_true rfl) rfl rfl 96 (Nat.le_of_ble_eq_true rfl) (hts _ (vA_in _ _ (in_31 _ (zs4 (zs4 (zs1 (zs1 (zs1 (zs0))))))))) (fun _ h9 => h9) (hI.fr 0 (Nat.le_of_ble_eq_true rfl) rfl (Nat.le_of_ble_eq_true rfl) 71 rfl) dX13_draw_224 ?_
                      refine lv_iload hx hb dX13_draw_227 (lv_at hl 0 rfl) ?_
                      have n33 : vp_in v221_11 16 := (iv_in (n := 16) i31 (by decide))
                      refine th_iald hx hb hK hP hI 71 (Nat.le_of_ble_eq_true rfl) rfl rfl n33 dX13_draw_229 (fun y32 ey32 => ?_)
                      have iy32 : 0 ≤ y32.toInt ∧ y32.toInt ≤ 2001 := hI.el 71 (Nat.le_of_ble_eq_true rfl) rfl n33 (fun _ => rfl) ey32
                      have ey32 := ey32.trans (congrFun hr188_71 _)
                      refine lv_icmp_lt (tgt := 251) hx hb dX13_draw_230 (by decide) (fun c34 => ?_) (fun c34 => ?_)
                      · --230 taken
                        have t35 : v221_10.toInt < y32.toInt := ti_lt c34
                        have i36 : -2001 ≤ v221_10.toInt ∧ v221_10.toInt ≤ 2000 := iv_lt_l t35 hv221_10 iy32 (by decide)
                        refine lv_iload hx hb dX13_draw_251 (lv_at hl 4 rfl) ?_
                        refine lv_iconst (v := 1) hx hb dX13_draw_253 (by decide) ?_
                        refine lv_iload hx hb dX13_draw_254 (lv_at hl 0 rfl) ?_
                        refine lv_ishl hx hb dX13_draw_256 ?_
                        refine lv_topi (fun y37 ey37 => ?_)
                        have iy37 : 1 ≤ y37.toInt ∧ y37.toInt ≤ 65536 := ti_shl1 i31 ey37 (by decide)
                        refine lv_ior hx hb dX13_draw_257 ?_
                        refine lv_topi (fun y38 ey38 => ?_)
                        refine lv_istore (lv' := [(8, .int y38), (11, .int v221_11), (10, .int v221_10), (6, .long y25), (9, .int v188_9), (5, .int v14_5), (4, .int v188_4), (0, .ref (ad 0)), (1, .int a0), (2, .long a1)]) hx hb dX13_draw_258 hl (by decide) rfl (fun ls hl => ?_)
                        refine lv_iload hx hb dX13_draw_260 (lv_at hl 6 rfl) ?_
                        refine lv_aload_n hx hb dX13_draw_262 rfl (lv_at hl 7 rfl) ?_
                        refine th_get (ci := 14) (C := RX13) (T := TX13) (N := 97) (v := .ref (ad 71)) hx hb hts hinX13 hown hK hP hI 0 (Nat.le_of_ble_eq_true rfl) rfl rfl 96 (Nat.le_of_ble_eq_true rfl) (hts _ (vA_in _ _ (in_31 _ (zs4 (zs4 (zs1 (zs1 (zs1 (zs0))))))))) (fun _ h9 => h9) (hI.fr 0 (Nat.le_of_ble_eq_true rfl) rfl (Nat.le_of_ble_eq_true rfl) 71 rfl) dX13_draw_263 ?_
                        refine lv_iload hx hb dX13_draw_266 (lv_at hl 1 rfl) ?_
                        have n40 : vp_in v221_11 16 := (iv_in (n := 16) i31 (by decide))
                        refine th_iald hx hb hK hP hI 71 (Nat.le_of_ble_eq_true rfl) rfl rfl n40 dX13_draw_268 (fun y39 ey39 => ?_)
                        have iy39 : 0 ≤ y39.toInt ∧ y39.toInt ≤ 2001 := hI.el 71 (Nat.le_of_ble_eq_true rfl) rfl n40 (fun _ => rfl) ey39
                        have ey39 := ey39.trans (congrFun hr188_71 _)
                        refine lv_isub hx hb dX13_draw_269 ?_
                        refine lv_topi (fun y41 ey41 => ?_)
                        obtain ⟨ty41, iy41⟩ := ti_sub (e := (-2000)) (f := 32016) i21 iy39 ey41 (by decide)
                        have ty41 : y41.toInt = v188_4.toInt - y39.toInt := ty41
                        have iy41 : -2000 ≤ y41.toInt ∧ y41.toInt ≤ 32016 := iy41
                        refine lv_istore (lv' := [(4, .int y41), (8, .int y38), (11, .int v221_11), (10, .int v221_10), (6, .long y25), (9, .int v188_9), (5, .int v14_5), (0, .ref (ad 0)), (1, .int a0), (2, .long a1)]) hx hb dX13_draw_270 hl (by decide) rfl (fun ls hl => ?_)
                        refine lv_aload_n hx hb dX13_draw_272 rfl (lv_at hl 7 rfl) ?_
                        refine th_get (ci := 14) (C := RX13) (T := TX13) (N := 97) (v := .ref (ad 71)) hx hb hts hinX13 hown hK hP hI 0 (Nat.le_of_ble_eq_true rfl) rfl rfl 96 (Nat.le_of_ble_eq_true rfl) (hts _ (vA_in _ _ (in_31 _ (zs4 (zs4 (zs1 (zs1 (zs1 (zs0))))))))) (fun _ h9 => h9) (hI.fr 0 (Nat.le_of_ble_eq_true rfl) rfl (Nat.le_of_ble_eq_true rfl) 71 rfl) dX13_draw_273 ?_
                        refine lv_iload hx hb dX13_draw_276 (lv_at hl 2 rfl) ?_
                        refine lv_iconst (v := 0) hx hb dX13_draw_278 (by decide) ?_
                        have n42 : vp_in v221_11 16 := (iv_in (n := 16) i31 (by decide))
                        refine th_iast hx hb hK hP (WX_D hD) hS hI 71 (Nat.le_of_ble_eq_true rfl) rfl rfl n42 (okI rfl (iv_w ln_0 (by decide))) dX13_draw_279 (fun H locs E43 pw44 hI hP hS => ?_)
                        have hKp := hKp.pw pw44 rfl
                        obtain ⟨g45, eg45⟩ : ∃ z : Nat → Int32, z = upd g188_71 v221_11.toNatClampNeg (0 : Int32) := ⟨_, rfl⟩
                        have hg45 : xi (E43 71) = g45 := by rw [pw44.eu, hr188_71, eg45]
                        obtain ⟨y46, ey46⟩ : ∃ y : Int32, y = v188_9 + (1 : Int32) := ⟨_, rfl⟩
                        obtain ⟨ty46, iy46⟩ := ti_add (e := 1) (f := 16) i20 ln_1 ey46 (by decide)
                        have ty46 : y46.toInt = v188_9.toInt + 1 := ty46
                        have iy46 : 1 ≤ y46.toInt ∧ y46.toInt ≤ 16 := iy46
                        refine lv_iinc (v := y46) (lv' := [(9, .int y46), (4, .int y41), (8, .int y38), (11, .int v221_11), (10, .int v221_10), (6, .long y25), (5, .int v14_5), (0, .ref (ad 0)), (1, .int a0), (2, .long a1)]) hx hb dX13_draw_280 hl (k := 5) rfl (by rw [ey46]; rfl) (by decide) rfl (fun ls hl => ?_)
                        refine lv_goto (tgt := 188) hx hb dX13_draw_283 (by decide) ?_
                        exact ih188 g45 y46 y38 y25 y41 E43 _ _ _ (iv_w iy46 (by decide)) iy41 (by have h6 := sumI_upd (g := g188_71) (k := v221_11.toNatClampNeg) (x := 0) (xi (E 0) 8).toNatClampNeg (by rw [tn_, tn_]; omega); rw [← eg45] at h6; have h5 := congrArg Int32.toInt ey39; have z0 := ln_0; omega) (by have h6 := sumI_upd (g := g188_71) (k := v221_11.toNatClampNeg) (x := 0) (xi (E 0) 8).toNatClampNeg (by rw [tn_, tn_]; omega); rw [← eg45] at h6; have h5 := congrArg Int32.toInt ey39; have z0 := ln_0; have h4 := h6.2; split at h4 <;> split at h4 <;> omega) (by first | exact ms_su hx188_2 ty46 (by decide) | omega) hI hKp ((pw44.2 0 0 (fun q9 => absurd q9.1 (Nat.ne_of_beq_eq_false rfl))).trans hs188_0_0) hg45 hP hS (lv_sub hl [0, 2, 5, 6, 1, 7, 8, 9] rfl)
                      · --230 not
                        have t47 : y32.toInt ≤ v221_10.toInt := ti_nlt c34
                        have i48 : 0 ≤ v221_10.toInt ∧ v221_10.toInt ≤ 32015 := iv_le_r t47 iy32 hv221_10 (by decide)
                        refine lv_iload hx hb dX13_draw_233 (lv_at hl 1 rfl) ?_
                        refine lv_aload_n hx hb dX13_draw_235 rfl (lv_at hl 7 rfl) ?_
                        refine th_get (ci := 14) (C := RX13) (T := TX13) (N := 97) (v := .ref (ad 71)) hx hb hts hinX13 hown hK hP hI 0 (Nat.le_of_ble_eq_true rfl) rfl rfl 96 (Nat.le_of_ble_eq_true rfl) (hts _ (vA_in _ _ (in_31 _ (zs4 (zs4 (zs1 (zs1 (zs1 (zs0))))))))) (fun _ h9 => h9) (hI.fr 0 (Nat.le_of_ble_eq_true rfl) rfl (Nat.le_of_ble_eq_true rfl) 71 rfl) dX13_draw_236 ?_
                        refine lv_iload hx hb dX13_draw_239 (lv_at hl 0 rfl) ?_
                        have n50 : vp_in v221_11 16 := (iv_in (n := 16) i31 (by decide))
                        refine th_iald hx hb hK hP hI 71 (Nat.le_of_ble_eq_true rfl) rfl rfl n50 dX13_draw_241 (fun y49 ey49 => ?_)
                        have iy49 : 0 ≤ y49.toInt ∧ y49.toInt ≤ 2001 := hI.el 71 (Nat.le_of_ble_eq_true rfl) rfl n50 (fun _ => rfl) ey49
                        have ey49 := ey49.trans (congrFun hr188_71 _)
                        refine lv_isub hx hb dX13_draw_242 ?_
                        refine lv_topi (fun y51 ey51 => ?_)
                        obtain ⟨ty51, iy51⟩ := ti_sub (e := (-2001)) (f := 32015) i48 iy49 ey51 (by decide)
                        have ty51 : y51.toInt = v221_10.toInt - y49.toInt := ty51
                        have iy51 : -2001 ≤ y51.toInt ∧ y51.toInt ≤ 32015 := iy51
                        refine lv_istore (lv' := [(10, .int y51), (11, .int v221_11), (6, .long y25), (9, .int v188_9), (8, .int v188_8), (5, .int v14_5), (4, .int v188_4), (0, .ref (ad 0)), (1, .int a0), (2, .long a1)]) hx hb dX13_draw_243 hl (by decide) rfl (fun ls hl => ?_)
                        obtain ⟨y52, ey52⟩ : ∃ y : Int32, y = v221_11 + (1 : Int32) := ⟨_, rfl⟩
                        obtain ⟨ty52, iy52⟩ := ti_add (e := 1) (f := 16) i31 ln_1 ey52 (by decide)
                        have ty52 : y52.toInt = v221_11.toInt + 1 := ty52
                        have iy52 : 1 ≤ y52.toInt ∧ y52.toInt ≤ 16 := iy52
                        refine lv_iinc (v := y52) (lv' := [(11, .int y52), (10, .int y51), (6, .long y25), (9, .int v188_9), (8, .int v188_8), (5, .int v14_5), (4, .int v188_4), (0, .ref (ad 0)), (1, .int a0), (2, .long a1)]) hx hb dX13_draw_245 hl (k := 1) rfl (by rw [ey52]; rfl) (by decide) rfl (fun ls hl => ?_)
                        refine lv_goto (tgt := 221) hx hb dX13_draw_248 (by decide) ?_
                        exact ih221 y52 y51 _ _ _ (iv_w iy52 (by decide)) iy51 (by have h4 := congrArg Int32.toInt ey49; have h9 : y52.toNatClampNeg = v221_11.toNatClampNeg + 1 := (by rw [tn_, tn_]; omega); rw [h9]; have h5 := congrArg Int32.toInt ey32; show 0 ≤ _ ∧ _ < _ - (sumI _ _ + _); omega) (by omega) (by first | exact ms_su hx221_2 ty52 (by decide) | omega) hP hS (lv_sub hl [0, 1, 2, 3, 4, 5, 6, 7, 8, 9] rfl)
                  exact hL221 (17) (0 : Int32) y29 _ _ _ (iv_w ln_0 (by decide)) (iv_w i30 (by decide)) (by show 0 ≤ y29.toInt ∧ y29.toInt < _ - 0; omega) (by have h9 := ln_0; have h8 := i4; omega) (by have h9 := ln_0; first | exact ms_bu h9.1 (by decide) | omega) hP hS (lv_sub hl [0, 1, 2, 3, 4, 5, 6, 7, 8, 9] rfl)
            exact hL188 (17) g14_71 (0 : Int32) (0 : Int32) a1 v14_4 E14_ _ _ _ (iv_w ln_0 (by decide)) (iv_w hv14_4 (by decide)) hx14_0 (by have h9 := hx14_1; have z0 := ln_0; omega) (by have h9 := ln_0; first | exact ms_bu h9.1 (by decide) | omega) hI hKp hs14_0_0 hr14_71 hP hS (lv_sub hl [0, 1, 2, 3, 4, 5, 6, 7] rfl)
          · --174 not
            have t53 : v14_5.toInt < a0.toInt := ti_nle c12
            refine lv_iconst (v := -1) hx hb dX13_draw_177 (by decide) ?_
            rw [hQ]
            exact W.iret (v := (-1)) hx hb hr (fun t ht hW => ⟨⟨(-1), E14_, rfl, ⟨hI, hKp, trivial⟩, by show va_P (dC, dI) vwCl (WX 72 ad E14_) t.heap; rw [ht]; exact hP⟩, hS.F ht⟩) hS.2.2 dX13_draw_178
      · --20 not
        have t54 : v14_6.toInt < (xi (E 0) 8).toInt := ti_nle c5
        have i55 : 0 ≤ v14_6.toInt ∧ v14_6.toInt ≤ 15 := iv_lt_l t54 hv14_6 i4 (by decide)
        have i56 : 1 ≤ (xi (E 0) 8).toInt ∧ (xi (E 0) 8).toInt ≤ 16 := iv_lt_r t54 hv14_6 i4 (by decide)
        have i57 : 0 ≤ v14_4.toInt ∧ v14_4.toInt ≤ 30015 := by omega
        have i58 : 0 ≤ v14_5.toInt ∧ v14_5.toInt ≤ 15 := by omega
        refine lv_iconst (v := 0) hx hb dX13_draw_23 (by decide) ?_
        refine lv_istore (lv' := [(7, .int 0), (6, .int v14_6), (5, .int v14_5), (4, .int v14_4), (0, .ref (ad 0)), (1, .int a0), (2, .long a1)]) hx hb dX13_draw_24 hl (by decide) rfl (fun ls hl => ?_)
        refine lv_iconst (v := 0) hx hb dX13_draw_26 (by decide) ?_
        refine lv_istore (lv' := [(8, .int 0), (7, .int 0), (6, .int v14_6), (5, .int v14_5), (4, .int v14_4), (0, .ref (ad 0)), (1, .int a0), (2, .long a1)]) hx hb dX13_draw_27 hl (by decide) rfl (fun ls hl => ?_)
        have hL29 : ∀ d : Nat, ∀ (v29_8 : Int32) (v29_7 : Int32) (H : Heap) (locs : List Loc) (ls : Array Slot), 0 ≤ v29_8.toInt ∧ v29_8.toInt ≤ 80 → 0 ≤ v29_7.toInt ∧ v29_7.toInt ≤ 1 → 80 - v29_8.toInt < (d : Int) → va_P (dC, dI) vwCl (WX 72 ad E14_) H → va_S A s.heap H locs → lv_has ls 12 [(8, .int v29_8), (7, .int v29_7), (6, .int v14_6), (5, .int v14_5), (4, .int v14_4), (0, .ref (ad 0)), (1, .int a0), (2, .long a1)] → W p l e (headSpec v_draw rm_draw).room s m args below meth c H locs 0 0 Q (F0 m 29 ls []) := by
          intro d
          induction d with
          | zero =>
            intro v29_8 v29_7 H locs ls hv29_8 hv29_7 hx29_0 hP hS hl
            exact absurd hx29_0 (by first | exact ms_zu hv29_8.2 | omega)
          | succ d ih29 =>
            intro v29_8 v29_7 H locs ls hv29_8 hv29_7 hx29_0 hP hS hl
            refine lv_iload hx hb dX13_draw_29 (lv_at hl 0 rfl) ?_
            refine lv_aload_n hx hb dX13_draw_31 rfl (lv_at hl 5 rfl) ?_
            have i59 : 0 ≤ (xi (E 0) 9).toInt ∧ (xi (E 0) 9).toInt ≤ 80 := hI0.iv 0 (Nat.le_of_ble_eq_true rfl) rfl (Nat.le_of_ble_eq_true rfl) rfl
            refine th_get (ci := 14) (C := RX13) (T := TX13) (N := 97) (v := .int (xi (E 0) 9)) hx hb hts hinX13 hown hK hP hI 0 (Nat.le_of_ble_eq_true rfl) rfl rfl 9 (Nat.le_of_ble_eq_true rfl) (hts _ (vA_in _ _ (in_27 _ (zs4 (zs4 (zs1 (zs0))))))) (fun _ h9 => h9) (th_v0 hKp hI0 0 (Nat.le_of_ble_eq_true rfl) rfl (Nat.le_of_ble_eq_true rfl) rfl rfl) dX13_draw_32 ?_
            refine lv_icmp_ge (tgt := 68) hx hb dX13_draw_35 (by decide) (fun c60 => ?_) (fun c60 => ?_)
            · --35 taken
              have t61 : (xi (E 0) 9).toInt ≤ v29_8.toInt := ti_le c60
              refine lv_iload hx hb dX13_draw_68 (lv_at hl 1 rfl) ?_
              refine lv_if_eq (tgt := 82) hx hb dX13_draw_70 (by decide) (fun c62 => ?_) (fun c62 => ?_)
              · --70 taken
                have t63 : v29_7.toInt = 0 := ti_eq c62
                have i64 : 0 ≤ v29_7.toInt ∧ v29_7.toInt ≤ 0 := iv_eqi t63 hv29_7 (il_ 0) (by decide)
                refine lv_iconst (v := -1) hx hb dX13_draw_82 (by decide) ?_
                refine lv_istore (lv' := [(8, .int (-1)), (7, .int v29_7), (6, .int v14_6), (5, .int v14_5), (4, .int v14_4), (0, .ref (ad 0)), (1, .int a0), (2, .long a1)]) hx hb dX13_draw_83 hl (by decide) rfl (fun ls hl => ?_)
                refine lv_aload_n hx hb dX13_draw_85 rfl (lv_at hl 5 rfl) ?_
                refine th_get (ci := 14) (C := RX13) (T := TX13) (N := 97) (v := .ref (ad 71)) hx hb hts hinX13 hown hK hP hI 0 (Nat.le_of_ble_eq_true rfl) rfl rfl 96 (Nat.le_of_ble_eq_true rfl) (hts _ (vA_in _ _ (in_31 _ (zs4 (zs4 (zs1 (zs1 (zs1 (zs0))))))))) (fun _ h9 => h9) (hI.fr 0 (Nat.le_of_ble_eq_true rfl) rfl (Nat.le_of_ble_eq_true rfl) 71 rfl) dX13_draw_86 ?_
                refine lv_iload hx hb dX13_draw_89 (lv_at hl 2 rfl) ?_
                refine lv_iload hx hb dX13_draw_91 (lv_at hl 1 rfl) ?_
                refine lv_if_ne (tgt := 100) hx hb dX13_draw_93 (by decide) (fun c65 => ?_) (fun c65 => ?_)
                · --93 taken
                  have t66 : ¬ v29_7.toInt = 0 := ti_ne c65
                  have i67 : 1 ≤ v29_7.toInt ∧ v29_7.toInt ≤ 0 := iv_ne_l t66 i64 (il_ 0)
                  exact iv_no i67 (by decide)
                · --93 not
                  have t68 : v29_7.toInt = 0 := ti_eq c65
                  refine lv_iconst (v := 0) hx hb dX13_draw_96 (by decide) ?_
                  refine lv_goto (tgt := 132) hx hb dX13_draw_97 (by decide) ?_
                  have n69 : vp_in v14_6 16 := (iv_in (n := 16) i55 (by decide))
                  refine th_iast hx hb hK hP (WX_D hD) hS hI 71 (Nat.le_of_ble_eq_true rfl) rfl rfl n69 (okI rfl (iv_w ln_0 (by decide))) dX13_draw_132 (fun H locs E70 pw71 hI hP hS => ?_)
                  have hKp := hKp.pw pw71 rfl
                  obtain ⟨g72, eg72⟩ : ∃ z : Nat → Int32, z = upd g14_71 v14_6.toNatClampNeg (0 : Int32) := ⟨_, rfl⟩
                  have hg72 : xi (E70 71) = g72 := by rw [pw71.eu, hr14_71, eg72]
                  refine lv_iload hx hb dX13_draw_133 (lv_at hl 4 rfl) ?_
                  refine lv_aload_n hx hb dX13_draw_135 rfl (lv_at hl 5 rfl) ?_
                  refine th_get (ci := 14) (C := RX13) (T := TX13) (N := 97) (v := .ref (ad 71)) hx hb hts hinX13 hown hK hP hI 0 (Nat.le_of_ble_eq_true rfl) rfl rfl 96 (Nat.le_of_ble_eq_true rfl) (hts _ (vA_in _ _ (in_31 _ (zs4 (zs4 (zs1 (zs1 (zs1 (zs0))))))))) (fun _ h9 => h9) (hI.fr 0 (Nat.le_of_ble_eq_true rfl) rfl (Nat.le_of_ble_eq_true rfl) 71 rfl) dX13_draw_136 ?_
                  refine lv_iload hx hb dX13_draw_139 (lv_at hl 2 rfl) ?_
                  have n74 : vp_in v14_6 16 := (iv_in (n := 16) i55 (by decide))
                  refine th_iald hx hb hK hP hI 71 (Nat.le_of_ble_eq_true rfl) rfl rfl n74 dX13_draw_141 (fun y73 ey73 => ?_)
                  have iy73 : 0 ≤ y73.toInt ∧ y73.toInt ≤ 2001 := hI.el 71 (Nat.le_of_ble_eq_true rfl) rfl n74 (fun _ => rfl) ey73
                  have ey73 := ey73.trans (congrFun hg72 _)
                  refine lv_iadd hx hb dX13_draw_142 ?_
                  refine lv_topi (fun y75 ey75 => ?_)
                  obtain ⟨ty75, iy75⟩ := ti_add (e := 0) (f := 32016) i57 iy73 ey75 (by decide)
                  have ty75 : y75.toInt = v14_4.toInt + y73.toInt := ty75
                  have iy75 : 0 ≤ y75.toInt ∧ y75.toInt ≤ 32016 := iy75
                  refine lv_istore (lv' := [(4, .int y75), (8, .int (-1)), (7, .int v29_7), (6, .int v14_6), (5, .int v14_5), (0, .ref (ad 0)), (1, .int a0), (2, .long a1)]) hx hb dX13_draw_143 hl (by decide) rfl (fun ls hl => ?_)
                  refine lv_iload hx hb dX13_draw_145 (lv_at hl 4 rfl) ?_
                  refine lv_iload hx hb dX13_draw_147 (lv_at hl 2 rfl) ?_
                  refine lv_if_eq (tgt := 156) hx hb dX13_draw_149 (by decide) (fun c76 => ?_) (fun c76 => ?_)
                  · --149 taken
                    have t77 : v29_7.toInt = 0 := ti_eq c76
                    refine lv_iconst (v := 0) hx hb dX13_draw_156 (by decide) ?_
                    refine lv_iadd hx hb dX13_draw_157 ?_
                    refine lv_topi (fun y78 ey78 => ?_)
                    obtain ⟨ty78, iy78⟩ := ti_add (e := 0) (f := 15) i58 ln_0 ey78 (by decide)
                    have ty78 : y78.toInt = v14_5.toInt + 0 := ty78
                    have iy78 : 0 ≤ y78.toInt ∧ y78.toInt ≤ 15 := iy78
                    refine lv_istore (lv' := [(5, .int y78), (4, .int y75), (8, .int (-1)), (7, .int v29_7), (6, .int v14_6), (0, .ref (ad 0)), (1, .int a0), (2, .long a1)]) hx hb dX13_draw_158 hl (by decide) rfl (fun ls hl => ?_)
                    obtain ⟨y79, ey79⟩ : ∃ y : Int32, y = v14_6 + (1 : Int32) := ⟨_, rfl⟩
                    obtain ⟨ty79, iy79⟩ := ti_add (e := 1) (f := 16) i55 ln_1 ey79 (by decide)
                    have ty79 : y79.toInt = v14_6.toInt + 1 := ty79
                    have iy79 : 1 ≤ y79.toInt ∧ y79.toInt ≤ 16 := iy79
                    refine lv_iinc (v := y79) (lv' := [(6, .int y79), (5, .int y78), (4, .int y75), (8, .int (-1)), (7, .int v29_7), (0, .ref (ad 0)), (1, .int a0), (2, .long a1)]) hx hb dX13_draw_160 hl (k := 4) rfl (by rw [ey79]; rfl) (by decide) rfl (fun ls hl => ?_)
                    refine lv_goto (tgt := 14) hx hb dX13_draw_163 (by decide) ?_
                    exact ih14 g72 y79 y78 y75 E70 _ _ _ (iv_w iy79 (by decide)) (iv_w iy78 (by decide)) iy75 (by have h7 := congrArg Int32.toInt (show y73 = (0 : Int32) from by rw [ey73, eg72, pk_us]); have h6 := (sumI_push (g := g14_71) (b := v14_6) (b2 := y79) (x := (0 : Int32)) (by omega) (by omega) ty79 eg72); have h5 := ln_0; have z0 := ln_0; have z1 := ln_1; omega) (by have h7 := congrArg Int32.toInt (show y73 = (0 : Int32) from by rw [ey73, eg72, pk_us]); have h6 := (sumI_push (g := g14_71) (b := v14_6) (b2 := y79) (x := (0 : Int32)) (by omega) (by omega) ty79 eg72); have h5 := ln_0; have z0 := ln_0; have z1 := ln_1; have h4 := h6.2; split at h4 <;> omega) (by have h7 := congrArg Int32.toInt (show y73 = (0 : Int32) from by rw [ey73, eg72, pk_us]); have h6 := (sumI_push (g := g14_71) (b := v14_6) (b2 := y79) (x := (0 : Int32)) (by omega) (by omega) ty79 eg72); have h5 := ln_0; have z0 := ln_0; have z1 := ln_1; omega) (by have h7 := congrArg Int32.toInt (show y73 = (0 : Int32) from by rw [ey73, eg72, pk_us]); have h6 := (sumI_push (g := g14_71) (b := v14_6) (b2 := y79) (x := (0 : Int32)) (by omega) (by omega) ty79 eg72); have h5 := ln_0; have z0 := ln_0; have z1 := ln_1; omega) (by omega) (by first | exact ms_su hx14_5 ty79 (by decide) | omega) hI hKp ((pw71.2 0 0 (fun q9 => absurd q9.1 (Nat.ne_of_beq_eq_false rfl))).trans hs14_0_0) hg72 hP hS (lv_sub hl [0, 1, 2, 5, 6, 7] rfl)
                  · --149 not
                    have t80 : ¬ v29_7.toInt = 0 := ti_ne c76
                    have i81 : 1 ≤ v29_7.toInt ∧ v29_7.toInt ≤ 0 := iv_ne_l t80 i64 (il_ 0)
                    exact iv_no i81 (by decide)
              · --70 not
                have t82 : ¬ v29_7.toInt = 0 := ti_ne c62
                have i83 : 1 ≤ v29_7.toInt ∧ v29_7.toInt ≤ 1 := iv_ne_l t82 hv29_7 (il_ 0)
                refine lv_aload_n hx hb dX13_draw_73 rfl (lv_at hl 5 rfl) ?_
                refine lv_iload hx hb dX13_draw_74 (lv_at hl 2 rfl) ?_
                refine th_i (va_runV (As := [.int v14_6]) (rest := []) ⟨hx, hb, hml, hown, hts⟩ (q_fitOf l dC dI cT ad E14_ H.size v14_6 hI i55) (cwV 1 hts (gi_V (in_31 _ (zs4 (zs4 (zs4 (zs1 (zs1 (zs0))))))) (in_31 _ (zs4 (zs4 (zs4 (zs1 (zs1 (zs1 (zs0)))))))) (in_31 _ (zs16 (zs0))) (in_24 _ (zs4 (zs4 (zs4 (zs1 (zs1 (zs1 (zs0)))))))) (in_31 _ (zs16 (zs1 (zs0))))) rfl rfl rfl ⟨rfl, hz_yX13_fitOf_1⟩ ⟨Nat.le_of_ble_eq_true rfl, Nat.le_of_ble_eq_true rfl⟩) ⟨HW_bl, va_recv hK hP (ci := 14) (q0 := 0) rfl (hI.ob 0 (Nat.le_of_ble_eq_true rfl) rfl), (HW_wi hP hK (WX_D hD) hS hA hEV)⟩ rfl rfl hl.1 rfl (lv_room (Nat.le_of_ble_eq_true rfl)) dX13_draw_76 ⟨Nat.le_of_ble_eq_true rfl, Nat.le_of_ble_eq_true rfl⟩) (WX_D hD) hS hA (fun r84 E85 H locs hw hP hS => ?_)
                obtain ⟨hI, kq86, hw⟩ := hw
                have hKb := hKp
                have hKp := hKp.tr kq86 (wl_sub rfl rfl)
                have f87 := hw
                refine lv_goto (tgt := 83) hx hb dX13_draw_79 (by decide) ?_
                refine lv_istore (lv' := [(8, .int r84), (7, .int v29_7), (6, .int v14_6), (5, .int v14_5), (4, .int v14_4), (0, .ref (ad 0)), (1, .int a0), (2, .long a1)]) hx hb dX13_draw_83 hl (by decide) rfl (fun ls hl => ?_)
                refine lv_aload_n hx hb dX13_draw_85 rfl (lv_at hl 5 rfl) ?_
                refine th_get (ci := 14) (C := RX13) (T := TX13) (N := 97) (v := .ref (ad 71)) hx hb hts hinX13 hown hK hP hI 0 (Nat.le_of_ble_eq_true rfl) rfl rfl 96 (Nat.le_of_ble_eq_true rfl) (hts _ (vA_in _ _ (in_31 _ (zs4 (zs4 (zs1 (zs1 (zs1 (zs0))))))))) (fun _ h9 => h9) (hI.fr 0 (Nat.le_of_ble_eq_true rfl) rfl (Nat.le_of_ble_eq_true rfl) 71 rfl) dX13_draw_86 ?_
                refine lv_iload hx hb dX13_draw_89 (lv_at hl 2 rfl) ?_
                refine lv_iload hx hb dX13_draw_91 (lv_at hl 1 rfl) ?_
                refine lv_if_ne (tgt := 100) hx hb dX13_draw_93 (by decide) (fun c88 => ?_) (fun c88 => ?_)
                · --93 taken
                  have t89 : ¬ v29_7.toInt = 0 := ti_ne c88
                  refine lv_iload hx hb dX13_draw_100 (lv_at hl 0 rfl) ?_
                  refine lv_iconst (v := -1) hx hb dX13_draw_102 (by decide) ?_
                  refine lv_icmp_ne (tgt := 110) hx hb dX13_draw_103 (by decide) (fun c90 => ?_) (fun c90 => ?_)
                  · --103 taken
                    have t91 : ¬ r84.toInt = -1 := ti_ne c90
                    have i92 : 0 ≤ r84.toInt ∧ r84.toInt ≤ 2000 := iv_ne_l t91 f87 (il_ (-1))
                    refine lv_iconst (v := 1) hx hb dX13_draw_110 (by decide) ?_
                    refine lv_iload hx hb dX13_draw_111 (lv_at hl 0 rfl) ?_
                    refine lv_aload_n hx hb dX13_draw_113 rfl (lv_at hl 5 rfl) ?_
                    refine lv_iload hx hb dX13_draw_114 (lv_at hl 2 rfl) ?_
                    refine lv_aload_n hx hb dX13_draw_116 rfl (lv_at hl 5 rfl) ?_
                    have i93 : 0 ≤ (xi (E 0) 1).toInt ∧ (xi (E 0) 1).toInt ≤ 400 := hI0.iv 0 (Nat.le_of_ble_eq_true rfl) rfl (Nat.le_of_ble_eq_true rfl) rfl
                    refine th_get (ci := 14) (C := RX13) (T := TX13) (N := 97) (v := .int (xi (E 0) 1)) hx hb hts hinX13 hown hK hP hI 0 (Nat.le_of_ble_eq_true rfl) rfl rfl 1 (Nat.le_of_ble_eq_true rfl) (hts _ (vA_in _ _ (in_24 _ (zs16 (zs4 (zs4 (zs1 (zs1 (zs1 (zs0)))))))))) (fun _ h9 => h9) (th_v0 hKp hI0 0 (Nat.le_of_ble_eq_true rfl) rfl (Nat.le_of_ble_eq_true rfl) rfl rfl) dX13_draw_117 ?_
                    refine lv_aload_n hx hb dX13_draw_120 rfl (lv_at hl 5 rfl) ?_
                    refine th_get (ci := 14) (C := RX13) (T := TX13) (N := 97) (v := .int (xi (E 0) 1)) hx hb hts hinX13 hown hK hP hI 0 (Nat.le_of_ble_eq_true rfl) rfl rfl 1 (Nat.le_of_ble_eq_true rfl) (hts _ (vA_in _ _ (in_24 _ (zs16 (zs4 (zs4 (zs1 (zs1 (zs1 (zs0)))))))))) (fun _ h9 => h9) (th_v0 hKp hI0 0 (Nat.le_of_ble_eq_true rfl) rfl (Nat.le_of_ble_eq_true rfl) rfl rfl) dX13_draw_121 ?_
                    refine th_i (va_runV (As := [.int v14_6, .int (xi (E 0) 1), .int (xi (E 0) 1)]) (rest := [.int r84, .int 1, .int v14_6, .ref (ad 71)]) ⟨hx, hb, hml, hown, hts⟩ (q_numberOf l dC dI cT ad E85 H.size v14_6 (xi (E 0) 1) (xi (E 0) 1) hI) (cwV 3 hts (gi_V (in_28 _ (zs16 (zs4 (zs1 (zs1 (zs0)))))) (in_28 _ (zs16 (zs4 (zs1 (zs1 (zs1 (zs0))))))) (in_28 _ (zs16 (zs4 (zs4 (zs0))))) (in_24 _ (zs4 (zs4 (zs4 (zs1 (zs1 (zs1 (zs0)))))))) (in_28 _ (zs16 (zs4 (zs4 (zs1 (zs0))))))) rfl rfl rfl ⟨rfl, hz_yX13_numberOf_3⟩ ⟨Nat.le_of_ble_eq_true rfl, Nat.le_of_ble_eq_true rfl⟩) ⟨HW_bl, va_recv hK hP (ci := 14) (q0 := 0) rfl (hI.ob 0 (Nat.le_of_ble_eq_true rfl) rfl), (HW_wi hP hK (WX_D hD) hS hA hEV)⟩ rfl rfl hl.1 rfl (lv_room (Nat.le_of_ble_eq_true rfl)) dX13_draw_124 ⟨Nat.le_of_ble_eq_true rfl, Nat.le_of_ble_eq_true rfl⟩) (WX_D hD) hS hA (fun r94 E95 H locs hw hP hS => ?_)
                    obtain ⟨hI, kq96, hw⟩ := hw
                    have hKb := hKp
                    have hKp := hKp.tr kq96 (wl_sub rfl rfl)
                    have f97 := hw
                    refine lv_isub hx hb dX13_draw_127 ?_
                    refine lv_topi (fun y98 ey98 => ?_)
                    obtain ⟨ty98, iy98⟩ := ti_sub (e := (-2000)) (f := 1500) i92 f97 ey98 (by decide)
                    have ty98 : y98.toInt = r84.toInt - r94.toInt := ty98
                    have iy98 : -2000 ≤ y98.toInt ∧ y98.toInt ≤ 1500 := iy98
                    refine va_mabs hx hb (by rw [hml]; exact hl.1.symm) hown (hts _ (vA_in _ _ (in_25 _ (zs16 (zs16 (zs1 (zs1 (zs0)))))))) (hts _ (vA_in _ _ (in_23 _ (zs4 (zs4 (zs1 (zs1 (zs0)))))))) (hts _ (vA_in _ _ (in_0 _ (zs16 (zs16 (zs1 (zs0))))))) (hts _ (vA_in _ _ (in_23 _ (zs4 (zs4 (zs1 (zs1 (zs1 (zs0))))))))) (Nat.le_of_ble_eq_true rfl) (Nat.le_of_ble_eq_true rfl) (Nat.le_of_ble_eq_true rfl) (Nat.le_of_ble_eq_true rfl) dX13_draw_128 ?_
                    refine lv_topi (fun y99 ey99 => ?_)
                    obtain ⟨ty99, iy99⟩ := ti_abs (e := 0) (f := 2000) iy98 ey99 (by decide)
                    have iy99 : 0 ≤ y99.toInt ∧ y99.toInt ≤ 2000 := iy99
                    refine lv_iadd hx hb dX13_draw_131 ?_
                    refine lv_topi (fun y100 ey100 => ?_)
                    obtain ⟨ty100, iy100⟩ := ti_add (e := 1) (f := 2001) ln_1 iy99 ey100 (by decide)
                    have ty100 : y100.toInt = 1 + y99.toInt := ty100
                    have iy100 : 1 ≤ y100.toInt ∧ y100.toInt ≤ 2001 := iy100
                    have n101 : vp_in v14_6 16 := (iv_in (n := 16) i55 (by decide))
                    refine th_iast hx hb hK hP (WX_D hD) hS hI 71 (Nat.le_of_ble_eq_true rfl) rfl rfl n101 (okI rfl (iv_w iy100 (by decide))) dX13_draw_132 (fun H locs E102 pw103 hI hP hS => ?_)
                    have hKp := hKp.pw pw103 rfl
                    obtain ⟨g104, eg104⟩ : ∃ z : Nat → Int32, z = upd g14_71 v14_6.toNatClampNeg y100 := ⟨_, rfl⟩
                    have hg104 : xi (E102 71) = g104 := by rw [pw103.eu, ((kq96.ef 71 (fun _ => rfl)).trans ((kq86.ef 71 (fun _ => rfl)).trans hr14_71)), eg104]
                    refine lv_iload hx hb dX13_draw_133 (lv_at hl 4 rfl) ?_
                    refine lv_aload_n hx hb dX13_draw_135 rfl (lv_at hl 5 rfl) ?_
                    refine th_get (ci := 14) (C := RX13) (T := TX13) (N := 97) (v := .ref (ad 71)) hx hb hts hinX13 hown hK hP hI 0 (Nat.le_of_ble_eq_true rfl) rfl rfl 96 (Nat.le_of_ble_eq_true rfl) (hts _ (vA_in _ _ (in_31 _ (zs4 (zs4 (zs1 (zs1 (zs1 (zs0))))))))) (fun _ h9 => h9) (hI.fr 0 (Nat.le_of_ble_eq_true rfl) rfl (Nat.le_of_ble_eq_true rfl) 71 rfl) dX13_draw_136 ?_
                    refine lv_iload hx hb dX13_draw_139 (lv_at hl 2 rfl) ?_
                    have n106 : vp_in v14_6 16 := (iv_in (n := 16) i55 (by decide))
                    refine th_iald hx hb hK hP hI 71 (Nat.le_of_ble_eq_true rfl) rfl rfl n106 dX13_draw_141 (fun y105 ey105 => ?_)
                    have iy105 : 0 ≤ y105.toInt ∧ y105.toInt ≤ 2001 := hI.el 71 (Nat.le_of_ble_eq_true rfl) rfl n106 (fun _ => rfl) ey105
                    have ey105 := ey105.trans (congrFun hg104 _)
                    refine lv_iadd hx hb dX13_draw_142 ?_
                    refine lv_topi (fun y107 ey107 => ?_)
                    obtain ⟨ty107, iy107⟩ := ti_add (e := 0) (f := 32016) i57 iy105 ey107 (by decide)
                    have ty107 : y107.toInt = v14_4.toInt + y105.toInt := ty107
                    have iy107 : 0 ≤ y107.toInt ∧ y107.toInt ≤ 32016 := iy107
                    refine lv_istore (lv' := [(4, .int y107), (8, .int r84), (7, .int v29_7), (6, .int v14_6), (5, .int v14_5), (0, .ref (ad 0)), (1, .int a0), (2, .long a1)]) hx hb dX13_draw_143 hl (by decide) rfl (fun ls hl => ?_)
                    refine lv_iload hx hb dX13_draw_145 (lv_at hl 4 rfl) ?_
                    refine lv_iload hx hb dX13_draw_147 (lv_at hl 2 rfl) ?_
                    refine lv_if_eq (tgt := 156) hx hb dX13_draw_149 (by decide) (fun c108 => ?_) (fun c108 => ?_)
                    · --149 taken
                      have t109 : v29_7.toInt = 0 := ti_eq c108
                      have i110 : 1 ≤ v29_7.toInt ∧ v29_7.toInt ≤ 0 := iv_eqi t109 i83 (il_ 0) (by decide)
                      exact iv_no i110 (by decide)
                    · --149 not
                      have t111 : ¬ v29_7.toInt = 0 := ti_ne c108
                      refine lv_iconst (v := 1) hx hb dX13_draw_152 (by decide) ?_
                      refine lv_goto (tgt := 157) hx hb dX13_draw_153 (by decide) ?_
                      refine lv_iadd hx hb dX13_draw_157 ?_
                      refine lv_topi (fun y112 ey112 => ?_)
                      obtain ⟨ty112, iy112⟩ := ti_add (e := 1) (f := 16) i58 ln_1 ey112 (by decide)
                      have ty112 : y112.toInt = v14_5.toInt + 1 := ty112
                      have iy112 : 1 ≤ y112.toInt ∧ y112.toInt ≤ 16 := iy112
                      refine lv_istore (lv' := [(5, .int y112), (4, .int y107), (8, .int r84), (7, .int v29_7), (6, .int v14_6), (0, .ref (ad 0)), (1, .int a0), (2, .long a1)]) hx hb dX13_draw_158 hl (by decide) rfl (fun ls hl => ?_)
                      obtain ⟨y113, ey113⟩ : ∃ y : Int32, y = v14_6 + (1 : Int32) := ⟨_, rfl⟩
                      obtain ⟨ty113, iy113⟩ := ti_add (e := 1) (f := 16) i55 ln_1 ey113 (by decide)
                      have ty113 : y113.toInt = v14_6.toInt + 1 := ty113
                      have iy113 : 1 ≤ y113.toInt ∧ y113.toInt ≤ 16 := iy113
                      refine lv_iinc (v := y113) (lv' := [(6, .int y113), (5, .int y112), (4, .int y107), (8, .int r84), (7, .int v29_7), (0, .ref (ad 0)), (1, .int a0), (2, .long a1)]) hx hb dX13_draw_160 hl (k := 4) rfl (by rw [ey113]; rfl) (by decide) rfl (fun ls hl => ?_)
                      refine lv_goto (tgt := 14) hx hb dX13_draw_163 (by decide) ?_
                      exact ih14 g104 y113 y112 y107 E102 _ _ _ (iv_w iy113 (by decide)) (iv_w iy112 (by decide)) iy107 (by have h7 := congrArg Int32.toInt (show y105 = y100 from by rw [ey105, eg104, pk_us]); have h6 := (sumI_push (g := g14_71) (b := v14_6) (b2 := y113) (x := y100) (by omega) (by omega) ty113 eg104); have h5 := iy100; have z0 := ln_0; have z1 := ln_1; omega) (by have h7 := congrArg Int32.toInt (show y105 = y100 from by rw [ey105, eg104, pk_us]); have h6 := (sumI_push (g := g14_71) (b := v14_6) (b2 := y113) (x := y100) (by omega) (by omega) ty113 eg104); have h5 := iy100; have z0 := ln_0; have z1 := ln_1; have h4 := h6.2; split at h4 <;> omega) (by have h7 := congrArg Int32.toInt (show y105 = y100 from by rw [ey105, eg104, pk_us]); have h6 := (sumI_push (g := g14_71) (b := v14_6) (b2 := y113) (x := y100) (by omega) (by omega) ty113 eg104); have h5 := iy100; have z0 := ln_0; have z1 := ln_1; omega) (by have h7 := congrArg Int32.toInt (show y105 = y100 from by rw [ey105, eg104, pk_us]); have h6 := (sumI_push (g := g14_71) (b := v14_6) (b2 := y113) (x := y100) (by omega) (by omega) ty113 eg104); have h5 := iy100; have z0 := ln_0; have z1 := ln_1; omega) (by omega) (by first | exact ms_su hx14_5 ty113 (by decide) | omega) hI hKp ((pw103.2 0 0 (fun q9 => absurd q9.1 (Nat.ne_of_beq_eq_false rfl))).trans ((kq96 0 0 rfl).trans ((kq86 0 0 rfl).trans hs14_0_0))) hg104 hP hS (lv_sub hl [0, 1, 2, 5, 6, 7] rfl)
                  · --103 not
                    have t114 : r84.toInt = -1 := ti_eq c90
                    have i115 : -1 ≤ r84.toInt ∧ r84.toInt ≤ -1 := iv_eqi t114 f87 (il_ (-1)) (by decide)
                    refine lv_iconst (v := 1) hx hb dX13_draw_106 (by decide) ?_
                    refine lv_goto (tgt := 132) hx hb dX13_draw_107 (by decide) ?_
                    have n116 : vp_in v14_6 16 := (iv_in (n := 16) i55 (by decide))
                    refine th_iast hx hb hK hP (WX_D hD) hS hI 71 (Nat.le_of_ble_eq_true rfl) rfl rfl n116 (okI rfl (iv_w ln_1 (by decide))) dX13_draw_132 (fun H locs E117 pw118 hI hP hS => ?_)
                    have hKp := hKp.pw pw118 rfl
                    obtain ⟨g119, eg119⟩ : ∃ z : Nat → Int32, z = upd g14_71 v14_6.toNatClampNeg (1 : Int32) := ⟨_, rfl⟩
                    have hg119 : xi (E117 71) = g119 := by rw [pw118.eu, ((kq86.ef 71 (fun _ => rfl)).trans hr14_71), eg119]
                    refine lv_iload hx hb dX13_draw_133 (lv_at hl 4 rfl) ?_
                    refine lv_aload_n hx hb dX13_draw_135 rfl (lv_at hl 5 rfl) ?_
                    refine th_get (ci := 14) (C := RX13) (T := TX13) (N := 97) (v := .ref (ad 71)) hx hb hts hinX13 hown hK hP hI 0 (Nat.le_of_ble_eq_true rfl) rfl rfl 96 (Nat.le_of_ble_eq_true rfl) (hts _ (vA_in _ _ (in_31 _ (zs4 (zs4 (zs1 (zs1 (zs1 (zs0))))))))) (fun _ h9 => h9) (hI.fr 0 (Nat.le_of_ble_eq_true rfl) rfl (Nat.le_of_ble_eq_true rfl) 71 rfl) dX13_draw_136 ?_
                    refine lv_iload hx hb dX13_draw_139 (lv_at hl 2 rfl) ?_
                    have n121 : vp_in v14_6 16 := (iv_in (n := 16) i55 (by decide))
                    refine th_iald hx hb hK hP hI 71 (Nat.le_of_ble_eq_true rfl) rfl rfl n121 dX13_draw_141 (fun y120 ey120 => ?_)
                    have iy120 : 0 ≤ y120.toInt ∧ y120.toInt ≤ 2001 := hI.el 71 (Nat.le_of_ble_eq_true rfl) rfl n121 (fun _ => rfl) ey120
                    have ey120 := ey120.trans (congrFun hg119 _)
                    refine lv_iadd hx hb dX13_draw_142 ?_
                    refine lv_topi (fun y122 ey122 => ?_)
                    obtain ⟨ty122, iy122⟩ := ti_add (e := 0) (f := 32016) i57 iy120 ey122 (by decide)
                    have ty122 : y122.toInt = v14_4.toInt + y120.toInt := ty122
                    have iy122 : 0 ≤ y122.toInt ∧ y122.toInt ≤ 32016 := iy122
                    refine lv_istore (lv' := [(4, .int y122), (8, .int r84), (7, .int v29_7), (6, .int v14_6), (5, .int v14_5), (0, .ref (ad 0)), (1, .int a0), (2, .long a1)]) hx hb dX13_draw_143 hl (by decide) rfl (fun ls hl => ?_)
                    refine lv_iload hx hb dX13_draw_145 (lv_at hl 4 rfl) ?_
                    refine lv_iload hx hb dX13_draw_147 (lv_at hl 2 rfl) ?_
                    refine lv_if_eq (tgt := 156) hx hb dX13_draw_149 (by decide) (fun c123 => ?_) (fun c123 => ?_)
                    · --149 taken
                      have t124 : v29_7.toInt = 0 := ti_eq c123
                      have i125 : 1 ≤ v29_7.toInt ∧ v29_7.toInt ≤ 0 := iv_eqi t124 i83 (il_ 0) (by decide)
                      exact iv_no i125 (by decide)
                    · --149 not
                      have t126 : ¬ v29_7.toInt = 0 := ti_ne c123
                      refine lv_iconst (v := 1) hx hb dX13_draw_152 (by decide) ?_
                      refine lv_goto (tgt := 157) hx hb dX13_draw_153 (by decide) ?_
                      refine lv_iadd hx hb dX13_draw_157 ?_
                      refine lv_topi (fun y127 ey127 => ?_)
                      obtain ⟨ty127, iy127⟩ := ti_add (e := 1) (f := 16) i58 ln_1 ey127 (by decide)
                      have ty127 : y127.toInt = v14_5.toInt + 1 := ty127
                      have iy127 : 1 ≤ y127.toInt ∧ y127.toInt ≤ 16 := iy127
                      refine lv_istore (lv' := [(5, .int y127), (4, .int y122), (8, .int r84), (7, .int v29_7), (6, .int v14_6), (0, .ref (ad 0)), (1, .int a0), (2, .long a1)]) hx hb dX13_draw_158 hl (by decide) rfl (fun ls hl => ?_)
                      obtain ⟨y128, ey128⟩ : ∃ y : Int32, y = v14_6 + (1 : Int32) := ⟨_, rfl⟩
                      obtain ⟨ty128, iy128⟩ := ti_add (e := 1) (f := 16) i55 ln_1 ey128 (by decide)
                      have ty128 : y128.toInt = v14_6.toInt + 1 := ty128
                      have iy128 : 1 ≤ y128.toInt ∧ y128.toInt ≤ 16 := iy128
                      refine lv_iinc (v := y128) (lv' := [(6, .int y128), (5, .int y127), (4, .int y122), (8, .int r84), (7, .int v29_7), (0, .ref (ad 0)), (1, .int a0), (2, .long a1)]) hx hb dX13_draw_160 hl (k := 4) rfl (by rw [ey128]; rfl) (by decide) rfl (fun ls hl => ?_)
                      refine lv_goto (tgt := 14) hx hb dX13_draw_163 (by decide) ?_
                      exact ih14 g119 y128 y127 y122 E117 _ _ _ (iv_w iy128 (by decide)) (iv_w iy127 (by decide)) iy122 (by have h7 := congrArg Int32.toInt (show y120 = (1 : Int32) from by rw [ey120, eg119, pk_us]); have h6 := (sumI_push (g := g14_71) (b := v14_6) (b2 := y128) (x := (1 : Int32)) (by omega) (by omega) ty128 eg119); have h5 := ln_1; have z0 := ln_0; have z1 := ln_1; omega) (by have h7 := congrArg Int32.toInt (show y120 = (1 : Int32) from by rw [ey120, eg119, pk_us]); have h6 := (sumI_push (g := g14_71) (b := v14_6) (b2 := y128) (x := (1 : Int32)) (by omega) (by omega) ty128 eg119); have h5 := ln_1; have z0 := ln_0; have z1 := ln_1; have h4 := h6.2; split at h4 <;> omega) (by have h7 := congrArg Int32.toInt (show y120 = (1 : Int32) from by rw [ey120, eg119, pk_us]); have h6 := (sumI_push (g := g14_71) (b := v14_6) (b2 := y128) (x := (1 : Int32)) (by omega) (by omega) ty128 eg119); have h5 := ln_1; have z0 := ln_0; have z1 := ln_1; omega) (by have h7 := congrArg Int32.toInt (show y120 = (1 : Int32) from by rw [ey120, eg119, pk_us]); have h6 := (sumI_push (g := g14_71) (b := v14_6) (b2 := y128) (x := (1 : Int32)) (by omega) (by omega) ty128 eg119); have h5 := ln_1; have z0 := ln_0; have z1 := ln_1; omega) (by omega) (by first | exact ms_su hx14_5 ty128 (by decide) | omega) hI hKp ((pw118.2 0 0 (fun q9 => absurd q9.1 (Nat.ne_of_beq_eq_false rfl))).trans ((kq86 0 0 rfl).trans hs14_0_0)) hg119 hP hS (lv_sub hl [0, 1, 2, 5, 6, 7] rfl)
                · --93 not
                  have t129 : v29_7.toInt = 0 := ti_eq c88
                  have i130 : 1 ≤ v29_7.toInt ∧ v29_7.toInt ≤ 0 := iv_eqi t129 i83 (il_ 0) (by decide)
                  exact iv_no i130 (by decide)
            · --35 not
              have t131 : v29_8.toInt < (xi (E 0) 9).toInt := ti_nle c60
              have i132 : 0 ≤ v29_8.toInt ∧ v29_8.toInt ≤ 79 := iv_lt_l t131 hv29_8 i59 (by decide)
              have i133 : 1 ≤ (xi (E 0) 9).toInt ∧ (xi (E 0) 9).toInt ≤ 80 := iv_lt_r t131 hv29_8 i59 (by decide)
              refine lv_iload hx hb dX13_draw_38 (lv_at hl 1 rfl) ?_
              refine lv_if_ne (tgt := 55) hx hb dX13_draw_40 (by decide) (fun c134 => ?_) (fun c134 => ?_)
              · --40 taken
                have t135 : ¬ v29_7.toInt = 0 := ti_ne c134
                have i136 : 1 ≤ v29_7.toInt ∧ v29_7.toInt ≤ 1 := iv_ne_l t135 hv29_7 (il_ 0)
                refine lv_iconst (v := 1) hx hb dX13_draw_55 (by decide) ?_
                refine lv_goto (tgt := 60) hx hb dX13_draw_56 (by decide) ?_
                refine lv_istore (lv' := [(7, .int 1), (8, .int v29_8), (6, .int v14_6), (5, .int v14_5), (4, .int v14_4), (0, .ref (ad 0)), (1, .int a0), (2, .long a1)]) hx hb dX13_draw_60 hl (by decide) rfl (fun ls hl => ?_)
                obtain ⟨y137, ey137⟩ : ∃ y : Int32, y = v29_8 + (1 : Int32) := ⟨_, rfl⟩
                obtain ⟨ty137, iy137⟩ := ti_add (e := 1) (f := 80) i132 ln_1 ey137 (by decide)
                have ty137 : y137.toInt = v29_8.toInt + 1 := ty137
                have iy137 : 1 ≤ y137.toInt ∧ y137.toInt ≤ 80 := iy137
                refine lv_iinc (v := y137) (lv' := [(8, .int y137), (7, .int 1), (6, .int v14_6), (5, .int v14_5), (4, .int v14_4), (0, .ref (ad 0)), (1, .int a0), (2, .long a1)]) hx hb dX13_draw_62 hl (k := 1) rfl (by rw [ey137]; rfl) (by decide) rfl (fun ls hl => ?_)
                refine lv_goto (tgt := 29) hx hb dX13_draw_65 (by decide) ?_
                exact ih29 y137 (1 : Int32) _ _ _ (iv_w iy137 (by decide)) (iv_w ln_1 (by decide)) (by first | exact ms_su hx29_0 ty137 (by decide) | omega) hP hS (lv_sub hl [0, 1, 2, 3, 4, 5, 6, 7] rfl)
              · --40 not
                have t138 : v29_7.toInt = 0 := ti_eq c134
                have i139 : 0 ≤ v29_7.toInt ∧ v29_7.toInt ≤ 0 := iv_eqi t138 hv29_7 (il_ 0) (by decide)
                refine lv_aload_n hx hb dX13_draw_43 rfl (lv_at hl 5 rfl) ?_
                refine th_get (ci := 14) (C := RX13) (T := TX13) (N := 97) (v := .ref (ad 1)) hx hb hts hinX13 hown hK hP hI 0 (Nat.le_of_ble_eq_true rfl) rfl rfl 2 (Nat.le_of_ble_eq_true rfl) (hts _ (vA_in _ _ (in_27 _ (zs4 (zs4 (zs1 (zs1 (zs0)))))))) (fun _ h9 => h9) (hI.fr 0 (Nat.le_of_ble_eq_true rfl) rfl (Nat.le_of_ble_eq_true rfl) 1 rfl) dX13_draw_44 ?_
                refine lv_iload hx hb dX13_draw_47 (lv_at hl 0 rfl) ?_
                have n141 : vp_in v29_8 80 := (iv_in (n := 80) i132 (by decide))
                refine th_iald hx hb hK hP hI 1 (Nat.le_of_ble_eq_true rfl) rfl rfl n141 dX13_draw_49 (fun y140 ey140 => ?_)
                have iy140 : 0 ≤ y140.toInt ∧ y140.toInt ≤ 15 := hI.el 1 (Nat.le_of_ble_eq_true rfl) rfl n141 (fun _ => rfl) ey140
                have ey140 := ey140.trans (hKp.ei 1 _ rfl)
                refine lv_iload hx hb dX13_draw_50 (lv_at hl 2 rfl) ?_
                refine lv_icmp_ne (tgt := 59) hx hb dX13_draw_52 (by decide) (fun c142 => ?_) (fun c142 => ?_)
                · --52 taken
                  have t143 : ¬ y140.toInt = v14_6.toInt := ti_ne c142
                  refine lv_iconst (v := 0) hx hb dX13_draw_59 (by decide) ?_
                  refine lv_istore (lv' := [(7, .int 0), (8, .int v29_8), (6, .int v14_6), (5, .int v14_5), (4, .int v14_4), (0, .ref (ad 0)), (1, .int a0), (2, .long a1)]) hx hb dX13_draw_60 hl (by decide) rfl (fun ls hl => ?_)
                  obtain ⟨y144, ey144⟩ : ∃ y : Int32, y = v29_8 + (1 : Int32) := ⟨_, rfl⟩
                  obtain ⟨ty144, iy144⟩ := ti_add (e := 1) (f := 80) i132 ln_1 ey144 (by decide)
                  have ty144 : y144.toInt = v29_8.toInt + 1 := ty144
                  have iy144 : 1 ≤ y144.toInt ∧ y144.toInt ≤ 80 := iy144
                  refine lv_iinc (v := y144) (lv' := [(8, .int y144), (7, .int 0), (6, .int v14_6), (5, .int v14_5), (4, .int v14_4), (0, .ref (ad 0)), (1, .int a0), (2, .long a1)]) hx hb dX13_draw_62 hl (k := 1) rfl (by rw [ey144]; rfl) (by decide) rfl (fun ls hl => ?_)
                  refine lv_goto (tgt := 29) hx hb dX13_draw_65 (by decide) ?_
                  exact ih29 y144 (0 : Int32) _ _ _ (iv_w iy144 (by decide)) (iv_w ln_0 (by decide)) (by first | exact ms_su hx29_0 ty144 (by decide) | omega) hP hS (lv_sub hl [0, 1, 2, 3, 4, 5, 6, 7] rfl)
                · --52 not
                  have t145 : y140.toInt = v14_6.toInt := ti_eq c142
                  refine lv_iconst (v := 1) hx hb dX13_draw_55 (by decide) ?_
                  refine lv_goto (tgt := 60) hx hb dX13_draw_56 (by decide) ?_
                  refine lv_istore (lv' := [(7, .int 1), (8, .int v29_8), (6, .int v14_6), (5, .int v14_5), (4, .int v14_4), (0, .ref (ad 0)), (1, .int a0), (2, .long a1)]) hx hb dX13_draw_60 hl (by decide) rfl (fun ls hl => ?_)
                  obtain ⟨y146, ey146⟩ : ∃ y : Int32, y = v29_8 + (1 : Int32) := ⟨_, rfl⟩
                  obtain ⟨ty146, iy146⟩ := ti_add (e := 1) (f := 80) i132 ln_1 ey146 (by decide)
                  have ty146 : y146.toInt = v29_8.toInt + 1 := ty146
                  have iy146 : 1 ≤ y146.toInt ∧ y146.toInt ≤ 80 := iy146
                  refine lv_iinc (v := y146) (lv' := [(8, .int y146), (7, .int 1), (6, .int v14_6), (5, .int v14_5), (4, .int v14_4), (0, .ref (ad 0)), (1, .int a0), (2, .long a1)]) hx hb dX13_draw_62 hl (k := 1) rfl (by rw [ey146]; rfl) (by decide) rfl (fun ls hl => ?_)
                  refine lv_goto (tgt := 29) hx hb dX13_draw_65 (by decide) ?_
                  exact ih29 y146 (1 : Int32) _ _ _ (iv_w iy146 (by decide)) (iv_w ln_1 (by decide)) (by first | exact ms_su hx29_0 ty146 (by decide) | omega) hP hS (lv_sub hl [0, 1, 2, 3, 4, 5, 6, 7] rfl)
        exact hL29 (81) (0 : Int32) (0 : Int32) _ _ _ (iv_w ln_0 (by decide)) (iv_w ln_0 (by decide)) (by have h9 := ln_0; first | exact ms_bu h9.1 (by decide) | omega) hP hS (lv_sub hl [0, 1, 2, 3, 4, 5, 6, 7] rfl)
  exact hL14 (17) g3 (0 : Int32) (0 : Int32) (0 : Int32) E1 _ _ _ (iv_w ln_0 (by decide)) (iv_w ln_0 (by decide)) (iv_w ln_0 (by decide)) rfl rfl (by decide) (by decide) (by have h9 := ln_0; have h8 := (show 0 ≤ (xi (E 0) 8).toInt ∧ (xi (E 0) 8).toInt ≤ 16 from hI0.iv 0 (Nat.le_of_ble_eq_true rfl) rfl (Nat.le_of_ble_eq_true rfl) rfl); omega) (by have h9 := ln_0; first | exact ms_bu h9.1 (by decide) | omega) hI hKp pw2.1 hg3 hP hS (lv_sub hl [0, 1, 2, 3, 4, 5] rfl)
end

