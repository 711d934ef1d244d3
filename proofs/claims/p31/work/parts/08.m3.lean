set_option maxRecDepth 100000 in
theorem zh_dX13_clause_0_0 : zc cX13_clause 0 [42, 182, 1, 33, 60, 27, 2, 159, 0, 13, 19, 1, 95, 27, 182, 1] = true := by decide +kernel
set_option maxRecDepth 100000 in
theorem zh_dX13_clause_14_16 : zc cX13_clause 16 [52, 156, 0, 9, 42, 182, 1, 29, 87, 177, 42, 89, 180, 1, 14, 4] = true := by decide +kernel
set_option maxRecDepth 100000 in
theorem zh_dX13_clause_32_32 : zc cX13_clause 32 [96, 181, 1, 14, 42, 16, 58, 182, 1, 63, 154, 0, 4, 177, 4, 61] = true := by decide +kernel
set_option maxRecDepth 100000 in
theorem zh_dX13_clause_48_48 : zc cX13_clause 48 [3, 62, 42, 182, 1, 33, 54, 4, 21, 4, 16, 33, 159, 0, 10, 21] = true := by decide +kernel
set_option maxRecDepth 100000 in
theorem zh_dX13_clause_63_64 : zc cX13_clause 64 [4, 16, 40, 160, 0, 28, 42, 3, 3, 182, 1, 85, 61, 42, 16, 63] = true := by decide +kernel
set_option maxRecDepth 100000 in
theorem zh_dX13_clause_80_80 : zc cX13_clause 80 [182, 1, 63, 154, 0, 4, 177, 42, 182, 1, 60, 62, 167, 0, 48, 42] = true := by decide +kernel
set_option maxRecDepth 100000 in
theorem zh_dX13_clause_96_96 : zc cX13_clause 96 [182, 1, 60, 62, 42, 180, 1, 23, 2, 160, 0, 35, 42, 182, 1, 33] = true := by decide +kernel
set_option maxRecDepth 100000 in
theorem zh_dX13_clause_112_112 : zc cX13_clause 112 [184, 1, 79, 153, 0, 25, 42, 4, 29, 182, 1, 85, 61, 42, 16, 63] = true := by decide +kernel
set_option maxRecDepth 100000 in
theorem zh_dX13_clause_128_128 : zc cX13_clause 128 [182, 1, 63, 154, 0, 4, 177, 42, 182, 1, 60, 62, 42, 180, 1, 23] = true := by decide +kernel
set_option maxRecDepth 100000 in
theorem zh_dX13_clause_144_144 : zc cX13_clause 144 [2, 160, 0, 22, 42, 180, 1, 97, 154, 0, 15, 27, 42, 180, 1, 101] = true := by decide +kernel
set_option maxRecDepth 100000 in
theorem zh_dX13_clause_160_160 : zc cX13_clause 160 [160, 0, 7, 28, 154, 0, 4, 177, 42, 4, 181, 1, 97, 42, 29, 181] = true := by decide +kernel
set_option maxRecDepth 100000 in
theorem zh_dX13_clause_175_176 : zc cX13_clause 176 [1, 104, 177] = true := by decide +kernel
set_option maxRecDepth 100000 in
theorem zh_dX13_goThrough_0_0 : zc cX13_goThrough 0 [42, 43, 181, 0, 47, 42, 28, 181, 1, 20, 42, 29, 181, 1, 17, 42] = true := by decide +kernel
set_option maxRecDepth 100000 in
theorem zh_dX13_goThrough_16_16 : zc cX13_goThrough 16 [21, 4, 181, 1, 101, 42, 3, 181, 1, 14, 42, 2, 181, 1, 23, 42] = true := by decide +kernel
set_option maxRecDepth 100000 in
theorem zh_dX13_goThrough_32_32 : zc cX13_goThrough 32 [3, 181, 1, 26, 42, 3, 181, 1, 97, 42, 21, 4, 16, 110, 160, 0] = true := by decide +kernel
set_option maxRecDepth 100000 in
theorem zh_dX13_goThrough_46_48 : zc cX13_goThrough 48 [9, 17, 3, 232, 167, 0, 4, 3, 181, 1, 104, 42, 182, 1, 107, 42] = true := by decide +kernel
set_option maxRecDepth 100000 in
theorem zh_dX13_goThrough_64_64 : zc cX13_goThrough 64 [180, 1, 23, 2, 160, 0, 29, 42, 182, 1, 33, 16, 59, 160, 0, 20] = true := by decide +kernel
set_option maxRecDepth 100000 in
theorem zh_dX13_goThrough_80_80 : zc cX13_goThrough 80 [42, 89, 180, 1, 14, 4, 96, 181, 1, 14, 42, 182, 1, 107, 167, 255] = true := by decide +kernel
set_option maxRecDepth 100000 in
theorem zh_dX13_goThrough_94_96 : zc cX13_goThrough 96 [225, 42, 180, 1, 23, 2, 160, 0, 16, 42, 182, 1, 33, 2, 159, 0] = true := by decide +kernel
set_option maxRecDepth 100000 in
theorem zh_dX13_goThrough_110_112 : zc cX13_goThrough 112 [8, 42, 182, 1, 29, 87, 177] = true := by decide +kernel
theorem dX13_clause_0 : decode cX13_clause 0 = .ok (.aload_n 0, 1) := zo_42 (zi_at zh_dX13_clause_0_0 0 rfl)
theorem dX13_clause_1 : decode cX13_clause 1 = .ok (.invokevirtual 289, 3) := zo_182 (zi_at zh_dX13_clause_0_0 1 rfl) (zi_at zh_dX13_clause_0_0 2 rfl) (zi_at zh_dX13_clause_0_0 3 rfl) rfl
theorem dX13_clause_4 : decode cX13_clause 4 = .ok (.istore_n 1, 1) := zo_60 (zi_at zh_dX13_clause_0_0 4 rfl)
theorem dX13_clause_5 : decode cX13_clause 5 = .ok (.iload_n 1, 1) := zo_27 (zi_at zh_dX13_clause_0_0 5 rfl)
theorem dX13_clause_6 : decode cX13_clause 6 = .ok (.iconst (-1), 1) := zo_2 (zi_at zh_dX13_clause_0_0 6 rfl)
theorem dX13_clause_7 : decode cX13_clause 7 = .ok (.if_icmp .eq 13, 3) := zo_159 (zi_at zh_dX13_clause_0_0 7 rfl) (zi_at zh_dX13_clause_0_0 8 rfl) (zi_at zh_dX13_clause_0_0 9 rfl) rfl
theorem dX13_clause_10 : decode cX13_clause 10 = .ok (.ldc_w 351, 3) := zo_19 (zi_at zh_dX13_clause_0_0 10 rfl) (zi_at zh_dX13_clause_0_0 11 rfl) (zi_at zh_dX13_clause_0_0 12 rfl) rfl
theorem dX13_clause_13 : decode cX13_clause 13 = .ok (.iload_n 1, 1) := zo_27 (zi_at zh_dX13_clause_0_0 13 rfl)
theorem dX13_clause_14 : decode cX13_clause 14 = .ok (.invokevirtual 308, 3) := zo_182 (zi_at zh_dX13_clause_0_0 14 rfl) (zi_at zh_dX13_clause_0_0 15 rfl) (zi_at zh_dX13_clause_14_16 0 rfl) rfl
theorem dX13_clause_17 : decode cX13_clause 17 = .ok (.ifCond .ge 9, 3) := zo_156 (zi_at zh_dX13_clause_14_16 1 rfl) (zi_at zh_dX13_clause_14_16 2 rfl) (zi_at zh_dX13_clause_14_16 3 rfl) rfl
theorem dX13_clause_20 : decode cX13_clause 20 = .ok (.aload_n 0, 1) := zo_42 (zi_at zh_dX13_clause_14_16 4 rfl)
theorem dX13_clause_21 : decode cX13_clause 21 = .ok (.invokevirtual 285, 3) := zo_182 (zi_at zh_dX13_clause_14_16 5 rfl) (zi_at zh_dX13_clause_14_16 6 rfl) (zi_at zh_dX13_clause_14_16 7 rfl) rfl
theorem dX13_clause_24 : decode cX13_clause 24 = .ok (.pop, 1) := zo_87 (zi_at zh_dX13_clause_14_16 8 rfl)
theorem dX13_clause_25 : decode cX13_clause 25 = .ok (.return_, 1) := zo_177 (zi_at zh_dX13_clause_14_16 9 rfl)
theorem dX13_clause_26 : decode cX13_clause 26 = .ok (.aload_n 0, 1) := zo_42 (zi_at zh_dX13_clause_14_16 10 rfl)
theorem dX13_clause_27 : decode cX13_clause 27 = .ok (.dup, 1) := zo_89 (zi_at zh_dX13_clause_14_16 11 rfl)
theorem dX13_clause_28 : decode cX13_clause 28 = .ok (.getfield 270, 3) := zo_180 (zi_at zh_dX13_clause_14_16 12 rfl) (zi_at zh_dX13_clause_14_16 13 rfl) (zi_at zh_dX13_clause_14_16 14 rfl) rfl
theorem dX13_clause_31 : decode cX13_clause 31 = .ok (.iconst 1, 1) := zo_4 (zi_at zh_dX13_clause_14_16 15 rfl)
theorem dX13_clause_32 : decode cX13_clause 32 = .ok (.iadd, 1) := zo_96 (zi_at zh_dX13_clause_32_32 0 rfl)
theorem dX13_clause_33 : decode cX13_clause 33 = .ok (.putfield 270, 3) := zo_181 (zi_at zh_dX13_clause_32_32 1 rfl) (zi_at zh_dX13_clause_32_32 2 rfl) (zi_at zh_dX13_clause_32_32 3 rfl) rfl
theorem dX13_clause_36 : decode cX13_clause 36 = .ok (.aload_n 0, 1) := zo_42 (zi_at zh_dX13_clause_32_32 4 rfl)
theorem dX13_clause_37 : decode cX13_clause 37 = .ok (.bipush 58, 2) := zo_16 (zi_at zh_dX13_clause_32_32 5 rfl) (zi_at zh_dX13_clause_32_32 6 rfl) rfl
theorem dX13_clause_39 : decode cX13_clause 39 = .ok (.invokevirtual 319, 3) := zo_182 (zi_at zh_dX13_clause_32_32 7 rfl) (zi_at zh_dX13_clause_32_32 8 rfl) (zi_at zh_dX13_clause_32_32 9 rfl) rfl
theorem dX13_clause_42 : decode cX13_clause 42 = .ok (.ifCond .ne 4, 3) := zo_154 (zi_at zh_dX13_clause_32_32 10 rfl) (zi_at zh_dX13_clause_32_32 11 rfl) (zi_at zh_dX13_clause_32_32 12 rfl) rfl
theorem dX13_clause_45 : decode cX13_clause 45 = .ok (.return_, 1) := zo_177 (zi_at zh_dX13_clause_32_32 13 rfl)
theorem dX13_clause_46 : decode cX13_clause 46 = .ok (.iconst 1, 1) := zo_4 (zi_at zh_dX13_clause_32_32 14 rfl)
theorem dX13_clause_47 : decode cX13_clause 47 = .ok (.istore_n 2, 1) := zo_61 (zi_at zh_dX13_clause_32_32 15 rfl)
theorem dX13_clause_48 : decode cX13_clause 48 = .ok (.iconst 0, 1) := zo_3 (zi_at zh_dX13_clause_48_48 0 rfl)
theorem dX13_clause_49 : decode cX13_clause 49 = .ok (.istore_n 3, 1) := zo_62 (zi_at zh_dX13_clause_48_48 1 rfl)
theorem dX13_clause_50 : decode cX13_clause 50 = .ok (.aload_n 0, 1) := zo_42 (zi_at zh_dX13_clause_48_48 2 rfl)
theorem dX13_clause_51 : decode cX13_clause 51 = .ok (.invokevirtual 289, 3) := zo_182 (zi_at zh_dX13_clause_48_48 3 rfl) (zi_at zh_dX13_clause_48_48 4 rfl) (zi_at zh_dX13_clause_48_48 5 rfl) rfl
theorem dX13_clause_54 : decode cX13_clause 54 = .ok (.istore 4, 2) := zo_54 (zi_at zh_dX13_clause_48_48 6 rfl) (zi_at zh_dX13_clause_48_48 7 rfl)
theorem dX13_clause_56 : decode cX13_clause 56 = .ok (.iload 4, 2) := zo_21 (zi_at zh_dX13_clause_48_48 8 rfl) (zi_at zh_dX13_clause_48_48 9 rfl)
theorem dX13_clause_58 : decode cX13_clause 58 = .ok (.bipush 33, 2) := zo_16 (zi_at zh_dX13_clause_48_48 10 rfl) (zi_at zh_dX13_clause_48_48 11 rfl) rfl
theorem dX13_clause_60 : decode cX13_clause 60 = .ok (.if_icmp .eq 10, 3) := zo_159 (zi_at zh_dX13_clause_48_48 12 rfl) (zi_at zh_dX13_clause_48_48 13 rfl) (zi_at zh_dX13_clause_48_48 14 rfl) rfl
theorem dX13_clause_63 : decode cX13_clause 63 = .ok (.iload 4, 2) := zo_21 (zi_at zh_dX13_clause_48_48 15 rfl) (zi_at zh_dX13_clause_63_64 0 rfl)
theorem dX13_clause_65 : decode cX13_clause 65 = .ok (.bipush 40, 2) := zo_16 (zi_at zh_dX13_clause_63_64 1 rfl) (zi_at zh_dX13_clause_63_64 2 rfl) rfl
theorem dX13_clause_67 : decode cX13_clause 67 = .ok (.if_icmp .ne 28, 3) := zo_160 (zi_at zh_dX13_clause_63_64 3 rfl) (zi_at zh_dX13_clause_63_64 4 rfl) (zi_at zh_dX13_clause_63_64 5 rfl) rfl
theorem dX13_clause_70 : decode cX13_clause 70 = .ok (.aload_n 0, 1) := zo_42 (zi_at zh_dX13_clause_63_64 6 rfl)
theorem dX13_clause_71 : decode cX13_clause 71 = .ok (.iconst 0, 1) := zo_3 (zi_at zh_dX13_clause_63_64 7 rfl)
theorem dX13_clause_72 : decode cX13_clause 72 = .ok (.iconst 0, 1) := zo_3 (zi_at zh_dX13_clause_63_64 8 rfl)
theorem dX13_clause_73 : decode cX13_clause 73 = .ok (.invokevirtual 341, 3) := zo_182 (zi_at zh_dX13_clause_63_64 9 rfl) (zi_at zh_dX13_clause_63_64 10 rfl) (zi_at zh_dX13_clause_63_64 11 rfl) rfl
theorem dX13_clause_76 : decode cX13_clause 76 = .ok (.istore_n 2, 1) := zo_61 (zi_at zh_dX13_clause_63_64 12 rfl)
theorem dX13_clause_77 : decode cX13_clause 77 = .ok (.aload_n 0, 1) := zo_42 (zi_at zh_dX13_clause_63_64 13 rfl)
theorem dX13_clause_78 : decode cX13_clause 78 = .ok (.bipush 63, 2) := zo_16 (zi_at zh_dX13_clause_63_64 14 rfl) (zi_at zh_dX13_clause_63_64 15 rfl) rfl
theorem dX13_clause_80 : decode cX13_clause 80 = .ok (.invokevirtual 319, 3) := zo_182 (zi_at zh_dX13_clause_80_80 0 rfl) (zi_at zh_dX13_clause_80_80 1 rfl) (zi_at zh_dX13_clause_80_80 2 rfl) rfl
theorem dX13_clause_83 : decode cX13_clause 83 = .ok (.ifCond .ne 4, 3) := zo_154 (zi_at zh_dX13_clause_80_80 3 rfl) (zi_at zh_dX13_clause_80_80 4 rfl) (zi_at zh_dX13_clause_80_80 5 rfl) rfl
theorem dX13_clause_86 : decode cX13_clause 86 = .ok (.return_, 1) := zo_177 (zi_at zh_dX13_clause_80_80 6 rfl)
theorem dX13_clause_87 : decode cX13_clause 87 = .ok (.aload_n 0, 1) := zo_42 (zi_at zh_dX13_clause_80_80 7 rfl)
theorem dX13_clause_88 : decode cX13_clause 88 = .ok (.invokevirtual 316, 3) := zo_182 (zi_at zh_dX13_clause_80_80 8 rfl) (zi_at zh_dX13_clause_80_80 9 rfl) (zi_at zh_dX13_clause_80_80 10 rfl) rfl
theorem dX13_clause_91 : decode cX13_clause 91 = .ok (.istore_n 3, 1) := zo_62 (zi_at zh_dX13_clause_80_80 11 rfl)
theorem dX13_clause_92 : decode cX13_clause 92 = .ok (.goto 48, 3) := zo_167 (zi_at zh_dX13_clause_80_80 12 rfl) (zi_at zh_dX13_clause_80_80 13 rfl) (zi_at zh_dX13_clause_80_80 14 rfl) rfl
theorem dX13_clause_95 : decode cX13_clause 95 = .ok (.aload_n 0, 1) := zo_42 (zi_at zh_dX13_clause_80_80 15 rfl)
theorem dX13_clause_96 : decode cX13_clause 96 = .ok (.invokevirtual 316, 3) := zo_182 (zi_at zh_dX13_clause_96_96 0 rfl) (zi_at zh_dX13_clause_96_96 1 rfl) (zi_at zh_dX13_clause_96_96 2 rfl) rfl
theorem dX13_clause_99 : decode cX13_clause 99 = .ok (.istore_n 3, 1) := zo_62 (zi_at zh_dX13_clause_96_96 3 rfl)
theorem dX13_clause_100 : decode cX13_clause 100 = .ok (.aload_n 0, 1) := zo_42 (zi_at zh_dX13_clause_96_96 4 rfl)
theorem dX13_clause_101 : decode cX13_clause 101 = .ok (.getfield 279, 3) := zo_180 (zi_at zh_dX13_clause_96_96 5 rfl) (zi_at zh_dX13_clause_96_96 6 rfl) (zi_at zh_dX13_clause_96_96 7 rfl) rfl
theorem dX13_clause_104 : decode cX13_clause 104 = .ok (.iconst (-1), 1) := zo_2 (zi_at zh_dX13_clause_96_96 8 rfl)
theorem dX13_clause_105 : decode cX13_clause 105 = .ok (.if_icmp .ne 35, 3) := zo_160 (zi_at zh_dX13_clause_96_96 9 rfl) (zi_at zh_dX13_clause_96_96 10 rfl) (zi_at zh_dX13_clause_96_96 11 rfl) rfl
theorem dX13_clause_108 : decode cX13_clause 108 = .ok (.aload_n 0, 1) := zo_42 (zi_at zh_dX13_clause_96_96 12 rfl)
theorem dX13_clause_109 : decode cX13_clause 109 = .ok (.invokevirtual 289, 3) := zo_182 (zi_at zh_dX13_clause_96_96 13 rfl) (zi_at zh_dX13_clause_96_96 14 rfl) (zi_at zh_dX13_clause_96_96 15 rfl) rfl
theorem dX13_clause_112 : decode cX13_clause 112 = .ok (.invokestatic 335, 3) := zo_184 (zi_at zh_dX13_clause_112_112 0 rfl) (zi_at zh_dX13_clause_112_112 1 rfl) (zi_at zh_dX13_clause_112_112 2 rfl) rfl
theorem dX13_clause_115 : decode cX13_clause 115 = .ok (.ifCond .eq 25, 3) := zo_153 (zi_at zh_dX13_clause_112_112 3 rfl) (zi_at zh_dX13_clause_112_112 4 rfl) (zi_at zh_dX13_clause_112_112 5 rfl) rfl
theorem dX13_clause_118 : decode cX13_clause 118 = .ok (.aload_n 0, 1) := zo_42 (zi_at zh_dX13_clause_112_112 6 rfl)
theorem dX13_clause_119 : decode cX13_clause 119 = .ok (.iconst 1, 1) := zo_4 (zi_at zh_dX13_clause_112_112 7 rfl)
theorem dX13_clause_120 : decode cX13_clause 120 = .ok (.iload_n 3, 1) := zo_29 (zi_at zh_dX13_clause_112_112 8 rfl)
theorem dX13_clause_121 : decode cX13_clause 121 = .ok (.invokevirtual 341, 3) := zo_182 (zi_at zh_dX13_clause_112_112 9 rfl) (zi_at zh_dX13_clause_112_112 10 rfl) (zi_at zh_dX13_clause_112_112 11 rfl) rfl
theorem dX13_clause_124 : decode cX13_clause 124 = .ok (.istore_n 2, 1) := zo_61 (zi_at zh_dX13_clause_112_112 12 rfl)
theorem dX13_clause_125 : decode cX13_clause 125 = .ok (.aload_n 0, 1) := zo_42 (zi_at zh_dX13_clause_112_112 13 rfl)
theorem dX13_clause_126 : decode cX13_clause 126 = .ok (.bipush 63, 2) := zo_16 (zi_at zh_dX13_clause_112_112 14 rfl) (zi_at zh_dX13_clause_112_112 15 rfl) rfl
theorem dX13_clause_128 : decode cX13_clause 128 = .ok (.invokevirtual 319, 3) := zo_182 (zi_at zh_dX13_clause_128_128 0 rfl) (zi_at zh_dX13_clause_128_128 1 rfl) (zi_at zh_dX13_clause_128_128 2 rfl) rfl
theorem dX13_clause_131 : decode cX13_clause 131 = .ok (.ifCond .ne 4, 3) := zo_154 (zi_at zh_dX13_clause_128_128 3 rfl) (zi_at zh_dX13_clause_128_128 4 rfl) (zi_at zh_dX13_clause_128_128 5 rfl) rfl
theorem dX13_clause_134 : decode cX13_clause 134 = .ok (.return_, 1) := zo_177 (zi_at zh_dX13_clause_128_128 6 rfl)
theorem dX13_clause_135 : decode cX13_clause 135 = .ok (.aload_n 0, 1) := zo_42 (zi_at zh_dX13_clause_128_128 7 rfl)
theorem dX13_clause_136 : decode cX13_clause 136 = .ok (.invokevirtual 316, 3) := zo_182 (zi_at zh_dX13_clause_128_128 8 rfl) (zi_at zh_dX13_clause_128_128 9 rfl) (zi_at zh_dX13_clause_128_128 10 rfl) rfl
theorem dX13_clause_139 : decode cX13_clause 139 = .ok (.istore_n 3, 1) := zo_62 (zi_at zh_dX13_clause_128_128 11 rfl)
theorem dX13_clause_140 : decode cX13_clause 140 = .ok (.aload_n 0, 1) := zo_42 (zi_at zh_dX13_clause_128_128 12 rfl)
theorem dX13_clause_141 : decode cX13_clause 141 = .ok (.getfield 279, 3) := zo_180 (zi_at zh_dX13_clause_128_128 13 rfl) (zi_at zh_dX13_clause_128_128 14 rfl) (zi_at zh_dX13_clause_128_128 15 rfl) rfl
theorem dX13_clause_144 : decode cX13_clause 144 = .ok (.iconst (-1), 1) := zo_2 (zi_at zh_dX13_clause_144_144 0 rfl)
theorem dX13_clause_145 : decode cX13_clause 145 = .ok (.if_icmp .ne 22, 3) := zo_160 (zi_at zh_dX13_clause_144_144 1 rfl) (zi_at zh_dX13_clause_144_144 2 rfl) (zi_at zh_dX13_clause_144_144 3 rfl) rfl
theorem dX13_clause_148 : decode cX13_clause 148 = .ok (.aload_n 0, 1) := zo_42 (zi_at zh_dX13_clause_144_144 4 rfl)
theorem dX13_clause_149 : decode cX13_clause 149 = .ok (.getfield 353, 3) := zo_180 (zi_at zh_dX13_clause_144_144 5 rfl) (zi_at zh_dX13_clause_144_144 6 rfl) (zi_at zh_dX13_clause_144_144 7 rfl) rfl
theorem dX13_clause_152 : decode cX13_clause 152 = .ok (.ifCond .ne 15, 3) := zo_154 (zi_at zh_dX13_clause_144_144 8 rfl) (zi_at zh_dX13_clause_144_144 9 rfl) (zi_at zh_dX13_clause_144_144 10 rfl) rfl
theorem dX13_clause_155 : decode cX13_clause 155 = .ok (.iload_n 1, 1) := zo_27 (zi_at zh_dX13_clause_144_144 11 rfl)
theorem dX13_clause_156 : decode cX13_clause 156 = .ok (.aload_n 0, 1) := zo_42 (zi_at zh_dX13_clause_144_144 12 rfl)
theorem dX13_clause_157 : decode cX13_clause 157 = .ok (.getfield 357, 3) := zo_180 (zi_at zh_dX13_clause_144_144 13 rfl) (zi_at zh_dX13_clause_144_144 14 rfl) (zi_at zh_dX13_clause_144_144 15 rfl) rfl
theorem dX13_clause_160 : decode cX13_clause 160 = .ok (.if_icmp .ne 7, 3) := zo_160 (zi_at zh_dX13_clause_160_160 0 rfl) (zi_at zh_dX13_clause_160_160 1 rfl) (zi_at zh_dX13_clause_160_160 2 rfl) rfl
theorem dX13_clause_163 : decode cX13_clause 163 = .ok (.iload_n 2, 1) := zo_28 (zi_at zh_dX13_clause_160_160 3 rfl)
theorem dX13_clause_164 : decode cX13_clause 164 = .ok (.ifCond .ne 4, 3) := zo_154 (zi_at zh_dX13_clause_160_160 4 rfl) (zi_at zh_dX13_clause_160_160 5 rfl) (zi_at zh_dX13_clause_160_160 6 rfl) rfl
theorem dX13_clause_167 : decode cX13_clause 167 = .ok (.return_, 1) := zo_177 (zi_at zh_dX13_clause_160_160 7 rfl)
theorem dX13_clause_168 : decode cX13_clause 168 = .ok (.aload_n 0, 1) := zo_42 (zi_at zh_dX13_clause_160_160 8 rfl)
theorem dX13_clause_169 : decode cX13_clause 169 = .ok (.iconst 1, 1) := zo_4 (zi_at zh_dX13_clause_160_160 9 rfl)
theorem dX13_clause_170 : decode cX13_clause 170 = .ok (.putfield 353, 3) := zo_181 (zi_at zh_dX13_clause_160_160 10 rfl) (zi_at zh_dX13_clause_160_160 11 rfl) (zi_at zh_dX13_clause_160_160 12 rfl) rfl
theorem dX13_clause_173 : decode cX13_clause 173 = .ok (.aload_n 0, 1) := zo_42 (zi_at zh_dX13_clause_160_160 13 rfl)
theorem dX13_clause_174 : decode cX13_clause 174 = .ok (.iload_n 3, 1) := zo_29 (zi_at zh_dX13_clause_160_160 14 rfl)
theorem dX13_clause_175 : decode cX13_clause 175 = .ok (.putfield 360, 3) := zo_181 (zi_at zh_dX13_clause_160_160 15 rfl) (zi_at zh_dX13_clause_175_176 0 rfl) (zi_at zh_dX13_clause_175_176 1 rfl) rfl
theorem dX13_clause_178 : decode cX13_clause 178 = .ok (.return_, 1) := zo_177 (zi_at zh_dX13_clause_175_176 2 rfl)
theorem dX13_goThrough_0 : decode cX13_goThrough 0 = .ok (.aload_n 0, 1) := zo_42 (zi_at zh_dX13_goThrough_0_0 0 rfl)
theorem dX13_goThrough_1 : decode cX13_goThrough 1 = .ok (.aload_n 1, 1) := zo_43 (zi_at zh_dX13_goThrough_0_0 1 rfl)
theorem dX13_goThrough_2 : decode cX13_goThrough 2 = .ok (.putfield 47, 3) := zo_181 (zi_at zh_dX13_goThrough_0_0 2 rfl) (zi_at zh_dX13_goThrough_0_0 3 rfl) (zi_at zh_dX13_goThrough_0_0 4 rfl) rfl
theorem dX13_goThrough_5 : decode cX13_goThrough 5 = .ok (.aload_n 0, 1) := zo_42 (zi_at zh_dX13_goThrough_0_0 5 rfl)
theorem dX13_goThrough_6 : decode cX13_goThrough 6 = .ok (.iload_n 2, 1) := zo_28 (zi_at zh_dX13_goThrough_0_0 6 rfl)
theorem dX13_goThrough_7 : decode cX13_goThrough 7 = .ok (.putfield 276, 3) := zo_181 (zi_at zh_dX13_goThrough_0_0 7 rfl) (zi_at zh_dX13_goThrough_0_0 8 rfl) (zi_at zh_dX13_goThrough_0_0 9 rfl) rfl
theorem dX13_goThrough_10 : decode cX13_goThrough 10 = .ok (.aload_n 0, 1) := zo_42 (zi_at zh_dX13_goThrough_0_0 10 rfl)
theorem dX13_goThrough_11 : decode cX13_goThrough 11 = .ok (.iload_n 3, 1) := zo_29 (zi_at zh_dX13_goThrough_0_0 11 rfl)
theorem dX13_goThrough_12 : decode cX13_goThrough 12 = .ok (.putfield 273, 3) := zo_181 (zi_at zh_dX13_goThrough_0_0 12 rfl) (zi_at zh_dX13_goThrough_0_0 13 rfl) (zi_at zh_dX13_goThrough_0_0 14 rfl) rfl
theorem dX13_goThrough_15 : decode cX13_goThrough 15 = .ok (.aload_n 0, 1) := zo_42 (zi_at zh_dX13_goThrough_0_0 15 rfl)
theorem dX13_goThrough_16 : decode cX13_goThrough 16 = .ok (.iload 4, 2) := zo_21 (zi_at zh_dX13_goThrough_16_16 0 rfl) (zi_at zh_dX13_goThrough_16_16 1 rfl)
theorem dX13_goThrough_18 : decode cX13_goThrough 18 = .ok (.putfield 357, 3) := zo_181 (zi_at zh_dX13_goThrough_16_16 2 rfl) (zi_at zh_dX13_goThrough_16_16 3 rfl) (zi_at zh_dX13_goThrough_16_16 4 rfl) rfl
theorem dX13_goThrough_21 : decode cX13_goThrough 21 = .ok (.aload_n 0, 1) := zo_42 (zi_at zh_dX13_goThrough_16_16 5 rfl)
theorem dX13_goThrough_22 : decode cX13_goThrough 22 = .ok (.iconst 0, 1) := zo_3 (zi_at zh_dX13_goThrough_16_16 6 rfl)
theorem dX13_goThrough_23 : decode cX13_goThrough 23 = .ok (.putfield 270, 3) := zo_181 (zi_at zh_dX13_goThrough_16_16 7 rfl) (zi_at zh_dX13_goThrough_16_16 8 rfl) (zi_at zh_dX13_goThrough_16_16 9 rfl) rfl
theorem dX13_goThrough_26 : decode cX13_goThrough 26 = .ok (.aload_n 0, 1) := zo_42 (zi_at zh_dX13_goThrough_16_16 10 rfl)
theorem dX13_goThrough_27 : decode cX13_goThrough 27 = .ok (.iconst (-1), 1) := zo_2 (zi_at zh_dX13_goThrough_16_16 11 rfl)
theorem dX13_goThrough_28 : decode cX13_goThrough 28 = .ok (.putfield 279, 3) := zo_181 (zi_at zh_dX13_goThrough_16_16 12 rfl) (zi_at zh_dX13_goThrough_16_16 13 rfl) (zi_at zh_dX13_goThrough_16_16 14 rfl) rfl
theorem dX13_goThrough_31 : decode cX13_goThrough 31 = .ok (.aload_n 0, 1) := zo_42 (zi_at zh_dX13_goThrough_16_16 15 rfl)
theorem dX13_goThrough_32 : decode cX13_goThrough 32 = .ok (.iconst 0, 1) := zo_3 (zi_at zh_dX13_goThrough_32_32 0 rfl)
theorem dX13_goThrough_33 : decode cX13_goThrough 33 = .ok (.putfield 282, 3) := zo_181 (zi_at zh_dX13_goThrough_32_32 1 rfl) (zi_at zh_dX13_goThrough_32_32 2 rfl) (zi_at zh_dX13_goThrough_32_32 3 rfl) rfl
theorem dX13_goThrough_36 : decode cX13_goThrough 36 = .ok (.aload_n 0, 1) := zo_42 (zi_at zh_dX13_goThrough_32_32 4 rfl)
theorem dX13_goThrough_37 : decode cX13_goThrough 37 = .ok (.iconst 0, 1) := zo_3 (zi_at zh_dX13_goThrough_32_32 5 rfl)
theorem dX13_goThrough_38 : decode cX13_goThrough 38 = .ok (.putfield 353, 3) := zo_181 (zi_at zh_dX13_goThrough_32_32 6 rfl) (zi_at zh_dX13_goThrough_32_32 7 rfl) (zi_at zh_dX13_goThrough_32_32 8 rfl) rfl
theorem dX13_goThrough_41 : decode cX13_goThrough 41 = .ok (.aload_n 0, 1) := zo_42 (zi_at zh_dX13_goThrough_32_32 9 rfl)
theorem dX13_goThrough_42 : decode cX13_goThrough 42 = .ok (.iload 4, 2) := zo_21 (zi_at zh_dX13_goThrough_32_32 10 rfl) (zi_at zh_dX13_goThrough_32_32 11 rfl)
theorem dX13_goThrough_44 : decode cX13_goThrough 44 = .ok (.bipush 110, 2) := zo_16 (zi_at zh_dX13_goThrough_32_32 12 rfl) (zi_at zh_dX13_goThrough_32_32 13 rfl) rfl
theorem dX13_goThrough_46 : decode cX13_goThrough 46 = .ok (.if_icmp .ne 9, 3) := zo_160 (zi_at zh_dX13_goThrough_32_32 14 rfl) (zi_at zh_dX13_goThrough_32_32 15 rfl) (zi_at zh_dX13_goThrough_46_48 0 rfl) rfl
theorem dX13_goThrough_49 : decode cX13_goThrough 49 = .ok (.sipush 1000, 3) := zo_17 (zi_at zh_dX13_goThrough_46_48 1 rfl) (zi_at zh_dX13_goThrough_46_48 2 rfl) (zi_at zh_dX13_goThrough_46_48 3 rfl) rfl
theorem dX13_goThrough_52 : decode cX13_goThrough 52 = .ok (.goto 4, 3) := zo_167 (zi_at zh_dX13_goThrough_46_48 4 rfl) (zi_at zh_dX13_goThrough_46_48 5 rfl) (zi_at zh_dX13_goThrough_46_48 6 rfl) rfl
theorem dX13_goThrough_55 : decode cX13_goThrough 55 = .ok (.iconst 0, 1) := zo_3 (zi_at zh_dX13_goThrough_46_48 7 rfl)
theorem dX13_goThrough_56 : decode cX13_goThrough 56 = .ok (.putfield 360, 3) := zo_181 (zi_at zh_dX13_goThrough_46_48 8 rfl) (zi_at zh_dX13_goThrough_46_48 9 rfl) (zi_at zh_dX13_goThrough_46_48 10 rfl) rfl
theorem dX13_goThrough_59 : decode cX13_goThrough 59 = .ok (.aload_n 0, 1) := zo_42 (zi_at zh_dX13_goThrough_46_48 11 rfl)
theorem dX13_goThrough_60 : decode cX13_goThrough 60 = .ok (.invokevirtual 363, 3) := zo_182 (zi_at zh_dX13_goThrough_46_48 12 rfl) (zi_at zh_dX13_goThrough_46_48 13 rfl) (zi_at zh_dX13_goThrough_46_48 14 rfl) rfl
theorem dX13_goThrough_63 : decode cX13_goThrough 63 = .ok (.aload_n 0, 1) := zo_42 (zi_at zh_dX13_goThrough_46_48 15 rfl)
theorem dX13_goThrough_64 : decode cX13_goThrough 64 = .ok (.getfield 279, 3) := zo_180 (zi_at zh_dX13_goThrough_64_64 0 rfl) (zi_at zh_dX13_goThrough_64_64 1 rfl) (zi_at zh_dX13_goThrough_64_64 2 rfl) rfl
theorem dX13_goThrough_67 : decode cX13_goThrough 67 = .ok (.iconst (-1), 1) := zo_2 (zi_at zh_dX13_goThrough_64_64 3 rfl)
theorem dX13_goThrough_68 : decode cX13_goThrough 68 = .ok (.if_icmp .ne 29, 3) := zo_160 (zi_at zh_dX13_goThrough_64_64 4 rfl) (zi_at zh_dX13_goThrough_64_64 5 rfl) (zi_at zh_dX13_goThrough_64_64 6 rfl) rfl
theorem dX13_goThrough_71 : decode cX13_goThrough 71 = .ok (.aload_n 0, 1) := zo_42 (zi_at zh_dX13_goThrough_64_64 7 rfl)
theorem dX13_goThrough_72 : decode cX13_goThrough 72 = .ok (.invokevirtual 289, 3) := zo_182 (zi_at zh_dX13_goThrough_64_64 8 rfl) (zi_at zh_dX13_goThrough_64_64 9 rfl) (zi_at zh_dX13_goThrough_64_64 10 rfl) rfl
theorem dX13_goThrough_75 : decode cX13_goThrough 75 = .ok (.bipush 59, 2) := zo_16 (zi_at zh_dX13_goThrough_64_64 11 rfl) (zi_at zh_dX13_goThrough_64_64 12 rfl) rfl
theorem dX13_goThrough_77 : decode cX13_goThrough 77 = .ok (.if_icmp .ne 20, 3) := zo_160 (zi_at zh_dX13_goThrough_64_64 13 rfl) (zi_at zh_dX13_goThrough_64_64 14 rfl) (zi_at zh_dX13_goThrough_64_64 15 rfl) rfl
theorem dX13_goThrough_80 : decode cX13_goThrough 80 = .ok (.aload_n 0, 1) := zo_42 (zi_at zh_dX13_goThrough_80_80 0 rfl)
theorem dX13_goThrough_81 : decode cX13_goThrough 81 = .ok (.dup, 1) := zo_89 (zi_at zh_dX13_goThrough_80_80 1 rfl)
theorem dX13_goThrough_82 : decode cX13_goThrough 82 = .ok (.getfield 270, 3) := zo_180 (zi_at zh_dX13_goThrough_80_80 2 rfl) (zi_at zh_dX13_goThrough_80_80 3 rfl) (zi_at zh_dX13_goThrough_80_80 4 rfl) rfl
theorem dX13_goThrough_85 : decode cX13_goThrough 85 = .ok (.iconst 1, 1) := zo_4 (zi_at zh_dX13_goThrough_80_80 5 rfl)
theorem dX13_goThrough_86 : decode cX13_goThrough 86 = .ok (.iadd, 1) := zo_96 (zi_at zh_dX13_goThrough_80_80 6 rfl)
theorem dX13_goThrough_87 : decode cX13_goThrough 87 = .ok (.putfield 270, 3) := zo_181 (zi_at zh_dX13_goThrough_80_80 7 rfl) (zi_at zh_dX13_goThrough_80_80 8 rfl) (zi_at zh_dX13_goThrough_80_80 9 rfl) rfl
theorem dX13_goThrough_90 : decode cX13_goThrough 90 = .ok (.aload_n 0, 1) := zo_42 (zi_at zh_dX13_goThrough_80_80 10 rfl)
theorem dX13_goThrough_91 : decode cX13_goThrough 91 = .ok (.invokevirtual 363, 3) := zo_182 (zi_at zh_dX13_goThrough_80_80 11 rfl) (zi_at zh_dX13_goThrough_80_80 12 rfl) (zi_at zh_dX13_goThrough_80_80 13 rfl) rfl
theorem dX13_goThrough_94 : decode cX13_goThrough 94 = .ok (.goto (-31), 3) := zo_167 (zi_at zh_dX13_goThrough_80_80 14 rfl) (zi_at zh_dX13_goThrough_80_80 15 rfl) (zi_at zh_dX13_goThrough_94_96 0 rfl) rfl
theorem dX13_goThrough_97 : decode cX13_goThrough 97 = .ok (.aload_n 0, 1) := zo_42 (zi_at zh_dX13_goThrough_94_96 1 rfl)
theorem dX13_goThrough_98 : decode cX13_goThrough 98 = .ok (.getfield 279, 3) := zo_180 (zi_at zh_dX13_goThrough_94_96 2 rfl) (zi_at zh_dX13_goThrough_94_96 3 rfl) (zi_at zh_dX13_goThrough_94_96 4 rfl) rfl
theorem dX13_goThrough_101 : decode cX13_goThrough 101 = .ok (.iconst (-1), 1) := zo_2 (zi_at zh_dX13_goThrough_94_96 5 rfl)
theorem dX13_goThrough_102 : decode cX13_goThrough 102 = .ok (.if_icmp .ne 16, 3) := zo_160 (zi_at zh_dX13_goThrough_94_96 6 rfl) (zi_at zh_dX13_goThrough_94_96 7 rfl) (zi_at zh_dX13_goThrough_94_96 8 rfl) rfl
theorem dX13_goThrough_105 : decode cX13_goThrough 105 = .ok (.aload_n 0, 1) := zo_42 (zi_at zh_dX13_goThrough_94_96 9 rfl)
theorem dX13_goThrough_106 : decode cX13_goThrough 106 = .ok (.invokevirtual 289, 3) := zo_182 (zi_at zh_dX13_goThrough_94_96 10 rfl) (zi_at zh_dX13_goThrough_94_96 11 rfl) (zi_at zh_dX13_goThrough_94_96 12 rfl) rfl
theorem dX13_goThrough_109 : decode cX13_goThrough 109 = .ok (.iconst (-1), 1) := zo_2 (zi_at zh_dX13_goThrough_94_96 13 rfl)
theorem dX13_goThrough_110 : decode cX13_goThrough 110 = .ok (.if_icmp .eq 8, 3) := zo_159 (zi_at zh_dX13_goThrough_94_96 14 rfl) (zi_at zh_dX13_goThrough_94_96 15 rfl) (zi_at zh_dX13_goThrough_110_112 0 rfl) rfl
theorem dX13_goThrough_113 : decode cX13_goThrough 113 = .ok (.aload_n 0, 1) := zo_42 (zi_at zh_dX13_goThrough_110_112 1 rfl)
theorem dX13_goThrough_114 : decode cX13_goThrough 114 = .ok (.invokevirtual 285, 3) := zo_182 (zi_at zh_dX13_goThrough_110_112 2 rfl) (zi_at zh_dX13_goThrough_110_112 3 rfl) (zi_at zh_dX13_goThrough_110_112 4 rfl) rfl
theorem dX13_goThrough_117 : decode cX13_goThrough 117 = .ok (.pop, 1) := zo_87 (zi_at zh_dX13_goThrough_110_112 5 rfl)
theorem dX13_goThrough_118 : decode cX13_goThrough 118 = .ok (.return_, 1) := zo_177 (zi_at zh_dX13_goThrough_110_112 6 rfl)
theorem hz_yX13_clause_0 : yX13_clause.cls ≠ "java/lang/invoke/MethodHandle" ∧ yX13_clause.cls ≠ "java/lang/invoke/VarHandle" ∧ (parseMethodDescriptor yX13_clause.desc).map (fun d => d.parameters.length) = some 0 := by decide +kernel
def v_clause : List Cond := .code yX13_clause cX13_clause 5 none :: vA
abbrev rm_clause : Room := { frames := 68, cells := 0, slots := 0, locals := 2720 }
def w_clause : Nat → Nat → Bool := wl [] [(0, 21), (0, 22), (0, 23), (0, 25), (0, 26)]
set_option maxHeartbeats 4000000 in
set_option maxRecDepth 100000 in
theorem q_clause (l : Launch) (dC : Nat → ClassId) (dI : Nat → Nat → Nat) (cT : Nat → ClassId) (ad : Nat → Nat) (E : Nat → va_E) (sz : Nat) (k : Nat) (nl : Nat) (hI0 : IX cT shM spM 72 ad E) (hh0 : k < 72) (hh1 : shM k = (1, 1, nl)) (hh2 : ∀ j, spM k j = (0, -128, 127)) (hh3 : xv (E 0) 18 = .ref (ad k)) (hh4 : (xi (E 0) 19).toInt + 200 ≤ (nl : Int)) (hh5 : (xi (E 0) 23).toInt = 0) : Met l yX13_clause v_clause rm_clause (va_Pc [.ref (ad 0)] (HW dC dI (TYM cT) 72 ad E sz)) (va_Qv (S := Nat → va_E) (fun u => IX cT shM spM 72 ad u ∧ Kp w_clause E u ∧ (((xi (E 0) 21).toInt ≤ (xi (u 0) 21).toInt) ∧ ((xi (E 0) 23).toInt ≤ (xi (u 0) 23).toInt) ∧ ((xi (u 0) 22).toInt = -1 → (xi (u 0) 23).toInt = (xi (E 0) 23).toInt) ∧ ((xi (u 0) 22).toInt = -1 → (xi (E 0) 22).toInt = -1))) (HB dC dI 72 ad) (va_A (WX 72 ad E) sz)) 0 0 (va_A (WX 72 ad E) sz) := by
  refine Met.ofW (cc := cX13_clause) (maxL := 5) (ret := none) (by decide) rfl ?_
  intro p e s m args below meth c s₁ B hml hv
  obtain ⟨hargs, hsz, hP, hK, hD0, hEV⟩ := hv
  subst hsz
  have hx := B.exec
  have hb := B.bytes
  have hr := B.returns
  have hts := atoms_spec (ws := v_clause) B.pre
  have hown : s.vm.findClass RX13 = some m.cls := findClass_of_methodNamed B.named
  have hlocks := B.notSynchronized
  have hinX13 : ∀ w ∈ u_ws RX13 TX13 97, w ∈ v_clause := fun w h => vA_in _ w (in_X13 w h)
  generalize hAe : va_A (WX 72 ad E) s.heap.size = A at hEV ⊢
  have hA : ∀ q : Nat, s.heap.size ≤ q → A q := fun q h => by rw [← hAe]; exact Or.inr h
  have hD : va_D A (WX 72 ad E) := by rw [← hAe]; exact hD0.self
  have hS : va_S A s.heap s.heap [] := va_S.rf
  have hI := hI0
  have hKp : Kp w_clause E E := Kp.rf
  have hl := lv_entry ([.ref (ad 0)]) (n := 5) (Nat.le_of_ble_eq_true rfl)
  obtain ⟨Q, hQ⟩ : ∃ Q, Q = MQ below (va_Qv (S := Nat → va_E) (fun u => IX cT shM spM 72 ad u ∧ Kp w_clause E u ∧ (((xi (E 0) 21).toInt ≤ (xi (u 0) 21).toInt) ∧ ((xi (E 0) 23).toInt ≤ (xi (u 0) 23).toInt) ∧ ((xi (u 0) 22).toInt = -1 → (xi (u 0) 23).toInt = (xi (E 0) 23).toInt) ∧ ((xi (u 0) 22).toInt = -1 → (xi (E 0) 22).toInt = -1))) (HB dC dI 72 ad) (A)) args s 0 0 (A) := ⟨_, rfl⟩
  rw [← hQ, show entryFrame m args 5 = _ from (congrArg (fun z => entryFrame m z 5) hargs).trans (lg_entry_eq _ _ _)]
  generalize (lg_sl ([.ref (ad 0)]) ++ List.replicate (5 - (lg_sl ([.ref (ad 0)])).length) Slot.unset).toArray = ls at hl ⊢
  have hl : lv_has ls 5 [(0, .ref (ad 0))] := hl
  obtain ⟨y1, ey1⟩ : ∃ y, xi (E 0) 21 = y := ⟨_, rfl⟩
  have fy1 : xv (E 0) 21 = .int y1 := (hI.fi 0 (Nat.le_of_ble_eq_true rfl) rfl (Nat.le_of_ble_eq_true rfl) rfl).trans (congrArg Value.int ey1)
  have iy1 : 0 ≤ y1.toInt ∧ y1.toInt ≤ 201 := by rw [← ey1]; exact hI.iv 0 (Nat.le_of_ble_eq_true rfl) rfl (Nat.le_of_ble_eq_true rfl) rfl
  obtain ⟨y2, ey2⟩ : ∃ y, xi (E 0) 22 = y := ⟨_, rfl⟩
  have fy2 : xv (E 0) 22 = .int y2 := (hI.fi 0 (Nat.le_of_ble_eq_true rfl) rfl (Nat.le_of_ble_eq_true rfl) rfl).trans (congrArg Value.int ey2)
  have iy2 : -1 ≤ y2.toInt ∧ y2.toInt ≤ 201 := by rw [← ey2]; exact hI.iv 0 (Nat.le_of_ble_eq_true rfl) rfl (Nat.le_of_ble_eq_true rfl) rfl
  obtain ⟨y3, ey3⟩ : ∃ y, xi (E 0) 23 = y := ⟨_, rfl⟩
  have fy3 : xv (E 0) 23 = .int y3 := (hI.fi 0 (Nat.le_of_ble_eq_true rfl) rfl (Nat.le_of_ble_eq_true rfl) rfl).trans (congrArg Value.int ey3)
  have iy3 : 0 ≤ y3.toInt ∧ y3.toInt ≤ 8 := by rw [← ey3]; exact hI.iv 0 (Nat.le_of_ble_eq_true rfl) rfl (Nat.le_of_ble_eq_true rfl) rfl
  rw [ey3] at hh5
  refine lv_aload_n hx hb dX13_clause_0 rfl (lv_at hl 0 rfl) ?_
  refine th_i (va_runV (As := []) (rest := []) ⟨hx, hb, hml, hown, hts⟩ (q_look l dC dI cT ad E s.heap.size k nl hI (by exact hh0) (by exact hh1) (by exact hh2) (by exact hh3) (by exact hh4)) (cwV 0 hts (gi_V (in_26 _ (zs1 (zs1 (zs0)))) (in_26 _ (zs1 (zs1 (zs1 (zs0))))) (in_26 _ (zs4 (zs0))) (in_24 _ (zs4 (zs4 (zs4 (zs1 (zs1 (zs1 (zs0)))))))) (in_26 _ (zs4 (zs1 (zs0))))) rfl rfl rfl ⟨rfl, hz_yX13_look_0⟩ ⟨Nat.le_of_ble_eq_true rfl, Nat.le_of_ble_eq_true rfl⟩) ⟨HW_bl, va_recv hK hP (ci := 14) (q0 := 0) rfl (hI.ob 0 (Nat.le_of_ble_eq_true rfl) rfl), (HW_wi hP hK (WX_D hD) hS hA hEV)⟩ rfl rfl hl.1 rfl (lv_room (Nat.le_of_ble_eq_true rfl)) dX13_clause_1 ⟨Nat.le_of_ble_eq_true rfl, Nat.le_of_ble_eq_true rfl⟩) (WX_D hD) hS hA (fun r4 E5 H locs hw hP hS => ?_)
  obtain ⟨hI, kq6, hw⟩ := hw
  have hKb := hKp
  have hKp := hKp.tr kq6 (wl_sub rfl rfl)
  obtain ⟨y7, ey7⟩ : ∃ y, xi (E5 0) 21 = y := ⟨_, rfl⟩
  have fy7 : xv (E5 0) 21 = .int y7 := (hI.fi 0 (Nat.le_of_ble_eq_true rfl) rfl (Nat.le_of_ble_eq_true rfl) rfl).trans (congrArg Value.int ey7)
  have iy7 : 0 ≤ y7.toInt ∧ y7.toInt ≤ 201 := by rw [← ey7]; exact hI.iv 0 (Nat.le_of_ble_eq_true rfl) rfl (Nat.le_of_ble_eq_true rfl) rfl
  obtain ⟨f8, f9, f10, f11⟩ := hw
  have i12 : 0 ≤ (xi (E 0) 19).toInt ∧ (xi (E 0) 19).toInt ≤ 3000 := (show 0 ≤ (xi (E 0) 19).toInt ∧ (xi (E 0) 19).toInt ≤ 3000 from hI0.iv 0 (Nat.le_of_ble_eq_true rfl) rfl (Nat.le_of_ble_eq_true rfl) rfl)
  have i13 : 0 ≤ (xi (E 0) 20).toInt ∧ (xi (E 0) 20).toInt ≤ 200 := (show 0 ≤ (xi (E 0) 20).toInt ∧ (xi (E 0) 20).toInt ≤ 200 from hI0.iv 0 (Nat.le_of_ble_eq_true rfl) rfl (Nat.le_of_ble_eq_true rfl) rfl)
  try rw [(show xi (E 0) 21 = y1 from vi_e fy1)] at f9
  try rw [(show xi (E5 0) 21 = y7 from vi_e fy7)] at f9
  try rw [(show xi (E 0) 21 = y1 from vi_e fy1)] at f10
  try rw [(show xi (E5 0) 21 = y7 from vi_e fy7)] at f10
  try rw [(show xi (E 0) 21 = y1 from vi_e fy1)] at f11
  try rw [(show xi (E5 0) 21 = y7 from vi_e fy7)] at f11
  refine lv_istore_n (lv' := [(1, .int r4), (0, .ref (ad 0))]) hx hb dX13_clause_4 rfl hl (by decide) rfl (fun ls hl => ?_)
  refine lv_iload_n hx hb dX13_clause_5 rfl (lv_at hl 0 rfl) ?_
  refine lv_iconst (v := -1) hx hb dX13_clause_6 (by decide) ?_
  refine lv_icmp_eq (tgt := 20) hx hb dX13_clause_7 (by decide) (fun c14 => ?_) (fun c14 => ?_)
  · --7 taken
    have t15 : r4.toInt = -1 := ti_eq c14
    have i16 : -1 ≤ r4.toInt ∧ r4.toInt ≤ -1 := iv_eqi t15 f8 (il_ (-1)) (by decide)
    refine lv_aload_n hx hb dX13_clause_20 rfl (lv_at hl 1 rfl) ?_
    refine th_i (va_runV (As := []) (rest := []) ⟨hx, hb, hml, hown, hts⟩ (q_stop l dC dI cT ad E5 H.size hI) (cwV 0 hts (gi_V (in_26 _ (zs4 (zs4 (zs4 (zs0))))) (in_26 _ (zs4 (zs4 (zs4 (zs1 (zs0)))))) (in_26 _ (zs4 (zs4 (zs4 (zs1 (zs1 (zs0))))))) (in_24 _ (zs4 (zs4 (zs4 (zs1 (zs1 (zs1 (zs0)))))))) (in_26 _ (zs4 (zs4 (zs4 (zs1 (zs1 (zs1 (zs0))))))))) rfl rfl rfl ⟨rfl, hz_yX13_stop_0⟩ ⟨Nat.le_of_ble_eq_true rfl, Nat.le_of_ble_eq_true rfl⟩) ⟨HW_bl, va_recv hK hP (ci := 14) (q0 := 0) rfl (hI.ob 0 (Nat.le_of_ble_eq_true rfl) rfl), (HW_wi hP hK (WX_D hD) hS hA hEV)⟩ rfl rfl hl.1 rfl (lv_room (Nat.le_of_ble_eq_true rfl)) dX13_clause_21 ⟨Nat.le_of_ble_eq_true rfl, Nat.le_of_ble_eq_true rfl⟩) (WX_D hD) hS hA (fun r17 E18 H locs hw hP hS => ?_)
    obtain ⟨hI, kq19, hw⟩ := hw
    have hKb := hKp
    have hKp := hKp.tr kq19 (wl_sub rfl rfl)
    obtain ⟨y20, ey20⟩ : ∃ y, xi (E18 0) 22 = y := ⟨_, rfl⟩
    have fy20 : xv (E18 0) 22 = .int y20 := (hI.fi 0 (Nat.le_of_ble_eq_true rfl) rfl (Nat.le_of_ble_eq_true rfl) rfl).trans (congrArg Value.int ey20)
    have iy20 : -1 ≤ y20.toInt ∧ y20.toInt ≤ 201 := by rw [← ey20]; exact hI.iv 0 (Nat.le_of_ble_eq_true rfl) rfl (Nat.le_of_ble_eq_true rfl) rfl
    obtain ⟨rfl, f21⟩ := hw
    try rw [(show xi (E5 0) 22 = y2 from vi_e ((kq6 0 22 rfl).trans fy2))] at f21
    try rw [(show xi (E18 0) 22 = y20 from vi_e fy20)] at f21
    refine lv_pop hx hb dX13_clause_24 rfl ?_
    rw [hQ]
    exact W.vret hx hb hr (fun t ht hW => ⟨⟨E18, rfl, ⟨hI, hKp, ⟨by (try rw [(show xi (E18 0) 21 = y7 from vi_e ((kq19 0 21 rfl).trans fy7))]); (try rw [ey1]); first | done | exact f9 | all_goals omega, by (try rw [(show xi (E18 0) 23 = y3 from vi_e ((kq19 0 23 rfl).trans ((kq6 0 23 rfl).trans fy3)))]); (try rw [ey3]); first | done | exact Int.le_refl _ | all_goals omega, by (try rw [(show xi (E18 0) 22 = y20 from vi_e fy20)]); (try rw [(show xi (E18 0) 23 = y3 from vi_e ((kq19 0 23 rfl).trans ((kq6 0 23 rfl).trans fy3)))]); (try rw [ey2]); (try rw [ey3]); first | done | exact fun q9 => absurd (q9) f21 | all_goals omega, by (try rw [(show xi (E18 0) 22 = y20 from vi_e fy20)]); (try rw [ey2]); first | done | exact fun q9 => absurd (q9) f21 | all_goals omega⟩⟩, by show va_P (dC, dI) vwCl (WX 72 ad E18) t.heap; rw [ht]; exact hP⟩, hS.F ht⟩) hS.2.2 dX13_clause_25
  · --7 not
    have t22 : ¬ r4.toInt = -1 := ti_ne c14
    have i23 : 0 ≤ r4.toInt ∧ r4.toInt ≤ 255 := iv_ne_l t22 f8 (il_ (-1))
    obtain ⟨qs, vs, hqR, hSS⟩ := hEV.2.2
    refine th_ldcwS hx hb hown hqR dX13_clause_10 ?_
    refine lv_iload_n hx hb dX13_clause_13 rfl (lv_at hl 0 rfl) ?_
    refine th_pi (va_runV (As := [.int r4]) (rest := []) ⟨hx, hb, hml, hown, hts⟩ (q_indexOf l qs vs tLAB r4 (by decide) (by decide)) (cwV 1 hts (gi_V (in_26 _ (zs4 (zs1 (zs1 (zs1 (zs0)))))) (in_8 _ (zs16 (zs16 (zs1 (zs0))))) (in_8 _ (zs16 (zs16 (zs1 (zs1 (zs0)))))) (in_0 _ (zs4 (zs4 (zs4 (zs1 (zs0)))))) (in_0 _ (zs4 (zs4 (zs1 (zs0)))))) rfl rfl rfl ⟨rfl, hz_yJ0_indexOf_0f7a4_1⟩ ⟨Nat.le_of_ble_eq_true rfl, Nat.le_of_ble_eq_true rfl⟩) ⟨fun a U g mk q => ⟨q.1, SS_c q.2⟩, va_Orecv hSS.1 hS, fun U hU hW => ⟨rfl, SS_w hU hW hS (fun _ h => h.elim) hSS⟩⟩ rfl rfl hl.1 rfl (lv_room (Nat.le_of_ble_eq_true rfl)) dX13_clause_14 ⟨Nat.le_of_ble_eq_true rfl, Nat.le_of_ble_eq_true rfl⟩) hS (fun r24 H1 locs1 hw hk1 hS => ?_)
    have hP := ub_keep hP hk1
    generalize H1 = H at hP hS ⊢
    generalize locs1 = locs at hS ⊢
    obtain ⟨f25, f26⟩ := hw
    refine lv_if_ge (tgt := 26) hx hb dX13_clause_17 (by decide) (fun c27 => ?_) (fun c27 => ?_)
    · --17 taken
      have t28 : (0 : Int) ≤ r24.toInt := ti_le c27
      have i29 : 0 ≤ r24.toInt ∧ r24.toInt ≤ 1000 := iv_le_r t28 (il_ 0) f25 (by decide)
      refine lv_aload_n hx hb dX13_clause_26 rfl (lv_at hl 1 rfl) ?_
      refine lv_dup hx hb dX13_clause_27 rfl ?_
      refine th_get (ci := 14) (C := RX13) (T := TX13) (N := 97) (v := .int y7) hx hb hts hinX13 hown hK hP hI 0 (Nat.le_of_ble_eq_true rfl) rfl rfl 21 (Nat.le_of_ble_eq_true rfl) (hts _ (vA_in _ _ (in_25 _ (zs16 (zs16 (zs4 (zs0))))))) (fun _ h9 => h9) fy7 dX13_clause_28 ?_
      refine lv_iconst (v := 1) hx hb dX13_clause_31 (by decide) ?_
      refine lv_iadd hx hb dX13_clause_32 ?_
      refine lv_topi (fun y30 ey30 => ?_)
      obtain ⟨ty30, iy30⟩ := ti_add (e := 1) (f := 202) iy7 ln_1 ey30 (by decide)
      have ty30 : y30.toInt = y7.toInt + 1 := ty30
      have iy30 : 1 ≤ y30.toInt ∧ y30.toInt ≤ 202 := iy30
      have i31 : 1 ≤ y30.toInt ∧ y30.toInt ≤ 201 := by omega
      refine th_put (ci := 14) (C := RX13) (T := TX13) (N := 97) (v := .int y30) (ty := .int) hx hb hts hinX13 tyX13 tyX13_ok nmX13 hown hK hP (WX_D hD) hS hI 0 (Nat.le_of_ble_eq_true rfl) rfl rfl 21 (Nat.le_of_ble_eq_true rfl) (hts _ (vA_in _ _ (in_25 _ (zs16 (zs16 (zs4 (zs0))))))) (fun _ h9 => h9) rfl (by decide +kernel) rfl rfl (okI rfl (iv_w i31 (by decide))) dX13_clause_33 (fun H locs E32 pw33 hI hP hS => ?_)
      have hKp := hKp.pw pw33 rfl
      refine lv_aload_n hx hb dX13_clause_36 rfl (lv_at hl 1 rfl) ?_
      refine lv_bipush (v := 58) hx hb dX13_clause_37 (by decide) ?_
      have z58 := ln_58
      refine th_i (va_runV (As := [.int 58]) (rest := []) ⟨hx, hb, hml, hown, hts⟩ (q_takes l dC dI cT ad E32 H.size (58 : Int32) k nl hI (by exact hh0) (by exact hh1) (by exact hh2) (by exact (hKp 0 18 rfl).trans hh3) (by (try rw [hKp.ei 0 19 rfl]); exact hh4) (iv_w ln_58 (by decide))) (cwV 1 hts (gi_V (in_26 _ (zs16 (zs1 (zs1 (zs1 (zs0)))))) (in_26 _ (zs16 (zs4 (zs0)))) (in_26 _ (zs16 (zs4 (zs1 (zs0))))) (in_24 _ (zs4 (zs4 (zs4 (zs1 (zs1 (zs1 (zs0)))))))) (in_26 _ (zs16 (zs4 (zs1 (zs1 (zs0))))))) rfl rfl rfl ⟨rfl, hz_yX13_takes_1⟩ ⟨Nat.le_of_ble_eq_true rfl, Nat.le_of_ble_eq_true rfl⟩) ⟨HW_bl, va_recv hK hP (ci := 14) (q0 := 0) rfl (hI.ob 0 (Nat.le_of_ble_eq_true rfl) rfl), (HW_wi hP hK (WX_D hD) hS hA hEV)⟩ rfl rfl hl.1 rfl (lv_room (Nat.le_of_ble_eq_true rfl)) dX13_clause_39 ⟨Nat.le_of_ble_eq_true rfl, Nat.le_of_ble_eq_true rfl⟩) (WX_D hD) hS hA (fun r34 E35 H locs hw hP hS => ?_)
      obtain ⟨hI, kq36, hw⟩ := hw
      have hKb := hKp
      have hKp := hKp.tr kq36 (wl_sub rfl rfl)
      obtain ⟨y37, ey37⟩ : ∃ y, xi (E35 0) 21 = y := ⟨_, rfl⟩
      have fy37 : xv (E35 0) 21 = .int y37 := (hI.fi 0 (Nat.le_of_ble_eq_true rfl) rfl (Nat.le_of_ble_eq_true rfl) rfl).trans (congrArg Value.int ey37)
      have iy37 : 0 ≤ y37.toInt ∧ y37.toInt ≤ 201 := by rw [← ey37]; exact hI.iv 0 (Nat.le_of_ble_eq_true rfl) rfl (Nat.le_of_ble_eq_true rfl) rfl
      obtain ⟨y38, ey38⟩ : ∃ y, xi (E35 0) 22 = y := ⟨_, rfl⟩
      have fy38 : xv (E35 0) 22 = .int y38 := (hI.fi 0 (Nat.le_of_ble_eq_true rfl) rfl (Nat.le_of_ble_eq_true rfl) rfl).trans (congrArg Value.int ey38)
      have iy38 : -1 ≤ y38.toInt ∧ y38.toInt ≤ 201 := by rw [← ey38]; exact hI.iv 0 (Nat.le_of_ble_eq_true rfl) rfl (Nat.le_of_ble_eq_true rfl) rfl
      rcases hw with hw | hw
      · -- takes, case 0
        obtain ⟨rfl, f39, f40, f41, f42⟩ := hw
        try rw [(show xi (E32 0) 21 = y30 from vi_e pw33.1)] at f39
        try rw [(show xi (E35 0) 21 = y37 from vi_e fy37)] at f39
        try rw [(show xi (E32 0) 22 = y2 from vi_e ((pw33.2 0 22 (fun q9 => absurd q9.2 (Nat.ne_of_beq_eq_false rfl))).trans ((kq6 0 22 rfl).trans fy2)))] at f40
        try rw [(show xi (E35 0) 22 = y38 from vi_e fy38)] at f40
        try rw [(show xi (E32 0) 22 = y2 from vi_e ((pw33.2 0 22 (fun q9 => absurd q9.2 (Nat.ne_of_beq_eq_false rfl))).trans ((kq6 0 22 rfl).trans fy2)))] at f41
        try rw [(show xi (E35 0) 22 = y38 from vi_e fy38)] at f41
        try rw [(show xi (E32 0) 21 = y30 from vi_e pw33.1)] at f42
        try rw [(show xi (E35 0) 21 = y37 from vi_e fy37)] at f42
        refine lv_if_ne (tgt := 46) hx hb dX13_clause_42 (by decide) (fun c43 => ?_) (fun c43 => ?_)
        · --42 taken
          refine lv_iconst (v := 1) hx hb dX13_clause_46 (by decide) ?_
          refine lv_istore_n (lv' := [(2, .int 1), (1, .int r4), (0, .ref (ad 0))]) hx hb dX13_clause_47 rfl hl (by decide) rfl (fun ls hl => ?_)
          refine lv_iconst (v := 0) hx hb dX13_clause_48 (by decide) ?_
          refine lv_istore_n (lv' := [(3, .int 0), (2, .int 1), (1, .int r4), (0, .ref (ad 0))]) hx hb dX13_clause_49 rfl hl (by decide) rfl (fun ls hl => ?_)
          refine lv_aload_n hx hb dX13_clause_50 rfl (lv_at hl 3 rfl) ?_
          refine th_i (va_runV (As := []) (rest := []) ⟨hx, hb, hml, hown, hts⟩ (q_look l dC dI cT ad E35 H.size k nl hI (by exact hh0) (by exact hh1) (by exact hh2) (by exact (hKp 0 18 rfl).trans hh3) (by (try rw [hKp.ei 0 19 rfl]); exact hh4)) (cwV 0 hts (gi_V (in_26 _ (zs1 (zs1 (zs0)))) (in_26 _ (zs1 (zs1 (zs1 (zs0))))) (in_26 _ (zs4 (zs0))) (in_24 _ (zs4 (zs4 (zs4 (zs1 (zs1 (zs1 (zs0)))))))) (in_26 _ (zs4 (zs1 (zs0))))) rfl rfl rfl ⟨rfl, hz_yX13_look_0⟩ ⟨Nat.le_of_ble_eq_true rfl, Nat.le_of_ble_eq_true rfl⟩) ⟨HW_bl, va_recv hK hP (ci := 14) (q0 := 0) rfl (hI.ob 0 (Nat.le_of_ble_eq_true rfl) rfl), (HW_wi hP hK (WX_D hD) hS hA hEV)⟩ rfl rfl hl.1 rfl (lv_room (Nat.le_of_ble_eq_true rfl)) dX13_clause_51 ⟨Nat.le_of_ble_eq_true rfl, Nat.le_of_ble_eq_true rfl⟩) (WX_D hD) hS hA (fun r44 E45 H locs hw hP hS => ?_)
          obtain ⟨hI, kq46, hw⟩ := hw
          have hKb := hKp
          have hKp := hKp.tr kq46 (wl_sub rfl rfl)
          obtain ⟨y47, ey47⟩ : ∃ y, xi (E45 0) 21 = y := ⟨_, rfl⟩
          have fy47 : xv (E45 0) 21 = .int y47 := (hI.fi 0 (Nat.le_of_ble_eq_true rfl) rfl (Nat.le_of_ble_eq_true rfl) rfl).trans (congrArg Value.int ey47)
          have iy47 : 0 ≤ y47.toInt ∧ y47.toInt ≤ 201 := by rw [← ey47]; exact hI.iv 0 (Nat.le_of_ble_eq_true rfl) rfl (Nat.le_of_ble_eq_true rfl) rfl
          obtain ⟨f48, f49, f50, f51⟩ := hw
          try rw [(show xi (E35 0) 21 = y37 from vi_e fy37)] at f49
          try rw [(show xi (E45 0) 21 = y47 from vi_e fy47)] at f49
          try rw [(show xi (E35 0) 21 = y37 from vi_e fy37)] at f50
          try rw [hKb.ei 0 20 rfl] at f50
          try rw [(show xi (E45 0) 21 = y47 from vi_e fy47)] at f50
          try rw [(show xi (E35 0) 21 = y37 from vi_e fy37)] at f51
          try rw [hKb.ei 0 20 rfl] at f51
          try rw [(show xi (E45 0) 21 = y47 from vi_e fy47)] at f51
          refine lv_istore (lv' := [(4, .int r44), (3, .int 0), (2, .int 1), (1, .int r4), (0, .ref (ad 0))]) hx hb dX13_clause_54 hl (by decide) rfl (fun ls hl => ?_)
          refine lv_iload hx hb dX13_clause_56 (lv_at hl 0 rfl) ?_
          refine lv_bipush (v := 33) hx hb dX13_clause_58 (by decide) ?_
          refine lv_icmp_eq (tgt := 70) hx hb dX13_clause_60 (by decide) (fun c52 => ?_) (fun c52 => ?_)
          · --60 taken
            have t53 : r44.toInt = 33 := ti_eq c52
            have i54 : 33 ≤ r44.toInt ∧ r44.toInt ≤ 33 := iv_eqi t53 f48 (il_ 33) (by decide)
            refine lv_aload_n hx hb dX13_clause_70 rfl (lv_at hl 4 rfl) ?_
            refine lv_iconst (v := 0) hx hb dX13_clause_71 (by decide) ?_
            refine lv_iconst (v := 0) hx hb dX13_clause_72 (by decide) ?_
            have z0 := ln_0
            refine th_i (va_runV (As := [.int 0, .int 0]) (rest := []) ⟨hx, hb, hml, hown, hts⟩ ((q_group l 8).2.2 dC dI cT ad E45 H.size (0 : Int32) (0 : Int32) k nl hI (by exact hh0) (by exact hh1) (by exact hh2) (by exact (hKp 0 18 rfl).trans hh3) (by (try rw [hKp.ei 0 19 rfl]); exact hh4) (by (try rw [(show xi (E45 0) 23 = y3 from vi_e ((kq46 0 23 rfl).trans ((kq36 0 23 rfl).trans ((pw33.2 0 23 (fun q9 => absurd q9.2 (Nat.ne_of_beq_eq_false rfl))).trans ((kq6 0 23 rfl).trans fy3)))))]); omega) (iv_w ln_0 (by decide))) (cwV 2 hts (gi_V (in_29 _ (zs16 (zs1 (zs1 (zs0))))) (in_29 _ (zs16 (zs1 (zs1 (zs1 (zs0)))))) (in_29 _ (zs16 (zs4 (zs0)))) (in_24 _ (zs4 (zs4 (zs4 (zs1 (zs1 (zs1 (zs0)))))))) (in_29 _ (zs16 (zs4 (zs1 (zs0)))))) rfl rfl rfl (by decide +kernel) ⟨(show 7 * 8 + 11 + 1 ≤ 68 from Nat.le_of_ble_eq_true rfl), (show 8 + (5 + 11) + 40 * (7 * 8 + 11) ≤ 40 * (68) from Nat.le_of_ble_eq_true rfl)⟩) ⟨HW_bl, va_recv hK hP (ci := 14) (q0 := 0) rfl (hI.ob 0 (Nat.le_of_ble_eq_true rfl) rfl), (HW_wi hP hK (WX_D hD) hS hA hEV)⟩ rfl rfl hl.1 rfl (lv_room (Nat.le_of_ble_eq_true rfl)) dX13_clause_73 ⟨Nat.le_of_ble_eq_true rfl, Nat.le_of_ble_eq_true rfl⟩) (WX_D hD) hS hA (fun r55 E56 H locs hw hP hS => ?_)
            obtain ⟨hI, kq57, hw⟩ := hw
            have hKb := hKp
            have hKp := hKp.tr kq57 (wl_sub rfl rfl)
            obtain ⟨y58, ey58⟩ : ∃ y, xi (E56 0) 21 = y := ⟨_, rfl⟩
            have fy58 : xv (E56 0) 21 = .int y58 := (hI.fi 0 (Nat.le_of_ble_eq_true rfl) rfl (Nat.le_of_ble_eq_true rfl) rfl).trans (congrArg Value.int ey58)
            have iy58 : 0 ≤ y58.toInt ∧ y58.toInt ≤ 201 := by rw [← ey58]; exact hI.iv 0 (Nat.le_of_ble_eq_true rfl) rfl (Nat.le_of_ble_eq_true rfl) rfl
            obtain ⟨y59, ey59⟩ : ∃ y, xi (E56 0) 22 = y := ⟨_, rfl⟩
            have fy59 : xv (E56 0) 22 = .int y59 := (hI.fi 0 (Nat.le_of_ble_eq_true rfl) rfl (Nat.le_of_ble_eq_true rfl) rfl).trans (congrArg Value.int ey59)
            have iy59 : -1 ≤ y59.toInt ∧ y59.toInt ≤ 201 := by rw [← ey59]; exact hI.iv 0 (Nat.le_of_ble_eq_true rfl) rfl (Nat.le_of_ble_eq_true rfl) rfl
            obtain ⟨y60, ey60⟩ : ∃ y, xi (E56 0) 23 = y := ⟨_, rfl⟩
            have fy60 : xv (E56 0) 23 = .int y60 := (hI.fi 0 (Nat.le_of_ble_eq_true rfl) rfl (Nat.le_of_ble_eq_true rfl) rfl).trans (congrArg Value.int ey60)
            have iy60 : 0 ≤ y60.toInt ∧ y60.toInt ≤ 8 := by rw [← ey60]; exact hI.iv 0 (Nat.le_of_ble_eq_true rfl) rfl (Nat.le_of_ble_eq_true rfl) rfl
            obtain ⟨f61, f62, f63, f64, f65⟩ := hw
            try rw [(show xi (E45 0) 21 = y47 from vi_e fy47)] at f62
            try rw [(show xi (E56 0) 21 = y58 from vi_e fy58)] at f62
            try rw [(show xi (E45 0) 23 = y3 from vi_e ((kq46 0 23 rfl).trans ((kq36 0 23 rfl).trans ((pw33.2 0 23 (fun q9 => absurd q9.2 (Nat.ne_of_beq_eq_false rfl))).trans ((kq6 0 23 rfl).trans fy3)))))] at f63
            try rw [(show xi (E56 0) 23 = y60 from vi_e fy60)] at f63
            try rw [(show xi (E45 0) 22 = y38 from vi_e ((kq46 0 22 rfl).trans fy38))] at f64
            try rw [(show xi (E45 0) 23 = y3 from vi_e ((kq46 0 23 rfl).trans ((kq36 0 23 rfl).trans ((pw33.2 0 23 (fun q9 => absurd q9.2 (Nat.ne_of_beq_eq_false rfl))).trans ((kq6 0 23 rfl).trans fy3)))))] at f64
            try rw [(show xi (E56 0) 22 = y59 from vi_e fy59)] at f64
            try rw [(show xi (E56 0) 23 = y60 from vi_e fy60)] at f64
            try rw [(show xi (E45 0) 22 = y38 from vi_e ((kq46 0 22 rfl).trans fy38))] at f65
            try rw [(show xi (E56 0) 22 = y59 from vi_e fy59)] at f65
            refine lv_istore_n (lv' := [(2, .int r55), (4, .int r44), (3, .int 0), (1, .int r4), (0, .ref (ad 0))]) hx hb dX13_clause_76 rfl hl (by decide) rfl (fun ls hl => ?_)
            refine lv_aload_n hx hb dX13_clause_77 rfl (lv_at hl 4 rfl) ?_
            refine lv_bipush (v := 63) hx hb dX13_clause_78 (by decide) ?_
            have z63 := ln_63
            refine th_i (va_runV (As := [.int 63]) (rest := []) ⟨hx, hb, hml, hown, hts⟩ (q_takes l dC dI cT ad E56 H.size (63 : Int32) k nl hI (by exact hh0) (by exact hh1) (by exact hh2) (by exact (hKp 0 18 rfl).trans hh3) (by (try rw [hKp.ei 0 19 rfl]); exact hh4) (iv_w ln_63 (by decide))) (cwV 1 hts (gi_V (in_26 _ (zs16 (zs1 (zs1 (zs1 (zs0)))))) (in_26 _ (zs16 (zs4 (zs0)))) (in_26 _ (zs16 (zs4 (zs1 (zs0))))) (in_24 _ (zs4 (zs4 (zs4 (zs1 (zs1 (zs1 (zs0)))))))) (in_26 _ (zs16 (zs4 (zs1 (zs1 (zs0))))))) rfl rfl rfl ⟨rfl, hz_yX13_takes_1⟩ ⟨Nat.le_of_ble_eq_true rfl, Nat.le_of_ble_eq_true rfl⟩) ⟨HW_bl, va_recv hK hP (ci := 14) (q0 := 0) rfl (hI.ob 0 (Nat.le_of_ble_eq_true rfl) rfl), (HW_wi hP hK (WX_D hD) hS hA hEV)⟩ rfl rfl hl.1 rfl (lv_room (Nat.le_of_ble_eq_true rfl)) dX13_clause_80 ⟨Nat.le_of_ble_eq_true rfl, Nat.le_of_ble_eq_true rfl⟩) (WX_D hD) hS hA (fun r66 E67 H locs hw hP hS => ?_)
            obtain ⟨hI, kq68, hw⟩ := hw
            have hKb := hKp
            have hKp := hKp.tr kq68 (wl_sub rfl rfl)
            obtain ⟨y69, ey69⟩ : ∃ y, xi (E67 0) 21 = y := ⟨_, rfl⟩
            have fy69 : xv (E67 0) 21 = .int y69 := (hI.fi 0 (Nat.le_of_ble_eq_true rfl) rfl (Nat.le_of_ble_eq_true rfl) rfl).trans (congrArg Value.int ey69)
            have iy69 : 0 ≤ y69.toInt ∧ y69.toInt ≤ 201 := by rw [← ey69]; exact hI.iv 0 (Nat.le_of_ble_eq_true rfl) rfl (Nat.le_of_ble_eq_true rfl) rfl
            obtain ⟨y70, ey70⟩ : ∃ y, xi (E67 0) 22 = y := ⟨_, rfl⟩
            have fy70 : xv (E67 0) 22 = .int y70 := (hI.fi 0 (Nat.le_of_ble_eq_true rfl) rfl (Nat.le_of_ble_eq_true rfl) rfl).trans (congrArg Value.int ey70)
            have iy70 : -1 ≤ y70.toInt ∧ y70.toInt ≤ 201 := by rw [← ey70]; exact hI.iv 0 (Nat.le_of_ble_eq_true rfl) rfl (Nat.le_of_ble_eq_true rfl) rfl
            rcases hw with hw | hw
            · -- takes, case 0
              obtain ⟨rfl, f71, f72, f73, f74⟩ := hw
              try rw [(show xi (E56 0) 21 = y58 from vi_e fy58)] at f71
              try rw [(show xi (E67 0) 21 = y69 from vi_e fy69)] at f71
              try rw [(show xi (E56 0) 22 = y59 from vi_e fy59)] at f72
              try rw [(show xi (E67 0) 22 = y70 from vi_e fy70)] at f72
              try rw [(show xi (E56 0) 22 = y59 from vi_e fy59)] at f73
              try rw [(show xi (E67 0) 22 = y70 from vi_e fy70)] at f73
              try rw [(show xi (E56 0) 21 = y58 from vi_e fy58)] at f74
              try rw [(show xi (E67 0) 21 = y69 from vi_e fy69)] at f74
              refine lv_if_ne (tgt := 87) hx hb dX13_clause_83 (by decide) (fun c75 => ?_) (fun c75 => ?_)
              · --83 taken
                refine lv_aload_n hx hb dX13_clause_87 rfl (lv_at hl 4 rfl) ?_
                refine th_i (va_runV (As := []) (rest := []) ⟨hx, hb, hml, hown, hts⟩ ((q_group l 8).1 dC dI cT ad E67 H.size k nl hI (by exact hh0) (by exact hh1) (by exact hh2) (by exact (hKp 0 18 rfl).trans hh3) (by (try rw [hKp.ei 0 19 rfl]); exact hh4) (by (try rw [(show xi (E67 0) 23 = y60 from vi_e ((kq68 0 23 rfl).trans fy60))]); omega)) (cwV 0 hts (gi_V (in_26 _ (zs16 (zs0))) (in_26 _ (zs16 (zs1 (zs0)))) (in_26 _ (zs16 (zs1 (zs1 (zs0))))) (in_24 _ (zs4 (zs4 (zs4 (zs1 (zs1 (zs1 (zs0)))))))) (in_26 _ (zs16 (zs4 (zs4 (zs1 (zs1 (zs1 (zs0))))))))) rfl rfl rfl (by decide +kernel) ⟨(show 7 * 8 + 7 + 1 ≤ 68 from Nat.le_of_ble_eq_true rfl), (show 8 + (5 + 11) + 40 * (7 * 8 + 7) ≤ 40 * (68) from Nat.le_of_ble_eq_true rfl)⟩) ⟨HW_bl, va_recv hK hP (ci := 14) (q0 := 0) rfl (hI.ob 0 (Nat.le_of_ble_eq_true rfl) rfl), (HW_wi hP hK (WX_D hD) hS hA hEV)⟩ rfl rfl hl.1 rfl (lv_room (Nat.le_of_ble_eq_true rfl)) dX13_clause_88 ⟨Nat.le_of_ble_eq_true rfl, Nat.le_of_ble_eq_true rfl⟩) (WX_D hD) hS hA (fun r76 E77 H locs hw hP hS => ?_)
                obtain ⟨hI, kq78, hw⟩ := hw
                have hKb := hKp
                have hKp := hKp.tr kq78 (wl_sub rfl rfl)
                obtain ⟨y79, ey79⟩ : ∃ y, xi (E77 0) 21 = y := ⟨_, rfl⟩
                have fy79 : xv (E77 0) 21 = .int y79 := (hI.fi 0 (Nat.le_of_ble_eq_true rfl) rfl (Nat.le_of_ble_eq_true rfl) rfl).trans (congrArg Value.int ey79)
                have iy79 : 0 ≤ y79.toInt ∧ y79.toInt ≤ 201 := by rw [← ey79]; exact hI.iv 0 (Nat.le_of_ble_eq_true rfl) rfl (Nat.le_of_ble_eq_true rfl) rfl
                obtain ⟨y80, ey80⟩ : ∃ y, xi (E77 0) 22 = y := ⟨_, rfl⟩
                have fy80 : xv (E77 0) 22 = .int y80 := (hI.fi 0 (Nat.le_of_ble_eq_true rfl) rfl (Nat.le_of_ble_eq_true rfl) rfl).trans (congrArg Value.int ey80)
                have iy80 : -1 ≤ y80.toInt ∧ y80.toInt ≤ 201 := by rw [← ey80]; exact hI.iv 0 (Nat.le_of_ble_eq_true rfl) rfl (Nat.le_of_ble_eq_true rfl) rfl
                obtain ⟨y81, ey81⟩ : ∃ y, xi (E77 0) 23 = y := ⟨_, rfl⟩
                have fy81 : xv (E77 0) 23 = .int y81 := (hI.fi 0 (Nat.le_of_ble_eq_true rfl) rfl (Nat.le_of_ble_eq_true rfl) rfl).trans (congrArg Value.int ey81)
                have iy81 : 0 ≤ y81.toInt ∧ y81.toInt ≤ 8 := by rw [← ey81]; exact hI.iv 0 (Nat.le_of_ble_eq_true rfl) rfl (Nat.le_of_ble_eq_true rfl) rfl
                obtain ⟨f82, f83, f84, f85⟩ := hw
                try rw [(show xi (E67 0) 21 = y69 from vi_e fy69)] at f82
                try rw [(show xi (E77 0) 21 = y79 from vi_e fy79)] at f82
                try rw [(show xi (E67 0) 23 = y60 from vi_e ((kq68 0 23 rfl).trans fy60))] at f83
                try rw [(show xi (E77 0) 23 = y81 from vi_e fy81)] at f83
                try rw [(show xi (E67 0) 22 = y70 from vi_e fy70)] at f84
                try rw [(show xi (E67 0) 23 = y60 from vi_e ((kq68 0 23 rfl).trans fy60))] at f84
                try rw [(show xi (E77 0) 22 = y80 from vi_e fy80)] at f84
                try rw [(show xi (E77 0) 23 = y81 from vi_e fy81)] at f84
                try rw [(show xi (E67 0) 22 = y70 from vi_e fy70)] at f85
                try rw [(show xi (E77 0) 22 = y80 from vi_e fy80)] at f85
                refine lv_istore_n (lv' := [(3, .int r76), (2, .int r55), (4, .int r44), (1, .int r4), (0, .ref (ad 0))]) hx hb dX13_clause_91 rfl hl (by decide) rfl (fun ls hl => ?_)
                refine lv_goto (tgt := 140) hx hb dX13_clause_92 (by decide) ?_
                refine lv_aload_n hx hb dX13_clause_140 rfl (lv_at hl 4 rfl) ?_
                refine th_get (ci := 14) (C := RX13) (T := TX13) (N := 97) (v := .int y80) hx hb hts hinX13 hown hK hP hI 0 (Nat.le_of_ble_eq_true rfl) rfl rfl 22 (Nat.le_of_ble_eq_true rfl) (hts _ (vA_in _ _ (in_25 _ (zs16 (zs16 (zs4 (zs1 (zs1 (zs1 (zs0)))))))))) (fun _ h9 => h9) fy80 dX13_clause_141 ?_
                refine lv_iconst (v := -1) hx hb dX13_clause_144 (by decide) ?_
                refine lv_icmp_ne (tgt := 167) hx hb dX13_clause_145 (by decide) (fun c86 => ?_) (fun c86 => ?_)
                · --145 taken
                  have t87 : ¬ y80.toInt = -1 := ti_ne c86
                  have i88 : 0 ≤ y80.toInt ∧ y80.toInt ≤ 201 := iv_ne_l t87 iy80 (il_ (-1))
                  rw [hQ]
                  exact W.vret hx hb hr (fun t ht hW => ⟨⟨E77, rfl, ⟨hI, hKp, ⟨by (try rw [(show xi (E77 0) 21 = y79 from vi_e fy79)]); (try rw [ey1]); first | done | exact (Int.le_trans (Int.le_trans (Int.le_trans (Int.le_trans (Int.le_trans (Int.le_trans f9 (Int.le_trans (Int.le_add_of_nonneg_right (by decide)) (Int.le_of_eq ty30.symm))) f39) f49) f62) f71) f82) | all_goals omega, by (try rw [(show xi (E77 0) 23 = y81 from vi_e fy81)]); (try rw [ey3]); first | done | exact (Int.le_trans f63 f83) | all_goals omega, by (try rw [(show xi (E77 0) 22 = y80 from vi_e fy80)]); (try rw [(show xi (E77 0) 23 = y81 from vi_e fy81)]); (try rw [ey2]); (try rw [ey3]); first | done | exact fun q9 => absurd (q9) t87 | all_goals omega, by (try rw [(show xi (E77 0) 22 = y80 from vi_e fy80)]); (try rw [ey2]); first | done | exact fun q9 => absurd (q9) t87 | all_goals omega⟩⟩, by show va_P (dC, dI) vwCl (WX 72 ad E77) t.heap; rw [ht]; exact hP⟩, hS.F ht⟩) hS.2.2 dX13_clause_167
                · --145 not
                  have t89 : y80.toInt = -1 := ti_eq c86
                  have i90 : -1 ≤ y80.toInt ∧ y80.toInt ≤ -1 := iv_eqi t89 iy80 (il_ (-1)) (by decide)
                  refine lv_aload_n hx hb dX13_clause_148 rfl (lv_at hl 4 rfl) ?_
                  obtain ⟨y91, ey91⟩ : ∃ y, xi (E77 0) 26 = y := ⟨_, rfl⟩
                  have fy91 : xv (E77 0) 26 = .int y91 := (hI.fi 0 (Nat.le_of_ble_eq_true rfl) rfl (Nat.le_of_ble_eq_true rfl) rfl).trans (congrArg Value.int ey91)
                  have iy91 : 0 ≤ y91.toInt ∧ y91.toInt ≤ 1 := by rw [← ey91]; exact hI.iv 0 (Nat.le_of_ble_eq_true rfl) rfl (Nat.le_of_ble_eq_true rfl) rfl
                  refine th_get (ci := 14) (C := RX13) (T := TX13) (N := 97) (v := .int y91) hx hb hts hinX13 hown hK hP hI 0 (Nat.le_of_ble_eq_true rfl) rfl rfl 26 (Nat.le_of_ble_eq_true rfl) (hts _ (vA_in _ _ (in_29 _ (zs4 (zs4 (zs4 (zs1 (zs0)))))))) (fun _ h9 => h9) fy91 dX13_clause_149 ?_
                  refine lv_if_ne (tgt := 167) hx hb dX13_clause_152 (by decide) (fun c92 => ?_) (fun c92 => ?_)
                  · --152 taken
                    have t93 : ¬ y91.toInt = 0 := ti_ne c92
                    have i94 : 1 ≤ y91.toInt ∧ y91.toInt ≤ 1 := iv_ne_l t93 iy91 (il_ 0)
                    rw [hQ]
                    exact W.vret hx hb hr (fun t ht hW => ⟨⟨E77, rfl, ⟨hI, hKp, ⟨by (try rw [(show xi (E77 0) 21 = y79 from vi_e fy79)]); (try rw [ey1]); first | done | exact (Int.le_trans (Int.le_trans (Int.le_trans (Int.le_trans (Int.le_trans (Int.le_trans f9 (Int.le_trans (Int.le_add_of_nonneg_right (by decide)) (Int.le_of_eq ty30.symm))) f39) f49) f62) f71) f82) | all_goals omega, by (try rw [(show xi (E77 0) 23 = y81 from vi_e fy81)]); (try rw [ey3]); first | done | exact (Int.le_trans f63 f83) | all_goals omega, by (try rw [(show xi (E77 0) 22 = y80 from vi_e fy80)]); (try rw [(show xi (E77 0) 23 = y81 from vi_e fy81)]); (try rw [ey2]); (try rw [ey3]); first | done | exact fun q9 => ((f84 (q9)).trans (f64 (f72))) | all_goals omega, by (try rw [(show xi (E77 0) 22 = y80 from vi_e fy80)]); (try rw [ey2]); first | done | exact fun q9 => f40 | all_goals omega⟩⟩, by show va_P (dC, dI) vwCl (WX 72 ad E77) t.heap; rw [ht]; exact hP⟩, hS.F ht⟩) hS.2.2 dX13_clause_167
                  · --152 not
                    have t95 : y91.toInt = 0 := ti_eq c92
                    have i96 : 0 ≤ y91.toInt ∧ y91.toInt ≤ 0 := iv_eqi t95 iy91 (il_ 0) (by decide)
                    refine lv_iload_n hx hb dX13_clause_155 rfl (lv_at hl 3 rfl) ?_
                    refine lv_aload_n hx hb dX13_clause_156 rfl (lv_at hl 4 rfl) ?_
                    have i97 : 0 ≤ (xi (E 0) 24).toInt ∧ (xi (E 0) 24).toInt ≤ 127 := hI0.iv 0 (Nat.le_of_ble_eq_true rfl) rfl (Nat.le_of_ble_eq_true rfl) rfl
                    refine th_get (ci := 14) (C := RX13) (T := TX13) (N := 97) (v := .int (xi (E 0) 24)) hx hb hts hinX13 hown hK hP hI 0 (Nat.le_of_ble_eq_true rfl) rfl rfl 24 (Nat.le_of_ble_eq_true rfl) (hts _ (vA_in _ _ (in_29 _ (zs4 (zs4 (zs4 (zs0))))))) (fun _ h9 => h9) (th_v0 hKp hI0 0 (Nat.le_of_ble_eq_true rfl) rfl (Nat.le_of_ble_eq_true rfl) rfl rfl) dX13_clause_157 ?_
                    refine lv_icmp_ne (tgt := 167) hx hb dX13_clause_160 (by decide) (fun c98 => ?_) (fun c98 => ?_)
                    · --160 taken
                      have t99 : ¬ r4.toInt = (xi (E 0) 24).toInt := ti_ne c98
                      rw [hQ]
                      exact W.vret hx hb hr (fun t ht hW => ⟨⟨E77, rfl, ⟨hI, hKp, ⟨by (try rw [(show xi (E77 0) 21 = y79 from vi_e fy79)]); (try rw [ey1]); first | done | exact (Int.le_trans (Int.le_trans (Int.le_trans (Int.le_trans (Int.le_trans (Int.le_trans f9 (Int.le_trans (Int.le_add_of_nonneg_right (by decide)) (Int.le_of_eq ty30.symm))) f39) f49) f62) f71) f82) | all_goals omega, by (try rw [(show xi (E77 0) 23 = y81 from vi_e fy81)]); (try rw [ey3]); first | done | exact (Int.le_trans f63 f83) | all_goals omega, by (try rw [(show xi (E77 0) 22 = y80 from vi_e fy80)]); (try rw [(show xi (E77 0) 23 = y81 from vi_e fy81)]); (try rw [ey2]); (try rw [ey3]); first | done | exact fun q9 => ((f84 (q9)).trans (f64 (f72))) | all_goals omega, by (try rw [(show xi (E77 0) 22 = y80 from vi_e fy80)]); (try rw [ey2]); first | done | exact fun q9 => f40 | all_goals omega⟩⟩, by show va_P (dC, dI) vwCl (WX 72 ad E77) t.heap; rw [ht]; exact hP⟩, hS.F ht⟩) hS.2.2 dX13_clause_167
                    · --160 not
                      have t100 : r4.toInt = (xi (E 0) 24).toInt := ti_eq c98
                      have i101 : 0 ≤ r4.toInt ∧ r4.toInt ≤ 127 := iv_eqi t100 i23 i97 (by decide)
                      refine lv_iload_n hx hb dX13_clause_163 rfl (lv_at hl 1 rfl) ?_
                      refine lv_if_ne (tgt := 168) hx hb dX13_clause_164 (by decide) (fun c102 => ?_) (fun c102 => ?_)
                      · --164 taken
                        have t103 : ¬ r55.toInt = 0 := ti_ne c102
                        have i104 : 1 ≤ r55.toInt ∧ r55.toInt ≤ 1 := iv_ne_l t103 f61 (il_ 0)
                        refine lv_aload_n hx hb dX13_clause_168 rfl (lv_at hl 4 rfl) ?_
                        refine lv_iconst (v := 1) hx hb dX13_clause_169 (by decide) ?_
                        refine th_put (ci := 14) (C := RX13) (T := TX13) (N := 97) (v := .int 1) (ty := .boolean) hx hb hts hinX13 tyX13 tyX13_ok nmX13 hown hK hP (WX_D hD) hS hI 0 (Nat.le_of_ble_eq_true rfl) rfl rfl 26 (Nat.le_of_ble_eq_true rfl) (hts _ (vA_in _ _ (in_29 _ (zs4 (zs4 (zs4 (zs1 (zs0)))))))) (fun _ h9 => h9) rfl (by decide +kernel) rfl rfl (okI rfl (iv_w ln_1 (by decide))) dX13_clause_170 (fun H locs E105 pw106 hI hP hS => ?_)
                        have hKp := hKp.pw pw106 rfl
                        refine lv_aload_n hx hb dX13_clause_173 rfl (lv_at hl 4 rfl) ?_
                        refine lv_iload_n hx hb dX13_clause_174 rfl (lv_at hl 0 rfl) ?_
                        refine th_put (ci := 14) (C := RX13) (T := TX13) (N := 97) (v := .int r76) (ty := .int) hx hb hts hinX13 tyX13 tyX13_ok nmX13 hown hK hP (WX_D hD) hS hI 0 (Nat.le_of_ble_eq_true rfl) rfl rfl 25 (Nat.le_of_ble_eq_true rfl) (hts _ (vA_in _ _ (in_29 _ zs0))) (fun _ h9 => h9) rfl (by decide +kernel) rfl rfl (okI rfl (iv_all _)) dX13_clause_175 (fun H locs E107 pw108 hI hP hS => ?_)
                        have hKp := hKp.pw pw108 rfl
                        rw [hQ]
                        exact W.vret hx hb hr (fun t ht hW => ⟨⟨E107, rfl, ⟨hI, hKp, ⟨by (try rw [(show xi (E107 0) 21 = y79 from vi_e ((pw108.2 0 21 (fun q9 => absurd q9.2 (Nat.ne_of_beq_eq_false rfl))).trans ((pw106.2 0 21 (fun q9 => absurd q9.2 (Nat.ne_of_beq_eq_false rfl))).trans fy79)))]); (try rw [ey1]); first | done | exact (Int.le_trans (Int.le_trans (Int.le_trans (Int.le_trans (Int.le_trans (Int.le_trans f9 (Int.le_trans (Int.le_add_of_nonneg_right (by decide)) (Int.le_of_eq ty30.symm))) f39) f49) f62) f71) f82) | all_goals omega, by (try rw [(show xi (E107 0) 23 = y81 from vi_e ((pw108.2 0 23 (fun q9 => absurd q9.2 (Nat.ne_of_beq_eq_false rfl))).trans ((pw106.2 0 23 (fun q9 => absurd q9.2 (Nat.ne_of_beq_eq_false rfl))).trans fy81)))]); (try rw [ey3]); first | done | exact (Int.le_trans f63 f83) | all_goals omega, by (try rw [(show xi (E107 0) 22 = y80 from vi_e ((pw108.2 0 22 (fun q9 => absurd q9.2 (Nat.ne_of_beq_eq_false rfl))).trans ((pw106.2 0 22 (fun q9 => absurd q9.2 (Nat.ne_of_beq_eq_false rfl))).trans fy80)))]); (try rw [(show xi (E107 0) 23 = y81 from vi_e ((pw108.2 0 23 (fun q9 => absurd q9.2 (Nat.ne_of_beq_eq_false rfl))).trans ((pw106.2 0 23 (fun q9 => absurd q9.2 (Nat.ne_of_beq_eq_false rfl))).trans fy81)))]); (try rw [ey2]); (try rw [ey3]); first | done | exact fun q9 => ((f84 (q9)).trans (f64 (f72))) | all_goals omega, by (try rw [(show xi (E107 0) 22 = y80 from vi_e ((pw108.2 0 22 (fun q9 => absurd q9.2 (Nat.ne_of_beq_eq_false rfl))).trans ((pw106.2 0 22 (fun q9 => absurd q9.2 (Nat.ne_of_beq_eq_false rfl))).trans fy80)))]); (try rw [ey2]); first | done | exact fun q9 => f40 | all_goals omega⟩⟩, by show va_P (dC, dI) vwCl (WX 72 ad E107) t.heap; rw [ht]; exact hP⟩, hS.F ht⟩) hS.2.2 dX13_clause_178
                      · --164 not
                        have t109 : r55.toInt = 0 := ti_eq c102
                        have i110 : 0 ≤ r55.toInt ∧ r55.toInt ≤ 0 := iv_eqi t109 f61 (il_ 0) (by decide)
                        rw [hQ]
                        exact W.vret hx hb hr (fun t ht hW => ⟨⟨E77, rfl, ⟨hI, hKp, ⟨by (try rw [(show xi (E77 0) 21 = y79 from vi_e fy79)]); (try rw [ey1]); first | done | exact (Int.le_trans (Int.le_trans (Int.le_trans (Int.le_trans (Int.le_trans (Int.le_trans f9 (Int.le_trans (Int.le_add_of_nonneg_right (by decide)) (Int.le_of_eq ty30.symm))) f39) f49) f62) f71) f82) | all_goals omega, by (try rw [(show xi (E77 0) 23 = y81 from vi_e fy81)]); (try rw [ey3]); first | done | exact (Int.le_trans f63 f83) | all_goals omega, by (try rw [(show xi (E77 0) 22 = y80 from vi_e fy80)]); (try rw [(show xi (E77 0) 23 = y81 from vi_e fy81)]); (try rw [ey2]); (try rw [ey3]); first | done | exact fun q9 => ((f84 (q9)).trans (f64 (f72))) | all_goals omega, by (try rw [(show xi (E77 0) 22 = y80 from vi_e fy80)]); (try rw [ey2]); first | done | exact fun q9 => f40 | all_goals omega⟩⟩, by show va_P (dC, dI) vwCl (WX 72 ad E77) t.heap; rw [ht]; exact hP⟩, hS.F ht⟩) hS.2.2 dX13_clause_167
              · --83 not
                exact absurd c75 (by decide)
            · -- takes, case 1
              obtain ⟨rfl, f111, f112⟩ := hw
              try rw [(show xi (E56 0) 21 = y58 from vi_e fy58)] at f111
              try rw [(show xi (E67 0) 21 = y69 from vi_e fy69)] at f111
              try rw [(show xi (E56 0) 22 = y59 from vi_e fy59)] at f112
              try rw [(show xi (E67 0) 22 = y70 from vi_e fy70)] at f112
              refine lv_if_ne (tgt := 87) hx hb dX13_clause_83 (by decide) (fun c113 => ?_) (fun c113 => ?_)
              · --83 taken
                exact absurd c113 (by decide)
              · --83 not
                rw [hQ]
                exact W.vret hx hb hr (fun t ht hW => ⟨⟨E67, rfl, ⟨hI, hKp, ⟨by (try rw [(show xi (E67 0) 21 = y69 from vi_e fy69)]); (try rw [ey1]); first | done | exact (Int.le_trans (Int.le_trans (Int.le_trans (Int.le_trans (Int.le_trans f9 (Int.le_trans (Int.le_add_of_nonneg_right (by decide)) (Int.le_of_eq ty30.symm))) f39) f49) f62) f111) | all_goals omega, by (try rw [(show xi (E67 0) 23 = y60 from vi_e ((kq68 0 23 rfl).trans fy60))]); (try rw [ey3]); first | done | exact f63 | all_goals omega, by (try rw [(show xi (E67 0) 22 = y70 from vi_e fy70)]); (try rw [(show xi (E67 0) 23 = y60 from vi_e ((kq68 0 23 rfl).trans fy60))]); (try rw [ey2]); (try rw [ey3]); first | done | exact fun q9 => absurd (q9) f112 | all_goals omega, by (try rw [(show xi (E67 0) 22 = y70 from vi_e fy70)]); (try rw [ey2]); first | done | exact fun q9 => absurd (q9) f112 | all_goals omega⟩⟩, by show va_P (dC, dI) vwCl (WX 72 ad E67) t.heap; rw [ht]; exact hP⟩, hS.F ht⟩) hS.2.2 dX13_clause_86
          · --60 not
            have t114 : ¬ r44.toInt = 33 := ti_ne c52
            refine lv_iload hx hb dX13_clause_63 (lv_at hl 0 rfl) ?_
            refine lv_bipush (v := 40) hx hb dX13_clause_65 (by decide) ?_
            refine lv_icmp_ne (tgt := 95) hx hb dX13_clause_67 (by decide) (fun c115 => ?_) (fun c115 => ?_)
            · --67 taken
              have t116 : ¬ r44.toInt = 40 := ti_ne c115
              refine lv_aload_n hx hb dX13_clause_95 rfl (lv_at hl 4 rfl) ?_
              refine th_i (va_runV (As := []) (rest := []) ⟨hx, hb, hml, hown, hts⟩ ((q_group l 8).1 dC dI cT ad E45 H.size k nl hI (by exact hh0) (by exact hh1) (by exact hh2) (by exact (hKp 0 18 rfl).trans hh3) (by (try rw [hKp.ei 0 19 rfl]); exact hh4) (by (try rw [(show xi (E45 0) 23 = y3 from vi_e ((kq46 0 23 rfl).trans ((kq36 0 23 rfl).trans ((pw33.2 0 23 (fun q9 => absurd q9.2 (Nat.ne_of_beq_eq_false rfl))).trans ((kq6 0 23 rfl).trans fy3)))))]); omega)) (cwV 0 hts (gi_V (in_26 _ (zs16 (zs0))) (in_26 _ (zs16 (zs1 (zs0)))) (in_26 _ (zs16 (zs1 (zs1 (zs0))))) (in_24 _ (zs4 (zs4 (zs4 (zs1 (zs1 (zs1 (zs0)))))))) (in_26 _ (zs16 (zs4 (zs4 (zs1 (zs1 (zs1 (zs0))))))))) rfl rfl rfl (by decide +kernel) ⟨(show 7 * 8 + 7 + 1 ≤ 68 from Nat.le_of_ble_eq_true rfl), (show 8 + (5 + 11) + 40 * (7 * 8 + 7) ≤ 40 * (68) from Nat.le_of_ble_eq_true rfl)⟩) ⟨HW_bl, va_recv hK hP (ci := 14) (q0 := 0) rfl (hI.ob 0 (Nat.le_of_ble_eq_true rfl) rfl), (HW_wi hP hK (WX_D hD) hS hA hEV)⟩ rfl rfl hl.1 rfl (lv_room (Nat.le_of_ble_eq_true rfl)) dX13_clause_96 ⟨Nat.le_of_ble_eq_true rfl, Nat.le_of_ble_eq_true rfl⟩) (WX_D hD) hS hA (fun r117 E118 H locs hw hP hS => ?_)
              obtain ⟨hI, kq119, hw⟩ := hw
              have hKb := hKp
              have hKp := hKp.tr kq119 (wl_sub rfl rfl)
              obtain ⟨y120, ey120⟩ : ∃ y, xi (E118 0) 21 = y := ⟨_, rfl⟩
              have fy120 : xv (E118 0) 21 = .int y120 := (hI.fi 0 (Nat.le_of_ble_eq_true rfl) rfl (Nat.le_of_ble_eq_true rfl) rfl).trans (congrArg Value.int ey120)
              have iy120 : 0 ≤ y120.toInt ∧ y120.toInt ≤ 201 := by rw [← ey120]; exact hI.iv 0 (Nat.le_of_ble_eq_true rfl) rfl (Nat.le_of_ble_eq_true rfl) rfl
              obtain ⟨y121, ey121⟩ : ∃ y, xi (E118 0) 22 = y := ⟨_, rfl⟩
              have fy121 : xv (E118 0) 22 = .int y121 := (hI.fi 0 (Nat.le_of_ble_eq_true rfl) rfl (Nat.le_of_ble_eq_true rfl) rfl).trans (congrArg Value.int ey121)
              have iy121 : -1 ≤ y121.toInt ∧ y121.toInt ≤ 201 := by rw [← ey121]; exact hI.iv 0 (Nat.le_of_ble_eq_true rfl) rfl (Nat.le_of_ble_eq_true rfl) rfl
              obtain ⟨y122, ey122⟩ : ∃ y, xi (E118 0) 23 = y := ⟨_, rfl⟩
              have fy122 : xv (E118 0) 23 = .int y122 := (hI.fi 0 (Nat.le_of_ble_eq_true rfl) rfl (Nat.le_of_ble_eq_true rfl) rfl).trans (congrArg Value.int ey122)
              have iy122 : 0 ≤ y122.toInt ∧ y122.toInt ≤ 8 := by rw [← ey122]; exact hI.iv 0 (Nat.le_of_ble_eq_true rfl) rfl (Nat.le_of_ble_eq_true rfl) rfl
              obtain ⟨f123, f124, f125, f126⟩ := hw
              try rw [(show xi (E45 0) 21 = y47 from vi_e fy47)] at f123
              try rw [(show xi (E118 0) 21 = y120 from vi_e fy120)] at f123
              try rw [(show xi (E45 0) 23 = y3 from vi_e ((kq46 0 23 rfl).trans ((kq36 0 23 rfl).trans ((pw33.2 0 23 (fun q9 => absurd q9.2 (Nat.ne_of_beq_eq_false rfl))).trans ((kq6 0 23 rfl).trans fy3)))))] at f124
              try rw [(show xi (E118 0) 23 = y122 from vi_e fy122)] at f124
              try rw [(show xi (E45 0) 22 = y38 from vi_e ((kq46 0 22 rfl).trans fy38))] at f125
              try rw [(show xi (E45 0) 23 = y3 from vi_e ((kq46 0 23 rfl).trans ((kq36 0 23 rfl).trans ((pw33.2 0 23 (fun q9 => absurd q9.2 (Nat.ne_of_beq_eq_false rfl))).trans ((kq6 0 23 rfl).trans fy3)))))] at f125
              try rw [(show xi (E118 0) 22 = y121 from vi_e fy121)] at f125
              try rw [(show xi (E118 0) 23 = y122 from vi_e fy122)] at f125
              try rw [(show xi (E45 0) 22 = y38 from vi_e ((kq46 0 22 rfl).trans fy38))] at f126
              try rw [(show xi (E118 0) 22 = y121 from vi_e fy121)] at f126
              refine lv_istore_n (lv' := [(3, .int r117), (4, .int r44), (2, .int 1), (1, .int r4), (0, .ref (ad 0))]) hx hb dX13_clause_99 rfl hl (by decide) rfl (fun ls hl => ?_)
              refine lv_aload_n hx hb dX13_clause_100 rfl (lv_at hl 4 rfl) ?_
              refine th_get (ci := 14) (C := RX13) (T := TX13) (N := 97) (v := .int y121) hx hb hts hinX13 hown hK hP hI 0 (Nat.le_of_ble_eq_true rfl) rfl rfl 22 (Nat.le_of_ble_eq_true rfl) (hts _ (vA_in _ _ (in_25 _ (zs16 (zs16 (zs4 (zs1 (zs1 (zs1 (zs0)))))))))) (fun _ h9 => h9) fy121 dX13_clause_101 ?_
              refine lv_iconst (v := -1) hx hb dX13_clause_104 (by decide) ?_
              refine lv_icmp_ne (tgt := 140) hx hb dX13_clause_105 (by decide) (fun c127 => ?_) (fun c127 => ?_)
              · --105 taken
                have t128 : ¬ y121.toInt = -1 := ti_ne c127
                have i129 : 0 ≤ y121.toInt ∧ y121.toInt ≤ 201 := iv_ne_l t128 iy121 (il_ (-1))
                refine lv_aload_n hx hb dX13_clause_140 rfl (lv_at hl 4 rfl) ?_
                refine th_get (ci := 14) (C := RX13) (T := TX13) (N := 97) (v := .int y121) hx hb hts hinX13 hown hK hP hI 0 (Nat.le_of_ble_eq_true rfl) rfl rfl 22 (Nat.le_of_ble_eq_true rfl) (hts _ (vA_in _ _ (in_25 _ (zs16 (zs16 (zs4 (zs1 (zs1 (zs1 (zs0)))))))))) (fun _ h9 => h9) fy121 dX13_clause_141 ?_
                refine lv_iconst (v := -1) hx hb dX13_clause_144 (by decide) ?_
                refine lv_icmp_ne (tgt := 167) hx hb dX13_clause_145 (by decide) (fun c130 => ?_) (fun c130 => ?_)
                · --145 taken
                  have t131 : ¬ y121.toInt = -1 := ti_ne c130
                  rw [hQ]
                  exact W.vret hx hb hr (fun t ht hW => ⟨⟨E118, rfl, ⟨hI, hKp, ⟨by (try rw [(show xi (E118 0) 21 = y120 from vi_e fy120)]); (try rw [ey1]); first | done | exact (Int.le_trans (Int.le_trans (Int.le_trans (Int.le_trans f9 (Int.le_trans (Int.le_add_of_nonneg_right (by decide)) (Int.le_of_eq ty30.symm))) f39) f49) f123) | all_goals omega, by (try rw [(show xi (E118 0) 23 = y122 from vi_e fy122)]); (try rw [ey3]); first | done | exact f124 | all_goals omega, by (try rw [(show xi (E118 0) 22 = y121 from vi_e fy121)]); (try rw [(show xi (E118 0) 23 = y122 from vi_e fy122)]); (try rw [ey2]); (try rw [ey3]); first | done | exact fun q9 => absurd (q9) t131 | all_goals omega, by (try rw [(show xi (E118 0) 22 = y121 from vi_e fy121)]); (try rw [ey2]); first | done | exact fun q9 => absurd (q9) t131 | all_goals omega⟩⟩, by show va_P (dC, dI) vwCl (WX 72 ad E118) t.heap; rw [ht]; exact hP⟩, hS.F ht⟩) hS.2.2 dX13_clause_167
                · --145 not
                  have t132 : y121.toInt = -1 := ti_eq c130
                  have i133 : 0 ≤ y121.toInt ∧ y121.toInt ≤ -1 := iv_eqi t132 i129 (il_ (-1)) (by decide)
                  exact iv_no i133 (by decide)
              · --105 not
                have t134 : y121.toInt = -1 := ti_eq c127
                have i135 : -1 ≤ y121.toInt ∧ y121.toInt ≤ -1 := iv_eqi t134 iy121 (il_ (-1)) (by decide)
                refine lv_aload_n hx hb dX13_clause_108 rfl (lv_at hl 4 rfl) ?_
                refine th_i (va_runV (As := []) (rest := []) ⟨hx, hb, hml, hown, hts⟩ (q_look l dC dI cT ad E118 H.size k nl hI (by exact hh0) (by exact hh1) (by exact hh2) (by exact (hKp 0 18 rfl).trans hh3) (by (try rw [hKp.ei 0 19 rfl]); exact hh4)) (cwV 0 hts (gi_V (in_26 _ (zs1 (zs1 (zs0)))) (in_26 _ (zs1 (zs1 (zs1 (zs0))))) (in_26 _ (zs4 (zs0))) (in_24 _ (zs4 (zs4 (zs4 (zs1 (zs1 (zs1 (zs0)))))))) (in_26 _ (zs4 (zs1 (zs0))))) rfl rfl rfl ⟨rfl, hz_yX13_look_0⟩ ⟨Nat.le_of_ble_eq_true rfl, Nat.le_of_ble_eq_true rfl⟩) ⟨HW_bl, va_recv hK hP (ci := 14) (q0 := 0) rfl (hI.ob 0 (Nat.le_of_ble_eq_true rfl) rfl), (HW_wi hP hK (WX_D hD) hS hA hEV)⟩ rfl rfl hl.1 rfl (lv_room (Nat.le_of_ble_eq_true rfl)) dX13_clause_109 ⟨Nat.le_of_ble_eq_true rfl, Nat.le_of_ble_eq_true rfl⟩) (WX_D hD) hS hA (fun r136 E137 H locs hw hP hS => ?_)
                obtain ⟨hI, kq138, hw⟩ := hw
                have hKb := hKp
                have hKp := hKp.tr kq138 (wl_sub rfl rfl)
                obtain ⟨y139, ey139⟩ : ∃ y, xi (E137 0) 21 = y := ⟨_, rfl⟩
                have fy139 : xv (E137 0) 21 = .int y139 := (hI.fi 0 (Nat.le_of_ble_eq_true rfl) rfl (Nat.le_of_ble_eq_true rfl) rfl).trans (congrArg Value.int ey139)
                have iy139 : 0 ≤ y139.toInt ∧ y139.toInt ≤ 201 := by rw [← ey139]; exact hI.iv 0 (Nat.le_of_ble_eq_true rfl) rfl (Nat.le_of_ble_eq_true rfl) rfl
                obtain ⟨f140, f141, f142, f143⟩ := hw
                try rw [(show xi (E118 0) 21 = y120 from vi_e fy120)] at f141
                try rw [(show xi (E137 0) 21 = y139 from vi_e fy139)] at f141
                try rw [(show xi (E118 0) 21 = y120 from vi_e fy120)] at f142
                try rw [hKb.ei 0 20 rfl] at f142
                try rw [(show xi (E137 0) 21 = y139 from vi_e fy139)] at f142
                try rw [(show xi (E118 0) 21 = y120 from vi_e fy120)] at f143
                try rw [hKb.ei 0 20 rfl] at f143
                try rw [(show xi (E137 0) 21 = y139 from vi_e fy139)] at f143
                refine th_pi (va_runS (As := [.int r136]) (rest := []) ⟨hx, hb, hml, hown, hts⟩ (q_isSign_ l r136) (va_cwS 1 hts (gi_S (in_29 _ (zs16 (zs4 (zs4 (zs4 (zs1 (zs1 (zs0)))))))) (in_29 _ (zs16 (zs4 (zs4 (zs4 (zs1 (zs1 (zs1 (zs0))))))))) (in_24 _ (zs4 (zs4 (zs4 (zs1 (zs1 (zs1 (zs0)))))))) (in_29 _ (zs16 (zs16 (zs0))))) rfl rfl rfl hz_yX13_isSign_1 ⟨Nat.le_of_ble_eq_true rfl, Nat.le_of_ble_eq_true rfl⟩) ⟨fun _ _ _ _ q => q, fun _ _ _ => ⟨rfl, trivial⟩⟩ rfl rfl hl.1 rfl (lv_room (Nat.le_of_ble_eq_true rfl)) dX13_clause_112 ⟨Nat.le_of_ble_eq_true rfl, Nat.le_of_ble_eq_true rfl⟩) hS (fun r144 H1 locs1 hw hk1 hS => ?_)
                have hP := ub_keep hP hk1
                generalize H1 = H at hP hS ⊢
                generalize locs1 = locs at hS ⊢
                rcases hw with hw | hw
                · -- isSign_, case 0
                  obtain ⟨rfl, f145⟩ := hw
                  refine lv_if_eq (tgt := 140) hx hb dX13_clause_115 (by decide) (fun c146 => ?_) (fun c146 => ?_)
                  · --115 taken
                    exact absurd c146 (by decide)
                  · --115 not
                    refine lv_aload_n hx hb dX13_clause_118 rfl (lv_at hl 4 rfl) ?_
                    refine lv_iconst (v := 1) hx hb dX13_clause_119 (by decide) ?_
                    refine lv_iload_n hx hb dX13_clause_120 rfl (lv_at hl 0 rfl) ?_
                    have z1 := ln_1
                    refine th_i (va_runV (As := [.int 1, .int r117]) (rest := []) ⟨hx, hb, hml, hown, hts⟩ ((q_group l 8).2.2 dC dI cT ad E137 H.size (1 : Int32) r117 k nl hI (by exact hh0) (by exact hh1) (by exact hh2) (by exact (hKp 0 18 rfl).trans hh3) (by (try rw [hKp.ei 0 19 rfl]); exact hh4) (by (try rw [(show xi (E137 0) 23 = y122 from vi_e ((kq138 0 23 rfl).trans fy122))]); omega) (iv_w ln_1 (by decide))) (cwV 2 hts (gi_V (in_29 _ (zs16 (zs1 (zs1 (zs0))))) (in_29 _ (zs16 (zs1 (zs1 (zs1 (zs0)))))) (in_29 _ (zs16 (zs4 (zs0)))) (in_24 _ (zs4 (zs4 (zs4 (zs1 (zs1 (zs1 (zs0)))))))) (in_29 _ (zs16 (zs4 (zs1 (zs0)))))) rfl rfl rfl (by decide +kernel) ⟨(show 7 * 8 + 11 + 1 ≤ 68 from Nat.le_of_ble_eq_true rfl), (show 8 + (5 + 11) + 40 * (7 * 8 + 11) ≤ 40 * (68) from Nat.le_of_ble_eq_true rfl)⟩) ⟨HW_bl, va_recv hK hP (ci := 14) (q0 := 0) rfl (hI.ob 0 (Nat.le_of_ble_eq_true rfl) rfl), (HW_wi hP hK (WX_D hD) hS hA hEV)⟩ rfl rfl hl.1 rfl (lv_room (Nat.le_of_ble_eq_true rfl)) dX13_clause_121 ⟨Nat.le_of_ble_eq_true rfl, Nat.le_of_ble_eq_true rfl⟩) (WX_D hD) hS hA (fun r147 E148 H locs hw hP hS => ?_)
                    obtain ⟨hI, kq149, hw⟩ := hw
                    have hKb := hKp
                    have hKp := hKp.tr kq149 (wl_sub rfl rfl)
                    obtain ⟨y150, ey150⟩ : ∃ y, xi (E148 0) 21 = y := ⟨_, rfl⟩
                    have fy150 : xv (E148 0) 21 = .int y150 := (hI.fi 0 (Nat.le_of_ble_eq_true rfl) rfl (Nat.le_of_ble_eq_true rfl) rfl).trans (congrArg Value.int ey150)
                    have iy150 : 0 ≤ y150.toInt ∧ y150.toInt ≤ 201 := by rw [← ey150]; exact hI.iv 0 (Nat.le_of_ble_eq_true rfl) rfl (Nat.le_of_ble_eq_true rfl) rfl
                    obtain ⟨y151, ey151⟩ : ∃ y, xi (E148 0) 22 = y := ⟨_, rfl⟩
                    have fy151 : xv (E148 0) 22 = .int y151 := (hI.fi 0 (Nat.le_of_ble_eq_true rfl) rfl (Nat.le_of_ble_eq_true rfl) rfl).trans (congrArg Value.int ey151)
                    have iy151 : -1 ≤ y151.toInt ∧ y151.toInt ≤ 201 := by rw [← ey151]; exact hI.iv 0 (Nat.le_of_ble_eq_true rfl) rfl (Nat.le_of_ble_eq_true rfl) rfl
                    obtain ⟨y152, ey152⟩ : ∃ y, xi (E148 0) 23 = y := ⟨_, rfl⟩
                    have fy152 : xv (E148 0) 23 = .int y152 := (hI.fi 0 (Nat.le_of_ble_eq_true rfl) rfl (Nat.le_of_ble_eq_true rfl) rfl).trans (congrArg Value.int ey152)
                    have iy152 : 0 ≤ y152.toInt ∧ y152.toInt ≤ 8 := by rw [← ey152]; exact hI.iv 0 (Nat.le_of_ble_eq_true rfl) rfl (Nat.le_of_ble_eq_true rfl) rfl
                    obtain ⟨f153, f154, f155, f156, f157⟩ := hw
                    try rw [(show xi (E137 0) 21 = y139 from vi_e fy139)] at f154
                    try rw [(show xi (E148 0) 21 = y150 from vi_e fy150)] at f154
                    try rw [(show xi (E137 0) 23 = y122 from vi_e ((kq138 0 23 rfl).trans fy122))] at f155
                    try rw [(show xi (E148 0) 23 = y152 from vi_e fy152)] at f155
                    try rw [(show xi (E137 0) 22 = y121 from vi_e ((kq138 0 22 rfl).trans fy121))] at f156
                    try rw [(show xi (E137 0) 23 = y122 from vi_e ((kq138 0 23 rfl).trans fy122))] at f156
                    try rw [(show xi (E148 0) 22 = y151 from vi_e fy151)] at f156
                    try rw [(show xi (E148 0) 23 = y152 from vi_e fy152)] at f156
                    try rw [(show xi (E137 0) 22 = y121 from vi_e ((kq138 0 22 rfl).trans fy121))] at f157
                    try rw [(show xi (E148 0) 22 = y151 from vi_e fy151)] at f157
                    refine lv_istore_n (lv' := [(2, .int r147), (3, .int r117), (4, .int r44), (1, .int r4), (0, .ref (ad 0))]) hx hb dX13_clause_124 rfl hl (by decide) rfl (fun ls hl => ?_)
                    refine lv_aload_n hx hb dX13_clause_125 rfl (lv_at hl 4 rfl) ?_
                    refine lv_bipush (v := 63) hx hb dX13_clause_126 (by decide) ?_
                    have z63 := ln_63
                    refine th_i (va_runV (As := [.int 63]) (rest := []) ⟨hx, hb, hml, hown, hts⟩ (q_takes l dC dI cT ad E148 H.size (63 : Int32) k nl hI (by exact hh0) (by exact hh1) (by exact hh2) (by exact (hKp 0 18 rfl).trans hh3) (by (try rw [hKp.ei 0 19 rfl]); exact hh4) (iv_w ln_63 (by decide))) (cwV 1 hts (gi_V (in_26 _ (zs16 (zs1 (zs1 (zs1 (zs0)))))) (in_26 _ (zs16 (zs4 (zs0)))) (in_26 _ (zs16 (zs4 (zs1 (zs0))))) (in_24 _ (zs4 (zs4 (zs4 (zs1 (zs1 (zs1 (zs0)))))))) (in_26 _ (zs16 (zs4 (zs1 (zs1 (zs0))))))) rfl rfl rfl ⟨rfl, hz_yX13_takes_1⟩ ⟨Nat.le_of_ble_eq_true rfl, Nat.le_of_ble_eq_true rfl⟩) ⟨HW_bl, va_recv hK hP (ci := 14) (q0 := 0) rfl (hI.ob 0 (Nat.le_of_ble_eq_true rfl) rfl), (HW_wi hP hK (WX_D hD) hS hA hEV)⟩ rfl rfl hl.1 rfl (lv_room (Nat.le_of_ble_eq_true rfl)) dX13_clause_128 ⟨Nat.le_of_ble_eq_true rfl, Nat.le_of_ble_eq_true rfl⟩) (WX_D hD) hS hA (fun r158 E159 H locs hw hP hS => ?_)
                    obtain ⟨hI, kq160, hw⟩ := hw
                    have hKb := hKp
                    have hKp := hKp.tr kq160 (wl_sub rfl rfl)
                    obtain ⟨y161, ey161⟩ : ∃ y, xi (E159 0) 21 = y := ⟨_, rfl⟩
                    have fy161 : xv (E159 0) 21 = .int y161 := (hI.fi 0 (Nat.le_of_ble_eq_true rfl) rfl (Nat.le_of_ble_eq_true rfl) rfl).trans (congrArg Value.int ey161)
                    have iy161 : 0 ≤ y161.toInt ∧ y161.toInt ≤ 201 := by rw [← ey161]; exact hI.iv 0 (Nat.le_of_ble_eq_true rfl) rfl (Nat.le_of_ble_eq_true rfl) rfl
                    obtain ⟨y162, ey162⟩ : ∃ y, xi (E159 0) 22 = y := ⟨_, rfl⟩
                    have fy162 : xv (E159 0) 22 = .int y162 := (hI.fi 0 (Nat.le_of_ble_eq_true rfl) rfl (Nat.le_of_ble_eq_true rfl) rfl).trans (congrArg Value.int ey162)
                    have iy162 : -1 ≤ y162.toInt ∧ y162.toInt ≤ 201 := by rw [← ey162]; exact hI.iv 0 (Nat.le_of_ble_eq_true rfl) rfl (Nat.le_of_ble_eq_true rfl) rfl
                    rcases hw with hw | hw
                    · -- takes, case 0
                      obtain ⟨rfl, f163, f164, f165, f166⟩ := hw
                      try rw [(show xi (E148 0) 21 = y150 from vi_e fy150)] at f163
                      try rw [(show xi (E159 0) 21 = y161 from vi_e fy161)] at f163
                      try rw [(show xi (E148 0) 22 = y151 from vi_e fy151)] at f164
                      try rw [(show xi (E159 0) 22 = y162 from vi_e fy162)] at f164
                      try rw [(show xi (E148 0) 22 = y151 from vi_e fy151)] at f165
                      try rw [(show xi (E159 0) 22 = y162 from vi_e fy162)] at f165
                      try rw [(show xi (E148 0) 21 = y150 from vi_e fy150)] at f166
                      try rw [(show xi (E159 0) 21 = y161 from vi_e fy161)] at f166
                      refine lv_if_ne (tgt := 135) hx hb dX13_clause_131 (by decide) (fun c167 => ?_) (fun c167 => ?_)
                      · --131 taken
                        refine lv_aload_n hx hb dX13_clause_135 rfl (lv_at hl 4 rfl) ?_
                        refine th_i (va_runV (As := []) (rest := []) ⟨hx, hb, hml, hown, hts⟩ ((q_group l 8).1 dC dI cT ad E159 H.size k nl hI (by exact hh0) (by exact hh1) (by exact hh2) (by exact (hKp 0 18 rfl).trans hh3) (by (try rw [hKp.ei 0 19 rfl]); exact hh4) (by (try rw [(show xi (E159 0) 23 = y152 from vi_e ((kq160 0 23 rfl).trans fy152))]); omega)) (cwV 0 hts (gi_V (in_26 _ (zs16 (zs0))) (in_26 _ (zs16 (zs1 (zs0)))) (in_26 _ (zs16 (zs1 (zs1 (zs0))))) (in_24 _ (zs4 (zs4 (zs4 (zs1 (zs1 (zs1 (zs0)))))))) (in_26 _ (zs16 (zs4 (zs4 (zs1 (zs1 (zs1 (zs0))))))))) rfl rfl rfl (by decide +kernel) ⟨(show 7 * 8 + 7 + 1 ≤ 68 from Nat.le_of_ble_eq_true rfl), (show 8 + (5 + 11) + 40 * (7 * 8 + 7) ≤ 40 * (68) from Nat.le_of_ble_eq_true rfl)⟩) ⟨HW_bl, va_recv hK hP (ci := 14) (q0 := 0) rfl (hI.ob 0 (Nat.le_of_ble_eq_true rfl) rfl), (HW_wi hP hK (WX_D hD) hS hA hEV)⟩ rfl rfl hl.1 rfl (lv_room (Nat.le_of_ble_eq_true rfl)) dX13_clause_136 ⟨Nat.le_of_ble_eq_true rfl, Nat.le_of_ble_eq_true rfl⟩) (WX_D hD) hS hA (fun r168 E169 H locs hw hP hS => ?_)
                        obtain ⟨hI, kq170, hw⟩ := hw
                        have hKb := hKp
                        have hKp := hKp.tr kq170 (wl_sub rfl rfl)
                        obtain ⟨y171, ey171⟩ : ∃ y, xi (E169 0) 21 = y := ⟨_, rfl⟩
                        have fy171 : xv (E169 0) 21 = .int y171 := (hI.fi 0 (Nat.le_of_ble_eq_true rfl) rfl (Nat.le_of_ble_eq_true rfl) rfl).trans (congrArg Value.int ey171)
                        have iy171 : 0 ≤ y171.toInt ∧ y171.toInt ≤ 201 := by rw [← ey171]; exact hI.iv 0 (Nat.le_of_ble_eq_true rfl) rfl (Nat.le_of_ble_eq_true rfl) rfl
                        obtain ⟨y172, ey172⟩ : ∃ y, xi (E169 0) 22 = y := ⟨_, rfl⟩
                        have fy172 : xv (E169 0) 22 = .int y172 := (hI.fi 0 (Nat.le_of_ble_eq_true rfl) rfl (Nat.le_of_ble_eq_true rfl) rfl).trans (congrArg Value.int ey172)
                        have iy172 : -1 ≤ y172.toInt ∧ y172.toInt ≤ 201 := by rw [← ey172]; exact hI.iv 0 (Nat.le_of_ble_eq_true rfl) rfl (Nat.le_of_ble_eq_true rfl) rfl
                        obtain ⟨y173, ey173⟩ : ∃ y, xi (E169 0) 23 = y := ⟨_, rfl⟩
                        have fy173 : xv (E169 0) 23 = .int y173 := (hI.fi 0 (Nat.le_of_ble_eq_true rfl) rfl (Nat.le_of_ble_eq_true rfl) rfl).trans (congrArg Value.int ey173)
                        have iy173 : 0 ≤ y173.toInt ∧ y173.toInt ≤ 8 := by rw [← ey173]; exact hI.iv 0 (Nat.le_of_ble_eq_true rfl) rfl (Nat.le_of_ble_eq_true rfl) rfl
                        obtain ⟨f174, f175, f176, f177⟩ := hw
                        try rw [(show xi (E159 0) 21 = y161 from vi_e fy161)] at f174
                        try rw [(show xi (E169 0) 21 = y171 from vi_e fy171)] at f174
                        try rw [(show xi (E159 0) 23 = y152 from vi_e ((kq160 0 23 rfl).trans fy152))] at f175
                        try rw [(show xi (E169 0) 23 = y173 from vi_e fy173)] at f175
                        try rw [(show xi (E159 0) 22 = y162 from vi_e fy162)] at f176
                        try rw [(show xi (E159 0) 23 = y152 from vi_e ((kq160 0 23 rfl).trans fy152))] at f176
                        try rw [(show xi (E169 0) 22 = y172 from vi_e fy172)] at f176
                        try rw [(show xi (E169 0) 23 = y173 from vi_e fy173)] at f176
                        try rw [(show xi (E159 0) 22 = y162 from vi_e fy162)] at f177
                        try rw [(show xi (E169 0) 22 = y172 from vi_e fy172)] at f177
                        refine lv_istore_n (lv' := [(3, .int r168), (2, .int r147), (4, .int r44), (1, .int r4), (0, .ref (ad 0))]) hx hb dX13_clause_139 rfl hl (by decide) rfl (fun ls hl => ?_)
                        refine lv_aload_n hx hb dX13_clause_140 rfl (lv_at hl 4 rfl) ?_
                        refine th_get (ci := 14) (C := RX13) (T := TX13) (N := 97) (v := .int y172) hx hb hts hinX13 hown hK hP hI 0 (Nat.le_of_ble_eq_true rfl) rfl rfl 22 (Nat.le_of_ble_eq_true rfl) (hts _ (vA_in _ _ (in_25 _ (zs16 (zs16 (zs4 (zs1 (zs1 (zs1 (zs0)))))))))) (fun _ h9 => h9) fy172 dX13_clause_141 ?_
                        refine lv_iconst (v := -1) hx hb dX13_clause_144 (by decide) ?_
                        refine lv_icmp_ne (tgt := 167) hx hb dX13_clause_145 (by decide) (fun c178 => ?_) (fun c178 => ?_)
                        · --145 taken
                          have t179 : ¬ y172.toInt = -1 := ti_ne c178
                          have i180 : 0 ≤ y172.toInt ∧ y172.toInt ≤ 201 := iv_ne_l t179 iy172 (il_ (-1))
                          rw [hQ]
                          exact W.vret hx hb hr (fun t ht hW => ⟨⟨E169, rfl, ⟨hI, hKp, ⟨by (try rw [(show xi (E169 0) 21 = y171 from vi_e fy171)]); (try rw [ey1]); first | done | exact (Int.le_trans (Int.le_trans (Int.le_trans (Int.le_trans (Int.le_trans (Int.le_trans (Int.le_trans (Int.le_trans f9 (Int.le_trans (Int.le_add_of_nonneg_right (by decide)) (Int.le_of_eq ty30.symm))) f39) f49) f123) f141) f154) f163) f174) | all_goals omega, by (try rw [(show xi (E169 0) 23 = y173 from vi_e fy173)]); (try rw [ey3]); first | done | exact (Int.le_trans (Int.le_trans f124 f155) f175) | all_goals omega, by (try rw [(show xi (E169 0) 22 = y172 from vi_e fy172)]); (try rw [(show xi (E169 0) 23 = y173 from vi_e fy173)]); (try rw [ey2]); (try rw [ey3]); first | done | exact fun q9 => absurd (q9) t179 | all_goals omega, by (try rw [(show xi (E169 0) 22 = y172 from vi_e fy172)]); (try rw [ey2]); first | done | exact fun q9 => absurd (q9) t179 | all_goals omega⟩⟩, by show va_P (dC, dI) vwCl (WX 72 ad E169) t.heap; rw [ht]; exact hP⟩, hS.F ht⟩) hS.2.2 dX13_clause_167
                        · --145 not
                          have t181 : y172.toInt = -1 := ti_eq c178
                          have i182 : -1 ≤ y172.toInt ∧ y172.toInt ≤ -1 := iv_eqi t181 iy172 (il_ (-1)) (by decide)
                          refine lv_aload_n hx hb dX13_clause_148 rfl (lv_at hl 4 rfl) ?_
                          obtain ⟨y183, ey183⟩ : ∃ y, xi (E169 0) 26 = y := ⟨_, rfl⟩
                          have fy183 : xv (E169 0) 26 = .int y183 := (hI.fi 0 (Nat.le_of_ble_eq_true rfl) rfl (Nat.le_of_ble_eq_true rfl) rfl).trans (congrArg Value.int ey183)
                          have iy183 : 0 ≤ y183.toInt ∧ y183.toInt ≤ 1 := by rw [← ey183]; exact hI.iv 0 (Nat.le_of_ble_eq_true rfl) rfl (Nat.le_of_ble_eq_true rfl) rfl
                          refine th_get (ci := 14) (C := RX13) (T := TX13) (N := 97) (v := .int y183) hx hb hts hinX13 hown hK hP hI 0 (Nat.le_of_ble_eq_true rfl) rfl rfl 26 (Nat.le_of_ble_eq_true rfl) (hts _ (vA_in _ _ (in_29 _ (zs4 (zs4 (zs4 (zs1 (zs0)))))))) (fun _ h9 => h9) fy183 dX13_clause_149 ?_
                          refine lv_if_ne (tgt := 167) hx hb dX13_clause_152 (by decide) (fun c184 => ?_) (fun c184 => ?_)
                          · --152 taken
                            have t185 : ¬ y183.toInt = 0 := ti_ne c184
                            have i186 : 1 ≤ y183.toInt ∧ y183.toInt ≤ 1 := iv_ne_l t185 iy183 (il_ 0)
                            rw [hQ]
                            exact W.vret hx hb hr (fun t ht hW => ⟨⟨E169, rfl, ⟨hI, hKp, ⟨by (try rw [(show xi (E169 0) 21 = y171 from vi_e fy171)]); (try rw [ey1]); first | done | exact (Int.le_trans (Int.le_trans (Int.le_trans (Int.le_trans (Int.le_trans (Int.le_trans (Int.le_trans (Int.le_trans f9 (Int.le_trans (Int.le_add_of_nonneg_right (by decide)) (Int.le_of_eq ty30.symm))) f39) f49) f123) f141) f154) f163) f174) | all_goals omega, by (try rw [(show xi (E169 0) 23 = y173 from vi_e fy173)]); (try rw [ey3]); first | done | exact (Int.le_trans (Int.le_trans f124 f155) f175) | all_goals omega, by (try rw [(show xi (E169 0) 22 = y172 from vi_e fy172)]); (try rw [(show xi (E169 0) 23 = y173 from vi_e fy173)]); (try rw [ey2]); (try rw [ey3]); first | done | exact fun q9 => ((f176 (q9)).trans ((f156 (f164)).trans (f125 (f157 (f164))))) | all_goals omega, by (try rw [(show xi (E169 0) 22 = y172 from vi_e fy172)]); (try rw [ey2]); first | done | exact fun q9 => f40 | all_goals omega⟩⟩, by show va_P (dC, dI) vwCl (WX 72 ad E169) t.heap; rw [ht]; exact hP⟩, hS.F ht⟩) hS.2.2 dX13_clause_167
                          · --152 not
                            have t187 : y183.toInt = 0 := ti_eq c184
                            have i188 : 0 ≤ y183.toInt ∧ y183.toInt ≤ 0 := iv_eqi t187 iy183 (il_ 0) (by decide)
                            refine lv_iload_n hx hb dX13_clause_155 rfl (lv_at hl 3 rfl) ?_
                            refine lv_aload_n hx hb dX13_clause_156 rfl (lv_at hl 4 rfl) ?_
                            have i189 : 0 ≤ (xi (E 0) 24).toInt ∧ (xi (E 0) 24).toInt ≤ 127 := hI0.iv 0 (Nat.le_of_ble_eq_true rfl) rfl (Nat.le_of_ble_eq_true rfl) rfl
                            refine th_get (ci := 14) (C := RX13) (T := TX13) (N := 97) (v := .int (xi (E 0) 24)) hx hb hts hinX13 hown hK hP hI 0 (Nat.le_of_ble_eq_true rfl) rfl rfl 24 (Nat.le_of_ble_eq_true rfl) (hts _ (vA_in _ _ (in_29 _ (zs4 (zs4 (zs4 (zs0))))))) (fun _ h9 => h9) (th_v0 hKp hI0 0 (Nat.le_of_ble_eq_true rfl) rfl (Nat.le_of_ble_eq_true rfl) rfl rfl) dX13_clause_157 ?_
                            refine lv_icmp_ne (tgt := 167) hx hb dX13_clause_160 (by decide) (fun c190 => ?_) (fun c190 => ?_)
                            · --160 taken
                              have t191 : ¬ r4.toInt = (xi (E 0) 24).toInt := ti_ne c190
                              rw [hQ]
                              exact W.vret hx hb hr (fun t ht hW => ⟨⟨E169, rfl, ⟨hI, hKp, ⟨by (try rw [(show xi (E169 0) 21 = y171 from vi_e fy171)]); (try rw [ey1]); first | done | exact (Int.le_trans (Int.le_trans (Int.le_trans (Int.le_trans (Int.le_trans (Int.le_trans (Int.le_trans (Int.le_trans f9 (Int.le_trans (Int.le_add_of_nonneg_right (by decide)) (Int.le_of_eq ty30.symm))) f39) f49) f123) f141) f154) f163) f174) | all_goals omega, by (try rw [(show xi (E169 0) 23 = y173 from vi_e fy173)]); (try rw [ey3]); first | done | exact (Int.le_trans (Int.le_trans f124 f155) f175) | all_goals omega, by (try rw [(show xi (E169 0) 22 = y172 from vi_e fy172)]); (try rw [(show xi (E169 0) 23 = y173 from vi_e fy173)]); (try rw [ey2]); (try rw [ey3]); first | done | exact fun q9 => ((f176 (q9)).trans ((f156 (f164)).trans (f125 (f157 (f164))))) | all_goals omega, by (try rw [(show xi (E169 0) 22 = y172 from vi_e fy172)]); (try rw [ey2]); first | done | exact fun q9 => f40 | all_goals omega⟩⟩, by show va_P (dC, dI) vwCl (WX 72 ad E169) t.heap; rw [ht]; exact hP⟩, hS.F ht⟩) hS.2.2 dX13_clause_167
                            · --160 not
                              have t192 : r4.toInt = (xi (E 0) 24).toInt := ti_eq c190
                              have i193 : 0 ≤ r4.toInt ∧ r4.toInt ≤ 127 := iv_eqi t192 i23 i189 (by decide)
                              refine lv_iload_n hx hb dX13_clause_163 rfl (lv_at hl 1 rfl) ?_
                              refine lv_if_ne (tgt := 168) hx hb dX13_clause_164 (by decide) (fun c194 => ?_) (fun c194 => ?_)
                              · --164 taken
                                have t195 : ¬ r147.toInt = 0 := ti_ne c194
                                have i196 : 1 ≤ r147.toInt ∧ r147.toInt ≤ 1 := iv_ne_l t195 f153 (il_ 0)
                                refine lv_aload_n hx hb dX13_clause_168 rfl (lv_at hl 4 rfl) ?_
                                refine lv_iconst (v := 1) hx hb dX13_clause_169 (by decide) ?_
                                refine th_put (ci := 14) (C := RX13) (T := TX13) (N := 97) (v := .int 1) (ty := .boolean) hx hb hts hinX13 tyX13 tyX13_ok nmX13 hown hK hP (WX_D hD) hS hI 0 (Nat.le_of_ble_eq_true rfl) rfl rfl 26 (Nat.le_of_ble_eq_true rfl) (hts _ (vA_in _ _ (in_29 _ (zs4 (zs4 (zs4 (zs1 (zs0)))))))) (fun _ h9 => h9) rfl (by decide +kernel) rfl rfl (okI rfl (iv_w ln_1 (by decide))) dX13_clause_170 (fun H locs E197 pw198 hI hP hS => ?_)
                                have hKp := hKp.pw pw198 rfl
                                refine lv_aload_n hx hb dX13_clause_173 rfl (lv_at hl 4 rfl) ?_
                                refine lv_iload_n hx hb dX13_clause_174 rfl (lv_at hl 0 rfl) ?_
                                refine th_put (ci := 14) (C := RX13) (T := TX13) (N := 97) (v := .int r168) (ty := .int) hx hb hts hinX13 tyX13 tyX13_ok nmX13 hown hK hP (WX_D hD) hS hI 0 (Nat.le_of_ble_eq_true rfl) rfl rfl 25 (Nat.le_of_ble_eq_true rfl) (hts _ (vA_in _ _ (in_29 _ zs0))) (fun _ h9 => h9) rfl (by decide +kernel) rfl rfl (okI rfl (iv_all _)) dX13_clause_175 (fun H locs E199 pw200 hI hP hS => ?_)
                                have hKp := hKp.pw pw200 rfl
                                rw [hQ]
                                exact W.vret hx hb hr (fun t ht hW => ⟨⟨E199, rfl, ⟨hI, hKp, ⟨by (try rw [(show xi (E199 0) 21 = y171 from vi_e ((pw200.2 0 21 (fun q9 => absurd q9.2 (Nat.ne_of_beq_eq_false rfl))).trans ((pw198.2 0 21 (fun q9 => absurd q9.2 (Nat.ne_of_beq_eq_false rfl))).trans fy171)))]); (try rw [ey1]); first | done | exact (Int.le_trans (Int.le_trans (Int.le_trans (Int.le_trans (Int.le_trans (Int.le_trans (Int.le_trans (Int.le_trans f9 (Int.le_trans (Int.le_add_of_nonneg_right (by decide)) (Int.le_of_eq ty30.symm))) f39) f49) f123) f141) f154) f163) f174) | all_goals omega, by (try rw [(show xi (E199 0) 23 = y173 from vi_e ((pw200.2 0 23 (fun q9 => absurd q9.2 (Nat.ne_of_beq_eq_false rfl))).trans ((pw198.2 0 23 (fun q9 => absurd q9.2 (Nat.ne_of_beq_eq_false rfl))).trans fy173)))]); (try rw [ey3]); first | done | exact (Int.le_trans (Int.le_trans f124 f155) f175) | all_goals omega, by (try rw [(show xi (E199 0) 22 = y172 from vi_e ((pw200.2 0 22 (fun q9 => absurd q9.2 (Nat.ne_of_beq_eq_false rfl))).trans ((pw198.2 0 22 (fun q9 => absurd q9.2 (Nat.ne_of_beq_eq_false rfl))).trans fy172)))]); (try rw [(show xi (E199 0) 23 = y173 from vi_e ((pw200.2 0 23 (fun q9 => absurd q9.2 (Nat.ne_of_beq_eq_false rfl))).trans ((pw198.2 0 23 (fun q9 => absurd q9.2 (Nat.ne_of_beq_eq_false rfl))).trans fy173)))]); (try rw [ey2]); (try rw [ey3]); first | done | exact fun q9 => ((f176 (q9)).trans ((f156 (f164)).trans (f125 (f157 (f164))))) | all_goals omega, by (try rw [(show xi (E199 0) 22 = y172 from vi_e ((pw200.2 0 22 (fun q9 => absurd q9.2 (Nat.ne_of_beq_eq_false rfl))).trans ((pw198.2 0 22 (fun q9 => absurd q9.2 (Nat.ne_of_beq_eq_false rfl))).trans fy172)))]); (try rw [ey2]); first | done | exact fun q9 => f40 | all_goals omega⟩⟩, by show va_P (dC, dI) vwCl (WX 72 ad E199) t.heap; rw [ht]; exact hP⟩, hS.F ht⟩) hS.2.2 dX13_clause_178
                              · --164 not
                                have t201 : r147.toInt = 0 := ti_eq c194
                                have i202 : 0 ≤ r147.toInt ∧ r147.toInt ≤ 0 := iv_eqi t201 f153 (il_ 0) (by decide)
                                rw [hQ]
                                exact W.vret hx hb hr (fun t ht hW => ⟨⟨E169, rfl, ⟨hI, hKp, ⟨by (try rw [(show xi (E169 0) 21 = y171 from vi_e fy171)]); (try rw [ey1]); first | done | exact (Int.le_trans (Int.le_trans (Int.le_trans (Int.le_trans (Int.le_trans (Int.le_trans (Int.le_trans (Int.le_trans f9 (Int.le_trans (Int.le_add_of_nonneg_right (by decide)) (Int.le_of_eq ty30.symm))) f39) f49) f123) f141) f154) f163) f174) | all_goals omega, by (try rw [(show xi (E169 0) 23 = y173 from vi_e fy173)]); (try rw [ey3]); first | done | exact (Int.le_trans (Int.le_trans f124 f155) f175) | all_goals omega, by (try rw [(show xi (E169 0) 22 = y172 from vi_e fy172)]); (try rw [(show xi (E169 0) 23 = y173 from vi_e fy173)]); (try rw [ey2]); (try rw [ey3]); first | done | exact fun q9 => ((f176 (q9)).trans ((f156 (f164)).trans (f125 (f157 (f164))))) | all_goals omega, by (try rw [(show xi (E169 0) 22 = y172 from vi_e fy172)]); (try rw [ey2]); first | done | exact fun q9 => f40 | all_goals omega⟩⟩, by show va_P (dC, dI) vwCl (WX 72 ad E169) t.heap; rw [ht]; exact hP⟩, hS.F ht⟩) hS.2.2 dX13_clause_167
                      · --131 not
                        exact absurd c167 (by decide)
                    · -- takes, case 1
                      obtain ⟨rfl, f203, f204⟩ := hw
                      try rw [(show xi (E148 0) 21 = y150 from vi_e fy150)] at f203
                      try rw [(show xi (E159 0) 21 = y161 from vi_e fy161)] at f203
                      try rw [(show xi (E148 0) 22 = y151 from vi_e fy151)] at f204
                      try rw [(show xi (E159 0) 22 = y162 from vi_e fy162)] at f204
                      refine lv_if_ne (tgt := 135) hx hb dX13_clause_131 (by decide) (fun c205 => ?_) (fun c205 => ?_)
                      · --131 taken
                        exact absurd c205 (by decide)
                      · --131 not
                        rw [hQ]
                        exact W.vret hx hb hr (fun t ht hW => ⟨⟨E159, rfl, ⟨hI, hKp, ⟨by (try rw [(show xi (E159 0) 21 = y161 from vi_e fy161)]); (try rw [ey1]); first | done | exact (Int.le_trans (Int.le_trans (Int.le_trans (Int.le_trans (Int.le_trans (Int.le_trans (Int.le_trans f9 (Int.le_trans (Int.le_add_of_nonneg_right (by decide)) (Int.le_of_eq ty30.symm))) f39) f49) f123) f141) f154) f203) | all_goals omega, by (try rw [(show xi (E159 0) 23 = y152 from vi_e ((kq160 0 23 rfl).trans fy152))]); (try rw [ey3]); first | done | exact (Int.le_trans f124 f155) | all_goals omega, by (try rw [(show xi (E159 0) 22 = y162 from vi_e fy162)]); (try rw [(show xi (E159 0) 23 = y152 from vi_e ((kq160 0 23 rfl).trans fy152))]); (try rw [ey2]); (try rw [ey3]); first | done | exact fun q9 => absurd (q9) f204 | all_goals omega, by (try rw [(show xi (E159 0) 22 = y162 from vi_e fy162)]); (try rw [ey2]); first | done | exact fun q9 => absurd (q9) f204 | all_goals omega⟩⟩, by show va_P (dC, dI) vwCl (WX 72 ad E159) t.heap; rw [ht]; exact hP⟩, hS.F ht⟩) hS.2.2 dX13_clause_134
                · -- isSign_, case 1
                  obtain rfl := hw
                  refine lv_if_eq (tgt := 140) hx hb dX13_clause_115 (by decide) (fun c206 => ?_) (fun c206 => ?_)
                  · --115 taken
                    refine lv_aload_n hx hb dX13_clause_140 rfl (lv_at hl 4 rfl) ?_
                    refine th_get (ci := 14) (C := RX13) (T := TX13) (N := 97) (v := .int y121) hx hb hts hinX13 hown hK hP hI 0 (Nat.le_of_ble_eq_true rfl) rfl rfl 22 (Nat.le_of_ble_eq_true rfl) (hts _ (vA_in _ _ (in_25 _ (zs16 (zs16 (zs4 (zs1 (zs1 (zs1 (zs0)))))))))) (fun _ h9 => h9) ((kq138 0 22 rfl).trans fy121) dX13_clause_141 ?_
                    refine lv_iconst (v := -1) hx hb dX13_clause_144 (by decide) ?_
                    refine lv_icmp_ne (tgt := 167) hx hb dX13_clause_145 (by decide) (fun c207 => ?_) (fun c207 => ?_)
                    · --145 taken
                      have t208 : ¬ y121.toInt = -1 := ti_ne c207
                      have i209 : 0 ≤ y121.toInt ∧ y121.toInt ≤ -1 := iv_ne_l t208 i135 (il_ (-1))
                      exact iv_no i209 (by decide)
                    · --145 not
                      have t210 : y121.toInt = -1 := ti_eq c207
                      refine lv_aload_n hx hb dX13_clause_148 rfl (lv_at hl 4 rfl) ?_
                      obtain ⟨y211, ey211⟩ : ∃ y, xi (E137 0) 26 = y := ⟨_, rfl⟩
                      have fy211 : xv (E137 0) 26 = .int y211 := (hI.fi 0 (Nat.le_of_ble_eq_true rfl) rfl (Nat.le_of_ble_eq_true rfl) rfl).trans (congrArg Value.int ey211)
                      have iy211 : 0 ≤ y211.toInt ∧ y211.toInt ≤ 1 := by rw [← ey211]; exact hI.iv 0 (Nat.le_of_ble_eq_true rfl) rfl (Nat.le_of_ble_eq_true rfl) rfl
                      refine th_get (ci := 14) (C := RX13) (T := TX13) (N := 97) (v := .int y211) hx hb hts hinX13 hown hK hP hI 0 (Nat.le_of_ble_eq_true rfl) rfl rfl 26 (Nat.le_of_ble_eq_true rfl) (hts _ (vA_in _ _ (in_29 _ (zs4 (zs4 (zs4 (zs1 (zs0)))))))) (fun _ h9 => h9) fy211 dX13_clause_149 ?_
                      refine lv_if_ne (tgt := 167) hx hb dX13_clause_152 (by decide) (fun c212 => ?_) (fun c212 => ?_)
                      · --152 taken
                        have t213 : ¬ y211.toInt = 0 := ti_ne c212
                        have i214 : 1 ≤ y211.toInt ∧ y211.toInt ≤ 1 := iv_ne_l t213 iy211 (il_ 0)
                        rw [hQ]
                        exact W.vret hx hb hr (fun t ht hW => ⟨⟨E137, rfl, ⟨hI, hKp, ⟨by (try rw [(show xi (E137 0) 21 = y139 from vi_e fy139)]); (try rw [ey1]); first | done | exact (Int.le_trans (Int.le_trans (Int.le_trans (Int.le_trans (Int.le_trans f9 (Int.le_trans (Int.le_add_of_nonneg_right (by decide)) (Int.le_of_eq ty30.symm))) f39) f49) f123) f141) | all_goals omega, by (try rw [(show xi (E137 0) 23 = y122 from vi_e ((kq138 0 23 rfl).trans fy122))]); (try rw [ey3]); first | done | exact f124 | all_goals omega, by (try rw [(show xi (E137 0) 22 = y121 from vi_e ((kq138 0 22 rfl).trans fy121))]); (try rw [(show xi (E137 0) 23 = y122 from vi_e ((kq138 0 23 rfl).trans fy122))]); (try rw [ey2]); (try rw [ey3]); first | done | exact fun q9 => (f125 (q9)) | all_goals omega, by (try rw [(show xi (E137 0) 22 = y121 from vi_e ((kq138 0 22 rfl).trans fy121))]); (try rw [ey2]); first | done | exact fun q9 => f40 | all_goals omega⟩⟩, by show va_P (dC, dI) vwCl (WX 72 ad E137) t.heap; rw [ht]; exact hP⟩, hS.F ht⟩) hS.2.2 dX13_clause_167
                      · --152 not
                        have t215 : y211.toInt = 0 := ti_eq c212
                        have i216 : 0 ≤ y211.toInt ∧ y211.toInt ≤ 0 := iv_eqi t215 iy211 (il_ 0) (by decide)
                        refine lv_iload_n hx hb dX13_clause_155 rfl (lv_at hl 3 rfl) ?_
                        refine lv_aload_n hx hb dX13_clause_156 rfl (lv_at hl 4 rfl) ?_
                        have i217 : 0 ≤ (xi (E 0) 24).toInt ∧ (xi (E 0) 24).toInt ≤ 127 := hI0.iv 0 (Nat.le_of_ble_eq_true rfl) rfl (Nat.le_of_ble_eq_true rfl) rfl
                        refine th_get (ci := 14) (C := RX13) (T := TX13) (N := 97) (v := .int (xi (E 0) 24)) hx hb hts hinX13 hown hK hP hI 0 (Nat.le_of_ble_eq_true rfl) rfl rfl 24 (Nat.le_of_ble_eq_true rfl) (hts _ (vA_in _ _ (in_29 _ (zs4 (zs4 (zs4 (zs0))))))) (fun _ h9 => h9) (th_v0 hKp hI0 0 (Nat.le_of_ble_eq_true rfl) rfl (Nat.le_of_ble_eq_true rfl) rfl rfl) dX13_clause_157 ?_
                        refine lv_icmp_ne (tgt := 167) hx hb dX13_clause_160 (by decide) (fun c218 => ?_) (fun c218 => ?_)
                        · --160 taken
                          have t219 : ¬ r4.toInt = (xi (E 0) 24).toInt := ti_ne c218
                          rw [hQ]
                          exact W.vret hx hb hr (fun t ht hW => ⟨⟨E137, rfl, ⟨hI, hKp, ⟨by (try rw [(show xi (E137 0) 21 = y139 from vi_e fy139)]); (try rw [ey1]); first | done | exact (Int.le_trans (Int.le_trans (Int.le_trans (Int.le_trans (Int.le_trans f9 (Int.le_trans (Int.le_add_of_nonneg_right (by decide)) (Int.le_of_eq ty30.symm))) f39) f49) f123) f141) | all_goals omega, by (try rw [(show xi (E137 0) 23 = y122 from vi_e ((kq138 0 23 rfl).trans fy122))]); (try rw [ey3]); first | done | exact f124 | all_goals omega, by (try rw [(show xi (E137 0) 22 = y121 from vi_e ((kq138 0 22 rfl).trans fy121))]); (try rw [(show xi (E137 0) 23 = y122 from vi_e ((kq138 0 23 rfl).trans fy122))]); (try rw [ey2]); (try rw [ey3]); first | done | exact fun q9 => (f125 (q9)) | all_goals omega, by (try rw [(show xi (E137 0) 22 = y121 from vi_e ((kq138 0 22 rfl).trans fy121))]); (try rw [ey2]); first | done | exact fun q9 => f40 | all_goals omega⟩⟩, by show va_P (dC, dI) vwCl (WX 72 ad E137) t.heap; rw [ht]; exact hP⟩, hS.F ht⟩) hS.2.2 dX13_clause_167
                        · --160 not
                          have t220 : r4.toInt = (xi (E 0) 24).toInt := ti_eq c218
                          have i221 : 0 ≤ r4.toInt ∧ r4.toInt ≤ 127 := iv_eqi t220 i23 i217 (by decide)
                          refine lv_iload_n hx hb dX13_clause_163 rfl (lv_at hl 2 rfl) ?_
                          refine lv_if_ne (tgt := 168) hx hb dX13_clause_164 (by decide) (fun c222 => ?_) (fun c222 => ?_)
                          · --164 taken
                            refine lv_aload_n hx hb dX13_clause_168 rfl (lv_at hl 4 rfl) ?_
                            refine lv_iconst (v := 1) hx hb dX13_clause_169 (by decide) ?_
                            refine th_put (ci := 14) (C := RX13) (T := TX13) (N := 97) (v := .int 1) (ty := .boolean) hx hb hts hinX13 tyX13 tyX13_ok nmX13 hown hK hP (WX_D hD) hS hI 0 (Nat.le_of_ble_eq_true rfl) rfl rfl 26 (Nat.le_of_ble_eq_true rfl) (hts _ (vA_in _ _ (in_29 _ (zs4 (zs4 (zs4 (zs1 (zs0)))))))) (fun _ h9 => h9) rfl (by decide +kernel) rfl rfl (okI rfl (iv_w ln_1 (by decide))) dX13_clause_170 (fun H locs E223 pw224 hI hP hS => ?_)
                            have hKp := hKp.pw pw224 rfl
                            refine lv_aload_n hx hb dX13_clause_173 rfl (lv_at hl 4 rfl) ?_
                            refine lv_iload_n hx hb dX13_clause_174 rfl (lv_at hl 0 rfl) ?_
                            refine th_put (ci := 14) (C := RX13) (T := TX13) (N := 97) (v := .int r117) (ty := .int) hx hb hts hinX13 tyX13 tyX13_ok nmX13 hown hK hP (WX_D hD) hS hI 0 (Nat.le_of_ble_eq_true rfl) rfl rfl 25 (Nat.le_of_ble_eq_true rfl) (hts _ (vA_in _ _ (in_29 _ zs0))) (fun _ h9 => h9) rfl (by decide +kernel) rfl rfl (okI rfl (iv_all _)) dX13_clause_175 (fun H locs E225 pw226 hI hP hS => ?_)
                            have hKp := hKp.pw pw226 rfl
                            rw [hQ]
                            exact W.vret hx hb hr (fun t ht hW => ⟨⟨E225, rfl, ⟨hI, hKp, ⟨by (try rw [(show xi (E225 0) 21 = y139 from vi_e ((pw226.2 0 21 (fun q9 => absurd q9.2 (Nat.ne_of_beq_eq_false rfl))).trans ((pw224.2 0 21 (fun q9 => absurd q9.2 (Nat.ne_of_beq_eq_false rfl))).trans fy139)))]); (try rw [ey1]); first | done | exact (Int.le_trans (Int.le_trans (Int.le_trans (Int.le_trans (Int.le_trans f9 (Int.le_trans (Int.le_add_of_nonneg_right (by decide)) (Int.le_of_eq ty30.symm))) f39) f49) f123) f141) | all_goals omega, by (try rw [(show xi (E225 0) 23 = y122 from vi_e ((pw226.2 0 23 (fun q9 => absurd q9.2 (Nat.ne_of_beq_eq_false rfl))).trans ((pw224.2 0 23 (fun q9 => absurd q9.2 (Nat.ne_of_beq_eq_false rfl))).trans ((kq138 0 23 rfl).trans fy122))))]); (try rw [ey3]); first | done | exact f124 | all_goals omega, by (try rw [(show xi (E225 0) 22 = y121 from vi_e ((pw226.2 0 22 (fun q9 => absurd q9.2 (Nat.ne_of_beq_eq_false rfl))).trans ((pw224.2 0 22 (fun q9 => absurd q9.2 (Nat.ne_of_beq_eq_false rfl))).trans ((kq138 0 22 rfl).trans fy121))))]); (try rw [(show xi (E225 0) 23 = y122 from vi_e ((pw226.2 0 23 (fun q9 => absurd q9.2 (Nat.ne_of_beq_eq_false rfl))).trans ((pw224.2 0 23 (fun q9 => absurd q9.2 (Nat.ne_of_beq_eq_false rfl))).trans ((kq138 0 23 rfl).trans fy122))))]); (try rw [ey2]); (try rw [ey3]); first | done | exact fun q9 => (f125 (q9)) | all_goals omega, by (try rw [(show xi (E225 0) 22 = y121 from vi_e ((pw226.2 0 22 (fun q9 => absurd q9.2 (Nat.ne_of_beq_eq_false rfl))).trans ((pw224.2 0 22 (fun q9 => absurd q9.2 (Nat.ne_of_beq_eq_false rfl))).trans ((kq138 0 22 rfl).trans fy121))))]); (try rw [ey2]); first | done | exact fun q9 => f40 | all_goals omega⟩⟩, by show va_P (dC, dI) vwCl (WX 72 ad E225) t.heap; rw [ht]; exact hP⟩, hS.F ht⟩) hS.2.2 dX13_clause_178
                          · --164 not
                            exact absurd c222 (by decide)
                  · --115 not
                    exact absurd c206 (by decide)
            · --67 not
              have t227 : r44.toInt = 40 := ti_eq c115
              have i228 : 40 ≤ r44.toInt ∧ r44.toInt ≤ 40 := iv_eqi t227 f48 (il_ 40) (by decide)
              refine lv_aload_n hx hb dX13_clause_70 rfl (lv_at hl 4 rfl) ?_
              refine lv_iconst (v := 0) hx hb dX13_clause_71 (by decide) ?_
              refine lv_iconst (v := 0) hx hb dX13_clause_72 (by decide) ?_
              have z0 := ln_0
              refine th_i (va_runV (As := [.int 0, .int 0]) (rest := []) ⟨hx, hb, hml, hown, hts⟩ ((q_group l 8).2.2 dC dI cT ad E45 H.size (0 : Int32) (0 : Int32) k nl hI (by exact hh0) (by exact hh1) (by exact hh2) (by exact (hKp 0 18 rfl).trans hh3) (by (try rw [hKp.ei 0 19 rfl]); exact hh4) (by (try rw [(show xi (E45 0) 23 = y3 from vi_e ((kq46 0 23 rfl).trans ((kq36 0 23 rfl).trans ((pw33.2 0 23 (fun q9 => absurd q9.2 (Nat.ne_of_beq_eq_false rfl))).trans ((kq6 0 23 rfl).trans fy3)))))]); omega) (iv_w ln_0 (by decide))) (cwV 2 hts (gi_V (in_29 _ (zs16 (zs1 (zs1 (zs0))))) (in_29 _ (zs16 (zs1 (zs1 (zs1 (zs0)))))) (in_29 _ (zs16 (zs4 (zs0)))) (in_24 _ (zs4 (zs4 (zs4 (zs1 (zs1 (zs1 (zs0)))))))) (in_29 _ (zs16 (zs4 (zs1 (zs0)))))) rfl rfl rfl (by decide +kernel) ⟨(show 7 * 8 + 11 + 1 ≤ 68 from Nat.le_of_ble_eq_true rfl), (show 8 + (5 + 11) + 40 * (7 * 8 + 11) ≤ 40 * (68) from Nat.le_of_ble_eq_true rfl)⟩) ⟨HW_bl, va_recv hK hP (ci := 14) (q0 := 0) rfl (hI.ob 0 (Nat.le_of_ble_eq_true rfl) rfl), (HW_wi hP hK (WX_D hD) hS hA hEV)⟩ rfl rfl hl.1 rfl (lv_room (Nat.le_of_ble_eq_true rfl)) dX13_clause_73 ⟨Nat.le_of_ble_eq_true rfl, Nat.le_of_ble_eq_true rfl⟩) (WX_D hD) hS hA (fun r229 E230 H locs hw hP hS => ?_)
              obtain ⟨hI, kq231, hw⟩ := hw
              have hKb := hKp
              have hKp := hKp.tr kq231 (wl_sub rfl rfl)
              obtain ⟨y232, ey232⟩ : ∃ y, xi (E230 0) 21 = y := ⟨_, rfl⟩
              have fy232 : xv (E230 0) 21 = .int y232 := (hI.fi 0 (Nat.le_of_ble_eq_true rfl) rfl (Nat.le_of_ble_eq_true rfl) rfl).trans (congrArg Value.int ey232)
              have iy232 : 0 ≤ y232.toInt ∧ y232.toInt ≤ 201 := by rw [← ey232]; exact hI.iv 0 (Nat.le_of_ble_eq_true rfl) rfl (Nat.le_of_ble_eq_true rfl) rfl
              obtain ⟨y233, ey233⟩ : ∃ y, xi (E230 0) 22 = y := ⟨_, rfl⟩
              have fy233 : xv (E230 0) 22 = .int y233 := (hI.fi 0 (Nat.le_of_ble_eq_true rfl) rfl (Nat.le_of_ble_eq_true rfl) rfl).trans (congrArg Value.int ey233)
              have iy233 : -1 ≤ y233.toInt ∧ y233.toInt ≤ 201 := by rw [← ey233]; exact hI.iv 0 (Nat.le_of_ble_eq_true rfl) rfl (Nat.le_of_ble_eq_true rfl) rfl
              obtain ⟨y234, ey234⟩ : ∃ y, xi (E230 0) 23 = y := ⟨_, rfl⟩
              have fy234 : xv (E230 0) 23 = .int y234 := (hI.fi 0 (Nat.le_of_ble_eq_true rfl) rfl (Nat.le_of_ble_eq_true rfl) rfl).trans (congrArg Value.int ey234)
              have iy234 : 0 ≤ y234.toInt ∧ y234.toInt ≤ 8 := by rw [← ey234]; exact hI.iv 0 (Nat.le_of_ble_eq_true rfl) rfl (Nat.le_of_ble_eq_true rfl) rfl
              obtain ⟨f235, f236, f237, f238, f239⟩ := hw
              try rw [(show xi (E45 0) 21 = y47 from vi_e fy47)] at f236
              try rw [(show xi (E230 0) 21 = y232 from vi_e fy232)] at f236
              try rw [(show xi (E45 0) 23 = y3 from vi_e ((kq46 0 23 rfl).trans ((kq36 0 23 rfl).trans ((pw33.2 0 23 (fun q9 => absurd q9.2 (Nat.ne_of_beq_eq_false rfl))).trans ((kq6 0 23 rfl).trans fy3)))))] at f237
              try rw [(show xi (E230 0) 23 = y234 from vi_e fy234)] at f237
              try rw [(show xi (E45 0) 22 = y38 from vi_e ((kq46 0 22 rfl).trans fy38))] at f238
              try rw [(show xi (E45 0) 23 = y3 from vi_e ((kq46 0 23 rfl).trans ((kq36 0 23 rfl).trans ((pw33.2 0 23 (fun q9 => absurd q9.2 (Nat.ne_of_beq_eq_false rfl))).trans ((kq6 0 23 rfl).trans fy3)))))] at f238
              try rw [(show xi (E230 0) 22 = y233 from vi_e fy233)] at f238
              try rw [(show xi (E230 0) 23 = y234 from vi_e fy234)] at f238
              try rw [(show xi (E45 0) 22 = y38 from vi_e ((kq46 0 22 rfl).trans fy38))] at f239
              try rw [(show xi (E230 0) 22 = y233 from vi_e fy233)] at f239
              refine lv_istore_n (lv' := [(2, .int r229), (4, .int r44), (3, .int 0), (1, .int r4), (0, .ref (ad 0))]) hx hb dX13_clause_76 rfl hl (by decide) rfl (fun ls hl => ?_)
              refine lv_aload_n hx hb dX13_clause_77 rfl (lv_at hl 4 rfl) ?_
              refine lv_bipush (v := 63) hx hb dX13_clause_78 (by decide) ?_
              have z63 := ln_63
              refine th_i (va_runV (As := [.int 63]) (rest := []) ⟨hx, hb, hml, hown, hts⟩ (q_takes l dC dI cT ad E230 H.size (63 : Int32) k nl hI (by exact hh0) (by exact hh1) (by exact hh2) (by exact (hKp 0 18 rfl).trans hh3) (by (try rw [hKp.ei 0 19 rfl]); exact hh4) (iv_w ln_63 (by decide))) (cwV 1 hts (gi_V (in_26 _ (zs16 (zs1 (zs1 (zs1 (zs0)))))) (in_26 _ (zs16 (zs4 (zs0)))) (in_26 _ (zs16 (zs4 (zs1 (zs0))))) (in_24 _ (zs4 (zs4 (zs4 (zs1 (zs1 (zs1 (zs0)))))))) (in_26 _ (zs16 (zs4 (zs1 (zs1 (zs0))))))) rfl rfl rfl ⟨rfl, hz_yX13_takes_1⟩ ⟨Nat.le_of_ble_eq_true rfl, Nat.le_of_ble_eq_true rfl⟩) ⟨HW_bl, va_recv hK hP (ci := 14) (q0 := 0) rfl (hI.ob 0 (Nat.le_of_ble_eq_true rfl) rfl), (HW_wi hP hK (WX_D hD) hS hA hEV)⟩ rfl rfl hl.1 rfl (lv_room (Nat.le_of_ble_eq_true rfl)) dX13_clause_80 ⟨Nat.le_of_ble_eq_true rfl, Nat.le_of_ble_eq_true rfl⟩) (WX_D hD) hS hA (fun r240 E241 H locs hw hP hS => ?_)
              obtain ⟨hI, kq242, hw⟩ := hw
              have hKb := hKp
              have hKp := hKp.tr kq242 (wl_sub rfl rfl)
              obtain ⟨y243, ey243⟩ : ∃ y, xi (E241 0) 21 = y := ⟨_, rfl⟩
              have fy243 : xv (E241 0) 21 = .int y243 := (hI.fi 0 (Nat.le_of_ble_eq_true rfl) rfl (Nat.le_of_ble_eq_true rfl) rfl).trans (congrArg Value.int ey243)
              have iy243 : 0 ≤ y243.toInt ∧ y243.toInt ≤ 201 := by rw [← ey243]; exact hI.iv 0 (Nat.le_of_ble_eq_true rfl) rfl (Nat.le_of_ble_eq_true rfl) rfl
              obtain ⟨y244, ey244⟩ : ∃ y, xi (E241 0) 22 = y := ⟨_, rfl⟩
              have fy244 : xv (E241 0) 22 = .int y244 := (hI.fi 0 (Nat.le_of_ble_eq_true rfl) rfl (Nat.le_of_ble_eq_true rfl) rfl).trans (congrArg Value.int ey244)
              have iy244 : -1 ≤ y244.toInt ∧ y244.toInt ≤ 201 := by rw [← ey244]; exact hI.iv 0 (Nat.le_of_ble_eq_true rfl) rfl (Nat.le_of_ble_eq_true rfl) rfl
              rcases hw with hw | hw
              · -- takes, case 0
                obtain ⟨rfl, f245, f246, f247, f248⟩ := hw
                try rw [(show xi (E230 0) 21 = y232 from vi_e fy232)] at f245
                try rw [(show xi (E241 0) 21 = y243 from vi_e fy243)] at f245
                try rw [(show xi (E230 0) 22 = y233 from vi_e fy233)] at f246
                try rw [(show xi (E241 0) 22 = y244 from vi_e fy244)] at f246
                try rw [(show xi (E230 0) 22 = y233 from vi_e fy233)] at f247
                try rw [(show xi (E241 0) 22 = y244 from vi_e fy244)] at f247
                try rw [(show xi (E230 0) 21 = y232 from vi_e fy232)] at f248
                try rw [(show xi (E241 0) 21 = y243 from vi_e fy243)] at f248
                refine lv_if_ne (tgt := 87) hx hb dX13_clause_83 (by decide) (fun c249 => ?_) (fun c249 => ?_)
                · --83 taken
                  refine lv_aload_n hx hb dX13_clause_87 rfl (lv_at hl 4 rfl) ?_
                  refine th_i (va_runV (As := []) (rest := []) ⟨hx, hb, hml, hown, hts⟩ ((q_group l 8).1 dC dI cT ad E241 H.size k nl hI (by exact hh0) (by exact hh1) (by exact hh2) (by exact (hKp 0 18 rfl).trans hh3) (by (try rw [hKp.ei 0 19 rfl]); exact hh4) (by (try rw [(show xi (E241 0) 23 = y234 from vi_e ((kq242 0 23 rfl).trans fy234))]); omega)) (cwV 0 hts (gi_V (in_26 _ (zs16 (zs0))) (in_26 _ (zs16 (zs1 (zs0)))) (in_26 _ (zs16 (zs1 (zs1 (zs0))))) (in_24 _ (zs4 (zs4 (zs4 (zs1 (zs1 (zs1 (zs0)))))))) (in_26 _ (zs16 (zs4 (zs4 (zs1 (zs1 (zs1 (zs0))))))))) rfl rfl rfl (by decide +kernel) ⟨(show 7 * 8 + 7 + 1 ≤ 68 from Nat.le_of_ble_eq_true rfl), (show 8 + (5 + 11) + 40 * (7 * 8 + 7) ≤ 40 * (68) from Nat.le_of_ble_eq_true rfl)⟩) ⟨HW_bl, va_recv hK hP (ci := 14) (q0 := 0) rfl (hI.ob 0 (Nat.le_of_ble_eq_true rfl) rfl), (HW_wi hP hK (WX_D hD) hS hA hEV)⟩ rfl rfl hl.1 rfl (lv_room (Nat.le_of_ble_eq_true rfl)) dX13_clause_88 ⟨Nat.le_of_ble_eq_true rfl, Nat.le_of_ble_eq_true rfl⟩) (WX_D hD) hS hA (fun r250 E251 H locs hw hP hS => ?_)
                  obtain ⟨hI, kq252, hw⟩ := hw
                  have hKb := hKp
                  have hKp := hKp.tr kq252 (wl_sub rfl rfl)
                  obtain ⟨y253, ey253⟩ : ∃ y, xi (E251 0) 21 = y := ⟨_, rfl⟩
                  have fy253 : xv (E251 0) 21 = .int y253 := (hI.fi 0 (Nat.le_of_ble_eq_true rfl) rfl (Nat.le_of_ble_eq_true rfl) rfl).trans (congrArg Value.int ey253)
                  have iy253 : 0 ≤ y253.toInt ∧ y253.toInt ≤ 201 := by rw [← ey253]; exact hI.iv 0 (Nat.le_of_ble_eq_true rfl) rfl (Nat.le_of_ble_eq_true rfl) rfl
                  obtain ⟨y254, ey254⟩ : ∃ y, xi (E251 0) 22 = y := ⟨_, rfl⟩
                  have fy254 : xv (E251 0) 22 = .int y254 := (hI.fi 0 (Nat.le_of_ble_eq_true rfl) rfl (Nat.le_of_ble_eq_true rfl) rfl).trans (congrArg Value.int ey254)
                  have iy254 : -1 ≤ y254.toInt ∧ y254.toInt ≤ 201 := by rw [← ey254]; exact hI.iv 0 (Nat.le_of_ble_eq_true rfl) rfl (Nat.le_of_ble_eq_true rfl) rfl
                  obtain ⟨y255, ey255⟩ : ∃ y, xi (E251 0) 23 = y := ⟨_, rfl⟩
                  have fy255 : xv (E251 0) 23 = .int y255 := (hI.fi 0 (Nat.le_of_ble_eq_true rfl) rfl (Nat.le_of_ble_eq_true rfl) rfl).trans (congrArg Value.int ey255)
                  have iy255 : 0 ≤ y255.toInt ∧ y255.toInt ≤ 8 := by rw [← ey255]; exact hI.iv 0 (Nat.le_of_ble_eq_true rfl) rfl (Nat.le_of_ble_eq_true rfl) rfl
                  obtain ⟨f256, f257, f258, f259⟩ := hw
                  try rw [(show xi (E241 0) 21 = y243 from vi_e fy243)] at f256
                  try rw [(show xi (E251 0) 21 = y253 from vi_e fy253)] at f256
                  try rw [(show xi (E241 0) 23 = y234 from vi_e ((kq242 0 23 rfl).trans fy234))] at f257
                  try rw [(show xi (E251 0) 23 = y255 from vi_e fy255)] at f257
                  try rw [(show xi (E241 0) 22 = y244 from vi_e fy244)] at f258
                  try rw [(show xi (E241 0) 23 = y234 from vi_e ((kq242 0 23 rfl).trans fy234))] at f258
                  try rw [(show xi (E251 0) 22 = y254 from vi_e fy254)] at f258
                  try rw [(show xi (E251 0) 23 = y255 from vi_e fy255)] at f258
                  try rw [(show xi (E241 0) 22 = y244 from vi_e fy244)] at f259
                  try rw [(show xi (E251 0) 22 = y254 from vi_e fy254)] at f259
                  refine lv_istore_n (lv' := [(3, .int r250), (2, .int r229), (4, .int r44), (1, .int r4), (0, .ref (ad 0))]) hx hb dX13_clause_91 rfl hl (by decide) rfl (fun ls hl => ?_)
                  refine lv_goto (tgt := 140) hx hb dX13_clause_92 (by decide) ?_
                  refine lv_aload_n hx hb dX13_clause_140 rfl (lv_at hl 4 rfl) ?_
                  refine th_get (ci := 14) (C := RX13) (T := TX13) (N := 97) (v := .int y254) hx hb hts hinX13 hown hK hP hI 0 (Nat.le_of_ble_eq_true rfl) rfl rfl 22 (Nat.le_of_ble_eq_true rfl) (hts _ (vA_in _ _ (in_25 _ (zs16 (zs16 (zs4 (zs1 (zs1 (zs1 (zs0)))))))))) (fun _ h9 => h9) fy254 dX13_clause_141 ?_
                  refine lv_iconst (v := -1) hx hb dX13_clause_144 (by decide) ?_
                  refine lv_icmp_ne (tgt := 167) hx hb dX13_clause_145 (by decide) (fun c260 => ?_) (fun c260 => ?_)
                  · --145 taken
                    have t261 : ¬ y254.toInt = -1 := ti_ne c260
                    have i262 : 0 ≤ y254.toInt ∧ y254.toInt ≤ 201 := iv_ne_l t261 iy254 (il_ (-1))
                    rw [hQ]
                    exact W.vret hx hb hr (fun t ht hW => ⟨⟨E251, rfl, ⟨hI, hKp, ⟨by (try rw [(show xi (E251 0) 21 = y253 from vi_e fy253)]); (try rw [ey1]); first | done | exact (Int.le_trans (Int.le_trans (Int.le_trans (Int.le_trans (Int.le_trans (Int.le_trans f9 (Int.le_trans (Int.le_add_of_nonneg_right (by decide)) (Int.le_of_eq ty30.symm))) f39) f49) f236) f245) f256) | all_goals omega, by (try rw [(show xi (E251 0) 23 = y255 from vi_e fy255)]); (try rw [ey3]); first | done | exact (Int.le_trans f237 f257) | all_goals omega, by (try rw [(show xi (E251 0) 22 = y254 from vi_e fy254)]); (try rw [(show xi (E251 0) 23 = y255 from vi_e fy255)]); (try rw [ey2]); (try rw [ey3]); first | done | exact fun q9 => absurd (q9) t261 | all_goals omega, by (try rw [(show xi (E251 0) 22 = y254 from vi_e fy254)]); (try rw [ey2]); first | done | exact fun q9 => absurd (q9) t261 | all_goals omega⟩⟩, by show va_P (dC, dI) vwCl (WX 72 ad E251) t.heap; rw [ht]; exact hP⟩, hS.F ht⟩) hS.2.2 dX13_clause_167
                  · --145 not
                    have t263 : y254.toInt = -1 := ti_eq c260
                    have i264 : -1 ≤ y254.toInt ∧ y254.toInt ≤ -1 := iv_eqi t263 iy254 (il_ (-1)) (by decide)
                    refine lv_aload_n hx hb dX13_clause_148 rfl (lv_at hl 4 rfl) ?_
                    obtain ⟨y265, ey265⟩ : ∃ y, xi (E251 0) 26 = y := ⟨_, rfl⟩
                    have fy265 : xv (E251 0) 26 = .int y265 := (hI.fi 0 (Nat.le_of_ble_eq_true rfl) rfl (Nat.le_of_ble_eq_true rfl) rfl).trans (congrArg Value.int ey265)
                    have iy265 : 0 ≤ y265.toInt ∧ y265.toInt ≤ 1 := by rw [← ey265]; exact hI.iv 0 (Nat.le_of_ble_eq_true rfl) rfl (Nat.le_of_ble_eq_true rfl) rfl
                    refine th_get (ci := 14) (C := RX13) (T := TX13) (N := 97) (v := .int y265) hx hb hts hinX13 hown hK hP hI 0 (Nat.le_of_ble_eq_true rfl) rfl rfl 26 (Nat.le_of_ble_eq_true rfl) (hts _ (vA_in _ _ (in_29 _ (zs4 (zs4 (zs4 (zs1 (zs0)))))))) (fun _ h9 => h9) fy265 dX13_clause_149 ?_
                    refine lv_if_ne (tgt := 167) hx hb dX13_clause_152 (by decide) (fun c266 => ?_) (fun c266 => ?_)
                    · --152 taken
                      have t267 : ¬ y265.toInt = 0 := ti_ne c266
                      have i268 : 1 ≤ y265.toInt ∧ y265.toInt ≤ 1 := iv_ne_l t267 iy265 (il_ 0)
                      rw [hQ]
                      exact W.vret hx hb hr (fun t ht hW => ⟨⟨E251, rfl, ⟨hI, hKp, ⟨by (try rw [(show xi (E251 0) 21 = y253 from vi_e fy253)]); (try rw [ey1]); first | done | exact (Int.le_trans (Int.le_trans (Int.le_trans (Int.le_trans (Int.le_trans (Int.le_trans f9 (Int.le_trans (Int.le_add_of_nonneg_right (by decide)) (Int.le_of_eq ty30.symm))) f39) f49) f236) f245) f256) | all_goals omega, by (try rw [(show xi (E251 0) 23 = y255 from vi_e fy255)]); (try rw [ey3]); first | done | exact (Int.le_trans f237 f257) | all_goals omega, by (try rw [(show xi (E251 0) 22 = y254 from vi_e fy254)]); (try rw [(show xi (E251 0) 23 = y255 from vi_e fy255)]); (try rw [ey2]); (try rw [ey3]); first | done | exact fun q9 => ((f258 (q9)).trans (f238 (f246))) | all_goals omega, by (try rw [(show xi (E251 0) 22 = y254 from vi_e fy254)]); (try rw [ey2]); first | done | exact fun q9 => f40 | all_goals omega⟩⟩, by show va_P (dC, dI) vwCl (WX 72 ad E251) t.heap; rw [ht]; exact hP⟩, hS.F ht⟩) hS.2.2 dX13_clause_167
                    · --152 not
                      have t269 : y265.toInt = 0 := ti_eq c266
                      have i270 : 0 ≤ y265.toInt ∧ y265.toInt ≤ 0 := iv_eqi t269 iy265 (il_ 0) (by decide)
                      refine lv_iload_n hx hb dX13_clause_155 rfl (lv_at hl 3 rfl) ?_
                      refine lv_aload_n hx hb dX13_clause_156 rfl (lv_at hl 4 rfl) ?_
                      have i271 : 0 ≤ (xi (E 0) 24).toInt ∧ (xi (E 0) 24).toInt ≤ 127 := hI0.iv 0 (Nat.le_of_ble_eq_true rfl) rfl (Nat.le_of_ble_eq_true rfl) rfl
                      refine th_get (ci := 14) (C := RX13) (T := TX13) (N := 97) (v := .int (xi (E 0) 24)) hx hb hts hinX13 hown hK hP hI 0 (Nat.le_of_ble_eq_true rfl) rfl rfl 24 (Nat.le_of_ble_eq_true rfl) (hts _ (vA_in _ _ (in_29 _ (zs4 (zs4 (zs4 (zs0))))))) (fun _ h9 => h9) (th_v0 hKp hI0 0 (Nat.le_of_ble_eq_true rfl) rfl (Nat.le_of_ble_eq_true rfl) rfl rfl) dX13_clause_157 ?_
                      refine lv_icmp_ne (tgt := 167) hx hb dX13_clause_160 (by decide) (fun c272 => ?_) (fun c272 => ?_)
                      · --160 taken
                        have t273 : ¬ r4.toInt = (xi (E 0) 24).toInt := ti_ne c272
                        rw [hQ]
                        exact W.vret hx hb hr (fun t ht hW => ⟨⟨E251, rfl, ⟨hI, hKp, ⟨by (try rw [(show xi (E251 0) 21 = y253 from vi_e fy253)]); (try rw [ey1]); first | done | exact (Int.le_trans (Int.le_trans (Int.le_trans (Int.le_trans (Int.le_trans (Int.le_trans f9 (Int.le_trans (Int.le_add_of_nonneg_right (by decide)) (Int.le_of_eq ty30.symm))) f39) f49) f236) f245) f256) | all_goals omega, by (try rw [(show xi (E251 0) 23 = y255 from vi_e fy255)]); (try rw [ey3]); first | done | exact (Int.le_trans f237 f257) | all_goals omega, by (try rw [(show xi (E251 0) 22 = y254 from vi_e fy254)]); (try rw [(show xi (E251 0) 23 = y255 from vi_e fy255)]); (try rw [ey2]); (try rw [ey3]); first | done | exact fun q9 => ((f258 (q9)).trans (f238 (f246))) | all_goals omega, by (try rw [(show xi (E251 0) 22 = y254 from vi_e fy254)]); (try rw [ey2]); first | done | exact fun q9 => f40 | all_goals omega⟩⟩, by show va_P (dC, dI) vwCl (WX 72 ad E251) t.heap; rw [ht]; exact hP⟩, hS.F ht⟩) hS.2.2 dX13_clause_167
                      · --160 not
                        have t274 : r4.toInt = (xi (E 0) 24).toInt := ti_eq c272
                        have i275 : 0 ≤ r4.toInt ∧ r4.toInt ≤ 127 := iv_eqi t274 i23 i271 (by decide)
                        refine lv_iload_n hx hb dX13_clause_163 rfl (lv_at hl 1 rfl) ?_
                        refine lv_if_ne (tgt := 168) hx hb dX13_clause_164 (by decide) (fun c276 => ?_) (fun c276 => ?_)
                        · --164 taken
                          have t277 : ¬ r229.toInt = 0 := ti_ne c276
                          have i278 : 1 ≤ r229.toInt ∧ r229.toInt ≤ 1 := iv_ne_l t277 f235 (il_ 0)
                          refine lv_aload_n hx hb dX13_clause_168 rfl (lv_at hl 4 rfl) ?_
                          refine lv_iconst (v := 1) hx hb dX13_clause_169 (by decide) ?_
                          refine th_put (ci := 14) (C := RX13) (T := TX13) (N := 97) (v := .int 1) (ty := .boolean) hx hb hts hinX13 tyX13 tyX13_ok nmX13 hown hK hP (WX_D hD) hS hI 0 (Nat.le_of_ble_eq_true rfl) rfl rfl 26 (Nat.le_of_ble_eq_true rfl) (hts _ (vA_in _ _ (in_29 _ (zs4 (zs4 (zs4 (zs1 (zs0)))))))) (fun _ h9 => h9) rfl (by decide +kernel) rfl rfl (okI rfl (iv_w ln_1 (by decide))) dX13_clause_170 (fun H locs E279 pw280 hI hP hS => ?_)
                          have hKp := hKp.pw pw280 rfl
                          refine lv_aload_n hx hb dX13_clause_173 rfl (lv_at hl 4 rfl) ?_
                          refine lv_iload_n hx hb dX13_clause_174 rfl (lv_at hl 0 rfl) ?_
                          refine th_put (ci := 14) (C := RX13) (T := TX13) (N := 97) (v := .int r250) (ty := .int) hx hb hts hinX13 tyX13 tyX13_ok nmX13 hown hK hP (WX_D hD) hS hI 0 (Nat.le_of_ble_eq_true rfl) rfl rfl 25 (Nat.le_of_ble_eq_true rfl) (hts _ (vA_in _ _ (in_29 _ zs0))) (fun _ h9 => h9) rfl (by decide +kernel) rfl rfl (okI rfl (iv_all _)) dX13_clause_175 (fun H locs E281 pw282 hI hP hS => ?_)
                          have hKp := hKp.pw pw282 rfl
                          rw [hQ]
                          exact W.vret hx hb hr (fun t ht hW => ⟨⟨E281, rfl, ⟨hI, hKp, ⟨by (try rw [(show xi (E281 0) 21 = y253 from vi_e ((pw282.2 0 21 (fun q9 => absurd q9.2 (Nat.ne_of_beq_eq_false rfl))).trans ((pw280.2 0 21 (fun q9 => absurd q9.2 (Nat.ne_of_beq_eq_false rfl))).trans fy253)))]); (try rw [ey1]); first | done | exact (Int.le_trans (Int.le_trans (Int.le_trans (Int.le_trans (Int.le_trans (Int.le_trans f9 (Int.le_trans (Int.le_add_of_nonneg_right (by decide)) (Int.le_of_eq ty30.symm))) f39) f49) f236) f245) f256) | all_goals omega, by (try rw [(show xi (E281 0) 23 = y255 from vi_e ((pw282.2 0 23 (fun q9 => absurd q9.2 (Nat.ne_of_beq_eq_false rfl))).trans ((pw280.2 0 23 (fun q9 => absurd q9.2 (Nat.ne_of_beq_eq_false rfl))).trans fy255)))]); (try rw [ey3]); first | done | exact (Int.le_trans f237 f257) | all_goals omega, by (try rw [(show xi (E281 0) 22 = y254 from vi_e ((pw282.2 0 22 (fun q9 => absurd q9.2 (Nat.ne_of_beq_eq_false rfl))).trans ((pw280.2 0 22 (fun q9 => absurd q9.2 (Nat.ne_of_beq_eq_false rfl))).trans fy254)))]); (try rw [(show xi (E281 0) 23 = y255 from vi_e ((pw282.2 0 23 (fun q9 => absurd q9.2 (Nat.ne_of_beq_eq_false rfl))).trans ((pw280.2 0 23 (fun q9 => absurd q9.2 (Nat.ne_of_beq_eq_false rfl))).trans fy255)))]); (try rw [ey2]); (try rw [ey3]); first | done | exact fun q9 => ((f258 (q9)).trans (f238 (f246))) | all_goals omega, by (try rw [(show xi (E281 0) 22 = y254 from vi_e ((pw282.2 0 22 (fun q9 => absurd q9.2 (Nat.ne_of_beq_eq_false rfl))).trans ((pw280.2 0 22 (fun q9 => absurd q9.2 (Nat.ne_of_beq_eq_false rfl))).trans fy254)))]); (try rw [ey2]); first | done | exact fun q9 => f40 | all_goals omega⟩⟩, by show va_P (dC, dI) vwCl (WX 72 ad E281) t.heap; rw [ht]; exact hP⟩, hS.F ht⟩) hS.2.2 dX13_clause_178
                        · --164 not
                          have t283 : r229.toInt = 0 := ti_eq c276
                          have i284 : 0 ≤ r229.toInt ∧ r229.toInt ≤ 0 := iv_eqi t283 f235 (il_ 0) (by decide)
                          rw [hQ]
                          exact W.vret hx hb hr (fun t ht hW => ⟨⟨E251, rfl, ⟨hI, hKp, ⟨by (try rw [(show xi (E251 0) 21 = y253 from vi_e fy253)]); (try rw [ey1]); first | done | exact (Int.le_trans (Int.le_trans (Int.le_trans (Int.le_trans (Int.le_trans (Int.le_trans f9 (Int.le_trans (Int.le_add_of_nonneg_right (by decide)) (Int.le_of_eq ty30.symm))) f39) f49) f236) f245) f256) | all_goals omega, by (try rw [(show xi (E251 0) 23 = y255 from vi_e fy255)]); (try rw [ey3]); first | done | exact (Int.le_trans f237 f257) | all_goals omega, by (try rw [(show xi (E251 0) 22 = y254 from vi_e fy254)]); (try rw [(show xi (E251 0) 23 = y255 from vi_e fy255)]); (try rw [ey2]); (try rw [ey3]); first | done | exact fun q9 => ((f258 (q9)).trans (f238 (f246))) | all_goals omega, by (try rw [(show xi (E251 0) 22 = y254 from vi_e fy254)]); (try rw [ey2]); first | done | exact fun q9 => f40 | all_goals omega⟩⟩, by show va_P (dC, dI) vwCl (WX 72 ad E251) t.heap; rw [ht]; exact hP⟩, hS.F ht⟩) hS.2.2 dX13_clause_167
                · --83 not
                  exact absurd c249 (by decide)
              · -- takes, case 1
                obtain ⟨rfl, f285, f286⟩ := hw
                try rw [(show xi (E230 0) 21 = y232 from vi_e fy232)] at f285
                try rw [(show xi (E241 0) 21 = y243 from vi_e fy243)] at f285
                try rw [(show xi (E230 0) 22 = y233 from vi_e fy233)] at f286
                try rw [(show xi (E241 0) 22 = y244 from vi_e fy244)] at f286
                refine lv_if_ne (tgt := 87) hx hb dX13_clause_83 (by decide) (fun c287 => ?_) (fun c287 => ?_)
                · --83 taken
                  exact absurd c287 (by decide)
                · --83 not
                  rw [hQ]
                  exact W.vret hx hb hr (fun t ht hW => ⟨⟨E241, rfl, ⟨hI, hKp, ⟨by (try rw [(show xi (E241 0) 21 = y243 from vi_e fy243)]); (try rw [ey1]); first | done | exact (Int.le_trans (Int.le_trans (Int.le_trans (Int.le_trans (Int.le_trans f9 (Int.le_trans (Int.le_add_of_nonneg_right (by decide)) (Int.le_of_eq ty30.symm))) f39) f49) f236) f285) | all_goals omega, by (try rw [(show xi (E241 0) 23 = y234 from vi_e ((kq242 0 23 rfl).trans fy234))]); (try rw [ey3]); first | done | exact f237 | all_goals omega, by (try rw [(show xi (E241 0) 22 = y244 from vi_e fy244)]); (try rw [(show xi (E241 0) 23 = y234 from vi_e ((kq242 0 23 rfl).trans fy234))]); (try rw [ey2]); (try rw [ey3]); first | done | exact fun q9 => absurd (q9) f286 | all_goals omega, by (try rw [(show xi (E241 0) 22 = y244 from vi_e fy244)]); (try rw [ey2]); first | done | exact fun q9 => absurd (q9) f286 | all_goals omega⟩⟩, by show va_P (dC, dI) vwCl (WX 72 ad E241) t.heap; rw [ht]; exact hP⟩, hS.F ht⟩) hS.2.2 dX13_clause_86
        · --42 not
          exact absurd c43 (by decide)
      · -- takes, case 1
        obtain ⟨rfl, f288, f289⟩ := hw
        try rw [(show xi (E32 0) 21 = y30 from vi_e pw33.1)] at f288
        try rw [(show xi (E35 0) 21 = y37 from vi_e fy37)] at f288
        try rw [(show xi (E32 0) 22 = y2 from vi_e ((pw33.2 0 22 (fun q9 => absurd q9.2 (Nat.ne_of_beq_eq_false rfl))).trans ((kq6 0 22 rfl).trans fy2)))] at f289
        try rw [(show xi (E35 0) 22 = y38 from vi_e fy38)] at f289
        refine lv_if_ne (tgt := 46) hx hb dX13_clause_42 (by decide) (fun c290 => ?_) (fun c290 => ?_)
        · --42 taken
          exact absurd c290 (by decide)
        · --42 not
          rw [hQ]
          exact W.vret hx hb hr (fun t ht hW => ⟨⟨E35, rfl, ⟨hI, hKp, ⟨by (try rw [(show xi (E35 0) 21 = y37 from vi_e fy37)]); (try rw [ey1]); first | done | exact (Int.le_trans (Int.le_trans f9 (Int.le_trans (Int.le_add_of_nonneg_right (by decide)) (Int.le_of_eq ty30.symm))) f288) | all_goals omega, by (try rw [(show xi (E35 0) 23 = y3 from vi_e ((kq36 0 23 rfl).trans ((pw33.2 0 23 (fun q9 => absurd q9.2 (Nat.ne_of_beq_eq_false rfl))).trans ((kq6 0 23 rfl).trans fy3))))]); (try rw [ey3]); first | done | exact Int.le_refl _ | all_goals omega, by (try rw [(show xi (E35 0) 22 = y38 from vi_e fy38)]); (try rw [(show xi (E35 0) 23 = y3 from vi_e ((kq36 0 23 rfl).trans ((pw33.2 0 23 (fun q9 => absurd q9.2 (Nat.ne_of_beq_eq_false rfl))).trans ((kq6 0 23 rfl).trans fy3))))]); (try rw [ey2]); (try rw [ey3]); first | done | exact fun q9 => absurd (q9) f289 | all_goals omega, by (try rw [(show xi (E35 0) 22 = y38 from vi_e fy38)]); (try rw [ey2]); first | done | exact fun q9 => absurd (q9) f289 | all_goals omega⟩⟩, by show va_P (dC, dI) vwCl (WX 72 ad E35) t.heap; rw [ht]; exact hP⟩, hS.F ht⟩) hS.2.2 dX13_clause_45
    · --17 not
      have t291 : r24.toInt < 0 := ti_nle c27
      have i292 : -1 ≤ r24.toInt ∧ r24.toInt ≤ -1 := iv_lt_l t291 f25 (il_ 0) (by decide)
      refine lv_aload_n hx hb dX13_clause_20 rfl (lv_at hl 1 rfl) ?_
      refine th_i (va_runV (As := []) (rest := []) ⟨hx, hb, hml, hown, hts⟩ (q_stop l dC dI cT ad E5 H.size hI) (cwV 0 hts (gi_V (in_26 _ (zs4 (zs4 (zs4 (zs0))))) (in_26 _ (zs4 (zs4 (zs4 (zs1 (zs0)))))) (in_26 _ (zs4 (zs4 (zs4 (zs1 (zs1 (zs0))))))) (in_24 _ (zs4 (zs4 (zs4 (zs1 (zs1 (zs1 (zs0)))))))) (in_26 _ (zs4 (zs4 (zs4 (zs1 (zs1 (zs1 (zs0))))))))) rfl rfl rfl ⟨rfl, hz_yX13_stop_0⟩ ⟨Nat.le_of_ble_eq_true rfl, Nat.le_of_ble_eq_true rfl⟩) ⟨HW_bl, va_recv hK hP (ci := 14) (q0 := 0) rfl (hI.ob 0 (Nat.le_of_ble_eq_true rfl) rfl), (HW_wi hP hK (WX_D hD) hS hA hEV)⟩ rfl rfl hl.1 rfl (lv_room (Nat.le_of_ble_eq_true rfl)) dX13_clause_21 ⟨Nat.le_of_ble_eq_true rfl, Nat.le_of_ble_eq_true rfl⟩) (WX_D hD) hS hA (fun r293 E294 H locs hw hP hS => ?_)
      obtain ⟨hI, kq295, hw⟩ := hw
      have hKb := hKp
      have hKp := hKp.tr kq295 (wl_sub rfl rfl)
      obtain ⟨y296, ey296⟩ : ∃ y, xi (E294 0) 22 = y := ⟨_, rfl⟩
      have fy296 : xv (E294 0) 22 = .int y296 := (hI.fi 0 (Nat.le_of_ble_eq_true rfl) rfl (Nat.le_of_ble_eq_true rfl) rfl).trans (congrArg Value.int ey296)
      have iy296 : -1 ≤ y296.toInt ∧ y296.toInt ≤ 201 := by rw [← ey296]; exact hI.iv 0 (Nat.le_of_ble_eq_true rfl) rfl (Nat.le_of_ble_eq_true rfl) rfl
      obtain ⟨rfl, f297⟩ := hw
      try rw [(show xi (E5 0) 22 = y2 from vi_e ((kq6 0 22 rfl).trans fy2))] at f297
      try rw [(show xi (E294 0) 22 = y296 from vi_e fy296)] at f297
      refine lv_pop hx hb dX13_clause_24 rfl ?_
      rw [hQ]
      exact W.vret hx hb hr (fun t ht hW => ⟨⟨E294, rfl, ⟨hI, hKp, ⟨by (try rw [(show xi (E294 0) 21 = y7 from vi_e ((kq295 0 21 rfl).trans fy7))]); (try rw [ey1]); first | done | exact f9 | all_goals omega, by (try rw [(show xi (E294 0) 23 = y3 from vi_e ((kq295 0 23 rfl).trans ((kq6 0 23 rfl).trans fy3)))]); (try rw [ey3]); first | done | exact Int.le_refl _ | all_goals omega, by (try rw [(show xi (E294 0) 22 = y296 from vi_e fy296)]); (try rw [(show xi (E294 0) 23 = y3 from vi_e ((kq295 0 23 rfl).trans ((kq6 0 23 rfl).trans fy3)))]); (try rw [ey2]); (try rw [ey3]); first | done | exact fun q9 => absurd (q9) f297 | all_goals omega, by (try rw [(show xi (E294 0) 22 = y296 from vi_e fy296)]); (try rw [ey2]); first | done | exact fun q9 => absurd (q9) f297 | all_goals omega⟩⟩, by show va_P (dC, dI) vwCl (WX 72 ad E294) t.heap; rw [ht]; exact hP⟩, hS.F ht⟩) hS.2.2 dX13_clause_25
def v_goThroughR : List Cond := .code yX13_goThrough cX13_goThrough 5 none :: vA
abbrev rm_goThroughR : Room := { frames := 69, cells := 0, slots := 0, locals := 2760 }
def w_goThroughR : Nat → Nat → Bool := wl [] [(0, 18), (0, 19), (0, 20), (0, 21), (0, 22), (0, 23), (0, 24), (0, 25), (0, 26)]
set_option maxHeartbeats 4000000 in
set_option maxRecDepth 100000 in
theorem q_goThroughR (l : Launch) (dC : Nat → ClassId) (dI : Nat → Nat → Nat) (cT : Nat → ClassId) (ad : Nat → Nat) (E : Nat → va_E) (sz : Nat) (a1 : Int32) (a2 : Int32) (a3 : Int32) (hI0 : IX cT shM spM 72 ad E) (hh0 : 0 ≤ a1.toInt ∧ a1.toInt ≤ 3000) (hh1 : 0 ≤ a2.toInt ∧ a2.toInt ≤ 200) (hh2 : 0 ≤ a3.toInt ∧ a3.toInt ≤ 127) : Met l yX13_goThrough v_goThroughR rm_goThroughR (va_Pc [.ref (ad 0), .ref (ad 8), .int a1, .int a2, .int a3] (HW dC dI (TYM cT) 72 ad E sz)) (va_Qv (S := Nat → va_E) (fun u => IX cT shM spM 72 ad u ∧ Kp w_goThroughR E u ∧ (True)) (HB dC dI 72 ad) (va_A (WX 72 ad E) sz)) 0 0 (va_A (WX 72 ad E) sz) := by
  refine Met.ofW (cc := cX13_goThrough) (maxL := 5) (ret := none) (by decide) rfl ?_
  intro p e s m args below meth c s₁ B hml hv
  obtain ⟨hargs, hsz, hP, hK, hD0, hEV⟩ := hv
  subst hsz
  have hx := B.exec
  have hb := B.bytes
  have hr := B.returns
  have hts := atoms_spec (ws := v_goThroughR) B.pre
  have hown : s.vm.findClass RX13 = some m.cls := findClass_of_methodNamed B.named
  have hlocks := B.notSynchronized
  have hinX13 : ∀ w ∈ u_ws RX13 TX13 97, w ∈ v_goThroughR := fun w h => vA_in _ w (in_X13 w h)
  generalize hAe : va_A (WX 72 ad E) s.heap.size = A at hEV ⊢
  have hA : ∀ q : Nat, s.heap.size ≤ q → A q := fun q h => by rw [← hAe]; exact Or.inr h
  have hD : va_D A (WX 72 ad E) := by rw [← hAe]; exact hD0.self
  have hS : va_S A s.heap s.heap [] := va_S.rf
  have hI := hI0
  have hKp : Kp w_goThroughR E E := Kp.rf
  have hl := lv_entry ([.ref (ad 0), .ref (ad 8), .int a1, .int a2, .int a3]) (n := 5) (Nat.le_of_ble_eq_true rfl)
  obtain ⟨Q, hQ⟩ : ∃ Q, Q = MQ below (va_Qv (S := Nat → va_E) (fun u => IX cT shM spM 72 ad u ∧ Kp w_goThroughR E u ∧ (True)) (HB dC dI 72 ad) (A)) args s 0 0 (A) := ⟨_, rfl⟩
  rw [← hQ, show entryFrame m args 5 = _ from (congrArg (fun z => entryFrame m z 5) hargs).trans (lg_entry_eq _ _ _)]
  generalize (lg_sl ([.ref (ad 0), .ref (ad 8), .int a1, .int a2, .int a3]) ++ List.replicate (5 - (lg_sl ([.ref (ad 0), .ref (ad 8), .int a1, .int a2, .int a3])).length) Slot.unset).toArray = ls at hl ⊢
  have hl : lv_has ls 5 [(0, .ref (ad 0)), (1, .ref (ad 8)), (2, .int a1), (3, .int a2), (4, .int a3)] := hl
  refine lv_aload_n hx hb dX13_goThrough_0 rfl (lv_at hl 0 rfl) ?_
  refine lv_aload_n hx hb dX13_goThrough_1 rfl (lv_at hl 1 rfl) ?_
  refine th_put (ci := 14) (C := RX13) (T := TX13) (N := 97) (v := .ref (ad 8)) (ty := .array .byte) hx hb hts hinX13 tyX13 tyX13_ok nmX13 hown hK hP (WX_D hD) hS hI 0 (Nat.le_of_ble_eq_true rfl) rfl rfl 18 (Nat.le_of_ble_eq_true rfl) (hts _ (vA_in _ _ (in_26 _ zs0))) (fun _ h9 => h9) rfl (by decide +kernel) rfl rfl (Or.inr rfl) dX13_goThrough_2 (fun H locs E1 pw2 hI hP hS => ?_)
  have hKp := hKp.pw pw2 rfl
  refine lv_aload_n hx hb dX13_goThrough_5 rfl (lv_at hl 0 rfl) ?_
  refine lv_iload_n hx hb dX13_goThrough_6 rfl (lv_at hl 2 rfl) ?_
  refine th_put (ci := 14) (C := RX13) (T := TX13) (N := 97) (v := .int a1) (ty := .int) hx hb hts hinX13 tyX13 tyX13_ok nmX13 hown hK hP (WX_D hD) hS hI 0 (Nat.le_of_ble_eq_true rfl) rfl rfl 19 (Nat.le_of_ble_eq_true rfl) (hts _ (vA_in _ _ (in_26 _ (zs1 (zs0))))) (fun _ h9 => h9) rfl (by decide +kernel) rfl rfl (okI rfl hh0) dX13_goThrough_7 (fun H locs E3 pw4 hI hP hS => ?_)
  have hKp := hKp.pw pw4 rfl
  refine lv_aload_n hx hb dX13_goThrough_10 rfl (lv_at hl 0 rfl) ?_
  refine lv_iload_n hx hb dX13_goThrough_11 rfl (lv_at hl 3 rfl) ?_
  refine th_put (ci := 14) (C := RX13) (T := TX13) (N := 97) (v := .int a2) (ty := .int) hx hb hts hinX13 tyX13 tyX13_ok nmX13 hown hK hP (WX_D hD) hS hI 0 (Nat.le_of_ble_eq_true rfl) rfl rfl 20 (Nat.le_of_ble_eq_true rfl) (hts _ (vA_in _ _ (in_26 _ (zs4 (zs1 (zs1 (zs0))))))) (fun _ h9 => h9) rfl (by decide +kernel) rfl rfl (okI rfl hh1) dX13_goThrough_12 (fun H locs E5 pw6 hI hP hS => ?_)
  have hKp := hKp.pw pw6 rfl
  refine lv_aload_n hx hb dX13_goThrough_15 rfl (lv_at hl 0 rfl) ?_
  refine lv_iload hx hb dX13_goThrough_16 (lv_at hl 4 rfl) ?_
  refine th_put (ci := 14) (C := RX13) (T := TX13) (N := 97) (v := .int a3) (ty := .int) hx hb hts hinX13 tyX13 tyX13_ok nmX13 hown hK hP (WX_D hD) hS hI 0 (Nat.le_of_ble_eq_true rfl) rfl rfl 24 (Nat.le_of_ble_eq_true rfl) (hts _ (vA_in _ _ (in_29 _ (zs4 (zs4 (zs4 (zs0))))))) (fun _ h9 => h9) rfl (by decide +kernel) rfl rfl (okI rfl hh2) dX13_goThrough_18 (fun H locs E7 pw8 hI hP hS => ?_)
  have hKp := hKp.pw pw8 rfl
  refine lv_aload_n hx hb dX13_goThrough_21 rfl (lv_at hl 0 rfl) ?_
  refine lv_iconst (v := 0) hx hb dX13_goThrough_22 (by decide) ?_
  refine th_put (ci := 14) (C := RX13) (T := TX13) (N := 97) (v := .int 0) (ty := .int) hx hb hts hinX13 tyX13 tyX13_ok nmX13 hown hK hP (WX_D hD) hS hI 0 (Nat.le_of_ble_eq_true rfl) rfl rfl 21 (Nat.le_of_ble_eq_true rfl) (hts _ (vA_in _ _ (in_25 _ (zs16 (zs16 (zs4 (zs0))))))) (fun _ h9 => h9) rfl (by decide +kernel) rfl rfl (okI rfl (iv_w ln_0 (by decide))) dX13_goThrough_23 (fun H locs E9 pw10 hI hP hS => ?_)
  have hKp := hKp.pw pw10 rfl
  refine lv_aload_n hx hb dX13_goThrough_26 rfl (lv_at hl 0 rfl) ?_
  refine lv_iconst (v := -1) hx hb dX13_goThrough_27 (by decide) ?_
  refine th_put (ci := 14) (C := RX13) (T := TX13) (N := 97) (v := .int (-1)) (ty := .int) hx hb hts hinX13 tyX13 tyX13_ok nmX13 hown hK hP (WX_D hD) hS hI 0 (Nat.le_of_ble_eq_true rfl) rfl rfl 22 (Nat.le_of_ble_eq_true rfl) (hts _ (vA_in _ _ (in_25 _ (zs16 (zs16 (zs4 (zs1 (zs1 (zs1 (zs0)))))))))) (fun _ h9 => h9) rfl (by decide +kernel) rfl rfl (okI rfl (iv_w ln_m1 (by decide))) dX13_goThrough_28 (fun H locs E11 pw12 hI hP hS => ?_)
  have hKp := hKp.pw pw12 rfl
  refine lv_aload_n hx hb dX13_goThrough_31 rfl (lv_at hl 0 rfl) ?_
  refine lv_iconst (v := 0) hx hb dX13_goThrough_32 (by decide) ?_
  refine th_put (ci := 14) (C := RX13) (T := TX13) (N := 97) (v := .int 0) (ty := .int) hx hb hts hinX13 tyX13 tyX13_ok nmX13 hown hK hP (WX_D hD) hS hI 0 (Nat.le_of_ble_eq_true rfl) rfl rfl 23 (Nat.le_of_ble_eq_true rfl) (hts _ (vA_in _ _ (in_25 _ (zs16 (zs16 (zs4 (zs1 (zs1 (zs0))))))))) (fun _ h9 => h9) rfl (by decide +kernel) rfl rfl (okI rfl (iv_w ln_0 (by decide))) dX13_goThrough_33 (fun H locs E13 pw14 hI hP hS => ?_)
  have hKp := hKp.pw pw14 rfl
  refine lv_aload_n hx hb dX13_goThrough_36 rfl (lv_at hl 0 rfl) ?_
  refine lv_iconst (v := 0) hx hb dX13_goThrough_37 (by decide) ?_
  refine th_put (ci := 14) (C := RX13) (T := TX13) (N := 97) (v := .int 0) (ty := .boolean) hx hb hts hinX13 tyX13 tyX13_ok nmX13 hown hK hP (WX_D hD) hS hI 0 (Nat.le_of_ble_eq_true rfl) rfl rfl 26 (Nat.le_of_ble_eq_true rfl) (hts _ (vA_in _ _ (in_29 _ (zs4 (zs4 (zs4 (zs1 (zs0)))))))) (fun _ h9 => h9) rfl (by decide +kernel) rfl rfl (okI rfl (iv_w ln_0 (by decide))) dX13_goThrough_38 (fun H locs E15 pw16 hI hP hS => ?_)
  have hKp := hKp.pw pw16 rfl
  refine lv_aload_n hx hb dX13_goThrough_41 rfl (lv_at hl 0 rfl) ?_
  refine lv_iload hx hb dX13_goThrough_42 (lv_at hl 4 rfl) ?_
  refine lv_bipush (v := 110) hx hb dX13_goThrough_44 (by decide) ?_
  have hJ56 : ∀ (s56_0 : Int32) (H : Heap) (locs : List Loc) (ls : Array Slot), 0 ≤ s56_0.toInt ∧ s56_0.toInt ≤ 1000 → va_P (dC, dI) vwCl (WX 72 ad E15) H → va_S A s.heap H locs → lv_has ls 5 [(0, .ref (ad 0)), (1, .ref (ad 8)), (2, .int a1), (3, .int a2), (4, .int a3)] → W p l e (headSpec v_goThroughR rm_goThroughR).room s m args below meth c H locs 0 0 Q (F0 m 56 ls [.int s56_0, .ref (ad 0)]) := by
    intro s56_0 H locs ls hs56_0 hP hS hl
    refine th_put (ci := 14) (C := RX13) (T := TX13) (N := 97) (v := .int s56_0) (ty := .int) hx hb hts hinX13 tyX13 tyX13_ok nmX13 hown hK hP (WX_D hD) hS hI 0 (Nat.le_of_ble_eq_true rfl) rfl rfl 25 (Nat.le_of_ble_eq_true rfl) (hts _ (vA_in _ _ (in_29 _ zs0))) (fun _ h9 => h9) rfl (by decide +kernel) rfl rfl (okI rfl (iv_w hs56_0 (by decide))) dX13_goThrough_56 (fun H locs E17 pw18 hI hP hS => ?_)
    have hKp := hKp.pw pw18 rfl
    refine lv_aload_n hx hb dX13_goThrough_59 rfl (lv_at hl 0 rfl) ?_
    have z0 := ln_0
    have zm1 := ln_m1
    refine th_v (va_runV (As := []) (rest := []) ⟨hx, hb, hml, hown, hts⟩ (q_clause l dC dI cT ad E17 H.size 8 3200 hI (by decide) (by rfl) (by exact fun _ => rfl) (by exact ((pw18.2 0 18 (fun q9 => absurd q9.2 (Nat.ne_of_beq_eq_false rfl))).trans ((pw16.2 0 18 (fun q9 => absurd q9.2 (Nat.ne_of_beq_eq_false rfl))).trans ((pw14.2 0 18 (fun q9 => absurd q9.2 (Nat.ne_of_beq_eq_false rfl))).trans ((pw12.2 0 18 (fun q9 => absurd q9.2 (Nat.ne_of_beq_eq_false rfl))).trans ((pw10.2 0 18 (fun q9 => absurd q9.2 (Nat.ne_of_beq_eq_false rfl))).trans ((pw8.2 0 18 (fun q9 => absurd q9.2 (Nat.ne_of_beq_eq_false rfl))).trans ((pw6.2 0 18 (fun q9 => absurd q9.2 (Nat.ne_of_beq_eq_false rfl))).trans ((pw4.2 0 18 (fun q9 => absurd q9.2 (Nat.ne_of_beq_eq_false rfl))).trans pw2.1))))))))) (by (try rw [(show xi (E17 0) 19 = a1 from vi_e ((pw18.2 0 19 (fun q9 => absurd q9.2 (Nat.ne_of_beq_eq_false rfl))).trans ((pw16.2 0 19 (fun q9 => absurd q9.2 (Nat.ne_of_beq_eq_false rfl))).trans ((pw14.2 0 19 (fun q9 => absurd q9.2 (Nat.ne_of_beq_eq_false rfl))).trans ((pw12.2 0 19 (fun q9 => absurd q9.2 (Nat.ne_of_beq_eq_false rfl))).trans ((pw10.2 0 19 (fun q9 => absurd q9.2 (Nat.ne_of_beq_eq_false rfl))).trans ((pw8.2 0 19 (fun q9 => absurd q9.2 (Nat.ne_of_beq_eq_false rfl))).trans ((pw6.2 0 19 (fun q9 => absurd q9.2 (Nat.ne_of_beq_eq_false rfl))).trans pw4.1))))))))]); have h8 := ln_0; have h9 := ln_0; omega) (by (try rw [(show xi (E17 0) 23 = (0 : Int32) from vi_e ((pw18.2 0 23 (fun q9 => absurd q9.2 (Nat.ne_of_beq_eq_false rfl))).trans ((pw16.2 0 23 (fun q9 => absurd q9.2 (Nat.ne_of_beq_eq_false rfl))).trans pw14.1)))]); omega)) (cwV 0 hts (gi_V (in_29 _ (zs4 (zs4 (zs4 (zs1 (zs1 (zs0))))))) (in_29 _ (zs4 (zs4 (zs4 (zs1 (zs1 (zs1 (zs0)))))))) (in_29 _ (zs16 (zs0))) (in_24 _ (zs4 (zs4 (zs4 (zs1 (zs1 (zs1 (zs0)))))))) (in_29 _ (zs16 (zs1 (zs0))))) rfl rfl rfl ⟨rfl, hz_yX13_clause_0⟩ ⟨Nat.le_of_ble_eq_true rfl, Nat.le_of_ble_eq_true rfl⟩) ⟨HW_bl, va_recv hK hP (ci := 14) (q0 := 0) rfl (hI.ob 0 (Nat.le_of_ble_eq_true rfl) rfl), (HW_wi hP hK (WX_D hD) hS hA hEV)⟩ rfl rfl hl.1 rfl (lv_room (Nat.le_of_ble_eq_true rfl)) dX13_goThrough_60 ⟨Nat.le_of_ble_eq_true rfl, Nat.le_of_ble_eq_true rfl⟩) (WX_D hD) hS hA (fun E20 H locs hw hP hS => ?_)
    obtain ⟨hI, kq21, hw⟩ := hw
    have hKb := hKp
    have hKp := hKp.tr kq21 (wl_sub rfl rfl)
    obtain ⟨y22, ey22⟩ : ∃ y, xi (E20 0) 21 = y := ⟨_, rfl⟩
    have fy22 : xv (E20 0) 21 = .int y22 := (hI.fi 0 (Nat.le_of_ble_eq_true rfl) rfl (Nat.le_of_ble_eq_true rfl) rfl).trans (congrArg Value.int ey22)
    have iy22 : 0 ≤ y22.toInt ∧ y22.toInt ≤ 201 := by rw [← ey22]; exact hI.iv 0 (Nat.le_of_ble_eq_true rfl) rfl (Nat.le_of_ble_eq_true rfl) rfl
    obtain ⟨y23, ey23⟩ : ∃ y, xi (E20 0) 22 = y := ⟨_, rfl⟩
    have fy23 : xv (E20 0) 22 = .int y23 := (hI.fi 0 (Nat.le_of_ble_eq_true rfl) rfl (Nat.le_of_ble_eq_true rfl) rfl).trans (congrArg Value.int ey23)
    have iy23 : -1 ≤ y23.toInt ∧ y23.toInt ≤ 201 := by rw [← ey23]; exact hI.iv 0 (Nat.le_of_ble_eq_true rfl) rfl (Nat.le_of_ble_eq_true rfl) rfl
    obtain ⟨y24, ey24⟩ : ∃ y, xi (E20 0) 23 = y := ⟨_, rfl⟩
    have fy24 : xv (E20 0) 23 = .int y24 := (hI.fi 0 (Nat.le_of_ble_eq_true rfl) rfl (Nat.le_of_ble_eq_true rfl) rfl).trans (congrArg Value.int ey24)
    have iy24 : 0 ≤ y24.toInt ∧ y24.toInt ≤ 8 := by rw [← ey24]; exact hI.iv 0 (Nat.le_of_ble_eq_true rfl) rfl (Nat.le_of_ble_eq_true rfl) rfl
    obtain ⟨f25, f26, f27, f28⟩ := hw
    try rw [(show xi (E17 0) 21 = (0 : Int32) from vi_e ((pw18.2 0 21 (fun q9 => absurd q9.2 (Nat.ne_of_beq_eq_false rfl))).trans ((pw16.2 0 21 (fun q9 => absurd q9.2 (Nat.ne_of_beq_eq_false rfl))).trans ((pw14.2 0 21 (fun q9 => absurd q9.2 (Nat.ne_of_beq_eq_false rfl))).trans ((pw12.2 0 21 (fun q9 => absurd q9.2 (Nat.ne_of_beq_eq_false rfl))).trans pw10.1)))))] at f25
    try rw [(show xi (E20 0) 21 = y22 from vi_e fy22)] at f25
    try rw [(show xi (E17 0) 23 = (0 : Int32) from vi_e ((pw18.2 0 23 (fun q9 => absurd q9.2 (Nat.ne_of_beq_eq_false rfl))).trans ((pw16.2 0 23 (fun q9 => absurd q9.2 (Nat.ne_of_beq_eq_false rfl))).trans pw14.1)))] at f26
    try rw [(show xi (E20 0) 23 = y24 from vi_e fy24)] at f26
    try rw [(show xi (E17 0) 22 = (-1 : Int32) from vi_e ((pw18.2 0 22 (fun q9 => absurd q9.2 (Nat.ne_of_beq_eq_false rfl))).trans ((pw16.2 0 22 (fun q9 => absurd q9.2 (Nat.ne_of_beq_eq_false rfl))).trans ((pw14.2 0 22 (fun q9 => absurd q9.2 (Nat.ne_of_beq_eq_false rfl))).trans pw12.1))))] at f27
    try rw [(show xi (E17 0) 23 = (0 : Int32) from vi_e ((pw18.2 0 23 (fun q9 => absurd q9.2 (Nat.ne_of_beq_eq_false rfl))).trans ((pw16.2 0 23 (fun q9 => absurd q9.2 (Nat.ne_of_beq_eq_false rfl))).trans pw14.1)))] at f27
    try rw [(show xi (E20 0) 22 = y23 from vi_e fy23)] at f27
    try rw [(show xi (E20 0) 23 = y24 from vi_e fy24)] at f27
    try rw [(show xi (E17 0) 22 = (-1 : Int32) from vi_e ((pw18.2 0 22 (fun q9 => absurd q9.2 (Nat.ne_of_beq_eq_false rfl))).trans ((pw16.2 0 22 (fun q9 => absurd q9.2 (Nat.ne_of_beq_eq_false rfl))).trans ((pw14.2 0 22 (fun q9 => absurd q9.2 (Nat.ne_of_beq_eq_false rfl))).trans pw12.1))))] at f28
    try rw [(show xi (E20 0) 22 = y23 from vi_e fy23)] at f28
    have hL63 : ∀ d : Nat, ∀ (w63_0_21 : Int32) (w63_0_22 : Int32) (w63_0_23 : Int32) (E63_ : Nat → va_E) (H : Heap) (locs : List Loc) (ls : Array Slot), 0 ≤ w63_0_21.toInt ∧ w63_0_21.toInt ≤ 201 → -1 ≤ w63_0_22.toInt ∧ w63_0_22.toInt ≤ 201 → 0 ≤ w63_0_23.toInt ∧ w63_0_23.toInt ≤ 8 → (w63_0_22.toInt = -1 → w63_0_23.toInt = 0) → 201 - w63_0_21.toInt < (d : Int) → IX cT shM spM 72 ad E63_ → Kp w_goThroughR E E63_ → xv (E63_ 0) 21 = .int w63_0_21 → xv (E63_ 0) 22 = .int w63_0_22 → xv (E63_ 0) 23 = .int w63_0_23 → xv (E63_ 0) 18 = .ref (ad 8) → xv (E63_ 0) 19 = .int a1 → xv (E63_ 0) 20 = .int a2 → xv (E63_ 0) 24 = .int a3 → va_P (dC, dI) vwCl (WX 72 ad E63_) H → va_S A s.heap H locs → lv_has ls 5 [(0, .ref (ad 0)), (1, .ref (ad 8)), (2, .int a1), (3, .int a2), (4, .int a3)] → W p l e (headSpec v_goThroughR rm_goThroughR).room s m args below meth c H locs 0 0 Q (F0 m 63 ls []) := by
      intro d
      induction d with
      | zero =>
        intro w63_0_21 w63_0_22 w63_0_23 E63_ H locs ls hw63_0_21 hw63_0_22 hw63_0_23 hx63_0 hx63_1 hI hKp hs63_0_21 hs63_0_22 hs63_0_23 hs63_0_18 hs63_0_19 hs63_0_20 hs63_0_24 hP hS hl
        exact absurd hx63_1 (by omega)
      | succ d ih63 =>
        intro w63_0_21 w63_0_22 w63_0_23 E63_ H locs ls hw63_0_21 hw63_0_22 hw63_0_23 hx63_0 hx63_1 hI hKp hs63_0_21 hs63_0_22 hs63_0_23 hs63_0_18 hs63_0_19 hs63_0_20 hs63_0_24 hP hS hl
        refine lv_aload_n hx hb dX13_goThrough_63 rfl (lv_at hl 0 rfl) ?_
        refine th_get (ci := 14) (C := RX13) (T := TX13) (N := 97) (v := .int w63_0_22) hx hb hts hinX13 hown hK hP hI 0 (Nat.le_of_ble_eq_true rfl) rfl rfl 22 (Nat.le_of_ble_eq_true rfl) (hts _ (vA_in _ _ (in_25 _ (zs16 (zs16 (zs4 (zs1 (zs1 (zs1 (zs0)))))))))) (fun _ h9 => h9) hs63_0_22 dX13_goThrough_64 ?_
        refine lv_iconst (v := -1) hx hb dX13_goThrough_67 (by decide) ?_
        have hJ97 : ∀ (w97_0_21 : Int32) (E97_ : Nat → va_E) (H : Heap) (locs : List Loc) (ls : Array Slot), 0 ≤ w97_0_21.toInt ∧ w97_0_21.toInt ≤ 201 → IX cT shM spM 72 ad E97_ → Kp w_goThroughR E E97_ → xv (E97_ 0) 21 = .int w97_0_21 → xv (E97_ 0) 22 = .int w63_0_22 → xv (E97_ 0) 23 = .int w63_0_23 → xv (E97_ 0) 18 = .ref (ad 8) → xv (E97_ 0) 19 = .int a1 → xv (E97_ 0) 20 = .int a2 → xv (E97_ 0) 24 = .int a3 → va_P (dC, dI) vwCl (WX 72 ad E97_) H → va_S A s.heap H locs → lv_has ls 5 [(0, .ref (ad 0)), (1, .ref (ad 8)), (2, .int a1), (3, .int a2), (4, .int a3)] → W p l e (headSpec v_goThroughR rm_goThroughR).room s m args below meth c H locs 0 0 Q (F0 m 97 ls []) := by
          intro w97_0_21 E97_ H locs ls hw97_0_21 hI hKp hs97_0_21 hs97_0_22 hs97_0_23 hs97_0_18 hs97_0_19 hs97_0_20 hs97_0_24 hP hS hl
          refine lv_aload_n hx hb dX13_goThrough_97 rfl (lv_at hl 0 rfl) ?_
          refine th_get (ci := 14) (C := RX13) (T := TX13) (N := 97) (v := .int w63_0_22) hx hb hts hinX13 hown hK hP hI 0 (Nat.le_of_ble_eq_true rfl) rfl rfl 22 (Nat.le_of_ble_eq_true rfl) (hts _ (vA_in _ _ (in_25 _ (zs16 (zs16 (zs4 (zs1 (zs1 (zs1 (zs0)))))))))) (fun _ h9 => h9) hs97_0_22 dX13_goThrough_98 ?_
          refine lv_iconst (v := -1) hx hb dX13_goThrough_101 (by decide) ?_
          refine lv_icmp_ne (tgt := 118) hx hb dX13_goThrough_102 (by decide) (fun c29 => ?_) (fun c29 => ?_)
          · --102 taken
            have t30 : ¬ w63_0_22.toInt = -1 := ti_ne c29
            have i31 : 0 ≤ w63_0_22.toInt ∧ w63_0_22.toInt ≤ 201 := iv_ne_l t30 hw63_0_22 (il_ (-1))
            rw [hQ]
            exact W.vret hx hb hr (fun t ht hW => ⟨⟨E97_, rfl, ⟨hI, hKp, trivial⟩, by show va_P (dC, dI) vwCl (WX 72 ad E97_) t.heap; rw [ht]; exact hP⟩, hS.F ht⟩) hS.2.2 dX13_goThrough_118
          · --102 not
            have t32 : w63_0_22.toInt = -1 := ti_eq c29
            have i33 : -1 ≤ w63_0_22.toInt ∧ w63_0_22.toInt ≤ -1 := iv_eqi t32 hw63_0_22 (il_ (-1)) (by decide)
            refine lv_aload_n hx hb dX13_goThrough_105 rfl (lv_at hl 0 rfl) ?_
            refine th_i (va_runV (As := []) (rest := []) ⟨hx, hb, hml, hown, hts⟩ (q_look l dC dI cT ad E97_ H.size 8 3200 hI (by decide) (by rfl) (by exact fun _ => rfl) (by exact hs97_0_18) (by (try rw [(show xi (E97_ 0) 19 = a1 from vi_e hs97_0_19)]); have h8 := ln_0; have h9 := ln_0; omega)) (cwV 0 hts (gi_V (in_26 _ (zs1 (zs1 (zs0)))) (in_26 _ (zs1 (zs1 (zs1 (zs0))))) (in_26 _ (zs4 (zs0))) (in_24 _ (zs4 (zs4 (zs4 (zs1 (zs1 (zs1 (zs0)))))))) (in_26 _ (zs4 (zs1 (zs0))))) rfl rfl rfl ⟨rfl, hz_yX13_look_0⟩ ⟨Nat.le_of_ble_eq_true rfl, Nat.le_of_ble_eq_true rfl⟩) ⟨HW_bl, va_recv hK hP (ci := 14) (q0 := 0) rfl (hI.ob 0 (Nat.le_of_ble_eq_true rfl) rfl), (HW_wi hP hK (WX_D hD) hS hA hEV)⟩ rfl rfl hl.1 rfl (lv_room (Nat.le_of_ble_eq_true rfl)) dX13_goThrough_106 ⟨Nat.le_of_ble_eq_true rfl, Nat.le_of_ble_eq_true rfl⟩) (WX_D hD) hS hA (fun r34 E35 H locs hw hP hS => ?_)
            obtain ⟨hI, kq36, hw⟩ := hw
            have hKb := hKp
            have hKp := hKp.tr kq36 (wl_sub rfl rfl)
            obtain ⟨y37, ey37⟩ : ∃ y, xi (E35 0) 21 = y := ⟨_, rfl⟩
            have fy37 : xv (E35 0) 21 = .int y37 := (hI.fi 0 (Nat.le_of_ble_eq_true rfl) rfl (Nat.le_of_ble_eq_true rfl) rfl).trans (congrArg Value.int ey37)
            have iy37 : 0 ≤ y37.toInt ∧ y37.toInt ≤ 201 := by rw [← ey37]; exact hI.iv 0 (Nat.le_of_ble_eq_true rfl) rfl (Nat.le_of_ble_eq_true rfl) rfl
            obtain ⟨f38, f39, f40, f41⟩ := hw
            try rw [(show xi (E97_ 0) 21 = w97_0_21 from vi_e hs97_0_21)] at f39
            try rw [(show xi (E35 0) 21 = y37 from vi_e fy37)] at f39
            try rw [(show xi (E97_ 0) 21 = w97_0_21 from vi_e hs97_0_21)] at f40
            try rw [(show xi (E97_ 0) 20 = a2 from vi_e hs97_0_20)] at f40
            try rw [(show xi (E35 0) 21 = y37 from vi_e fy37)] at f40
            try rw [(show xi (E97_ 0) 21 = w97_0_21 from vi_e hs97_0_21)] at f41
            try rw [(show xi (E97_ 0) 20 = a2 from vi_e hs97_0_20)] at f41
            try rw [(show xi (E35 0) 21 = y37 from vi_e fy37)] at f41
            refine lv_iconst (v := -1) hx hb dX13_goThrough_109 (by decide) ?_
            refine lv_icmp_eq (tgt := 118) hx hb dX13_goThrough_110 (by decide) (fun c42 => ?_) (fun c42 => ?_)
            · --110 taken
              have t43 : r34.toInt = -1 := ti_eq c42
              have i44 : -1 ≤ r34.toInt ∧ r34.toInt ≤ -1 := iv_eqi t43 f38 (il_ (-1)) (by decide)
              rw [hQ]
              exact W.vret hx hb hr (fun t ht hW => ⟨⟨E35, rfl, ⟨hI, hKp, trivial⟩, by show va_P (dC, dI) vwCl (WX 72 ad E35) t.heap; rw [ht]; exact hP⟩, hS.F ht⟩) hS.2.2 dX13_goThrough_118
            · --110 not
              have t45 : ¬ r34.toInt = -1 := ti_ne c42
              have i46 : 0 ≤ r34.toInt ∧ r34.toInt ≤ 255 := iv_ne_l t45 f38 (il_ (-1))
              refine lv_aload_n hx hb dX13_goThrough_113 rfl (lv_at hl 0 rfl) ?_
              refine th_i (va_runV (As := []) (rest := []) ⟨hx, hb, hml, hown, hts⟩ (q_stop l dC dI cT ad E35 H.size hI) (cwV 0 hts (gi_V (in_26 _ (zs4 (zs4 (zs4 (zs0))))) (in_26 _ (zs4 (zs4 (zs4 (zs1 (zs0)))))) (in_26 _ (zs4 (zs4 (zs4 (zs1 (zs1 (zs0))))))) (in_24 _ (zs4 (zs4 (zs4 (zs1 (zs1 (zs1 (zs0)))))))) (in_26 _ (zs4 (zs4 (zs4 (zs1 (zs1 (zs1 (zs0))))))))) rfl rfl rfl ⟨rfl, hz_yX13_stop_0⟩ ⟨Nat.le_of_ble_eq_true rfl, Nat.le_of_ble_eq_true rfl⟩) ⟨HW_bl, va_recv hK hP (ci := 14) (q0 := 0) rfl (hI.ob 0 (Nat.le_of_ble_eq_true rfl) rfl), (HW_wi hP hK (WX_D hD) hS hA hEV)⟩ rfl rfl hl.1 rfl (lv_room (Nat.le_of_ble_eq_true rfl)) dX13_goThrough_114 ⟨Nat.le_of_ble_eq_true rfl, Nat.le_of_ble_eq_true rfl⟩) (WX_D hD) hS hA (fun r47 E48 H locs hw hP hS => ?_)
              obtain ⟨hI, kq49, hw⟩ := hw
              have hKb := hKp
              have hKp := hKp.tr kq49 (wl_sub rfl rfl)
              obtain ⟨y50, ey50⟩ : ∃ y, xi (E48 0) 22 = y := ⟨_, rfl⟩
              have fy50 : xv (E48 0) 22 = .int y50 := (hI.fi 0 (Nat.le_of_ble_eq_true rfl) rfl (Nat.le_of_ble_eq_true rfl) rfl).trans (congrArg Value.int ey50)
              have iy50 : -1 ≤ y50.toInt ∧ y50.toInt ≤ 201 := by rw [← ey50]; exact hI.iv 0 (Nat.le_of_ble_eq_true rfl) rfl (Nat.le_of_ble_eq_true rfl) rfl
              obtain ⟨rfl, f51⟩ := hw
              try rw [(show xi (E35 0) 22 = w63_0_22 from vi_e ((kq36 0 22 rfl).trans hs97_0_22))] at f51
              try rw [(show xi (E48 0) 22 = y50 from vi_e fy50)] at f51
              refine lv_pop hx hb dX13_goThrough_117 rfl ?_
              rw [hQ]
              exact W.vret hx hb hr (fun t ht hW => ⟨⟨E48, rfl, ⟨hI, hKp, trivial⟩, by show va_P (dC, dI) vwCl (WX 72 ad E48) t.heap; rw [ht]; exact hP⟩, hS.F ht⟩) hS.2.2 dX13_goThrough_118
        refine lv_icmp_ne (tgt := 97) hx hb dX13_goThrough_68 (by decide) (fun c52 => ?_) (fun c52 => ?_)
        · --68 taken
          have t53 : ¬ w63_0_22.toInt = -1 := ti_ne c52
          have i54 : 0 ≤ w63_0_22.toInt ∧ w63_0_22.toInt ≤ 201 := iv_ne_l t53 hw63_0_22 (il_ (-1))
          exact hJ97 w63_0_21 E63_ _ _ _ hw63_0_21 hI hKp hs63_0_21 hs63_0_22 hs63_0_23 hs63_0_18 hs63_0_19 hs63_0_20 hs63_0_24 hP hS (lv_sub hl [0, 1, 2, 3, 4] rfl)
        · --68 not
          have t55 : w63_0_22.toInt = -1 := ti_eq c52
          have i56 : -1 ≤ w63_0_22.toInt ∧ w63_0_22.toInt ≤ -1 := iv_eqi t55 hw63_0_22 (il_ (-1)) (by decide)
          refine lv_aload_n hx hb dX13_goThrough_71 rfl (lv_at hl 0 rfl) ?_
          refine th_i (va_runV (As := []) (rest := []) ⟨hx, hb, hml, hown, hts⟩ (q_look l dC dI cT ad E63_ H.size 8 3200 hI (by decide) (by rfl) (by exact fun _ => rfl) (by exact hs63_0_18) (by (try rw [(show xi (E63_ 0) 19 = a1 from vi_e hs63_0_19)]); have h8 := ln_0; have h9 := ln_0; omega)) (cwV 0 hts (gi_V (in_26 _ (zs1 (zs1 (zs0)))) (in_26 _ (zs1 (zs1 (zs1 (zs0))))) (in_26 _ (zs4 (zs0))) (in_24 _ (zs4 (zs4 (zs4 (zs1 (zs1 (zs1 (zs0)))))))) (in_26 _ (zs4 (zs1 (zs0))))) rfl rfl rfl ⟨rfl, hz_yX13_look_0⟩ ⟨Nat.le_of_ble_eq_true rfl, Nat.le_of_ble_eq_true rfl⟩) ⟨HW_bl, va_recv hK hP (ci := 14) (q0 := 0) rfl (hI.ob 0 (Nat.le_of_ble_eq_true rfl) rfl), (HW_wi hP hK (WX_D hD) hS hA hEV)⟩ rfl rfl hl.1 rfl (lv_room (Nat.le_of_ble_eq_true rfl)) dX13_goThrough_72 ⟨Nat.le_of_ble_eq_true rfl, Nat.le_of_ble_eq_true rfl⟩) (WX_D hD) hS hA (fun r57 E58 H locs hw hP hS => ?_)
          obtain ⟨hI, kq59, hw⟩ := hw
          have hKb := hKp
          have hKp := hKp.tr kq59 (wl_sub rfl rfl)
          obtain ⟨y60, ey60⟩ : ∃ y, xi (E58 0) 21 = y := ⟨_, rfl⟩
          have fy60 : xv (E58 0) 21 = .int y60 := (hI.fi 0 (Nat.le_of_ble_eq_true rfl) rfl (Nat.le_of_ble_eq_true rfl) rfl).trans (congrArg Value.int ey60)
          have iy60 : 0 ≤ y60.toInt ∧ y60.toInt ≤ 201 := by rw [← ey60]; exact hI.iv 0 (Nat.le_of_ble_eq_true rfl) rfl (Nat.le_of_ble_eq_true rfl) rfl
          obtain ⟨f61, f62, f63, f64⟩ := hw
          try rw [(show xi (E63_ 0) 21 = w63_0_21 from vi_e hs63_0_21)] at f62
          try rw [(show xi (E58 0) 21 = y60 from vi_e fy60)] at f62
          try rw [(show xi (E63_ 0) 21 = w63_0_21 from vi_e hs63_0_21)] at f63
          try rw [(show xi (E63_ 0) 20 = a2 from vi_e hs63_0_20)] at f63
          try rw [(show xi (E58 0) 21 = y60 from vi_e fy60)] at f63
          try rw [(show xi (E63_ 0) 21 = w63_0_21 from vi_e hs63_0_21)] at f64
          try rw [(show xi (E63_ 0) 20 = a2 from vi_e hs63_0_20)] at f64
          try rw [(show xi (E58 0) 21 = y60 from vi_e fy60)] at f64
          refine lv_bipush (v := 59) hx hb dX13_goThrough_75 (by decide) ?_
          refine lv_icmp_ne (tgt := 97) hx hb dX13_goThrough_77 (by decide) (fun c65 => ?_) (fun c65 => ?_)
          · --77 taken
            have t66 : ¬ r57.toInt = 59 := ti_ne c65
            exact hJ97 y60 E58 _ _ _ iy60 hI hKp fy60 ((kq59 0 22 rfl).trans hs63_0_22) ((kq59 0 23 rfl).trans hs63_0_23) ((kq59 0 18 rfl).trans hs63_0_18) ((kq59 0 19 rfl).trans hs63_0_19) ((kq59 0 20 rfl).trans hs63_0_20) ((kq59 0 24 rfl).trans hs63_0_24) hP hS (lv_sub hl [0, 1, 2, 3, 4] rfl)
          · --77 not
            have t67 : r57.toInt = 59 := ti_eq c65
            have i68 : 59 ≤ r57.toInt ∧ r57.toInt ≤ 59 := iv_eqi t67 f61 (il_ 59) (by decide)
            refine lv_aload_n hx hb dX13_goThrough_80 rfl (lv_at hl 0 rfl) ?_
            refine lv_dup hx hb dX13_goThrough_81 rfl ?_
            refine th_get (ci := 14) (C := RX13) (T := TX13) (N := 97) (v := .int y60) hx hb hts hinX13 hown hK hP hI 0 (Nat.le_of_ble_eq_true rfl) rfl rfl 21 (Nat.le_of_ble_eq_true rfl) (hts _ (vA_in _ _ (in_25 _ (zs16 (zs16 (zs4 (zs0))))))) (fun _ h9 => h9) fy60 dX13_goThrough_82 ?_
            refine lv_iconst (v := 1) hx hb dX13_goThrough_85 (by decide) ?_
            refine lv_iadd hx hb dX13_goThrough_86 ?_
            refine lv_topi (fun y69 ey69 => ?_)
            obtain ⟨ty69, iy69⟩ := ti_add (e := 1) (f := 202) iy60 ln_1 ey69 (by decide)
            have ty69 : y69.toInt = y60.toInt + 1 := ty69
            have iy69 : 1 ≤ y69.toInt ∧ y69.toInt ≤ 202 := iy69
            have i70 : 1 ≤ y69.toInt ∧ y69.toInt ≤ 201 := by omega
            refine th_put (ci := 14) (C := RX13) (T := TX13) (N := 97) (v := .int y69) (ty := .int) hx hb hts hinX13 tyX13 tyX13_ok nmX13 hown hK hP (WX_D hD) hS hI 0 (Nat.le_of_ble_eq_true rfl) rfl rfl 21 (Nat.le_of_ble_eq_true rfl) (hts _ (vA_in _ _ (in_25 _ (zs16 (zs16 (zs4 (zs0))))))) (fun _ h9 => h9) rfl (by decide +kernel) rfl rfl (okI rfl (iv_w i70 (by decide))) dX13_goThrough_87 (fun H locs E71 pw72 hI hP hS => ?_)
            have hKp := hKp.pw pw72 rfl
            refine lv_aload_n hx hb dX13_goThrough_90 rfl (lv_at hl 0 rfl) ?_
            refine th_v (va_runV (As := []) (rest := []) ⟨hx, hb, hml, hown, hts⟩ (q_clause l dC dI cT ad E71 H.size 8 3200 hI (by decide) (by rfl) (by exact fun _ => rfl) (by exact ((pw72.2 0 18 (fun q9 => absurd q9.2 (Nat.ne_of_beq_eq_false rfl))).trans ((kq59 0 18 rfl).trans hs63_0_18))) (by (try rw [(show xi (E71 0) 19 = a1 from vi_e ((pw72.2 0 19 (fun q9 => absurd q9.2 (Nat.ne_of_beq_eq_false rfl))).trans ((kq59 0 19 rfl).trans hs63_0_19)))]); have h8 := ln_0; have h9 := ln_0; omega) (by (try rw [(show xi (E71 0) 23 = w63_0_23 from vi_e ((pw72.2 0 23 (fun q9 => absurd q9.2 (Nat.ne_of_beq_eq_false rfl))).trans ((kq59 0 23 rfl).trans hs63_0_23)))]); omega)) (cwV 0 hts (gi_V (in_29 _ (zs4 (zs4 (zs4 (zs1 (zs1 (zs0))))))) (in_29 _ (zs4 (zs4 (zs4 (zs1 (zs1 (zs1 (zs0)))))))) (in_29 _ (zs16 (zs0))) (in_24 _ (zs4 (zs4 (zs4 (zs1 (zs1 (zs1 (zs0)))))))) (in_29 _ (zs16 (zs1 (zs0))))) rfl rfl rfl ⟨rfl, hz_yX13_clause_0⟩ ⟨Nat.le_of_ble_eq_true rfl, Nat.le_of_ble_eq_true rfl⟩) ⟨HW_bl, va_recv hK hP (ci := 14) (q0 := 0) rfl (hI.ob 0 (Nat.le_of_ble_eq_true rfl) rfl), (HW_wi hP hK (WX_D hD) hS hA hEV)⟩ rfl rfl hl.1 rfl (lv_room (Nat.le_of_ble_eq_true rfl)) dX13_goThrough_91 ⟨Nat.le_of_ble_eq_true rfl, Nat.le_of_ble_eq_true rfl⟩) (WX_D hD) hS hA (fun E74 H locs hw hP hS => ?_)
            obtain ⟨hI, kq75, hw⟩ := hw
            have hKb := hKp
            have hKp := hKp.tr kq75 (wl_sub rfl rfl)
            obtain ⟨y76, ey76⟩ : ∃ y, xi (E74 0) 21 = y := ⟨_, rfl⟩
            have fy76 : xv (E74 0) 21 = .int y76 := (hI.fi 0 (Nat.le_of_ble_eq_true rfl) rfl (Nat.le_of_ble_eq_true rfl) rfl).trans (congrArg Value.int ey76)
            have iy76 : 0 ≤ y76.toInt ∧ y76.toInt ≤ 201 := by rw [← ey76]; exact hI.iv 0 (Nat.le_of_ble_eq_true rfl) rfl (Nat.le_of_ble_eq_true rfl) rfl
            obtain ⟨y77, ey77⟩ : ∃ y, xi (E74 0) 22 = y := ⟨_, rfl⟩
            have fy77 : xv (E74 0) 22 = .int y77 := (hI.fi 0 (Nat.le_of_ble_eq_true rfl) rfl (Nat.le_of_ble_eq_true rfl) rfl).trans (congrArg Value.int ey77)
            have iy77 : -1 ≤ y77.toInt ∧ y77.toInt ≤ 201 := by rw [← ey77]; exact hI.iv 0 (Nat.le_of_ble_eq_true rfl) rfl (Nat.le_of_ble_eq_true rfl) rfl
            obtain ⟨y78, ey78⟩ : ∃ y, xi (E74 0) 23 = y := ⟨_, rfl⟩
            have fy78 : xv (E74 0) 23 = .int y78 := (hI.fi 0 (Nat.le_of_ble_eq_true rfl) rfl (Nat.le_of_ble_eq_true rfl) rfl).trans (congrArg Value.int ey78)
            have iy78 : 0 ≤ y78.toInt ∧ y78.toInt ≤ 8 := by rw [← ey78]; exact hI.iv 0 (Nat.le_of_ble_eq_true rfl) rfl (Nat.le_of_ble_eq_true rfl) rfl
            obtain ⟨f79, f80, f81, f82⟩ := hw
            try rw [(show xi (E71 0) 21 = y69 from vi_e pw72.1)] at f79
            try rw [(show xi (E74 0) 21 = y76 from vi_e fy76)] at f79
            try rw [(show xi (E71 0) 23 = w63_0_23 from vi_e ((pw72.2 0 23 (fun q9 => absurd q9.2 (Nat.ne_of_beq_eq_false rfl))).trans ((kq59 0 23 rfl).trans hs63_0_23)))] at f80
            try rw [(show xi (E74 0) 23 = y78 from vi_e fy78)] at f80
            try rw [(show xi (E71 0) 22 = w63_0_22 from vi_e ((pw72.2 0 22 (fun q9 => absurd q9.2 (Nat.ne_of_beq_eq_false rfl))).trans ((kq59 0 22 rfl).trans hs63_0_22)))] at f81
            try rw [(show xi (E71 0) 23 = w63_0_23 from vi_e ((pw72.2 0 23 (fun q9 => absurd q9.2 (Nat.ne_of_beq_eq_false rfl))).trans ((kq59 0 23 rfl).trans hs63_0_23)))] at f81
            try rw [(show xi (E74 0) 22 = y77 from vi_e fy77)] at f81
            try rw [(show xi (E74 0) 23 = y78 from vi_e fy78)] at f81
            try rw [(show xi (E71 0) 22 = w63_0_22 from vi_e ((pw72.2 0 22 (fun q9 => absurd q9.2 (Nat.ne_of_beq_eq_false rfl))).trans ((kq59 0 22 rfl).trans hs63_0_22)))] at f82
            try rw [(show xi (E74 0) 22 = y77 from vi_e fy77)] at f82
            refine lv_goto (tgt := 63) hx hb dX13_goThrough_94 (by decide) ?_
            exact ih63 y76 y77 y78 E74 _ _ _ iy76 iy77 iy78 (by have h90 := iy76; have h91 := iy77; have h92 := iy78; omega) (by omega) hI hKp fy76 fy77 fy78 ((kq75 0 18 rfl).trans ((pw72.2 0 18 (fun q9 => absurd q9.2 (Nat.ne_of_beq_eq_false rfl))).trans ((kq59 0 18 rfl).trans hs63_0_18))) ((kq75 0 19 rfl).trans ((pw72.2 0 19 (fun q9 => absurd q9.2 (Nat.ne_of_beq_eq_false rfl))).trans ((kq59 0 19 rfl).trans hs63_0_19))) ((kq75 0 20 rfl).trans ((pw72.2 0 20 (fun q9 => absurd q9.2 (Nat.ne_of_beq_eq_false rfl))).trans ((kq59 0 20 rfl).trans hs63_0_20))) ((kq75 0 24 rfl).trans ((pw72.2 0 24 (fun q9 => absurd q9.2 (Nat.ne_of_beq_eq_false rfl))).trans ((kq59 0 24 rfl).trans hs63_0_24))) hP hS (lv_sub hl [0, 1, 2, 3, 4] rfl)
    exact hL63 (202) y22 y23 y24 E20 _ _ _ iy22 iy23 iy24 (by have h90 := iy22; have h91 := iy23; have h92 := iy24; omega) (by have h9 := iy22; omega) hI hKp fy22 fy23 fy24 ((kq21 0 18 rfl).trans ((pw18.2 0 18 (fun q9 => absurd q9.2 (Nat.ne_of_beq_eq_false rfl))).trans ((pw16.2 0 18 (fun q9 => absurd q9.2 (Nat.ne_of_beq_eq_false rfl))).trans ((pw14.2 0 18 (fun q9 => absurd q9.2 (Nat.ne_of_beq_eq_false rfl))).trans ((pw12.2 0 18 (fun q9 => absurd q9.2 (Nat.ne_of_beq_eq_false rfl))).trans ((pw10.2 0 18 (fun q9 => absurd q9.2 (Nat.ne_of_beq_eq_false rfl))).trans ((pw8.2 0 18 (fun q9 => absurd q9.2 (Nat.ne_of_beq_eq_false rfl))).trans ((pw6.2 0 18 (fun q9 => absurd q9.2 (Nat.ne_of_beq_eq_false rfl))).trans ((pw4.2 0 18 (fun q9 => absurd q9.2 (Nat.ne_of_beq_eq_false rfl))).trans pw2.1))))))))) ((kq21 0 19 rfl).trans ((pw18.2 0 19 (fun q9 => absurd q9.2 (Nat.ne_of_beq_eq_false rfl))).trans ((pw16.2 0 19 (fun q9 => absurd q9.2 (Nat.ne_of_beq_eq_false rfl))).trans ((pw14.2 0 19 (fun q9 => absurd q9.2 (Nat.ne_of_beq_eq_false rfl))).trans ((pw12.2 0 19 (fun q9 => absurd q9.2 (Nat.ne_of_beq_eq_false rfl))).trans ((pw10.2 0 19 (fun q9 => absurd q9.2 (Nat.ne_of_beq_eq_false rfl))).trans ((pw8.2 0 19 (fun q9 => absurd q9.2 (Nat.ne_of_beq_eq_false rfl))).trans ((pw6.2 0 19 (fun q9 => absurd q9.2 (Nat.ne_of_beq_eq_false rfl))).trans pw4.1)))))))) ((kq21 0 20 rfl).trans ((pw18.2 0 20 (fun q9 => absurd q9.2 (Nat.ne_of_beq_eq_false rfl))).trans ((pw16.2 0 20 (fun q9 => absurd q9.2 (Nat.ne_of_beq_eq_false rfl))).trans ((pw14.2 0 20 (fun q9 => absurd q9.2 (Nat.ne_of_beq_eq_false rfl))).trans ((pw12.2 0 20 (fun q9 => absurd q9.2 (Nat.ne_of_beq_eq_false rfl))).trans ((pw10.2 0 20 (fun q9 => absurd q9.2 (Nat.ne_of_beq_eq_false rfl))).trans ((pw8.2 0 20 (fun q9 => absurd q9.2 (Nat.ne_of_beq_eq_false rfl))).trans pw6.1))))))) ((kq21 0 24 rfl).trans ((pw18.2 0 24 (fun q9 => absurd q9.2 (Nat.ne_of_beq_eq_false rfl))).trans ((pw16.2 0 24 (fun q9 => absurd q9.2 (Nat.ne_of_beq_eq_false rfl))).trans ((pw14.2 0 24 (fun q9 => absurd q9.2 (Nat.ne_of_beq_eq_false rfl))).trans ((pw12.2 0 24 (fun q9 => absurd q9.2 (Nat.ne_of_beq_eq_false rfl))).trans ((pw10.2 0 24 (fun q9 => absurd q9.2 (Nat.ne_of_beq_eq_false rfl))).trans pw8.1)))))) hP hS (lv_sub hl [0, 1, 2, 3, 4] rfl)
  refine lv_icmp_ne (tgt := 55) hx hb dX13_goThrough_46 (by decide) (fun c83 => ?_) (fun c83 => ?_)
  · --46 taken
    have t84 : ¬ a3.toInt = 110 := ti_ne c83
    refine lv_iconst (v := 0) hx hb dX13_goThrough_55 (by decide) ?_
    exact hJ56 (0 : Int32) _ _ _ (iv_w ln_0 (by decide)) hP hS (lv_sub hl [0, 1, 2, 3, 4] rfl)
  · --46 not
    have t85 : a3.toInt = 110 := ti_eq c83
    have i86 : 110 ≤ a3.toInt ∧ a3.toInt ≤ 110 := iv_eqi t85 hh2 (il_ 110) (by decide)
    refine lv_sipush (v := 1000) hx hb dX13_goThrough_49 (by decide) ?_
    refine lv_goto (tgt := 56) hx hb dX13_goThrough_52 (by decide) ?_
    exact hJ56 (1000 : Int32) _ _ _ (iv_w ln_1000 (by decide)) hP hS (lv_sub hl [0, 1, 2, 3, 4] rfl)
