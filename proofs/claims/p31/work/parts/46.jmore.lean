set_option maxRecDepth 100000 in
theorem zh_dX13_race_0_0 : zc cX13_race 0 [42, 3, 181, 0, 228, 42, 180, 1, 134, 16, 20, 159, 0, 64, 42, 27] = true := by decide +kernel
set_option maxRecDepth 100000 in
theorem zh_dX13_race_16_16 : zc cX13_race 16 [182, 0, 252, 153, 0, 56, 28, 4, 17, 3, 232, 184, 0, 235, 153, 0] = true := by decide +kernel
set_option maxRecDepth 100000 in
theorem zh_dX13_race_30_32 : zc cX13_race 32 [45, 29, 3, 4, 184, 0, 235, 153, 0, 36, 21, 4, 3, 16, 7, 184] = true := by decide +kernel
set_option maxRecDepth 100000 in
theorem zh_dX13_race_47_48 : zc cX13_race 48 [0, 235, 153, 0, 25, 21, 5, 3, 16, 99, 184, 0, 235, 153, 0, 14] = true := by decide +kernel
set_option maxRecDepth 100000 in
theorem zh_dX13_race_64_64 : zc cX13_race 64 [21, 6, 3, 16, 99, 184, 0, 235, 154, 0, 5, 2, 172, 42, 180, 0] = true := by decide +kernel
set_option maxRecDepth 100000 in
theorem zh_dX13_race_78_80 : zc cX13_race 80 [50, 42, 180, 1, 134, 27, 79, 42, 180, 0, 53, 42, 180, 1, 134, 28] = true := by decide +kernel
set_option maxRecDepth 100000 in
theorem zh_dX13_race_96_96 : zc cX13_race 96 [79, 42, 180, 0, 56, 42, 180, 1, 134, 29, 79, 42, 180, 0, 59, 42] = true := by decide +kernel
set_option maxRecDepth 100000 in
theorem zh_dX13_race_112_112 : zc cX13_race 112 [180, 1, 134, 21, 4, 79, 42, 180, 0, 62, 42, 180, 1, 134, 21, 5] = true := by decide +kernel
set_option maxRecDepth 100000 in
theorem zh_dX13_race_128_128 : zc cX13_race 128 [79, 42, 180, 0, 65, 42, 180, 1, 134, 21, 6, 79, 42, 180, 0, 68] = true := by decide +kernel
set_option maxRecDepth 100000 in
theorem zh_dX13_race_144_144 : zc cX13_race 144 [42, 180, 1, 134, 5, 79, 42, 180, 0, 71, 42, 180, 1, 134, 42, 180] = true := by decide +kernel
set_option maxRecDepth 100000 in
theorem zh_dX13_race_159_160 : zc cX13_race 160 [0, 232, 79, 3, 54, 7, 21, 7, 16, 16, 162, 0, 43, 42, 180, 0] = true := by decide +kernel
set_option maxRecDepth 100000 in
theorem zh_dX13_race_174_176 : zc cX13_race 176 [74, 16, 16, 42, 180, 1, 134, 104, 21, 7, 96, 17, 3, 232, 79, 42] = true := by decide +kernel
set_option maxRecDepth 100000 in
theorem zh_dX13_race_192_192 : zc cX13_race 192 [180, 0, 77, 16, 16, 42, 180, 1, 134, 104, 21, 7, 96, 2, 79, 132] = true := by decide +kernel
set_option maxRecDepth 100000 in
theorem zh_dX13_race_207_208 : zc cX13_race 208 [7, 1, 167, 255, 212, 42, 89, 180, 1, 134, 4, 96, 181, 1, 134, 42] = true := by decide +kernel
set_option maxRecDepth 100000 in
theorem zh_dX13_race_224_224 : zc cX13_race 224 [180, 1, 134, 4, 100, 172] = true := by decide +kernel
theorem dX13_race_0 : decode cX13_race 0 = .ok (.aload_n 0, 1) := zo_42 (zi_at zh_dX13_race_0_0 0 rfl)
theorem dX13_race_1 : decode cX13_race 1 = .ok (.iconst 0, 1) := zo_3 (zi_at zh_dX13_race_0_0 1 rfl)
theorem dX13_race_2 : decode cX13_race 2 = .ok (.putfield 228, 3) := zo_181 (zi_at zh_dX13_race_0_0 2 rfl) (zi_at zh_dX13_race_0_0 3 rfl) (zi_at zh_dX13_race_0_0 4 rfl) rfl
theorem dX13_race_5 : decode cX13_race 5 = .ok (.aload_n 0, 1) := zo_42 (zi_at zh_dX13_race_0_0 5 rfl)
theorem dX13_race_6 : decode cX13_race 6 = .ok (.getfield 390, 3) := zo_180 (zi_at zh_dX13_race_0_0 6 rfl) (zi_at zh_dX13_race_0_0 7 rfl) (zi_at zh_dX13_race_0_0 8 rfl) rfl
theorem dX13_race_9 : decode cX13_race 9 = .ok (.bipush 20, 2) := zo_16 (zi_at zh_dX13_race_0_0 9 rfl) (zi_at zh_dX13_race_0_0 10 rfl) rfl
theorem dX13_race_11 : decode cX13_race 11 = .ok (.if_icmp .eq 64, 3) := zo_159 (zi_at zh_dX13_race_0_0 11 rfl) (zi_at zh_dX13_race_0_0 12 rfl) (zi_at zh_dX13_race_0_0 13 rfl) rfl
theorem dX13_race_14 : decode cX13_race 14 = .ok (.aload_n 0, 1) := zo_42 (zi_at zh_dX13_race_0_0 14 rfl)
theorem dX13_race_15 : decode cX13_race 15 = .ok (.iload_n 1, 1) := zo_27 (zi_at zh_dX13_race_0_0 15 rfl)
theorem dX13_race_16 : decode cX13_race 16 = .ok (.invokevirtual 252, 3) := zo_182 (zi_at zh_dX13_race_16_16 0 rfl) (zi_at zh_dX13_race_16_16 1 rfl) (zi_at zh_dX13_race_16_16 2 rfl) rfl
theorem dX13_race_19 : decode cX13_race 19 = .ok (.ifCond .eq 56, 3) := zo_153 (zi_at zh_dX13_race_16_16 3 rfl) (zi_at zh_dX13_race_16_16 4 rfl) (zi_at zh_dX13_race_16_16 5 rfl) rfl
theorem dX13_race_22 : decode cX13_race 22 = .ok (.iload_n 2, 1) := zo_28 (zi_at zh_dX13_race_16_16 6 rfl)
theorem dX13_race_23 : decode cX13_race 23 = .ok (.iconst 1, 1) := zo_4 (zi_at zh_dX13_race_16_16 7 rfl)
theorem dX13_race_24 : decode cX13_race 24 = .ok (.sipush 1000, 3) := zo_17 (zi_at zh_dX13_race_16_16 8 rfl) (zi_at zh_dX13_race_16_16 9 rfl) (zi_at zh_dX13_race_16_16 10 rfl) rfl
theorem dX13_race_27 : decode cX13_race 27 = .ok (.invokestatic 235, 3) := zo_184 (zi_at zh_dX13_race_16_16 11 rfl) (zi_at zh_dX13_race_16_16 12 rfl) (zi_at zh_dX13_race_16_16 13 rfl) rfl
theorem dX13_race_30 : decode cX13_race 30 = .ok (.ifCond .eq 45, 3) := zo_153 (zi_at zh_dX13_race_16_16 14 rfl) (zi_at zh_dX13_race_16_16 15 rfl) (zi_at zh_dX13_race_30_32 0 rfl) rfl
theorem dX13_race_33 : decode cX13_race 33 = .ok (.iload_n 3, 1) := zo_29 (zi_at zh_dX13_race_30_32 1 rfl)
theorem dX13_race_34 : decode cX13_race 34 = .ok (.iconst 0, 1) := zo_3 (zi_at zh_dX13_race_30_32 2 rfl)
theorem dX13_race_35 : decode cX13_race 35 = .ok (.iconst 1, 1) := zo_4 (zi_at zh_dX13_race_30_32 3 rfl)
theorem dX13_race_36 : decode cX13_race 36 = .ok (.invokestatic 235, 3) := zo_184 (zi_at zh_dX13_race_30_32 4 rfl) (zi_at zh_dX13_race_30_32 5 rfl) (zi_at zh_dX13_race_30_32 6 rfl) rfl
theorem dX13_race_39 : decode cX13_race 39 = .ok (.ifCond .eq 36, 3) := zo_153 (zi_at zh_dX13_race_30_32 7 rfl) (zi_at zh_dX13_race_30_32 8 rfl) (zi_at zh_dX13_race_30_32 9 rfl) rfl
theorem dX13_race_42 : decode cX13_race 42 = .ok (.iload 4, 2) := zo_21 (zi_at zh_dX13_race_30_32 10 rfl) (zi_at zh_dX13_race_30_32 11 rfl)
theorem dX13_race_44 : decode cX13_race 44 = .ok (.iconst 0, 1) := zo_3 (zi_at zh_dX13_race_30_32 12 rfl)
theorem dX13_race_45 : decode cX13_race 45 = .ok (.bipush 7, 2) := zo_16 (zi_at zh_dX13_race_30_32 13 rfl) (zi_at zh_dX13_race_30_32 14 rfl) rfl
theorem dX13_race_47 : decode cX13_race 47 = .ok (.invokestatic 235, 3) := zo_184 (zi_at zh_dX13_race_30_32 15 rfl) (zi_at zh_dX13_race_47_48 0 rfl) (zi_at zh_dX13_race_47_48 1 rfl) rfl
theorem dX13_race_50 : decode cX13_race 50 = .ok (.ifCond .eq 25, 3) := zo_153 (zi_at zh_dX13_race_47_48 2 rfl) (zi_at zh_dX13_race_47_48 3 rfl) (zi_at zh_dX13_race_47_48 4 rfl) rfl
theorem dX13_race_53 : decode cX13_race 53 = .ok (.iload 5, 2) := zo_21 (zi_at zh_dX13_race_47_48 5 rfl) (zi_at zh_dX13_race_47_48 6 rfl)
theorem dX13_race_55 : decode cX13_race 55 = .ok (.iconst 0, 1) := zo_3 (zi_at zh_dX13_race_47_48 7 rfl)
theorem dX13_race_56 : decode cX13_race 56 = .ok (.bipush 99, 2) := zo_16 (zi_at zh_dX13_race_47_48 8 rfl) (zi_at zh_dX13_race_47_48 9 rfl) rfl
theorem dX13_race_58 : decode cX13_race 58 = .ok (.invokestatic 235, 3) := zo_184 (zi_at zh_dX13_race_47_48 10 rfl) (zi_at zh_dX13_race_47_48 11 rfl) (zi_at zh_dX13_race_47_48 12 rfl) rfl
theorem dX13_race_61 : decode cX13_race 61 = .ok (.ifCond .eq 14, 3) := zo_153 (zi_at zh_dX13_race_47_48 13 rfl) (zi_at zh_dX13_race_47_48 14 rfl) (zi_at zh_dX13_race_47_48 15 rfl) rfl
theorem dX13_race_64 : decode cX13_race 64 = .ok (.iload 6, 2) := zo_21 (zi_at zh_dX13_race_64_64 0 rfl) (zi_at zh_dX13_race_64_64 1 rfl)
theorem dX13_race_66 : decode cX13_race 66 = .ok (.iconst 0, 1) := zo_3 (zi_at zh_dX13_race_64_64 2 rfl)
theorem dX13_race_67 : decode cX13_race 67 = .ok (.bipush 99, 2) := zo_16 (zi_at zh_dX13_race_64_64 3 rfl) (zi_at zh_dX13_race_64_64 4 rfl) rfl
theorem dX13_race_69 : decode cX13_race 69 = .ok (.invokestatic 235, 3) := zo_184 (zi_at zh_dX13_race_64_64 5 rfl) (zi_at zh_dX13_race_64_64 6 rfl) (zi_at zh_dX13_race_64_64 7 rfl) rfl
theorem dX13_race_72 : decode cX13_race 72 = .ok (.ifCond .ne 5, 3) := zo_154 (zi_at zh_dX13_race_64_64 8 rfl) (zi_at zh_dX13_race_64_64 9 rfl) (zi_at zh_dX13_race_64_64 10 rfl) rfl
theorem dX13_race_75 : decode cX13_race 75 = .ok (.iconst (-1), 1) := zo_2 (zi_at zh_dX13_race_64_64 11 rfl)
theorem dX13_race_76 : decode cX13_race 76 = .ok (.ireturn, 1) := zo_172 (zi_at zh_dX13_race_64_64 12 rfl)
theorem dX13_race_77 : decode cX13_race 77 = .ok (.aload_n 0, 1) := zo_42 (zi_at zh_dX13_race_64_64 13 rfl)
theorem dX13_race_78 : decode cX13_race 78 = .ok (.getfield 50, 3) := zo_180 (zi_at zh_dX13_race_64_64 14 rfl) (zi_at zh_dX13_race_64_64 15 rfl) (zi_at zh_dX13_race_78_80 0 rfl) rfl
theorem dX13_race_81 : decode cX13_race 81 = .ok (.aload_n 0, 1) := zo_42 (zi_at zh_dX13_race_78_80 1 rfl)
theorem dX13_race_82 : decode cX13_race 82 = .ok (.getfield 390, 3) := zo_180 (zi_at zh_dX13_race_78_80 2 rfl) (zi_at zh_dX13_race_78_80 3 rfl) (zi_at zh_dX13_race_78_80 4 rfl) rfl
theorem dX13_race_85 : decode cX13_race 85 = .ok (.iload_n 1, 1) := zo_27 (zi_at zh_dX13_race_78_80 5 rfl)
theorem dX13_race_86 : decode cX13_race 86 = .ok (.iastore, 1) := zo_79 (zi_at zh_dX13_race_78_80 6 rfl)
theorem dX13_race_87 : decode cX13_race 87 = .ok (.aload_n 0, 1) := zo_42 (zi_at zh_dX13_race_78_80 7 rfl)
theorem dX13_race_88 : decode cX13_race 88 = .ok (.getfield 53, 3) := zo_180 (zi_at zh_dX13_race_78_80 8 rfl) (zi_at zh_dX13_race_78_80 9 rfl) (zi_at zh_dX13_race_78_80 10 rfl) rfl
theorem dX13_race_91 : decode cX13_race 91 = .ok (.aload_n 0, 1) := zo_42 (zi_at zh_dX13_race_78_80 11 rfl)
theorem dX13_race_92 : decode cX13_race 92 = .ok (.getfield 390, 3) := zo_180 (zi_at zh_dX13_race_78_80 12 rfl) (zi_at zh_dX13_race_78_80 13 rfl) (zi_at zh_dX13_race_78_80 14 rfl) rfl
theorem dX13_race_95 : decode cX13_race 95 = .ok (.iload_n 2, 1) := zo_28 (zi_at zh_dX13_race_78_80 15 rfl)
theorem dX13_race_96 : decode cX13_race 96 = .ok (.iastore, 1) := zo_79 (zi_at zh_dX13_race_96_96 0 rfl)
theorem dX13_race_97 : decode cX13_race 97 = .ok (.aload_n 0, 1) := zo_42 (zi_at zh_dX13_race_96_96 1 rfl)
theorem dX13_race_98 : decode cX13_race 98 = .ok (.getfield 56, 3) := zo_180 (zi_at zh_dX13_race_96_96 2 rfl) (zi_at zh_dX13_race_96_96 3 rfl) (zi_at zh_dX13_race_96_96 4 rfl) rfl
theorem dX13_race_101 : decode cX13_race 101 = .ok (.aload_n 0, 1) := zo_42 (zi_at zh_dX13_race_96_96 5 rfl)
theorem dX13_race_102 : decode cX13_race 102 = .ok (.getfield 390, 3) := zo_180 (zi_at zh_dX13_race_96_96 6 rfl) (zi_at zh_dX13_race_96_96 7 rfl) (zi_at zh_dX13_race_96_96 8 rfl) rfl
theorem dX13_race_105 : decode cX13_race 105 = .ok (.iload_n 3, 1) := zo_29 (zi_at zh_dX13_race_96_96 9 rfl)
theorem dX13_race_106 : decode cX13_race 106 = .ok (.iastore, 1) := zo_79 (zi_at zh_dX13_race_96_96 10 rfl)
theorem dX13_race_107 : decode cX13_race 107 = .ok (.aload_n 0, 1) := zo_42 (zi_at zh_dX13_race_96_96 11 rfl)
theorem dX13_race_108 : decode cX13_race 108 = .ok (.getfield 59, 3) := zo_180 (zi_at zh_dX13_race_96_96 12 rfl) (zi_at zh_dX13_race_96_96 13 rfl) (zi_at zh_dX13_race_96_96 14 rfl) rfl
theorem dX13_race_111 : decode cX13_race 111 = .ok (.aload_n 0, 1) := zo_42 (zi_at zh_dX13_race_96_96 15 rfl)
theorem dX13_race_112 : decode cX13_race 112 = .ok (.getfield 390, 3) := zo_180 (zi_at zh_dX13_race_112_112 0 rfl) (zi_at zh_dX13_race_112_112 1 rfl) (zi_at zh_dX13_race_112_112 2 rfl) rfl
theorem dX13_race_115 : decode cX13_race 115 = .ok (.iload 4, 2) := zo_21 (zi_at zh_dX13_race_112_112 3 rfl) (zi_at zh_dX13_race_112_112 4 rfl)
theorem dX13_race_117 : decode cX13_race 117 = .ok (.iastore, 1) := zo_79 (zi_at zh_dX13_race_112_112 5 rfl)
theorem dX13_race_118 : decode cX13_race 118 = .ok (.aload_n 0, 1) := zo_42 (zi_at zh_dX13_race_112_112 6 rfl)
theorem dX13_race_119 : decode cX13_race 119 = .ok (.getfield 62, 3) := zo_180 (zi_at zh_dX13_race_112_112 7 rfl) (zi_at zh_dX13_race_112_112 8 rfl) (zi_at zh_dX13_race_112_112 9 rfl) rfl
theorem dX13_race_122 : decode cX13_race 122 = .ok (.aload_n 0, 1) := zo_42 (zi_at zh_dX13_race_112_112 10 rfl)
theorem dX13_race_123 : decode cX13_race 123 = .ok (.getfield 390, 3) := zo_180 (zi_at zh_dX13_race_112_112 11 rfl) (zi_at zh_dX13_race_112_112 12 rfl) (zi_at zh_dX13_race_112_112 13 rfl) rfl
theorem dX13_race_126 : decode cX13_race 126 = .ok (.iload 5, 2) := zo_21 (zi_at zh_dX13_race_112_112 14 rfl) (zi_at zh_dX13_race_112_112 15 rfl)
theorem dX13_race_128 : decode cX13_race 128 = .ok (.iastore, 1) := zo_79 (zi_at zh_dX13_race_128_128 0 rfl)
theorem dX13_race_129 : decode cX13_race 129 = .ok (.aload_n 0, 1) := zo_42 (zi_at zh_dX13_race_128_128 1 rfl)
theorem dX13_race_130 : decode cX13_race 130 = .ok (.getfield 65, 3) := zo_180 (zi_at zh_dX13_race_128_128 2 rfl) (zi_at zh_dX13_race_128_128 3 rfl) (zi_at zh_dX13_race_128_128 4 rfl) rfl
theorem dX13_race_133 : decode cX13_race 133 = .ok (.aload_n 0, 1) := zo_42 (zi_at zh_dX13_race_128_128 5 rfl)
theorem dX13_race_134 : decode cX13_race 134 = .ok (.getfield 390, 3) := zo_180 (zi_at zh_dX13_race_128_128 6 rfl) (zi_at zh_dX13_race_128_128 7 rfl) (zi_at zh_dX13_race_128_128 8 rfl) rfl
theorem dX13_race_137 : decode cX13_race 137 = .ok (.iload 6, 2) := zo_21 (zi_at zh_dX13_race_128_128 9 rfl) (zi_at zh_dX13_race_128_128 10 rfl)
theorem dX13_race_139 : decode cX13_race 139 = .ok (.iastore, 1) := zo_79 (zi_at zh_dX13_race_128_128 11 rfl)
theorem dX13_race_140 : decode cX13_race 140 = .ok (.aload_n 0, 1) := zo_42 (zi_at zh_dX13_race_128_128 12 rfl)
theorem dX13_race_141 : decode cX13_race 141 = .ok (.getfield 68, 3) := zo_180 (zi_at zh_dX13_race_128_128 13 rfl) (zi_at zh_dX13_race_128_128 14 rfl) (zi_at zh_dX13_race_128_128 15 rfl) rfl
theorem dX13_race_144 : decode cX13_race 144 = .ok (.aload_n 0, 1) := zo_42 (zi_at zh_dX13_race_144_144 0 rfl)
theorem dX13_race_145 : decode cX13_race 145 = .ok (.getfield 390, 3) := zo_180 (zi_at zh_dX13_race_144_144 1 rfl) (zi_at zh_dX13_race_144_144 2 rfl) (zi_at zh_dX13_race_144_144 3 rfl) rfl
theorem dX13_race_148 : decode cX13_race 148 = .ok (.iconst 2, 1) := zo_5 (zi_at zh_dX13_race_144_144 4 rfl)
theorem dX13_race_149 : decode cX13_race 149 = .ok (.iastore, 1) := zo_79 (zi_at zh_dX13_race_144_144 5 rfl)
theorem dX13_race_150 : decode cX13_race 150 = .ok (.aload_n 0, 1) := zo_42 (zi_at zh_dX13_race_144_144 6 rfl)
theorem dX13_race_151 : decode cX13_race 151 = .ok (.getfield 71, 3) := zo_180 (zi_at zh_dX13_race_144_144 7 rfl) (zi_at zh_dX13_race_144_144 8 rfl) (zi_at zh_dX13_race_144_144 9 rfl) rfl
theorem dX13_race_154 : decode cX13_race 154 = .ok (.aload_n 0, 1) := zo_42 (zi_at zh_dX13_race_144_144 10 rfl)
theorem dX13_race_155 : decode cX13_race 155 = .ok (.getfield 390, 3) := zo_180 (zi_at zh_dX13_race_144_144 11 rfl) (zi_at zh_dX13_race_144_144 12 rfl) (zi_at zh_dX13_race_144_144 13 rfl) rfl
theorem dX13_race_158 : decode cX13_race 158 = .ok (.aload_n 0, 1) := zo_42 (zi_at zh_dX13_race_144_144 14 rfl)
theorem dX13_race_159 : decode cX13_race 159 = .ok (.getfield 232, 3) := zo_180 (zi_at zh_dX13_race_144_144 15 rfl) (zi_at zh_dX13_race_159_160 0 rfl) (zi_at zh_dX13_race_159_160 1 rfl) rfl
theorem dX13_race_162 : decode cX13_race 162 = .ok (.iastore, 1) := zo_79 (zi_at zh_dX13_race_159_160 2 rfl)
theorem dX13_race_163 : decode cX13_race 163 = .ok (.iconst 0, 1) := zo_3 (zi_at zh_dX13_race_159_160 3 rfl)
theorem dX13_race_164 : decode cX13_race 164 = .ok (.istore 7, 2) := zo_54 (zi_at zh_dX13_race_159_160 4 rfl) (zi_at zh_dX13_race_159_160 5 rfl)
theorem dX13_race_166 : decode cX13_race 166 = .ok (.iload 7, 2) := zo_21 (zi_at zh_dX13_race_159_160 6 rfl) (zi_at zh_dX13_race_159_160 7 rfl)
theorem dX13_race_168 : decode cX13_race 168 = .ok (.bipush 16, 2) := zo_16 (zi_at zh_dX13_race_159_160 8 rfl) (zi_at zh_dX13_race_159_160 9 rfl) rfl
theorem dX13_race_170 : decode cX13_race 170 = .ok (.if_icmp .ge 43, 3) := zo_162 (zi_at zh_dX13_race_159_160 10 rfl) (zi_at zh_dX13_race_159_160 11 rfl) (zi_at zh_dX13_race_159_160 12 rfl) rfl
theorem dX13_race_173 : decode cX13_race 173 = .ok (.aload_n 0, 1) := zo_42 (zi_at zh_dX13_race_159_160 13 rfl)
theorem dX13_race_174 : decode cX13_race 174 = .ok (.getfield 74, 3) := zo_180 (zi_at zh_dX13_race_159_160 14 rfl) (zi_at zh_dX13_race_159_160 15 rfl) (zi_at zh_dX13_race_174_176 0 rfl) rfl
theorem dX13_race_177 : decode cX13_race 177 = .ok (.bipush 16, 2) := zo_16 (zi_at zh_dX13_race_174_176 1 rfl) (zi_at zh_dX13_race_174_176 2 rfl) rfl
theorem dX13_race_179 : decode cX13_race 179 = .ok (.aload_n 0, 1) := zo_42 (zi_at zh_dX13_race_174_176 3 rfl)
theorem dX13_race_180 : decode cX13_race 180 = .ok (.getfield 390, 3) := zo_180 (zi_at zh_dX13_race_174_176 4 rfl) (zi_at zh_dX13_race_174_176 5 rfl) (zi_at zh_dX13_race_174_176 6 rfl) rfl
theorem dX13_race_183 : decode cX13_race 183 = .ok (.imul, 1) := zo_104 (zi_at zh_dX13_race_174_176 7 rfl)
theorem dX13_race_184 : decode cX13_race 184 = .ok (.iload 7, 2) := zo_21 (zi_at zh_dX13_race_174_176 8 rfl) (zi_at zh_dX13_race_174_176 9 rfl)
theorem dX13_race_186 : decode cX13_race 186 = .ok (.iadd, 1) := zo_96 (zi_at zh_dX13_race_174_176 10 rfl)
theorem dX13_race_187 : decode cX13_race 187 = .ok (.sipush 1000, 3) := zo_17 (zi_at zh_dX13_race_174_176 11 rfl) (zi_at zh_dX13_race_174_176 12 rfl) (zi_at zh_dX13_race_174_176 13 rfl) rfl
theorem dX13_race_190 : decode cX13_race 190 = .ok (.iastore, 1) := zo_79 (zi_at zh_dX13_race_174_176 14 rfl)
theorem dX13_race_191 : decode cX13_race 191 = .ok (.aload_n 0, 1) := zo_42 (zi_at zh_dX13_race_174_176 15 rfl)
theorem dX13_race_192 : decode cX13_race 192 = .ok (.getfield 77, 3) := zo_180 (zi_at zh_dX13_race_192_192 0 rfl) (zi_at zh_dX13_race_192_192 1 rfl) (zi_at zh_dX13_race_192_192 2 rfl) rfl
theorem dX13_race_195 : decode cX13_race 195 = .ok (.bipush 16, 2) := zo_16 (zi_at zh_dX13_race_192_192 3 rfl) (zi_at zh_dX13_race_192_192 4 rfl) rfl
theorem dX13_race_197 : decode cX13_race 197 = .ok (.aload_n 0, 1) := zo_42 (zi_at zh_dX13_race_192_192 5 rfl)
theorem dX13_race_198 : decode cX13_race 198 = .ok (.getfield 390, 3) := zo_180 (zi_at zh_dX13_race_192_192 6 rfl) (zi_at zh_dX13_race_192_192 7 rfl) (zi_at zh_dX13_race_192_192 8 rfl) rfl
theorem dX13_race_201 : decode cX13_race 201 = .ok (.imul, 1) := zo_104 (zi_at zh_dX13_race_192_192 9 rfl)
theorem dX13_race_202 : decode cX13_race 202 = .ok (.iload 7, 2) := zo_21 (zi_at zh_dX13_race_192_192 10 rfl) (zi_at zh_dX13_race_192_192 11 rfl)
theorem dX13_race_204 : decode cX13_race 204 = .ok (.iadd, 1) := zo_96 (zi_at zh_dX13_race_192_192 12 rfl)
theorem dX13_race_205 : decode cX13_race 205 = .ok (.iconst (-1), 1) := zo_2 (zi_at zh_dX13_race_192_192 13 rfl)
theorem dX13_race_206 : decode cX13_race 206 = .ok (.iastore, 1) := zo_79 (zi_at zh_dX13_race_192_192 14 rfl)
theorem dX13_race_207 : decode cX13_race 207 = .ok (.iinc 7 1, 3) := zo_132 (zi_at zh_dX13_race_192_192 15 rfl) (zi_at zh_dX13_race_207_208 0 rfl) (zi_at zh_dX13_race_207_208 1 rfl) rfl
theorem dX13_race_210 : decode cX13_race 210 = .ok (.goto (-44), 3) := zo_167 (zi_at zh_dX13_race_207_208 2 rfl) (zi_at zh_dX13_race_207_208 3 rfl) (zi_at zh_dX13_race_207_208 4 rfl) rfl
theorem dX13_race_213 : decode cX13_race 213 = .ok (.aload_n 0, 1) := zo_42 (zi_at zh_dX13_race_207_208 5 rfl)
theorem dX13_race_214 : decode cX13_race 214 = .ok (.dup, 1) := zo_89 (zi_at zh_dX13_race_207_208 6 rfl)
theorem dX13_race_215 : decode cX13_race 215 = .ok (.getfield 390, 3) := zo_180 (zi_at zh_dX13_race_207_208 7 rfl) (zi_at zh_dX13_race_207_208 8 rfl) (zi_at zh_dX13_race_207_208 9 rfl) rfl
theorem dX13_race_218 : decode cX13_race 218 = .ok (.iconst 1, 1) := zo_4 (zi_at zh_dX13_race_207_208 10 rfl)
theorem dX13_race_219 : decode cX13_race 219 = .ok (.iadd, 1) := zo_96 (zi_at zh_dX13_race_207_208 11 rfl)
theorem dX13_race_220 : decode cX13_race 220 = .ok (.putfield 390, 3) := zo_181 (zi_at zh_dX13_race_207_208 12 rfl) (zi_at zh_dX13_race_207_208 13 rfl) (zi_at zh_dX13_race_207_208 14 rfl) rfl
theorem dX13_race_223 : decode cX13_race 223 = .ok (.aload_n 0, 1) := zo_42 (zi_at zh_dX13_race_207_208 15 rfl)
theorem dX13_race_224 : decode cX13_race 224 = .ok (.getfield 390, 3) := zo_180 (zi_at zh_dX13_race_224_224 0 rfl) (zi_at zh_dX13_race_224_224 1 rfl) (zi_at zh_dX13_race_224_224 2 rfl) rfl
theorem dX13_race_227 : decode cX13_race 227 = .ok (.iconst 1, 1) := zo_4 (zi_at zh_dX13_race_224_224 3 rfl)
theorem dX13_race_228 : decode cX13_race 228 = .ok (.isub, 1) := zo_100 (zi_at zh_dX13_race_224_224 4 rfl)
theorem dX13_race_229 : decode cX13_race 229 = .ok (.ireturn, 1) := zo_172 (zi_at zh_dX13_race_224_224 5 rfl)

def v_raceR : List Cond := .code yX13_race cX13_race 8 (some .int) :: vA
abbrev rm_raceR : Room := { frames := 2, cells := 0, slots := 0, locals := 80 }
def w_raceR : Nat → Nat → Bool := wl [13, 14, 15, 16, 17, 18, 19, 20, 21, 22] [(0, 0), (0, 46)]
set_option maxHeartbeats 4000000 in
set_option maxRecDepth 100000 in
theorem q_raceR (l : Launch) (dC : Nat → ClassId) (dI : Nat → Nat → Nat) (cT : Nat → ClassId) (ad : Nat → Nat) (E : Nat → va_E) (sz : Nat) (a0 : Int32) (a1 : Int32) (a2 : Int32) (a3 : Int32) (a4 : Int32) (a5 : Int32) (hI0 : IX cT shM spM 72 ad E)  : Met l yX13_race v_raceR rm_raceR (va_Pc [.ref (ad 0), .int a0, .int a1, .int a2, .int a3, .int a4, .int a5] (HW dC dI (TYM cT) 72 ad E sz)) (va_Qi (S := Nat → va_E) (fun r u => IX cT shM spM 72 ad u ∧ Kp w_raceR E u ∧ ((((((0 ≤ a0.toInt ∧ a0.toInt ≤ (xi (E 0) 1).toInt) ∧ (1 ≤ a1.toInt ∧ a1.toInt ≤ 1000) ∧ (0 ≤ a2.toInt ∧ a2.toInt ≤ 1) ∧ (0 ≤ a3.toInt ∧ a3.toInt ≤ 7) ∧ (0 ≤ a4.toInt ∧ a4.toInt ≤ 99) ∧ (0 ≤ a5.toInt ∧ a5.toInt ≤ 99) ∧ (xi (E 0) 46).toInt < 20) → (r.toInt = (xi (E 0) 46).toInt ∧ (xi (u 0) 46).toInt = (xi (E 0) 46).toInt + 1)) ∧ (¬ ((0 ≤ a0.toInt ∧ a0.toInt ≤ (xi (E 0) 1).toInt) ∧ (1 ≤ a1.toInt ∧ a1.toInt ≤ 1000) ∧ (0 ≤ a2.toInt ∧ a2.toInt ≤ 1) ∧ (0 ≤ a3.toInt ∧ a3.toInt ≤ 7) ∧ (0 ≤ a4.toInt ∧ a4.toInt ≤ 99) ∧ (0 ≤ a5.toInt ∧ a5.toInt ≤ 99) ∧ (xi (E 0) 46).toInt < 20) → (r.toInt = -1 ∧ (xi (u 0) 46).toInt = (xi (E 0) 46).toInt)))) ∧ (((((0 ≤ a0.toInt ∧ a0.toInt ≤ (xi (E 0) 1).toInt) ∧ (1 ≤ a1.toInt ∧ a1.toInt ≤ 1000) ∧ (0 ≤ a2.toInt ∧ a2.toInt ≤ 1) ∧ (0 ≤ a3.toInt ∧ a3.toInt ≤ 7) ∧ (0 ≤ a4.toInt ∧ a4.toInt ≤ 99) ∧ (0 ≤ a5.toInt ∧ a5.toInt ≤ 99) ∧ (xi (E 0) 46).toInt < 20) → (xi (u 13) = upd (xi (E 13)) (xi (E 0) 46).toNatClampNeg a0 ∧ xi (u 14) = upd (xi (E 14)) (xi (E 0) 46).toNatClampNeg a1 ∧ xi (u 15) = upd (xi (E 15)) (xi (E 0) 46).toNatClampNeg a2 ∧ xi (u 16) = upd (xi (E 16)) (xi (E 0) 46).toNatClampNeg a3 ∧ xi (u 17) = upd (xi (E 17)) (xi (E 0) 46).toNatClampNeg a4 ∧ xi (u 18) = upd (xi (E 18)) (xi (E 0) 46).toNatClampNeg a5 ∧ xi (u 19) = upd (xi (E 19)) (xi (E 0) 46).toNatClampNeg (2 : Int32) ∧ xi (u 20) = upd (xi (E 20)) (xi (E 0) 46).toNatClampNeg (xi (E 0) 1))) ∧ (¬ ((0 ≤ a0.toInt ∧ a0.toInt ≤ (xi (E 0) 1).toInt) ∧ (1 ≤ a1.toInt ∧ a1.toInt ≤ 1000) ∧ (0 ≤ a2.toInt ∧ a2.toInt ≤ 1) ∧ (0 ≤ a3.toInt ∧ a3.toInt ≤ 7) ∧ (0 ≤ a4.toInt ∧ a4.toInt ≤ 99) ∧ (0 ≤ a5.toInt ∧ a5.toInt ≤ 99) ∧ (xi (E 0) 46).toInt < 20) → (xi (u 13) = xi (E 13) ∧ xi (u 14) = xi (E 14) ∧ xi (u 15) = xi (E 15) ∧ xi (u 16) = xi (E 16) ∧ xi (u 17) = xi (E 17) ∧ xi (u 18) = xi (E 18) ∧ xi (u 19) = xi (E 19) ∧ xi (u 20) = xi (E 20))))) ∧ ((∀ j : Nat, ((j : Int) < 16 * (xi (E 0) 46).toInt ∨ 16 * (xi (E 0) 46).toInt + 16 ≤ (j : Int)) → xi (u 21) j = xi (E 21) j) ∧ (0 ≤ r.toInt → ∀ j : Nat, 16 * (xi (E 0) 46).toInt ≤ (j : Int) → (j : Int) < 16 * (xi (E 0) 46).toInt + 16 → xi (u 21) j = (1000 : Int32))) ∧ ((∀ j : Nat, ((j : Int) < 16 * (xi (E 0) 46).toInt ∨ 16 * (xi (E 0) 46).toInt + 16 ≤ (j : Int)) → xi (u 22) j = xi (E 22) j) ∧ (0 ≤ r.toInt → ∀ j : Nat, 16 * (xi (E 0) 46).toInt ≤ (j : Int) → (j : Int) < 16 * (xi (E 0) 46).toInt + 16 → xi (u 22) j = (-1 : Int32))))) (HB dC dI 72 ad) (va_A (WX 72 ad E) sz)) 0 0 (va_A (WX 72 ad E) sz) := by
  refine Met.ofW (cc := cX13_race) (maxL := 8) (ret := (some .int)) (by decide) rfl ?_
  intro p e s m args below meth c s₁ B hml hv
  obtain ⟨hargs, hsz, hP, hK, hD0, hEV⟩ := hv
  subst hsz
  have hx := B.exec
  have hb := B.bytes
  have hr := B.returns
  have hts := atoms_spec (ws := v_raceR) B.pre
  have hown : s.vm.findClass RX13 = some m.cls := findClass_of_methodNamed B.named
  have hlocks := B.notSynchronized
  have hinX13 : ∀ w ∈ u_ws RX13 TX13 97, w ∈ v_raceR := fun w h => vA_in _ w (in_X13 w h)
  generalize hAe : va_A (WX 72 ad E) s.heap.size = A at hEV ⊢
  have hA : ∀ q : Nat, s.heap.size ≤ q → A q := fun q h => by rw [← hAe]; exact Or.inr h
  have hD : va_D A (WX 72 ad E) := by rw [← hAe]; exact hD0.self
  have hS : va_S A s.heap s.heap [] := va_S.rf
  have hI := hI0
  have hKp : Kp w_raceR E E := Kp.rf
  have hl := lv_entry ([.ref (ad 0), .int a0, .int a1, .int a2, .int a3, .int a4, .int a5]) (n := 8) (Nat.le_of_ble_eq_true rfl)
  obtain ⟨Q, hQ⟩ : ∃ Q, Q = MQ below (va_Qi (S := Nat → va_E) (fun r u => IX cT shM spM 72 ad u ∧ Kp w_raceR E u ∧ ((((((0 ≤ a0.toInt ∧ a0.toInt ≤ (xi (E 0) 1).toInt) ∧ (1 ≤ a1.toInt ∧ a1.toInt ≤ 1000) ∧ (0 ≤ a2.toInt ∧ a2.toInt ≤ 1) ∧ (0 ≤ a3.toInt ∧ a3.toInt ≤ 7) ∧ (0 ≤ a4.toInt ∧ a4.toInt ≤ 99) ∧ (0 ≤ a5.toInt ∧ a5.toInt ≤ 99) ∧ (xi (E 0) 46).toInt < 20) → (r.toInt = (xi (E 0) 46).toInt ∧ (xi (u 0) 46).toInt = (xi (E 0) 46).toInt + 1)) ∧ (¬ ((0 ≤ a0.toInt ∧ a0.toInt ≤ (xi (E 0) 1).toInt) ∧ (1 ≤ a1.toInt ∧ a1.toInt ≤ 1000) ∧ (0 ≤ a2.toInt ∧ a2.toInt ≤ 1) ∧ (0 ≤ a3.toInt ∧ a3.toInt ≤ 7) ∧ (0 ≤ a4.toInt ∧ a4.toInt ≤ 99) ∧ (0 ≤ a5.toInt ∧ a5.toInt ≤ 99) ∧ (xi (E 0) 46).toInt < 20) → (r.toInt = -1 ∧ (xi (u 0) 46).toInt = (xi (E 0) 46).toInt)))) ∧ (((((0 ≤ a0.toInt ∧ a0.toInt ≤ (xi (E 0) 1).toInt) ∧ (1 ≤ a1.toInt ∧ a1.toInt ≤ 1000) ∧ (0 ≤ a2.toInt ∧ a2.toInt ≤ 1) ∧ (0 ≤ a3.toInt ∧ a3.toInt ≤ 7) ∧ (0 ≤ a4.toInt ∧ a4.toInt ≤ 99) ∧ (0 ≤ a5.toInt ∧ a5.toInt ≤ 99) ∧ (xi (E 0) 46).toInt < 20) → (xi (u 13) = upd (xi (E 13)) (xi (E 0) 46).toNatClampNeg a0 ∧ xi (u 14) = upd (xi (E 14)) (xi (E 0) 46).toNatClampNeg a1 ∧ xi (u 15) = upd (xi (E 15)) (xi (E 0) 46).toNatClampNeg a2 ∧ xi (u 16) = upd (xi (E 16)) (xi (E 0) 46).toNatClampNeg a3 ∧ xi (u 17) = upd (xi (E 17)) (xi (E 0) 46).toNatClampNeg a4 ∧ xi (u 18) = upd (xi (E 18)) (xi (E 0) 46).toNatClampNeg a5 ∧ xi (u 19) = upd (xi (E 19)) (xi (E 0) 46).toNatClampNeg (2 : Int32) ∧ xi (u 20) = upd (xi (E 20)) (xi (E 0) 46).toNatClampNeg (xi (E 0) 1))) ∧ (¬ ((0 ≤ a0.toInt ∧ a0.toInt ≤ (xi (E 0) 1).toInt) ∧ (1 ≤ a1.toInt ∧ a1.toInt ≤ 1000) ∧ (0 ≤ a2.toInt ∧ a2.toInt ≤ 1) ∧ (0 ≤ a3.toInt ∧ a3.toInt ≤ 7) ∧ (0 ≤ a4.toInt ∧ a4.toInt ≤ 99) ∧ (0 ≤ a5.toInt ∧ a5.toInt ≤ 99) ∧ (xi (E 0) 46).toInt < 20) → (xi (u 13) = xi (E 13) ∧ xi (u 14) = xi (E 14) ∧ xi (u 15) = xi (E 15) ∧ xi (u 16) = xi (E 16) ∧ xi (u 17) = xi (E 17) ∧ xi (u 18) = xi (E 18) ∧ xi (u 19) = xi (E 19) ∧ xi (u 20) = xi (E 20))))) ∧ ((∀ j : Nat, ((j : Int) < 16 * (xi (E 0) 46).toInt ∨ 16 * (xi (E 0) 46).toInt + 16 ≤ (j : Int)) → xi (u 21) j = xi (E 21) j) ∧ (0 ≤ r.toInt → ∀ j : Nat, 16 * (xi (E 0) 46).toInt ≤ (j : Int) → (j : Int) < 16 * (xi (E 0) 46).toInt + 16 → xi (u 21) j = (1000 : Int32))) ∧ ((∀ j : Nat, ((j : Int) < 16 * (xi (E 0) 46).toInt ∨ 16 * (xi (E 0) 46).toInt + 16 ≤ (j : Int)) → xi (u 22) j = xi (E 22) j) ∧ (0 ≤ r.toInt → ∀ j : Nat, 16 * (xi (E 0) 46).toInt ≤ (j : Int) → (j : Int) < 16 * (xi (E 0) 46).toInt + 16 → xi (u 22) j = (-1 : Int32))))) (HB dC dI 72 ad) (A)) args s 0 0 (A) := ⟨_, rfl⟩
  rw [← hQ, show entryFrame m args 8 = _ from (congrArg (fun z => entryFrame m z 8) hargs).trans (lg_entry_eq _ _ _)]
  generalize (lg_sl ([.ref (ad 0), .int a0, .int a1, .int a2, .int a3, .int a4, .int a5]) ++ List.replicate (8 - (lg_sl ([.ref (ad 0), .int a0, .int a1, .int a2, .int a3, .int a4, .int a5])).length) Slot.unset).toArray = ls at hl ⊢
  have hl : lv_has ls 8 [(0, .ref (ad 0)), (1, .int a0), (2, .int a1), (3, .int a2), (4, .int a3), (5, .int a4), (6, .int a5)] := hl
  obtain ⟨y1, ey1⟩ : ∃ y, xi (E 0) 46 = y := ⟨_, rfl⟩
  have fy1 : xv (E 0) 46 = .int y1 := (hI.fi 0 (Nat.le_of_ble_eq_true rfl) rfl (Nat.le_of_ble_eq_true rfl) rfl).trans (congrArg Value.int ey1)
  have iy1 : 0 ≤ y1.toInt ∧ y1.toInt ≤ 20 := by rw [← ey1]; exact hI.iv 0 (Nat.le_of_ble_eq_true rfl) rfl (Nat.le_of_ble_eq_true rfl) rfl
  obtain ⟨g2, hg2⟩ : ∃ g, xi (E 13) = g := ⟨_, rfl⟩
  obtain ⟨g3, hg3⟩ : ∃ g, xi (E 14) = g := ⟨_, rfl⟩
  obtain ⟨g4, hg4⟩ : ∃ g, xi (E 15) = g := ⟨_, rfl⟩
  obtain ⟨g5, hg5⟩ : ∃ g, xi (E 16) = g := ⟨_, rfl⟩
  obtain ⟨g6, hg6⟩ : ∃ g, xi (E 17) = g := ⟨_, rfl⟩
  obtain ⟨g7, hg7⟩ : ∃ g, xi (E 18) = g := ⟨_, rfl⟩
  obtain ⟨g8, hg8⟩ : ∃ g, xi (E 19) = g := ⟨_, rfl⟩
  obtain ⟨g9, hg9⟩ : ∃ g, xi (E 20) = g := ⟨_, rfl⟩
  obtain ⟨g10, hg10⟩ : ∃ g, xi (E 21) = g := ⟨_, rfl⟩
  obtain ⟨g11, hg11⟩ : ∃ g, xi (E 22) = g := ⟨_, rfl⟩
  refine lv_aload_n hx hb dX13_race_0 rfl (lv_at hl 0 rfl) ?_
  refine lv_iconst (v := 0) hx hb dX13_race_1 (by decide) ?_
  refine th_put (ci := 14) (C := RX13) (T := TX13) (N := 97) (v := .int 0) (ty := .int) hx hb hts hinX13 tyX13 tyX13_ok nmX13 hown hK hP (WX_D hD) hS hI 0 (Nat.le_of_ble_eq_true rfl) rfl rfl 0 (Nat.le_of_ble_eq_true rfl) (hts _ (vA_in _ _ (in_24 _ (zs4 (zs4 (zs1 (zs1 (zs0)))))))) (fun _ h9 => h9) rfl (by decide +kernel) rfl rfl (okI rfl (iv_w ln_0 (by decide))) dX13_race_2 (fun H locs E12 pw13 hI hP hS => ?_)
  have hKp := hKp.pw pw13 rfl
  refine lv_aload_n hx hb dX13_race_5 rfl (lv_at hl 0 rfl) ?_
  refine th_get (ci := 14) (C := RX13) (T := TX13) (N := 97) (v := .int y1) hx hb hts hinX13 hown hK hP hI 0 (Nat.le_of_ble_eq_true rfl) rfl rfl 46 (Nat.le_of_ble_eq_true rfl) (hts _ (vA_in _ _ (in_24 _ (zs16 (zs1 (zs0)))))) (fun _ h9 => h9) ((pw13.2 0 46 (fun q9 => absurd q9.2 (Nat.ne_of_beq_eq_false rfl))).trans fy1) dX13_race_6 ?_
  refine lv_bipush (v := 20) hx hb dX13_race_9 (by decide) ?_
  refine lv_icmp_eq (tgt := 75) hx hb dX13_race_11 (by decide) (fun c14 => ?_) (fun c14 => ?_)
  · --11 taken
    have t15 : y1.toInt = 20 := ti_eq c14
    have i16 : 20 ≤ y1.toInt ∧ y1.toInt ≤ 20 := iv_eqi t15 iy1 (il_ 20) (by decide)
    refine lv_iconst (v := -1) hx hb dX13_race_75 (by decide) ?_
    rw [hQ]
    exact W.iret (v := (-1)) hx hb hr (fun t ht hW => ⟨⟨(-1), E12, rfl, ⟨hI, hKp, ⟨by have h8 := ln_m1; (try rw [(show xi (E12 0) 46 = y1 from vi_e ((pw13.2 0 46 (fun q9 => absurd q9.2 (Nat.ne_of_beq_eq_false rfl))).trans fy1))]); (try rw [ey1]); all_goals omega, ⟨fun g9 => by exfalso; (try rw [ey1] at g9); omega, fun _ => ⟨(show xi (E12 13) = g2 from ((pw13.ef 13 (Nat.ne_of_beq_eq_false rfl)).trans hg2)).trans (show xi (E 13) = g2 from hg2).symm, (show xi (E12 14) = g3 from ((pw13.ef 14 (Nat.ne_of_beq_eq_false rfl)).trans hg3)).trans (show xi (E 14) = g3 from hg3).symm, (show xi (E12 15) = g4 from ((pw13.ef 15 (Nat.ne_of_beq_eq_false rfl)).trans hg4)).trans (show xi (E 15) = g4 from hg4).symm, (show xi (E12 16) = g5 from ((pw13.ef 16 (Nat.ne_of_beq_eq_false rfl)).trans hg5)).trans (show xi (E 16) = g5 from hg5).symm, (show xi (E12 17) = g6 from ((pw13.ef 17 (Nat.ne_of_beq_eq_false rfl)).trans hg6)).trans (show xi (E 17) = g6 from hg6).symm, (show xi (E12 18) = g7 from ((pw13.ef 18 (Nat.ne_of_beq_eq_false rfl)).trans hg7)).trans (show xi (E 18) = g7 from hg7).symm, (show xi (E12 19) = g8 from ((pw13.ef 19 (Nat.ne_of_beq_eq_false rfl)).trans hg8)).trans (show xi (E 19) = g8 from hg8).symm, (show xi (E12 20) = g9 from ((pw13.ef 20 (Nat.ne_of_beq_eq_false rfl)).trans hg9)).trans (show xi (E 20) = g9 from hg9).symm⟩⟩, by rw [show xi (E12 21) = g10 from ((pw13.ef 21 (Nat.ne_of_beq_eq_false rfl)).trans hg10), show xi (E 21) = g10 from hg10, ey1]; exact ⟨fun _ _ => rfl, fun h => absurd h (by decide)⟩, by rw [show xi (E12 22) = g11 from ((pw13.ef 22 (Nat.ne_of_beq_eq_false rfl)).trans hg11), show xi (E 22) = g11 from hg11, ey1]; exact ⟨fun _ _ => rfl, fun h => absurd h (by decide)⟩⟩⟩, by show va_P (dC, dI) vwCl (WX 72 ad E12) t.heap; rw [ht]; exact hP⟩, hS.F ht⟩) hS.2.2 dX13_race_76
  · --11 not
    have t17 : ¬ y1.toInt = 20 := ti_ne c14
    have i18 : 0 ≤ y1.toInt ∧ y1.toInt ≤ 19 := iv_ne_r t17 iy1 (il_ 20)
    refine lv_aload_n hx hb dX13_race_14 rfl (lv_at hl 0 rfl) ?_
    refine lv_iload_n hx hb dX13_race_15 rfl (lv_at hl 1 rfl) ?_
    refine th_ri (va_runV (As := [.int a0]) (rest := []) ⟨hx, hb, hml, hown, hts⟩ (q_isKnown l dC dI cT ad E12 H.size a0 hI) (cwV 1 hts (gi_V (in_24 _ (zs16 (zs4 (zs1 (zs1 (zs1 (zs0))))))) (in_24 _ (zs16 (zs4 (zs4 (zs0))))) (in_24 _ (zs16 (zs4 (zs4 (zs1 (zs0)))))) (in_24 _ (zs4 (zs4 (zs4 (zs1 (zs1 (zs1 (zs0)))))))) (in_24 _ (zs16 (zs4 (zs4 (zs1 (zs1 (zs0)))))))) rfl rfl rfl ⟨rfl, hz_yX13_isKnown_1⟩ ⟨Nat.le_of_ble_eq_true rfl, Nat.le_of_ble_eq_true rfl⟩) ⟨HW_bl, va_recv hK hP (ci := 14) (q0 := 0) rfl (hI.ob 0 (Nat.le_of_ble_eq_true rfl) rfl), (HW_wi hP hK (WX_D hD) hS hA hEV)⟩ rfl rfl hl.1 rfl (lv_room (Nat.le_of_ble_eq_true rfl)) dX13_race_16 ⟨Nat.le_of_ble_eq_true rfl, Nat.le_of_ble_eq_true rfl⟩) hS hP (fun r19 H locs hw hP hS => ?_)
    rcases hw with hw | hw
    · -- isKnown, case 0
      obtain ⟨rfl, f20⟩ := hw
      have i21 : 0 ≤ (xi (E 0) 1).toInt ∧ (xi (E 0) 1).toInt ≤ 400 := (show 0 ≤ (xi (E 0) 1).toInt ∧ (xi (E 0) 1).toInt ≤ 400 from hI0.iv 0 (Nat.le_of_ble_eq_true rfl) rfl (Nat.le_of_ble_eq_true rfl) rfl)
      try rw [hKp.ei 0 1 rfl] at f20
      have t22 : (0 : Int) ≤ a0.toInt := f20.1
      have t23 : a0.toInt ≤ (xi (E 0) 1).toInt := f20.2
      have i24 : 0 ≤ a0.toInt ∧ a0.toInt ≤ 2147483647 := iv_le_r t22 (il_ 0) (iv_all _) (by decide)
      have i25 : 0 ≤ a0.toInt ∧ a0.toInt ≤ 400 := iv_le_l t23 i24 i21 (by decide)
      refine lv_if_eq (tgt := 75) hx hb dX13_race_19 (by decide) (fun c26 => ?_) (fun c26 => ?_)
      · --19 taken
        exact absurd c26 (by decide)
      · --19 not
        refine lv_iload_n hx hb dX13_race_22 rfl (lv_at hl 2 rfl) ?_
        refine lv_iconst (v := 1) hx hb dX13_race_23 (by decide) ?_
        refine lv_sipush (v := 1000) hx hb dX13_race_24 (by decide) ?_
        refine th_pi (va_runS (As := [.int a1, .int 1, .int 1000]) (rest := []) ⟨hx, hb, hml, hown, hts⟩ (q_isIn l a1 (1 : Int32) (1000 : Int32)) (va_cwS 3 hts (gi_S (in_24 _ (zs16 (zs4 (zs4 (zs4 (zs0)))))) (in_24 _ (zs16 (zs4 (zs4 (zs4 (zs1 (zs0))))))) (in_24 _ (zs4 (zs4 (zs4 (zs1 (zs1 (zs1 (zs0)))))))) (in_24 _ (zs16 (zs4 (zs4 (zs4 (zs1 (zs1 (zs0))))))))) rfl rfl rfl hz_yX13_isIn_3 ⟨Nat.le_of_ble_eq_true rfl, Nat.le_of_ble_eq_true rfl⟩) ⟨fun _ _ _ _ q => q, fun _ _ _ => ⟨rfl, trivial⟩⟩ rfl rfl hl.1 rfl (lv_room (Nat.le_of_ble_eq_true rfl)) dX13_race_27 ⟨Nat.le_of_ble_eq_true rfl, Nat.le_of_ble_eq_true rfl⟩) hS (fun r27 H1 locs1 hw hk1 hS => ?_)
        have hP := ub_keep hP hk1
        generalize H1 = H at hP hS ⊢
        generalize locs1 = locs at hS ⊢
        rcases hw with hw | hw
        · -- isIn, case 0
          obtain ⟨rfl, f28⟩ := hw
          have t29 : (1 : Int) ≤ a1.toInt := f28.1
          have t30 : a1.toInt ≤ 1000 := f28.2
          have i31 : 1 ≤ a1.toInt ∧ a1.toInt ≤ 2147483647 := iv_le_r t29 (il_ 1) (iv_all _) (by decide)
          have i32 : 1 ≤ a1.toInt ∧ a1.toInt ≤ 1000 := iv_le_l t30 i31 (il_ 1000) (by decide)
          refine lv_if_eq (tgt := 75) hx hb dX13_race_30 (by decide) (fun c33 => ?_) (fun c33 => ?_)
          · --30 taken
            exact absurd c33 (by decide)
          · --30 not
            refine lv_iload_n hx hb dX13_race_33 rfl (lv_at hl 3 rfl) ?_
            refine lv_iconst (v := 0) hx hb dX13_race_34 (by decide) ?_
            refine lv_iconst (v := 1) hx hb dX13_race_35 (by decide) ?_
            refine th_pi (va_runS (As := [.int a2, .int 0, .int 1]) (rest := []) ⟨hx, hb, hml, hown, hts⟩ (q_isIn l a2 (0 : Int32) (1 : Int32)) (va_cwS 3 hts (gi_S (in_24 _ (zs16 (zs4 (zs4 (zs4 (zs0)))))) (in_24 _ (zs16 (zs4 (zs4 (zs4 (zs1 (zs0))))))) (in_24 _ (zs4 (zs4 (zs4 (zs1 (zs1 (zs1 (zs0)))))))) (in_24 _ (zs16 (zs4 (zs4 (zs4 (zs1 (zs1 (zs0))))))))) rfl rfl rfl hz_yX13_isIn_3 ⟨Nat.le_of_ble_eq_true rfl, Nat.le_of_ble_eq_true rfl⟩) ⟨fun _ _ _ _ q => q, fun _ _ _ => ⟨rfl, trivial⟩⟩ rfl rfl hl.1 rfl (lv_room (Nat.le_of_ble_eq_true rfl)) dX13_race_36 ⟨Nat.le_of_ble_eq_true rfl, Nat.le_of_ble_eq_true rfl⟩) hS (fun r34 H1 locs1 hw hk1 hS => ?_)
            have hP := ub_keep hP hk1
            generalize H1 = H at hP hS ⊢
            generalize locs1 = locs at hS ⊢
            rcases hw with hw | hw
            · -- isIn, case 0
              obtain ⟨rfl, f35⟩ := hw
              have t36 : (0 : Int) ≤ a2.toInt := f35.1
              have t37 : a2.toInt ≤ 1 := f35.2
              have i38 : 0 ≤ a2.toInt ∧ a2.toInt ≤ 2147483647 := iv_le_r t36 (il_ 0) (iv_all _) (by decide)
              have i39 : 0 ≤ a2.toInt ∧ a2.toInt ≤ 1 := iv_le_l t37 i38 (il_ 1) (by decide)
              refine lv_if_eq (tgt := 75) hx hb dX13_race_39 (by decide) (fun c40 => ?_) (fun c40 => ?_)
              · --39 taken
                exact absurd c40 (by decide)
              · --39 not
                refine lv_iload hx hb dX13_race_42 (lv_at hl 4 rfl) ?_
                refine lv_iconst (v := 0) hx hb dX13_race_44 (by decide) ?_
                refine lv_bipush (v := 7) hx hb dX13_race_45 (by decide) ?_
                refine th_pi (va_runS (As := [.int a3, .int 0, .int 7]) (rest := []) ⟨hx, hb, hml, hown, hts⟩ (q_isIn l a3 (0 : Int32) (7 : Int32)) (va_cwS 3 hts (gi_S (in_24 _ (zs16 (zs4 (zs4 (zs4 (zs0)))))) (in_24 _ (zs16 (zs4 (zs4 (zs4 (zs1 (zs0))))))) (in_24 _ (zs4 (zs4 (zs4 (zs1 (zs1 (zs1 (zs0)))))))) (in_24 _ (zs16 (zs4 (zs4 (zs4 (zs1 (zs1 (zs0))))))))) rfl rfl rfl hz_yX13_isIn_3 ⟨Nat.le_of_ble_eq_true rfl, Nat.le_of_ble_eq_true rfl⟩) ⟨fun _ _ _ _ q => q, fun _ _ _ => ⟨rfl, trivial⟩⟩ rfl rfl hl.1 rfl (lv_room (Nat.le_of_ble_eq_true rfl)) dX13_race_47 ⟨Nat.le_of_ble_eq_true rfl, Nat.le_of_ble_eq_true rfl⟩) hS (fun r41 H1 locs1 hw hk1 hS => ?_)
                have hP := ub_keep hP hk1
                generalize H1 = H at hP hS ⊢
                generalize locs1 = locs at hS ⊢
                rcases hw with hw | hw
                · -- isIn, case 0
                  obtain ⟨rfl, f42⟩ := hw
                  have t43 : (0 : Int) ≤ a3.toInt := f42.1
                  have t44 : a3.toInt ≤ 7 := f42.2
                  have i45 : 0 ≤ a3.toInt ∧ a3.toInt ≤ 2147483647 := iv_le_r t43 (il_ 0) (iv_all _) (by decide)
                  have i46 : 0 ≤ a3.toInt ∧ a3.toInt ≤ 7 := iv_le_l t44 i45 (il_ 7) (by decide)
                  refine lv_if_eq (tgt := 75) hx hb dX13_race_50 (by decide) (fun c47 => ?_) (fun c47 => ?_)
                  · --50 taken
                    exact absurd c47 (by decide)
                  · --50 not
                    refine lv_iload hx hb dX13_race_53 (lv_at hl 5 rfl) ?_
                    refine lv_iconst (v := 0) hx hb dX13_race_55 (by decide) ?_
                    refine lv_bipush (v := 99) hx hb dX13_race_56 (by decide) ?_
                    refine th_pi (va_runS (As := [.int a4, .int 0, .int 99]) (rest := []) ⟨hx, hb, hml, hown, hts⟩ (q_isIn l a4 (0 : Int32) (99 : Int32)) (va_cwS 3 hts (gi_S (in_24 _ (zs16 (zs4 (zs4 (zs4 (zs0)))))) (in_24 _ (zs16 (zs4 (zs4 (zs4 (zs1 (zs0))))))) (in_24 _ (zs4 (zs4 (zs4 (zs1 (zs1 (zs1 (zs0)))))))) (in_24 _ (zs16 (zs4 (zs4 (zs4 (zs1 (zs1 (zs0))))))))) rfl rfl rfl hz_yX13_isIn_3 ⟨Nat.le_of_ble_eq_true rfl, Nat.le_of_ble_eq_true rfl⟩) ⟨fun _ _ _ _ q => q, fun _ _ _ => ⟨rfl, trivial⟩⟩ rfl rfl hl.1 rfl (lv_room (Nat.le_of_ble_eq_true rfl)) dX13_race_58 ⟨Nat.le_of_ble_eq_true rfl, Nat.le_of_ble_eq_true rfl⟩) hS (fun r48 H1 locs1 hw hk1 hS => ?_)
                    have hP := ub_keep hP hk1
                    generalize H1 = H at hP hS ⊢
                    generalize locs1 = locs at hS ⊢
                    rcases hw with hw | hw
                    · -- isIn, case 0
                      obtain ⟨rfl, f49⟩ := hw
                      have t50 : (0 : Int) ≤ a4.toInt := f49.1
                      have t51 : a4.toInt ≤ 99 := f49.2
                      have i52 : 0 ≤ a4.toInt ∧ a4.toInt ≤ 2147483647 := iv_le_r t50 (il_ 0) (iv_all _) (by decide)
                      have i53 : 0 ≤ a4.toInt ∧ a4.toInt ≤ 99 := iv_le_l t51 i52 (il_ 99) (by decide)
                      refine lv_if_eq (tgt := 75) hx hb dX13_race_61 (by decide) (fun c54 => ?_) (fun c54 => ?_)
                      · --61 taken
                        exact absurd c54 (by decide)
                      · --61 not
                        refine lv_iload hx hb dX13_race_64 (lv_at hl 6 rfl) ?_
                        refine lv_iconst (v := 0) hx hb dX13_race_66 (by decide) ?_
                        refine lv_bipush (v := 99) hx hb dX13_race_67 (by decide) ?_
                        refine th_pi (va_runS (As := [.int a5, .int 0, .int 99]) (rest := []) ⟨hx, hb, hml, hown, hts⟩ (q_isIn l a5 (0 : Int32) (99 : Int32)) (va_cwS 3 hts (gi_S (in_24 _ (zs16 (zs4 (zs4 (zs4 (zs0)))))) (in_24 _ (zs16 (zs4 (zs4 (zs4 (zs1 (zs0))))))) (in_24 _ (zs4 (zs4 (zs4 (zs1 (zs1 (zs1 (zs0)))))))) (in_24 _ (zs16 (zs4 (zs4 (zs4 (zs1 (zs1 (zs0))))))))) rfl rfl rfl hz_yX13_isIn_3 ⟨Nat.le_of_ble_eq_true rfl, Nat.le_of_ble_eq_true rfl⟩) ⟨fun _ _ _ _ q => q, fun _ _ _ => ⟨rfl, trivial⟩⟩ rfl rfl hl.1 rfl (lv_room (Nat.le_of_ble_eq_true rfl)) dX13_race_69 ⟨Nat.le_of_ble_eq_true rfl, Nat.le_of_ble_eq_true rfl⟩) hS (fun r55 H1 locs1 hw hk1 hS => ?_)
                        have hP := ub_keep hP hk1
                        generalize H1 = H at hP hS ⊢
                        generalize locs1 = locs at hS ⊢
                        rcases hw with hw | hw
                        · -- isIn, case 0
                          obtain ⟨rfl, f56⟩ := hw
                          have t57 : (0 : Int) ≤ a5.toInt := f56.1
                          have t58 : a5.toInt ≤ 99 := f56.2
                          have i59 : 0 ≤ a5.toInt ∧ a5.toInt ≤ 2147483647 := iv_le_r t57 (il_ 0) (iv_all _) (by decide)
                          have i60 : 0 ≤ a5.toInt ∧ a5.toInt ≤ 99 := iv_le_l t58 i59 (il_ 99) (by decide)
                          refine lv_if_ne (tgt := 77) hx hb dX13_race_72 (by decide) (fun c61 => ?_) (fun c61 => ?_)
                          · --72 taken
                            refine lv_aload_n hx hb dX13_race_77 rfl (lv_at hl 0 rfl) ?_
                            refine th_get (ci := 14) (C := RX13) (T := TX13) (N := 97) (v := .ref (ad 13)) hx hb hts hinX13 hown hK hP hI 0 (Nat.le_of_ble_eq_true rfl) rfl rfl 27 (Nat.le_of_ble_eq_true rfl) (hts _ (vA_in _ _ (in_27 _ (zs16 (zs16 (zs0)))))) (fun _ h9 => h9) (hI.fr 0 (Nat.le_of_ble_eq_true rfl) rfl (Nat.le_of_ble_eq_true rfl) 13 rfl) dX13_race_78 ?_
                            refine lv_aload_n hx hb dX13_race_81 rfl (lv_at hl 0 rfl) ?_
                            refine th_get (ci := 14) (C := RX13) (T := TX13) (N := 97) (v := .int y1) hx hb hts hinX13 hown hK hP hI 0 (Nat.le_of_ble_eq_true rfl) rfl rfl 46 (Nat.le_of_ble_eq_true rfl) (hts _ (vA_in _ _ (in_24 _ (zs16 (zs1 (zs0)))))) (fun _ h9 => h9) ((pw13.2 0 46 (fun q9 => absurd q9.2 (Nat.ne_of_beq_eq_false rfl))).trans fy1) dX13_race_82 ?_
                            refine lv_iload_n hx hb dX13_race_85 rfl (lv_at hl 1 rfl) ?_
                            have n62 : vp_in y1 20 := (iv_in (n := 20) i18 (by decide))
                            refine th_iast hx hb hK hP (WX_D hD) hS hI 13 (Nat.le_of_ble_eq_true rfl) rfl rfl n62 (okI rfl i25) dX13_race_86 (fun H locs E63 pw64 hI hP hS => ?_)
                            have hKp := hKp.pw pw64 rfl
                            obtain ⟨g65, eg65⟩ : ∃ z : Nat → Int32, z = upd g2 y1.toNatClampNeg a0 := ⟨_, rfl⟩
                            have hg65 : xi (E63 13) = g65 := by rw [pw64.eu, ((pw13.ef 13 (Nat.ne_of_beq_eq_false rfl)).trans hg2), eg65]
                            refine lv_aload_n hx hb dX13_race_87 rfl (lv_at hl 0 rfl) ?_
                            refine th_get (ci := 14) (C := RX13) (T := TX13) (N := 97) (v := .ref (ad 14)) hx hb hts hinX13 hown hK hP hI 0 (Nat.le_of_ble_eq_true rfl) rfl rfl 28 (Nat.le_of_ble_eq_true rfl) (hts _ (vA_in _ _ (in_30 _ (zs4 (zs4 (zs1 (zs1 (zs0)))))))) (fun _ h9 => h9) (hI.fr 0 (Nat.le_of_ble_eq_true rfl) rfl (Nat.le_of_ble_eq_true rfl) 14 rfl) dX13_race_88 ?_
                            refine lv_aload_n hx hb dX13_race_91 rfl (lv_at hl 0 rfl) ?_
                            refine th_get (ci := 14) (C := RX13) (T := TX13) (N := 97) (v := .int y1) hx hb hts hinX13 hown hK hP hI 0 (Nat.le_of_ble_eq_true rfl) rfl rfl 46 (Nat.le_of_ble_eq_true rfl) (hts _ (vA_in _ _ (in_24 _ (zs16 (zs1 (zs0)))))) (fun _ h9 => h9) ((pw64.2 0 46 (fun q9 => absurd q9.1 (Nat.ne_of_beq_eq_false rfl))).trans ((pw13.2 0 46 (fun q9 => absurd q9.2 (Nat.ne_of_beq_eq_false rfl))).trans fy1)) dX13_race_92 ?_
                            refine lv_iload_n hx hb dX13_race_95 rfl (lv_at hl 2 rfl) ?_
                            have n66 : vp_in y1 20 := (iv_in (n := 20) i18 (by decide))
                            refine th_iast hx hb hK hP (WX_D hD) hS hI 14 (Nat.le_of_ble_eq_true rfl) rfl rfl n66 (okI rfl (iv_w i32 (by decide))) dX13_race_96 (fun H locs E67 pw68 hI hP hS => ?_)
                            have hKp := hKp.pw pw68 rfl
                            obtain ⟨g69, eg69⟩ : ∃ z : Nat → Int32, z = upd g3 y1.toNatClampNeg a1 := ⟨_, rfl⟩
                            have hg69 : xi (E67 14) = g69 := by rw [pw68.eu, ((pw64.ef 14 (Nat.ne_of_beq_eq_false rfl)).trans ((pw13.ef 14 (Nat.ne_of_beq_eq_false rfl)).trans hg3)), eg69]
                            refine lv_aload_n hx hb dX13_race_97 rfl (lv_at hl 0 rfl) ?_
                            refine th_get (ci := 14) (C := RX13) (T := TX13) (N := 97) (v := .ref (ad 15)) hx hb hts hinX13 hown hK hP hI 0 (Nat.le_of_ble_eq_true rfl) rfl rfl 29 (Nat.le_of_ble_eq_true rfl) (hts _ (vA_in _ _ (in_27 _ (zs16 (zs16 (zs1 (zs0))))))) (fun _ h9 => h9) (hI.fr 0 (Nat.le_of_ble_eq_true rfl) rfl (Nat.le_of_ble_eq_true rfl) 15 rfl) dX13_race_98 ?_
                            refine lv_aload_n hx hb dX13_race_101 rfl (lv_at hl 0 rfl) ?_
                            refine th_get (ci := 14) (C := RX13) (T := TX13) (N := 97) (v := .int y1) hx hb hts hinX13 hown hK hP hI 0 (Nat.le_of_ble_eq_true rfl) rfl rfl 46 (Nat.le_of_ble_eq_true rfl) (hts _ (vA_in _ _ (in_24 _ (zs16 (zs1 (zs0)))))) (fun _ h9 => h9) ((pw68.2 0 46 (fun q9 => absurd q9.1 (Nat.ne_of_beq_eq_false rfl))).trans ((pw64.2 0 46 (fun q9 => absurd q9.1 (Nat.ne_of_beq_eq_false rfl))).trans ((pw13.2 0 46 (fun q9 => absurd q9.2 (Nat.ne_of_beq_eq_false rfl))).trans fy1))) dX13_race_102 ?_
                            refine lv_iload_n hx hb dX13_race_105 rfl (lv_at hl 3 rfl) ?_
                            have n70 : vp_in y1 20 := (iv_in (n := 20) i18 (by decide))
                            refine th_iast hx hb hK hP (WX_D hD) hS hI 15 (Nat.le_of_ble_eq_true rfl) rfl rfl n70 (okI rfl i39) dX13_race_106 (fun H locs E71 pw72 hI hP hS => ?_)
                            have hKp := hKp.pw pw72 rfl
                            obtain ⟨g73, eg73⟩ : ∃ z : Nat → Int32, z = upd g4 y1.toNatClampNeg a2 := ⟨_, rfl⟩
                            have hg73 : xi (E71 15) = g73 := by rw [pw72.eu, ((pw68.ef 15 (Nat.ne_of_beq_eq_false rfl)).trans ((pw64.ef 15 (Nat.ne_of_beq_eq_false rfl)).trans ((pw13.ef 15 (Nat.ne_of_beq_eq_false rfl)).trans hg4))), eg73]
                            refine lv_aload_n hx hb dX13_race_107 rfl (lv_at hl 0 rfl) ?_
                            refine th_get (ci := 14) (C := RX13) (T := TX13) (N := 97) (v := .ref (ad 16)) hx hb hts hinX13 hown hK hP hI 0 (Nat.le_of_ble_eq_true rfl) rfl rfl 30 (Nat.le_of_ble_eq_true rfl) (hts _ (vA_in _ _ (in_30 _ (zs16 (zs16 (zs0)))))) (fun _ h9 => h9) (hI.fr 0 (Nat.le_of_ble_eq_true rfl) rfl (Nat.le_of_ble_eq_true rfl) 16 rfl) dX13_race_108 ?_
                            refine lv_aload_n hx hb dX13_race_111 rfl (lv_at hl 0 rfl) ?_
                            refine th_get (ci := 14) (C := RX13) (T := TX13) (N := 97) (v := .int y1) hx hb hts hinX13 hown hK hP hI 0 (Nat.le_of_ble_eq_true rfl) rfl rfl 46 (Nat.le_of_ble_eq_true rfl) (hts _ (vA_in _ _ (in_24 _ (zs16 (zs1 (zs0)))))) (fun _ h9 => h9) ((pw72.2 0 46 (fun q9 => absurd q9.1 (Nat.ne_of_beq_eq_false rfl))).trans ((pw68.2 0 46 (fun q9 => absurd q9.1 (Nat.ne_of_beq_eq_false rfl))).trans ((pw64.2 0 46 (fun q9 => absurd q9.1 (Nat.ne_of_beq_eq_false rfl))).trans ((pw13.2 0 46 (fun q9 => absurd q9.2 (Nat.ne_of_beq_eq_false rfl))).trans fy1)))) dX13_race_112 ?_
                            refine lv_iload hx hb dX13_race_115 (lv_at hl 4 rfl) ?_
                            have n74 : vp_in y1 20 := (iv_in (n := 20) i18 (by decide))
                            refine th_iast hx hb hK hP (WX_D hD) hS hI 16 (Nat.le_of_ble_eq_true rfl) rfl rfl n74 (okI rfl i46) dX13_race_117 (fun H locs E75 pw76 hI hP hS => ?_)
                            have hKp := hKp.pw pw76 rfl
                            obtain ⟨g77, eg77⟩ : ∃ z : Nat → Int32, z = upd g5 y1.toNatClampNeg a3 := ⟨_, rfl⟩
                            have hg77 : xi (E75 16) = g77 := by rw [pw76.eu, ((pw72.ef 16 (Nat.ne_of_beq_eq_false rfl)).trans ((pw68.ef 16 (Nat.ne_of_beq_eq_false rfl)).trans ((pw64.ef 16 (Nat.ne_of_beq_eq_false rfl)).trans ((pw13.ef 16 (Nat.ne_of_beq_eq_false rfl)).trans hg5)))), eg77]
                            refine lv_aload_n hx hb dX13_race_118 rfl (lv_at hl 0 rfl) ?_
                            refine th_get (ci := 14) (C := RX13) (T := TX13) (N := 97) (v := .ref (ad 17)) hx hb hts hinX13 hown hK hP hI 0 (Nat.le_of_ble_eq_true rfl) rfl rfl 31 (Nat.le_of_ble_eq_true rfl) (hts _ (vA_in _ _ (in_30 _ (zs16 (zs16 (zs1 (zs0))))))) (fun _ h9 => h9) (hI.fr 0 (Nat.le_of_ble_eq_true rfl) rfl (Nat.le_of_ble_eq_true rfl) 17 rfl) dX13_race_119 ?_
                            refine lv_aload_n hx hb dX13_race_122 rfl (lv_at hl 0 rfl) ?_
                            refine th_get (ci := 14) (C := RX13) (T := TX13) (N := 97) (v := .int y1) hx hb hts hinX13 hown hK hP hI 0 (Nat.le_of_ble_eq_true rfl) rfl rfl 46 (Nat.le_of_ble_eq_true rfl) (hts _ (vA_in _ _ (in_24 _ (zs16 (zs1 (zs0)))))) (fun _ h9 => h9) ((pw76.2 0 46 (fun q9 => absurd q9.1 (Nat.ne_of_beq_eq_false rfl))).trans ((pw72.2 0 46 (fun q9 => absurd q9.1 (Nat.ne_of_beq_eq_false rfl))).trans ((pw68.2 0 46 (fun q9 => absurd q9.1 (Nat.ne_of_beq_eq_false rfl))).trans ((pw64.2 0 46 (fun q9 => absurd q9.1 (Nat.ne_of_beq_eq_false rfl))).trans ((pw13.2 0 46 (fun q9 => absurd q9.2 (Nat.ne_of_beq_eq_false rfl))).trans fy1))))) dX13_race_123 ?_
                            refine lv_iload hx hb dX13_race_126 (lv_at hl 5 rfl) ?_
                            have n78 : vp_in y1 20 := (iv_in (n := 20) i18 (by decide))
                            refine th_iast hx hb hK hP (WX_D hD) hS hI 17 (Nat.le_of_ble_eq_true rfl) rfl rfl n78 (okI rfl i53) dX13_race_128 (fun H locs E79 pw80 hI hP hS => ?_)
                            have hKp := hKp.pw pw80 rfl
                            obtain ⟨g81, eg81⟩ : ∃ z : Nat → Int32, z = upd g6 y1.toNatClampNeg a4 := ⟨_, rfl⟩
                            have hg81 : xi (E79 17) = g81 := by rw [pw80.eu, ((pw76.ef 17 (Nat.ne_of_beq_eq_false rfl)).trans ((pw72.ef 17 (Nat.ne_of_beq_eq_false rfl)).trans ((pw68.ef 17 (Nat.ne_of_beq_eq_false rfl)).trans ((pw64.ef 17 (Nat.ne_of_beq_eq_false rfl)).trans ((pw13.ef 17 (Nat.ne_of_beq_eq_false rfl)).trans hg6))))), eg81]
                            refine lv_aload_n hx hb dX13_race_129 rfl (lv_at hl 0 rfl) ?_
                            refine th_get (ci := 14) (C := RX13) (T := TX13) (N := 97) (v := .ref (ad 18)) hx hb hts hinX13 hown hK hP hI 0 (Nat.le_of_ble_eq_true rfl) rfl rfl 32 (Nat.le_of_ble_eq_true rfl) (hts _ (vA_in _ _ (in_30 _ (zs16 (zs16 (zs1 (zs1 (zs0)))))))) (fun _ h9 => h9) (hI.fr 0 (Nat.le_of_ble_eq_true rfl) rfl (Nat.le_of_ble_eq_true rfl) 18 rfl) dX13_race_130 ?_
                            refine lv_aload_n hx hb dX13_race_133 rfl (lv_at hl 0 rfl) ?_
                            refine th_get (ci := 14) (C := RX13) (T := TX13) (N := 97) (v := .int y1) hx hb hts hinX13 hown hK hP hI 0 (Nat.le_of_ble_eq_true rfl) rfl rfl 46 (Nat.le_of_ble_eq_true rfl) (hts _ (vA_in _ _ (in_24 _ (zs16 (zs1 (zs0)))))) (fun _ h9 => h9) ((pw80.2 0 46 (fun q9 => absurd q9.1 (Nat.ne_of_beq_eq_false rfl))).trans ((pw76.2 0 46 (fun q9 => absurd q9.1 (Nat.ne_of_beq_eq_false rfl))).trans ((pw72.2 0 46 (fun q9 => absurd q9.1 (Nat.ne_of_beq_eq_false rfl))).trans ((pw68.2 0 46 (fun q9 => absurd q9.1 (Nat.ne_of_beq_eq_false rfl))).trans ((pw64.2 0 46 (fun q9 => absurd q9.1 (Nat.ne_of_beq_eq_false rfl))).trans ((pw13.2 0 46 (fun q9 => absurd q9.2 (Nat.ne_of_beq_eq_false rfl))).trans fy1)))))) dX13_race_134 ?_
                            refine lv_iload hx hb dX13_race_137 (lv_at hl 6 rfl) ?_
                            have n82 : vp_in y1 20 := (iv_in (n := 20) i18 (by decide))
                            refine th_iast hx hb hK hP (WX_D hD) hS hI 18 (Nat.le_of_ble_eq_true rfl) rfl rfl n82 (okI rfl i60) dX13_race_139 (fun H locs E83 pw84 hI hP hS => ?_)
                            have hKp := hKp.pw pw84 rfl
                            obtain ⟨g85, eg85⟩ : ∃ z : Nat → Int32, z = upd g7 y1.toNatClampNeg a5 := ⟨_, rfl⟩
                            have hg85 : xi (E83 18) = g85 := by rw [pw84.eu, ((pw80.ef 18 (Nat.ne_of_beq_eq_false rfl)).trans ((pw76.ef 18 (Nat.ne_of_beq_eq_false rfl)).trans ((pw72.ef 18 (Nat.ne_of_beq_eq_false rfl)).trans ((pw68.ef 18 (Nat.ne_of_beq_eq_false rfl)).trans ((pw64.ef 18 (Nat.ne_of_beq_eq_false rfl)).trans ((pw13.ef 18 (Nat.ne_of_beq_eq_false rfl)).trans hg7)))))), eg85]
                            refine lv_aload_n hx hb dX13_race_140 rfl (lv_at hl 0 rfl) ?_
                            refine th_get (ci := 14) (C := RX13) (T := TX13) (N := 97) (v := .ref (ad 19)) hx hb hts hinX13 hown hK hP hI 0 (Nat.le_of_ble_eq_true rfl) rfl rfl 33 (Nat.le_of_ble_eq_true rfl) (hts _ (vA_in _ _ (in_25 _ (zs16 (zs16 (zs1 (zs0))))))) (fun _ h9 => h9) (hI.fr 0 (Nat.le_of_ble_eq_true rfl) rfl (Nat.le_of_ble_eq_true rfl) 19 rfl) dX13_race_141 ?_
                            refine lv_aload_n hx hb dX13_race_144 rfl (lv_at hl 0 rfl) ?_
                            refine th_get (ci := 14) (C := RX13) (T := TX13) (N := 97) (v := .int y1) hx hb hts hinX13 hown hK hP hI 0 (Nat.le_of_ble_eq_true rfl) rfl rfl 46 (Nat.le_of_ble_eq_true rfl) (hts _ (vA_in _ _ (in_24 _ (zs16 (zs1 (zs0)))))) (fun _ h9 => h9) ((pw84.2 0 46 (fun q9 => absurd q9.1 (Nat.ne_of_beq_eq_false rfl))).trans ((pw80.2 0 46 (fun q9 => absurd q9.1 (Nat.ne_of_beq_eq_false rfl))).trans ((pw76.2 0 46 (fun q9 => absurd q9.1 (Nat.ne_of_beq_eq_false rfl))).trans ((pw72.2 0 46 (fun q9 => absurd q9.1 (Nat.ne_of_beq_eq_false rfl))).trans ((pw68.2 0 46 (fun q9 => absurd q9.1 (Nat.ne_of_beq_eq_false rfl))).trans ((pw64.2 0 46 (fun q9 => absurd q9.1 (Nat.ne_of_beq_eq_false rfl))).trans ((pw13.2 0 46 (fun q9 => absurd q9.2 (Nat.ne_of_beq_eq_false rfl))).trans fy1))))))) dX13_race_145 ?_
                            refine lv_iconst (v := 2) hx hb dX13_race_148 (by decide) ?_
                            have n86 : vp_in y1 20 := (iv_in (n := 20) i18 (by decide))
                            refine th_iast hx hb hK hP (WX_D hD) hS hI 19 (Nat.le_of_ble_eq_true rfl) rfl rfl n86 (okI rfl (iv_w ln_2 (by decide))) dX13_race_149 (fun H locs E87 pw88 hI hP hS => ?_)
                            have hKp := hKp.pw pw88 rfl
                            obtain ⟨g89, eg89⟩ : ∃ z : Nat → Int32, z = upd g8 y1.toNatClampNeg (2 : Int32) := ⟨_, rfl⟩
                            have hg89 : xi (E87 19) = g89 := by rw [pw88.eu, ((pw84.ef 19 (Nat.ne_of_beq_eq_false rfl)).trans ((pw80.ef 19 (Nat.ne_of_beq_eq_false rfl)).trans ((pw76.ef 19 (Nat.ne_of_beq_eq_false rfl)).trans ((pw72.ef 19 (Nat.ne_of_beq_eq_false rfl)).trans ((pw68.ef 19 (Nat.ne_of_beq_eq_false rfl)).trans ((pw64.ef 19 (Nat.ne_of_beq_eq_false rfl)).trans ((pw13.ef 19 (Nat.ne_of_beq_eq_false rfl)).trans hg8))))))), eg89]
                            refine lv_aload_n hx hb dX13_race_150 rfl (lv_at hl 0 rfl) ?_
                            refine th_get (ci := 14) (C := RX13) (T := TX13) (N := 97) (v := .ref (ad 20)) hx hb hts hinX13 hown hK hP hI 0 (Nat.le_of_ble_eq_true rfl) rfl rfl 34 (Nat.le_of_ble_eq_true rfl) (hts _ (vA_in _ _ (in_24 _ (zs4 (zs4 (zs1 (zs1 (zs1 (zs0))))))))) (fun _ h9 => h9) (hI.fr 0 (Nat.le_of_ble_eq_true rfl) rfl (Nat.le_of_ble_eq_true rfl) 20 rfl) dX13_race_151 ?_
                            refine lv_aload_n hx hb dX13_race_154 rfl (lv_at hl 0 rfl) ?_
                            refine th_get (ci := 14) (C := RX13) (T := TX13) (N := 97) (v := .int y1) hx hb hts hinX13 hown hK hP hI 0 (Nat.le_of_ble_eq_true rfl) rfl rfl 46 (Nat.le_of_ble_eq_true rfl) (hts _ (vA_in _ _ (in_24 _ (zs16 (zs1 (zs0)))))) (fun _ h9 => h9) ((pw88.2 0 46 (fun q9 => absurd q9.1 (Nat.ne_of_beq_eq_false rfl))).trans ((pw84.2 0 46 (fun q9 => absurd q9.1 (Nat.ne_of_beq_eq_false rfl))).trans ((pw80.2 0 46 (fun q9 => absurd q9.1 (Nat.ne_of_beq_eq_false rfl))).trans ((pw76.2 0 46 (fun q9 => absurd q9.1 (Nat.ne_of_beq_eq_false rfl))).trans ((pw72.2 0 46 (fun q9 => absurd q9.1 (Nat.ne_of_beq_eq_false rfl))).trans ((pw68.2 0 46 (fun q9 => absurd q9.1 (Nat.ne_of_beq_eq_false rfl))).trans ((pw64.2 0 46 (fun q9 => absurd q9.1 (Nat.ne_of_beq_eq_false rfl))).trans ((pw13.2 0 46 (fun q9 => absurd q9.2 (Nat.ne_of_beq_eq_false rfl))).trans fy1)))))))) dX13_race_155 ?_
                            refine lv_aload_n hx hb dX13_race_158 rfl (lv_at hl 0 rfl) ?_
                            refine th_get (ci := 14) (C := RX13) (T := TX13) (N := 97) (v := .int (xi (E 0) 1)) hx hb hts hinX13 hown hK hP hI 0 (Nat.le_of_ble_eq_true rfl) rfl rfl 1 (Nat.le_of_ble_eq_true rfl) (hts _ (vA_in _ _ (in_24 _ (zs16 (zs4 (zs4 (zs1 (zs1 (zs1 (zs0)))))))))) (fun _ h9 => h9) (th_v0 hKp hI0 0 (Nat.le_of_ble_eq_true rfl) rfl (Nat.le_of_ble_eq_true rfl) rfl rfl) dX13_race_159 ?_
                            have n90 : vp_in y1 20 := (iv_in (n := 20) i18 (by decide))
                            refine th_iast hx hb hK hP (WX_D hD) hS hI 20 (Nat.le_of_ble_eq_true rfl) rfl rfl n90 (okI rfl i21) dX13_race_162 (fun H locs E91 pw92 hI hP hS => ?_)
                            have hKp := hKp.pw pw92 rfl
                            obtain ⟨g93, eg93⟩ : ∃ z : Nat → Int32, z = upd g9 y1.toNatClampNeg (xi (E 0) 1) := ⟨_, rfl⟩
                            have hg93 : xi (E91 20) = g93 := by rw [pw92.eu, ((pw88.ef 20 (Nat.ne_of_beq_eq_false rfl)).trans ((pw84.ef 20 (Nat.ne_of_beq_eq_false rfl)).trans ((pw80.ef 20 (Nat.ne_of_beq_eq_false rfl)).trans ((pw76.ef 20 (Nat.ne_of_beq_eq_false rfl)).trans ((pw72.ef 20 (Nat.ne_of_beq_eq_false rfl)).trans ((pw68.ef 20 (Nat.ne_of_beq_eq_false rfl)).trans ((pw64.ef 20 (Nat.ne_of_beq_eq_false rfl)).trans ((pw13.ef 20 (Nat.ne_of_beq_eq_false rfl)).trans hg9)))))))), eg93]
                            refine lv_iconst (v := 0) hx hb dX13_race_163 (by decide) ?_
                            refine lv_istore (lv' := [(7, .int 0), (0, .ref (ad 0)), (1, .int a0), (2, .int a1), (3, .int a2), (4, .int a3), (5, .int a4), (6, .int a5)]) hx hb dX13_race_164 hl (by decide) rfl (fun ls hl => ?_)
                            have hL166 : ∀ d : Nat, ∀ (g166_21 : Nat → Int32) (g166_22 : Nat → Int32) (v166_7 : Int32) (E166_ : Nat → va_E) (H : Heap) (locs : List Loc) (ls : Array Slot), 0 ≤ v166_7.toInt ∧ v166_7.toInt ≤ 16 → (∀ j : Nat, (j : Int) < 16 * y1.toInt → g166_21 j = g10 j) → (∀ j : Nat, 16 * y1.toInt + 16 ≤ (j : Int) → g166_21 j = g10 j) → (∀ j : Nat, 16 * y1.toInt ≤ (j : Int) → (j : Int) < 16 * y1.toInt + v166_7.toInt → g166_21 j = (1000 : Int32)) → (∀ j : Nat, (j : Int) < 16 * y1.toInt → g166_22 j = g11 j) → (∀ j : Nat, 16 * y1.toInt + 16 ≤ (j : Int) → g166_22 j = g11 j) → (∀ j : Nat, 16 * y1.toInt ≤ (j : Int) → (j : Int) < 16 * y1.toInt + v166_7.toInt → g166_22 j = (-1 : Int32)) → 16 - v166_7.toInt < (d : Int) → IX cT shM spM 72 ad E166_ → Kp w_raceR E E166_ → xv (E166_ 0) 46 = .int y1 → xv (E166_ 0) 0 = .int 0 → xi (E166_ 13) = g65 → xi (E166_ 14) = g69 → xi (E166_ 15) = g73 → xi (E166_ 16) = g77 → xi (E166_ 17) = g81 → xi (E166_ 18) = g85 → xi (E166_ 19) = g89 → xi (E166_ 20) = g93 → xi (E166_ 21) = g166_21 → xi (E166_ 22) = g166_22 → va_P (dC, dI) vwCl (WX 72 ad E166_) H → va_S A s.heap H locs → lv_has ls 8 [(7, .int v166_7), (0, .ref (ad 0)), (1, .int a0), (2, .int a1), (3, .int a2), (4, .int a3), (5, .int a4), (6, .int a5)] → W p l e (headSpec v_raceR rm_raceR).room s m args below meth c H locs 0 0 Q (F0 m 166 ls []) := by
                              intro d
                              induction d with
                              | zero =>
                                intro g166_21 g166_22 v166_7 E166_ H locs ls hv166_7 hx166_0 hx166_1 hx166_2 hx166_3 hx166_4 hx166_5 hx166_6 hI hKp hs166_0_46 hs166_0_0 hr166_13 hr166_14 hr166_15 hr166_16 hr166_17 hr166_18 hr166_19 hr166_20 hr166_21 hr166_22 hP hS hl
                                exact absurd hx166_6 (by first | exact ms_zu hv166_7.2 | omega)
                              | succ d ih166 =>
                                intro g166_21 g166_22 v166_7 E166_ H locs ls hv166_7 hx166_0 hx166_1 hx166_2 hx166_3 hx166_4 hx166_5 hx166_6 hI hKp hs166_0_46 hs166_0_0 hr166_13 hr166_14 hr166_15 hr166_16 hr166_17 hr166_18 hr166_19 hr166_20 hr166_21 hr166_22 hP hS hl
                                refine lv_iload hx hb dX13_race_166 (lv_at hl 0 rfl) ?_
                                refine lv_bipush (v := 16) hx hb dX13_race_168 (by decide) ?_
                                refine lv_icmp_ge (tgt := 213) hx hb dX13_race_170 (by decide) (fun c94 => ?_) (fun c94 => ?_)
                                · --170 taken
                                  have t95 : (16 : Int) ≤ v166_7.toInt := ti_le c94
                                  have i96 : 16 ≤ v166_7.toInt ∧ v166_7.toInt ≤ 16 := iv_le_r t95 (il_ 16) hv166_7 (by decide)
                                  refine lv_aload_n hx hb dX13_race_213 rfl (lv_at hl 1 rfl) ?_
                                  refine lv_dup hx hb dX13_race_214 rfl ?_
                                  refine th_get (ci := 14) (C := RX13) (T := TX13) (N := 97) (v := .int y1) hx hb hts hinX13 hown hK hP hI 0 (Nat.le_of_ble_eq_true rfl) rfl rfl 46 (Nat.le_of_ble_eq_true rfl) (hts _ (vA_in _ _ (in_24 _ (zs16 (zs1 (zs0)))))) (fun _ h9 => h9) hs166_0_46 dX13_race_215 ?_
                                  refine lv_iconst (v := 1) hx hb dX13_race_218 (by decide) ?_
                                  refine lv_iadd hx hb dX13_race_219 ?_
                                  refine lv_topi (fun y97 ey97 => ?_)
                                  obtain ⟨ty97, iy97⟩ := ti_add (e := 1) (f := 20) i18 ln_1 ey97 (by decide)
                                  have ty97 : y97.toInt = y1.toInt + 1 := ty97
                                  have iy97 : 1 ≤ y97.toInt ∧ y97.toInt ≤ 20 := iy97
                                  refine th_put (ci := 14) (C := RX13) (T := TX13) (N := 97) (v := .int y97) (ty := .int) hx hb hts hinX13 tyX13 tyX13_ok nmX13 hown hK hP (WX_D hD) hS hI 0 (Nat.le_of_ble_eq_true rfl) rfl rfl 46 (Nat.le_of_ble_eq_true rfl) (hts _ (vA_in _ _ (in_24 _ (zs16 (zs1 (zs0)))))) (fun _ h9 => h9) rfl (by decide +kernel) rfl rfl (okI rfl (iv_w iy97 (by decide))) dX13_race_220 (fun H locs E98 pw99 hI hP hS => ?_)
                                  have hKp := hKp.pw pw99 rfl
                                  refine lv_aload_n hx hb dX13_race_223 rfl (lv_at hl 1 rfl) ?_
                                  refine th_get (ci := 14) (C := RX13) (T := TX13) (N := 97) (v := .int y97) hx hb hts hinX13 hown hK hP hI 0 (Nat.le_of_ble_eq_true rfl) rfl rfl 46 (Nat.le_of_ble_eq_true rfl) (hts _ (vA_in _ _ (in_24 _ (zs16 (zs1 (zs0)))))) (fun _ h9 => h9) pw99.1 dX13_race_224 ?_
                                  refine lv_iconst (v := 1) hx hb dX13_race_227 (by decide) ?_
                                  refine lv_isub hx hb dX13_race_228 ?_
                                  refine lv_topi (fun y100 ey100 => ?_)
                                  obtain ⟨ty100, iy100⟩ := ti_sub (e := 0) (f := 19) iy97 ln_1 ey100 (by decide)
                                  have ty100 : y100.toInt = y97.toInt - 1 := ty100
                                  have iy100 : 0 ≤ y100.toInt ∧ y100.toInt ≤ 19 := iy100
                                  rw [hQ]
                                  exact W.iret (v := y100) hx hb hr (fun t ht hW => ⟨⟨y100, E98, rfl, ⟨hI, hKp, ⟨by (try rw [(show xi (E98 0) 46 = y97 from vi_e pw99.1)]); (try rw [ey1]); all_goals omega, ⟨fun _ => ⟨(show xi (E98 13) = g65 from ((pw99.ef 13 (Nat.ne_of_beq_eq_false rfl)).trans hr166_13)).trans (by rw [eg65, show xi (E 13) = g2 from hg2, ey1]), (show xi (E98 14) = g69 from ((pw99.ef 14 (Nat.ne_of_beq_eq_false rfl)).trans hr166_14)).trans (by rw [eg69, show xi (E 14) = g3 from hg3, ey1]), (show xi (E98 15) = g73 from ((pw99.ef 15 (Nat.ne_of_beq_eq_false rfl)).trans hr166_15)).trans (by rw [eg73, show xi (E 15) = g4 from hg4, ey1]), (show xi (E98 16) = g77 from ((pw99.ef 16 (Nat.ne_of_beq_eq_false rfl)).trans hr166_16)).trans (by rw [eg77, show xi (E 16) = g5 from hg5, ey1]), (show xi (E98 17) = g81 from ((pw99.ef 17 (Nat.ne_of_beq_eq_false rfl)).trans hr166_17)).trans (by rw [eg81, show xi (E 17) = g6 from hg6, ey1]), (show xi (E98 18) = g85 from ((pw99.ef 18 (Nat.ne_of_beq_eq_false rfl)).trans hr166_18)).trans (by rw [eg85, show xi (E 18) = g7 from hg7, ey1]), (show xi (E98 19) = g89 from ((pw99.ef 19 (Nat.ne_of_beq_eq_false rfl)).trans hr166_19)).trans (by rw [eg89, show xi (E 19) = g8 from hg8, ey1]), (show xi (E98 20) = g93 from ((pw99.ef 20 (Nat.ne_of_beq_eq_false rfl)).trans hr166_20)).trans (by rw [eg93, show xi (E 20) = g9 from hg9, ey1])⟩, fun g9 => by exfalso; exact g9 (by (try rw [ey1]); omega)⟩, by rw [show xi (E98 21) = g166_21 from ((pw99.ef 21 (Nat.ne_of_beq_eq_false rfl)).trans hr166_21), show xi (E 21) = g10 from hg10, ey1]; exact ⟨fun j hj => hj.elim (hx166_0 j) (hx166_1 j), fun _ j h1 h2 => hx166_2 j h1 (by omega)⟩, by rw [show xi (E98 22) = g166_22 from ((pw99.ef 22 (Nat.ne_of_beq_eq_false rfl)).trans hr166_22), show xi (E 22) = g11 from hg11, ey1]; exact ⟨fun j hj => hj.elim (hx166_3 j) (hx166_4 j), fun _ j h1 h2 => hx166_5 j h1 (by omega)⟩⟩⟩, by show va_P (dC, dI) vwCl (WX 72 ad E98) t.heap; rw [ht]; exact hP⟩, hS.F ht⟩) hS.2.2 dX13_race_229
                                · --170 not
                                  have t101 : v166_7.toInt < 16 := ti_nle c94
                                  have i102 : 0 ≤ v166_7.toInt ∧ v166_7.toInt ≤ 15 := iv_lt_l t101 hv166_7 (il_ 16) (by decide)
                                  refine lv_aload_n hx hb dX13_race_173 rfl (lv_at hl 1 rfl) ?_
                                  refine th_get (ci := 14) (C := RX13) (T := TX13) (N := 97) (v := .ref (ad 21)) hx hb hts hinX13 hown hK hP hI 0 (Nat.le_of_ble_eq_true rfl) rfl rfl 35 (Nat.le_of_ble_eq_true rfl) (hts _ (vA_in _ _ (in_24 _ (zs16 (zs16 (zs4 (zs1 (zs1 (zs1 (zs0)))))))))) (fun _ h9 => h9) (hI.fr 0 (Nat.le_of_ble_eq_true rfl) rfl (Nat.le_of_ble_eq_true rfl) 21 rfl) dX13_race_174 ?_
                                  refine lv_bipush (v := 16) hx hb dX13_race_177 (by decide) ?_
                                  refine lv_aload_n hx hb dX13_race_179 rfl (lv_at hl 1 rfl) ?_
                                  refine th_get (ci := 14) (C := RX13) (T := TX13) (N := 97) (v := .int y1) hx hb hts hinX13 hown hK hP hI 0 (Nat.le_of_ble_eq_true rfl) rfl rfl 46 (Nat.le_of_ble_eq_true rfl) (hts _ (vA_in _ _ (in_24 _ (zs16 (zs1 (zs0)))))) (fun _ h9 => h9) hs166_0_46 dX13_race_180 ?_
                                  refine lv_imul hx hb dX13_race_183 ?_
                                  refine lv_topi (fun y103 ey103 => ?_)
                                  obtain ⟨ty103, iy103⟩ := ti_mul (e := 0) (f := 304) ln_16 i18 ey103 (by decide)
                                  have ty103 : y103.toInt = 16 * y1.toInt := ty103
                                  have iy103 : 0 ≤ y103.toInt ∧ y103.toInt ≤ 304 := iy103
                                  refine lv_iload hx hb dX13_race_184 (lv_at hl 0 rfl) ?_
                                  refine lv_iadd hx hb dX13_race_186 ?_
                                  refine lv_topi (fun y104 ey104 => ?_)
                                  obtain ⟨ty104, iy104⟩ := ti_add (e := 0) (f := 319) iy103 i102 ey104 (by decide)
                                  have ty104 : y104.toInt = y103.toInt + v166_7.toInt := ty104
                                  have iy104 : 0 ≤ y104.toInt ∧ y104.toInt ≤ 319 := iy104
                                  refine lv_sipush (v := 1000) hx hb dX13_race_187 (by decide) ?_
                                  have n105 : vp_in y104 320 := (iv_in (n := 320) iy104 (by decide))
                                  refine th_iast hx hb hK hP (WX_D hD) hS hI 21 (Nat.le_of_ble_eq_true rfl) rfl rfl n105 (okI rfl (iv_w ln_1000 (by decide))) dX13_race_190 (fun H locs E106 pw107 hI hP hS => ?_)
                                  have hKp := hKp.pw pw107 rfl
                                  obtain ⟨g108, eg108⟩ : ∃ z : Nat → Int32, z = upd g166_21 y104.toNatClampNeg (1000 : Int32) := ⟨_, rfl⟩
                                  have hg108 : xi (E106 21) = g108 := by rw [pw107.eu, hr166_21, eg108]
                                  refine lv_aload_n hx hb dX13_race_191 rfl (lv_at hl 1 rfl) ?_
                                  refine th_get (ci := 14) (C := RX13) (T := TX13) (N := 97) (v := .ref (ad 22)) hx hb hts hinX13 hown hK hP hI 0 (Nat.le_of_ble_eq_true rfl) rfl rfl 36 (Nat.le_of_ble_eq_true rfl) (hts _ (vA_in _ _ (in_32 _ (zs4 (zs1 (zs1 (zs1 (zs0)))))))) (fun _ h9 => h9) (hI.fr 0 (Nat.le_of_ble_eq_true rfl) rfl (Nat.le_of_ble_eq_true rfl) 22 rfl) dX13_race_192 ?_
                                  refine lv_bipush (v := 16) hx hb dX13_race_195 (by decide) ?_
                                  refine lv_aload_n hx hb dX13_race_197 rfl (lv_at hl 1 rfl) ?_
                                  refine th_get (ci := 14) (C := RX13) (T := TX13) (N := 97) (v := .int y1) hx hb hts hinX13 hown hK hP hI 0 (Nat.le_of_ble_eq_true rfl) rfl rfl 46 (Nat.le_of_ble_eq_true rfl) (hts _ (vA_in _ _ (in_24 _ (zs16 (zs1 (zs0)))))) (fun _ h9 => h9) ((pw107.2 0 46 (fun q9 => absurd q9.1 (Nat.ne_of_beq_eq_false rfl))).trans hs166_0_46) dX13_race_198 ?_
                                  refine lv_imul hx hb dX13_race_201 ?_
                                  refine lv_topi (fun y109 ey109 => ?_)
                                  obtain ⟨ty109, iy109⟩ := ti_mul (e := 0) (f := 304) ln_16 i18 ey109 (by decide)
                                  have ty109 : y109.toInt = 16 * y1.toInt := ty109
                                  have iy109 : 0 ≤ y109.toInt ∧ y109.toInt ≤ 304 := iy109
                                  refine lv_iload hx hb dX13_race_202 (lv_at hl 0 rfl) ?_
                                  refine lv_iadd hx hb dX13_race_204 ?_
                                  refine lv_topi (fun y110 ey110 => ?_)
                                  obtain ⟨ty110, iy110⟩ := ti_add (e := 0) (f := 319) iy109 i102 ey110 (by decide)
                                  have ty110 : y110.toInt = y109.toInt + v166_7.toInt := ty110
                                  have iy110 : 0 ≤ y110.toInt ∧ y110.toInt ≤ 319 := iy110
                                  refine lv_iconst (v := -1) hx hb dX13_race_205 (by decide) ?_
                                  have n111 : vp_in y110 320 := (iv_in (n := 320) iy110 (by decide))
                                  refine th_iast hx hb hK hP (WX_D hD) hS hI 22 (Nat.le_of_ble_eq_true rfl) rfl rfl n111 (okI rfl (iv_w ln_m1 (by decide))) dX13_race_206 (fun H locs E112 pw113 hI hP hS => ?_)
                                  have hKp := hKp.pw pw113 rfl
                                  obtain ⟨g114, eg114⟩ : ∃ z : Nat → Int32, z = upd g166_22 y110.toNatClampNeg (-1 : Int32) := ⟨_, rfl⟩
                                  have hg114 : xi (E112 22) = g114 := by rw [pw113.eu, ((pw107.ef 22 (Nat.ne_of_beq_eq_false rfl)).trans hr166_22), eg114]
                                  obtain ⟨y115, ey115⟩ : ∃ y : Int32, y = v166_7 + (1 : Int32) := ⟨_, rfl⟩
                                  obtain ⟨ty115, iy115⟩ := ti_add (e := 1) (f := 16) i102 ln_1 ey115 (by decide)
                                  have ty115 : y115.toInt = v166_7.toInt + 1 := ty115
                                  have iy115 : 1 ≤ y115.toInt ∧ y115.toInt ≤ 16 := iy115
                                  refine lv_iinc (v := y115) (lv' := [(7, .int y115), (0, .ref (ad 0)), (1, .int a0), (2, .int a1), (3, .int a2), (4, .int a3), (5, .int a4), (6, .int a5)]) hx hb dX13_race_207 hl (k := 0) rfl (by rw [ey115]; rfl) (by decide) rfl (fun ls hl => ?_)
                                  refine lv_goto (tgt := 166) hx hb dX13_race_210 (by decide) ?_
                                  exact ih166 g108 g114 y115 E112 _ _ _ (iv_w iy115 (by decide)) (fun j hj => by rw [eg108]; exact (show upd g166_21 y104.toNatClampNeg (1000 : Int32) j = g166_21 j from if_neg (by rw [tn_]; omega)).trans (hx166_0 j hj)) (fun j hj => by rw [eg108]; exact (show upd g166_21 y104.toNatClampNeg (1000 : Int32) j = g166_21 j from if_neg (by rw [tn_]; omega)).trans (hx166_1 j hj)) (fun j h1 h2 => by rw [eg108]; exact dite (j = y104.toNatClampNeg) (fun q9 => by rw [q9]; exact pk_us) (fun q9 => (show upd g166_21 y104.toNatClampNeg (1000 : Int32) j = g166_21 j from if_neg q9).trans (hx166_2 j h1 (by rw [tn_] at q9; have z1 := ln_1; omega)))) (fun j hj => by rw [eg114]; exact (show upd g166_22 y110.toNatClampNeg (-1 : Int32) j = g166_22 j from if_neg (by rw [tn_]; omega)).trans (hx166_3 j hj)) (fun j hj => by rw [eg114]; exact (show upd g166_22 y110.toNatClampNeg (-1 : Int32) j = g166_22 j from if_neg (by rw [tn_]; omega)).trans (hx166_4 j hj)) (fun j h1 h2 => by rw [eg114]; exact dite (j = y110.toNatClampNeg) (fun q9 => by rw [q9]; exact pk_us) (fun q9 => (show upd g166_22 y110.toNatClampNeg (-1 : Int32) j = g166_22 j from if_neg q9).trans (hx166_5 j h1 (by rw [tn_] at q9; have z1 := ln_1; omega)))) (by first | exact ms_su hx166_6 ty115 (by decide) | omega) hI hKp ((pw113.2 0 46 (fun q9 => absurd q9.1 (Nat.ne_of_beq_eq_false rfl))).trans ((pw107.2 0 46 (fun q9 => absurd q9.1 (Nat.ne_of_beq_eq_false rfl))).trans hs166_0_46)) ((pw113.2 0 0 (fun q9 => absurd q9.1 (Nat.ne_of_beq_eq_false rfl))).trans ((pw107.2 0 0 (fun q9 => absurd q9.1 (Nat.ne_of_beq_eq_false rfl))).trans hs166_0_0)) ((pw113.ef 13 (Nat.ne_of_beq_eq_false rfl)).trans ((pw107.ef 13 (Nat.ne_of_beq_eq_false rfl)).trans hr166_13)) ((pw113.ef 14 (Nat.ne_of_beq_eq_false rfl)).trans ((pw107.ef 14 (Nat.ne_of_beq_eq_false rfl)).trans hr166_14)) ((pw113.ef 15 (Nat.ne_of_beq_eq_false rfl)).trans ((pw107.ef 15 (Nat.ne_of_beq_eq_false rfl)).trans hr166_15)) ((pw113.ef 16 (Nat.ne_of_beq_eq_false rfl)).trans ((pw107.ef 16 (Nat.ne_of_beq_eq_false rfl)).trans hr166_16)) ((pw113.ef 17 (Nat.ne_of_beq_eq_false rfl)).trans ((pw107.ef 17 (Nat.ne_of_beq_eq_false rfl)).trans hr166_17)) ((pw113.ef 18 (Nat.ne_of_beq_eq_false rfl)).trans ((pw107.ef 18 (Nat.ne_of_beq_eq_false rfl)).trans hr166_18)) ((pw113.ef 19 (Nat.ne_of_beq_eq_false rfl)).trans ((pw107.ef 19 (Nat.ne_of_beq_eq_false rfl)).trans hr166_19)) ((pw113.ef 20 (Nat.ne_of_beq_eq_false rfl)).trans ((pw107.ef 20 (Nat.ne_of_beq_eq_false rfl)).trans hr166_20)) ((pw113.ef 21 (Nat.ne_of_beq_eq_false rfl)).trans hg108) hg114 hP hS (lv_sub hl [0, 1, 2, 3, 4, 5, 6, 7] rfl)
                            exact hL166 (17) g10 g11 (0 : Int32) E91 _ _ _ (iv_w ln_0 (by decide)) (fun j _ => rfl) (fun j _ => rfl) (fun j h1 h2 => by exfalso; have z0 := ln_0; omega) (fun j _ => rfl) (fun j _ => rfl) (fun j h1 h2 => by exfalso; have z0 := ln_0; omega) (by have h9 := ln_0; first | exact ms_bu h9.1 (by decide) | omega) hI hKp ((pw92.2 0 46 (fun q9 => absurd q9.1 (Nat.ne_of_beq_eq_false rfl))).trans ((pw88.2 0 46 (fun q9 => absurd q9.1 (Nat.ne_of_beq_eq_false rfl))).trans ((pw84.2 0 46 (fun q9 => absurd q9.1 (Nat.ne_of_beq_eq_false rfl))).trans ((pw80.2 0 46 (fun q9 => absurd q9.1 (Nat.ne_of_beq_eq_false rfl))).trans ((pw76.2 0 46 (fun q9 => absurd q9.1 (Nat.ne_of_beq_eq_false rfl))).trans ((pw72.2 0 46 (fun q9 => absurd q9.1 (Nat.ne_of_beq_eq_false rfl))).trans ((pw68.2 0 46 (fun q9 => absurd q9.1 (Nat.ne_of_beq_eq_false rfl))).trans ((pw64.2 0 46 (fun q9 => absurd q9.1 (Nat.ne_of_beq_eq_false rfl))).trans ((pw13.2 0 46 (fun q9 => absurd q9.2 (Nat.ne_of_beq_eq_false rfl))).trans fy1))))))))) ((pw92.2 0 0 (fun q9 => absurd q9.1 (Nat.ne_of_beq_eq_false rfl))).trans ((pw88.2 0 0 (fun q9 => absurd q9.1 (Nat.ne_of_beq_eq_false rfl))).trans ((pw84.2 0 0 (fun q9 => absurd q9.1 (Nat.ne_of_beq_eq_false rfl))).trans ((pw80.2 0 0 (fun q9 => absurd q9.1 (Nat.ne_of_beq_eq_false rfl))).trans ((pw76.2 0 0 (fun q9 => absurd q9.1 (Nat.ne_of_beq_eq_false rfl))).trans ((pw72.2 0 0 (fun q9 => absurd q9.1 (Nat.ne_of_beq_eq_false rfl))).trans ((pw68.2 0 0 (fun q9 => absurd q9.1 (Nat.ne_of_beq_eq_false rfl))).trans ((pw64.2 0 0 (fun q9 => absurd q9.1 (Nat.ne_of_beq_eq_false rfl))).trans pw13.1)))))))) ((pw92.ef 13 (Nat.ne_of_beq_eq_false rfl)).trans ((pw88.ef 13 (Nat.ne_of_beq_eq_false rfl)).trans ((pw84.ef 13 (Nat.ne_of_beq_eq_false rfl)).trans ((pw80.ef 13 (Nat.ne_of_beq_eq_false rfl)).trans ((pw76.ef 13 (Nat.ne_of_beq_eq_false rfl)).trans ((pw72.ef 13 (Nat.ne_of_beq_eq_false rfl)).trans ((pw68.ef 13 (Nat.ne_of_beq_eq_false rfl)).trans hg65))))))) ((pw92.ef 14 (Nat.ne_of_beq_eq_false rfl)).trans ((pw88.ef 14 (Nat.ne_of_beq_eq_false rfl)).trans ((pw84.ef 14 (Nat.ne_of_beq_eq_false rfl)).trans ((pw80.ef 14 (Nat.ne_of_beq_eq_false rfl)).trans ((pw76.ef 14 (Nat.ne_of_beq_eq_false rfl)).trans ((pw72.ef 14 (Nat.ne_of_beq_eq_false rfl)).trans hg69)))))) ((pw92.ef 15 (Nat.ne_of_beq_eq_false rfl)).trans ((pw88.ef 15 (Nat.ne_of_beq_eq_false rfl)).trans ((pw84.ef 15 (Nat.ne_of_beq_eq_false rfl)).trans ((pw80.ef 15 (Nat.ne_of_beq_eq_false rfl)).trans ((pw76.ef 15 (Nat.ne_of_beq_eq_false rfl)).trans hg73))))) ((pw92.ef 16 (Nat.ne_of_beq_eq_false rfl)).trans ((pw88.ef 16 (Nat.ne_of_beq_eq_false rfl)).trans ((pw84.ef 16 (Nat.ne_of_beq_eq_false rfl)).trans ((pw80.ef 16 (Nat.ne_of_beq_eq_false rfl)).trans hg77)))) ((pw92.ef 17 (Nat.ne_of_beq_eq_false rfl)).trans ((pw88.ef 17 (Nat.ne_of_beq_eq_false rfl)).trans ((pw84.ef 17 (Nat.ne_of_beq_eq_false rfl)).trans hg81))) ((pw92.ef 18 (Nat.ne_of_beq_eq_false rfl)).trans ((pw88.ef 18 (Nat.ne_of_beq_eq_false rfl)).trans hg85)) ((pw92.ef 19 (Nat.ne_of_beq_eq_false rfl)).trans hg89) hg93 ((pw92.ef 21 (Nat.ne_of_beq_eq_false rfl)).trans ((pw88.ef 21 (Nat.ne_of_beq_eq_false rfl)).trans ((pw84.ef 21 (Nat.ne_of_beq_eq_false rfl)).trans ((pw80.ef 21 (Nat.ne_of_beq_eq_false rfl)).trans ((pw76.ef 21 (Nat.ne_of_beq_eq_false rfl)).trans ((pw72.ef 21 (Nat.ne_of_beq_eq_false rfl)).trans ((pw68.ef 21 (Nat.ne_of_beq_eq_false rfl)).trans ((pw64.ef 21 (Nat.ne_of_beq_eq_false rfl)).trans ((pw13.ef 21 (Nat.ne_of_beq_eq_false rfl)).trans hg10))))))))) ((pw92.ef 22 (Nat.ne_of_beq_eq_false rfl)).trans ((pw88.ef 22 (Nat.ne_of_beq_eq_false rfl)).trans ((pw84.ef 22 (Nat.ne_of_beq_eq_false rfl)).trans ((pw80.ef 22 (Nat.ne_of_beq_eq_false rfl)).trans ((pw76.ef 22 (Nat.ne_of_beq_eq_false rfl)).trans ((pw72.ef 22 (Nat.ne_of_beq_eq_false rfl)).trans ((pw68.ef 22 (Nat.ne_of_beq_eq_false rfl)).trans ((pw64.ef 22 (Nat.ne_of_beq_eq_false rfl)).trans ((pw13.ef 22 (Nat.ne_of_beq_eq_false rfl)).trans hg11))))))))) hP hS (lv_sub hl [0, 1, 2, 3, 4, 5, 6, 7] rfl)
                          · --72 not
                            exact absurd c61 (by decide)
                        · -- isIn, case 1
                          obtain ⟨rfl, f116⟩ := hw
                          have t117 : ¬ ((0 : Int) ≤ a5.toInt ∧ a5.toInt ≤ 99) := f116
                          refine lv_if_ne (tgt := 77) hx hb dX13_race_72 (by decide) (fun c118 => ?_) (fun c118 => ?_)
                          · --72 taken
                            exact absurd c118 (by decide)
                          · --72 not
                            refine lv_iconst (v := -1) hx hb dX13_race_75 (by decide) ?_
                            rw [hQ]
                            exact W.iret (v := (-1)) hx hb hr (fun t ht hW => ⟨⟨(-1), E12, rfl, ⟨hI, hKp, ⟨by have h8 := ln_m1; (try rw [(show xi (E12 0) 46 = y1 from vi_e ((pw13.2 0 46 (fun q9 => absurd q9.2 (Nat.ne_of_beq_eq_false rfl))).trans fy1))]); (try rw [ey1]); all_goals omega, ⟨fun g9 => by exfalso; (try rw [ey1] at g9); omega, fun _ => ⟨(show xi (E12 13) = g2 from ((pw13.ef 13 (Nat.ne_of_beq_eq_false rfl)).trans hg2)).trans (show xi (E 13) = g2 from hg2).symm, (show xi (E12 14) = g3 from ((pw13.ef 14 (Nat.ne_of_beq_eq_false rfl)).trans hg3)).trans (show xi (E 14) = g3 from hg3).symm, (show xi (E12 15) = g4 from ((pw13.ef 15 (Nat.ne_of_beq_eq_false rfl)).trans hg4)).trans (show xi (E 15) = g4 from hg4).symm, (show xi (E12 16) = g5 from ((pw13.ef 16 (Nat.ne_of_beq_eq_false rfl)).trans hg5)).trans (show xi (E 16) = g5 from hg5).symm, (show xi (E12 17) = g6 from ((pw13.ef 17 (Nat.ne_of_beq_eq_false rfl)).trans hg6)).trans (show xi (E 17) = g6 from hg6).symm, (show xi (E12 18) = g7 from ((pw13.ef 18 (Nat.ne_of_beq_eq_false rfl)).trans hg7)).trans (show xi (E 18) = g7 from hg7).symm, (show xi (E12 19) = g8 from ((pw13.ef 19 (Nat.ne_of_beq_eq_false rfl)).trans hg8)).trans (show xi (E 19) = g8 from hg8).symm, (show xi (E12 20) = g9 from ((pw13.ef 20 (Nat.ne_of_beq_eq_false rfl)).trans hg9)).trans (show xi (E 20) = g9 from hg9).symm⟩⟩, by rw [show xi (E12 21) = g10 from ((pw13.ef 21 (Nat.ne_of_beq_eq_false rfl)).trans hg10), show xi (E 21) = g10 from hg10, ey1]; exact ⟨fun _ _ => rfl, fun h => absurd h (by decide)⟩, by rw [show xi (E12 22) = g11 from ((pw13.ef 22 (Nat.ne_of_beq_eq_false rfl)).trans hg11), show xi (E 22) = g11 from hg11, ey1]; exact ⟨fun _ _ => rfl, fun h => absurd h (by decide)⟩⟩⟩, by show va_P (dC, dI) vwCl (WX 72 ad E12) t.heap; rw [ht]; exact hP⟩, hS.F ht⟩) hS.2.2 dX13_race_76
                    · -- isIn, case 1
                      obtain ⟨rfl, f119⟩ := hw
                      have t120 : ¬ ((0 : Int) ≤ a4.toInt ∧ a4.toInt ≤ 99) := f119
                      refine lv_if_eq (tgt := 75) hx hb dX13_race_61 (by decide) (fun c121 => ?_) (fun c121 => ?_)
                      · --61 taken
                        refine lv_iconst (v := -1) hx hb dX13_race_75 (by decide) ?_
                        rw [hQ]
                        exact W.iret (v := (-1)) hx hb hr (fun t ht hW => ⟨⟨(-1), E12, rfl, ⟨hI, hKp, ⟨by have h8 := ln_m1; (try rw [(show xi (E12 0) 46 = y1 from vi_e ((pw13.2 0 46 (fun q9 => absurd q9.2 (Nat.ne_of_beq_eq_false rfl))).trans fy1))]); (try rw [ey1]); all_goals omega, ⟨fun g9 => by exfalso; (try rw [ey1] at g9); omega, fun _ => ⟨(show xi (E12 13) = g2 from ((pw13.ef 13 (Nat.ne_of_beq_eq_false rfl)).trans hg2)).trans (show xi (E 13) = g2 from hg2).symm, (show xi (E12 14) = g3 from ((pw13.ef 14 (Nat.ne_of_beq_eq_false rfl)).trans hg3)).trans (show xi (E 14) = g3 from hg3).symm, (show xi (E12 15) = g4 from ((pw13.ef 15 (Nat.ne_of_beq_eq_false rfl)).trans hg4)).trans (show xi (E 15) = g4 from hg4).symm, (show xi (E12 16) = g5 from ((pw13.ef 16 (Nat.ne_of_beq_eq_false rfl)).trans hg5)).trans (show xi (E 16) = g5 from hg5).symm, (show xi (E12 17) = g6 from ((pw13.ef 17 (Nat.ne_of_beq_eq_false rfl)).trans hg6)).trans (show xi (E 17) = g6 from hg6).symm, (show xi (E12 18) = g7 from ((pw13.ef 18 (Nat.ne_of_beq_eq_false rfl)).trans hg7)).trans (show xi (E 18) = g7 from hg7).symm, (show xi (E12 19) = g8 from ((pw13.ef 19 (Nat.ne_of_beq_eq_false rfl)).trans hg8)).trans (show xi (E 19) = g8 from hg8).symm, (show xi (E12 20) = g9 from ((pw13.ef 20 (Nat.ne_of_beq_eq_false rfl)).trans hg9)).trans (show xi (E 20) = g9 from hg9).symm⟩⟩, by rw [show xi (E12 21) = g10 from ((pw13.ef 21 (Nat.ne_of_beq_eq_false rfl)).trans hg10), show xi (E 21) = g10 from hg10, ey1]; exact ⟨fun _ _ => rfl, fun h => absurd h (by decide)⟩, by rw [show xi (E12 22) = g11 from ((pw13.ef 22 (Nat.ne_of_beq_eq_false rfl)).trans hg11), show xi (E 22) = g11 from hg11, ey1]; exact ⟨fun _ _ => rfl, fun h => absurd h (by decide)⟩⟩⟩, by show va_P (dC, dI) vwCl (WX 72 ad E12) t.heap; rw [ht]; exact hP⟩, hS.F ht⟩) hS.2.2 dX13_race_76
                      · --61 not
                        exact absurd c121 (by decide)
                · -- isIn, case 1
                  obtain ⟨rfl, f122⟩ := hw
                  have t123 : ¬ ((0 : Int) ≤ a3.toInt ∧ a3.toInt ≤ 7) := f122
                  refine lv_if_eq (tgt := 75) hx hb dX13_race_50 (by decide) (fun c124 => ?_) (fun c124 => ?_)
                  · --50 taken
                    refine lv_iconst (v := -1) hx hb dX13_race_75 (by decide) ?_
                    rw [hQ]
                    exact W.iret (v := (-1)) hx hb hr (fun t ht hW => ⟨⟨(-1), E12, rfl, ⟨hI, hKp, ⟨by have h8 := ln_m1; (try rw [(show xi (E12 0) 46 = y1 from vi_e ((pw13.2 0 46 (fun q9 => absurd q9.2 (Nat.ne_of_beq_eq_false rfl))).trans fy1))]); (try rw [ey1]); all_goals omega, ⟨fun g9 => by exfalso; (try rw [ey1] at g9); omega, fun _ => ⟨(show xi (E12 13) = g2 from ((pw13.ef 13 (Nat.ne_of_beq_eq_false rfl)).trans hg2)).trans (show xi (E 13) = g2 from hg2).symm, (show xi (E12 14) = g3 from ((pw13.ef 14 (Nat.ne_of_beq_eq_false rfl)).trans hg3)).trans (show xi (E 14) = g3 from hg3).symm, (show xi (E12 15) = g4 from ((pw13.ef 15 (Nat.ne_of_beq_eq_false rfl)).trans hg4)).trans (show xi (E 15) = g4 from hg4).symm, (show xi (E12 16) = g5 from ((pw13.ef 16 (Nat.ne_of_beq_eq_false rfl)).trans hg5)).trans (show xi (E 16) = g5 from hg5).symm, (show xi (E12 17) = g6 from ((pw13.ef 17 (Nat.ne_of_beq_eq_false rfl)).trans hg6)).trans (show xi (E 17) = g6 from hg6).symm, (show xi (E12 18) = g7 from ((pw13.ef 18 (Nat.ne_of_beq_eq_false rfl)).trans hg7)).trans (show xi (E 18) = g7 from hg7).symm, (show xi (E12 19) = g8 from ((pw13.ef 19 (Nat.ne_of_beq_eq_false rfl)).trans hg8)).trans (show xi (E 19) = g8 from hg8).symm, (show xi (E12 20) = g9 from ((pw13.ef 20 (Nat.ne_of_beq_eq_false rfl)).trans hg9)).trans (show xi (E 20) = g9 from hg9).symm⟩⟩, by rw [show xi (E12 21) = g10 from ((pw13.ef 21 (Nat.ne_of_beq_eq_false rfl)).trans hg10), show xi (E 21) = g10 from hg10, ey1]; exact ⟨fun _ _ => rfl, fun h => absurd h (by decide)⟩, by rw [show xi (E12 22) = g11 from ((pw13.ef 22 (Nat.ne_of_beq_eq_false rfl)).trans hg11), show xi (E 22) = g11 from hg11, ey1]; exact ⟨fun _ _ => rfl, fun h => absurd h (by decide)⟩⟩⟩, by show va_P (dC, dI) vwCl (WX 72 ad E12) t.heap; rw [ht]; exact hP⟩, hS.F ht⟩) hS.2.2 dX13_race_76
                  · --50 not
                    exact absurd c124 (by decide)
            · -- isIn, case 1
              obtain ⟨rfl, f125⟩ := hw
              have t126 : ¬ ((0 : Int) ≤ a2.toInt ∧ a2.toInt ≤ 1) := f125
              refine lv_if_eq (tgt := 75) hx hb dX13_race_39 (by decide) (fun c127 => ?_) (fun c127 => ?_)
              · --39 taken
                refine lv_iconst (v := -1) hx hb dX13_race_75 (by decide) ?_
                rw [hQ]
                exact W.iret (v := (-1)) hx hb hr (fun t ht hW => ⟨⟨(-1), E12, rfl, ⟨hI, hKp, ⟨by have h8 := ln_m1; (try rw [(show xi (E12 0) 46 = y1 from vi_e ((pw13.2 0 46 (fun q9 => absurd q9.2 (Nat.ne_of_beq_eq_false rfl))).trans fy1))]); (try rw [ey1]); all_goals omega, ⟨fun g9 => by exfalso; (try rw [ey1] at g9); omega, fun _ => ⟨(show xi (E12 13) = g2 from ((pw13.ef 13 (Nat.ne_of_beq_eq_false rfl)).trans hg2)).trans (show xi (E 13) = g2 from hg2).symm, (show xi (E12 14) = g3 from ((pw13.ef 14 (Nat.ne_of_beq_eq_false rfl)).trans hg3)).trans (show xi (E 14) = g3 from hg3).symm, (show xi (E12 15) = g4 from ((pw13.ef 15 (Nat.ne_of_beq_eq_false rfl)).trans hg4)).trans (show xi (E 15) = g4 from hg4).symm, (show xi (E12 16) = g5 from ((pw13.ef 16 (Nat.ne_of_beq_eq_false rfl)).trans hg5)).trans (show xi (E 16) = g5 from hg5).symm, (show xi (E12 17) = g6 from ((pw13.ef 17 (Nat.ne_of_beq_eq_false rfl)).trans hg6)).trans (show xi (E 17) = g6 from hg6).symm, (show xi (E12 18) = g7 from ((pw13.ef 18 (Nat.ne_of_beq_eq_false rfl)).trans hg7)).trans (show xi (E 18) = g7 from hg7).symm, (show xi (E12 19) = g8 from ((pw13.ef 19 (Nat.ne_of_beq_eq_false rfl)).trans hg8)).trans (show xi (E 19) = g8 from hg8).symm, (show xi (E12 20) = g9 from ((pw13.ef 20 (Nat.ne_of_beq_eq_false rfl)).trans hg9)).trans (show xi (E 20) = g9 from hg9).symm⟩⟩, by rw [show xi (E12 21) = g10 from ((pw13.ef 21 (Nat.ne_of_beq_eq_false rfl)).trans hg10), show xi (E 21) = g10 from hg10, ey1]; exact ⟨fun _ _ => rfl, fun h => absurd h (by decide)⟩, by rw [show xi (E12 22) = g11 from ((pw13.ef 22 (Nat.ne_of_beq_eq_false rfl)).trans hg11), show xi (E 22) = g11 from hg11, ey1]; exact ⟨fun _ _ => rfl, fun h => absurd h (by decide)⟩⟩⟩, by show va_P (dC, dI) vwCl (WX 72 ad E12) t.heap; rw [ht]; exact hP⟩, hS.F ht⟩) hS.2.2 dX13_race_76
              · --39 not
                exact absurd c127 (by decide)
        · -- isIn, case 1
          obtain ⟨rfl, f128⟩ := hw
          have t129 : ¬ ((1 : Int) ≤ a1.toInt ∧ a1.toInt ≤ 1000) := f128
          refine lv_if_eq (tgt := 75) hx hb dX13_race_30 (by decide) (fun c130 => ?_) (fun c130 => ?_)
          · --30 taken
            refine lv_iconst (v := -1) hx hb dX13_race_75 (by decide) ?_
            rw [hQ]
            exact W.iret (v := (-1)) hx hb hr (fun t ht hW => ⟨⟨(-1), E12, rfl, ⟨hI, hKp, ⟨by have h8 := ln_m1; (try rw [(show xi (E12 0) 46 = y1 from vi_e ((pw13.2 0 46 (fun q9 => absurd q9.2 (Nat.ne_of_beq_eq_false rfl))).trans fy1))]); (try rw [ey1]); all_goals omega, ⟨fun g9 => by exfalso; (try rw [ey1] at g9); omega, fun _ => ⟨(show xi (E12 13) = g2 from ((pw13.ef 13 (Nat.ne_of_beq_eq_false rfl)).trans hg2)).trans (show xi (E 13) = g2 from hg2).symm, (show xi (E12 14) = g3 from ((pw13.ef 14 (Nat.ne_of_beq_eq_false rfl)).trans hg3)).trans (show xi (E 14) = g3 from hg3).symm, (show xi (E12 15) = g4 from ((pw13.ef 15 (Nat.ne_of_beq_eq_false rfl)).trans hg4)).trans (show xi (E 15) = g4 from hg4).symm, (show xi (E12 16) = g5 from ((pw13.ef 16 (Nat.ne_of_beq_eq_false rfl)).trans hg5)).trans (show xi (E 16) = g5 from hg5).symm, (show xi (E12 17) = g6 from ((pw13.ef 17 (Nat.ne_of_beq_eq_false rfl)).trans hg6)).trans (show xi (E 17) = g6 from hg6).symm, (show xi (E12 18) = g7 from ((pw13.ef 18 (Nat.ne_of_beq_eq_false rfl)).trans hg7)).trans (show xi (E 18) = g7 from hg7).symm, (show xi (E12 19) = g8 from ((pw13.ef 19 (Nat.ne_of_beq_eq_false rfl)).trans hg8)).trans (show xi (E 19) = g8 from hg8).symm, (show xi (E12 20) = g9 from ((pw13.ef 20 (Nat.ne_of_beq_eq_false rfl)).trans hg9)).trans (show xi (E 20) = g9 from hg9).symm⟩⟩, by rw [show xi (E12 21) = g10 from ((pw13.ef 21 (Nat.ne_of_beq_eq_false rfl)).trans hg10), show xi (E 21) = g10 from hg10, ey1]; exact ⟨fun _ _ => rfl, fun h => absurd h (by decide)⟩, by rw [show xi (E12 22) = g11 from ((pw13.ef 22 (Nat.ne_of_beq_eq_false rfl)).trans hg11), show xi (E 22) = g11 from hg11, ey1]; exact ⟨fun _ _ => rfl, fun h => absurd h (by decide)⟩⟩⟩, by show va_P (dC, dI) vwCl (WX 72 ad E12) t.heap; rw [ht]; exact hP⟩, hS.F ht⟩) hS.2.2 dX13_race_76
          · --30 not
            exact absurd c130 (by decide)
    · -- isKnown, case 1
      obtain ⟨rfl, f131⟩ := hw
      have i132 : 0 ≤ (xi (E 0) 1).toInt ∧ (xi (E 0) 1).toInt ≤ 400 := (show 0 ≤ (xi (E 0) 1).toInt ∧ (xi (E 0) 1).toInt ≤ 400 from hI0.iv 0 (Nat.le_of_ble_eq_true rfl) rfl (Nat.le_of_ble_eq_true rfl) rfl)
      try rw [hKp.ei 0 1 rfl] at f131
      have t133 : ¬ ((0 : Int) ≤ a0.toInt ∧ a0.toInt ≤ (xi (E 0) 1).toInt) := f131
      refine lv_if_eq (tgt := 75) hx hb dX13_race_19 (by decide) (fun c134 => ?_) (fun c134 => ?_)
      · --19 taken
        refine lv_iconst (v := -1) hx hb dX13_race_75 (by decide) ?_
        rw [hQ]
        exact W.iret (v := (-1)) hx hb hr (fun t ht hW => ⟨⟨(-1), E12, rfl, ⟨hI, hKp, ⟨by have h8 := ln_m1; (try rw [(show xi (E12 0) 46 = y1 from vi_e ((pw13.2 0 46 (fun q9 => absurd q9.2 (Nat.ne_of_beq_eq_false rfl))).trans fy1))]); (try rw [ey1]); all_goals omega, ⟨fun g9 => by exfalso; (try rw [ey1] at g9); omega, fun _ => ⟨(show xi (E12 13) = g2 from ((pw13.ef 13 (Nat.ne_of_beq_eq_false rfl)).trans hg2)).trans (show xi (E 13) = g2 from hg2).symm, (show xi (E12 14) = g3 from ((pw13.ef 14 (Nat.ne_of_beq_eq_false rfl)).trans hg3)).trans (show xi (E 14) = g3 from hg3).symm, (show xi (E12 15) = g4 from ((pw13.ef 15 (Nat.ne_of_beq_eq_false rfl)).trans hg4)).trans (show xi (E 15) = g4 from hg4).symm, (show xi (E12 16) = g5 from ((pw13.ef 16 (Nat.ne_of_beq_eq_false rfl)).trans hg5)).trans (show xi (E 16) = g5 from hg5).symm, (show xi (E12 17) = g6 from ((pw13.ef 17 (Nat.ne_of_beq_eq_false rfl)).trans hg6)).trans (show xi (E 17) = g6 from hg6).symm, (show xi (E12 18) = g7 from ((pw13.ef 18 (Nat.ne_of_beq_eq_false rfl)).trans hg7)).trans (show xi (E 18) = g7 from hg7).symm, (show xi (E12 19) = g8 from ((pw13.ef 19 (Nat.ne_of_beq_eq_false rfl)).trans hg8)).trans (show xi (E 19) = g8 from hg8).symm, (show xi (E12 20) = g9 from ((pw13.ef 20 (Nat.ne_of_beq_eq_false rfl)).trans hg9)).trans (show xi (E 20) = g9 from hg9).symm⟩⟩, by rw [show xi (E12 21) = g10 from ((pw13.ef 21 (Nat.ne_of_beq_eq_false rfl)).trans hg10), show xi (E 21) = g10 from hg10, ey1]; exact ⟨fun _ _ => rfl, fun h => absurd h (by decide)⟩, by rw [show xi (E12 22) = g11 from ((pw13.ef 22 (Nat.ne_of_beq_eq_false rfl)).trans hg11), show xi (E 22) = g11 from hg11, ey1]; exact ⟨fun _ _ => rfl, fun h => absurd h (by decide)⟩⟩⟩, by show va_P (dC, dI) vwCl (WX 72 ad E12) t.heap; rw [ht]; exact hP⟩, hS.F ht⟩) hS.2.2 dX13_race_76
      · --19 not
        exact absurd c134 (by decide)
