set_option maxRecDepth 100000 in
theorem zh_dX9_read_0_0 : zc cX9_read 0 [42, 27, 28, 182, 0, 77, 42, 180, 0, 27, 180, 0, 31, 27, 182, 0] = true := by decide +kernel
set_option maxRecDepth 100000 in
theorem zh_dX9_read_14_16 : zc cX9_read 16 [37, 192, 0, 43, 78, 42, 42, 180, 0, 27, 45, 180, 0, 81, 28, 182] = true := by decide +kernel
set_option maxRecDepth 100000 in
theorem zh_dX9_read_31_32 : zc cX9_read 32 [0, 84, 181, 0, 87, 42, 45, 28, 182, 0, 90, 181, 0, 94, 42, 3] = true := by decide +kernel
set_option maxRecDepth 100000 in
theorem zh_dX9_read_48_48 : zc cX9_read 48 [181, 0, 97, 3, 54, 4, 21, 4, 16, 16, 162, 0, 116, 42, 180, 0] = true := by decide +kernel
set_option maxRecDepth 100000 in
theorem zh_dX9_read_62_64 : zc cX9_read 64 [9, 21, 4, 46, 153, 0, 6, 167, 0, 97, 42, 89, 180, 0, 97, 4] = true := by decide +kernel
set_option maxRecDepth 100000 in
theorem zh_dX9_read_80_80 : zc cX9_read 80 [96, 181, 0, 97, 42, 180, 0, 18, 21, 4, 42, 180, 0, 27, 21, 4] = true := by decide +kernel
set_option maxRecDepth 100000 in
theorem zh_dX9_read_96_96 : zc cX9_read 96 [45, 180, 0, 81, 28, 182, 0, 100, 79, 42, 180, 0, 21, 21, 4, 45] = true := by decide +kernel
set_option maxRecDepth 100000 in
theorem zh_dX9_read_112_112 : zc cX9_read 112 [180, 0, 104, 154, 0, 25, 42, 180, 0, 15, 21, 4, 46, 42, 180, 0] = true := by decide +kernel
set_option maxRecDepth 100000 in
theorem zh_dX9_read_126_128 : zc cX9_read 128 [18, 21, 4, 46, 104, 17, 3, 232, 108, 167, 0, 30, 42, 180, 0, 15] = true := by decide +kernel
set_option maxRecDepth 100000 in
theorem zh_dX9_read_144_144 : zc cX9_read 144 [21, 4, 46, 42, 180, 0, 18, 21, 4, 46, 17, 3, 232, 100, 45, 180] = true := by decide +kernel
set_option maxRecDepth 100000 in
theorem zh_dX9_read_159_160 : zc cX9_read 160 [0, 107, 104, 16, 10, 108, 96, 79, 132, 4, 1, 167, 255, 139, 3, 54] = true := by decide +kernel
set_option maxRecDepth 100000 in
theorem zh_dX9_read_175_176 : zc cX9_read 176 [4, 21, 4, 16, 16, 162, 0, 36, 42, 180, 0, 24, 21, 4, 42, 180] = true := by decide +kernel
set_option maxRecDepth 100000 in
theorem zh_dX9_read_191_192 : zc cX9_read 192 [0, 9, 21, 4, 46, 154, 0, 12, 42, 21, 4, 182, 0, 110, 167, 0] = true := by decide +kernel
set_option maxRecDepth 100000 in
theorem zh_dX9_read_206_208 : zc cX9_read 208 [4, 3, 79, 132, 4, 1, 167, 255, 219, 177] = true := by decide +kernel
set_option maxRecDepth 100000 in
theorem zh_dX9_placeOf_0_0 : zc cX9_placeOf 0 [3, 61, 3, 62, 3, 54, 4, 21, 4, 16, 16, 162, 0, 60, 42, 180] = true := by decide +kernel
set_option maxRecDepth 100000 in
theorem zh_dX9_placeOf_15_16 : zc cX9_placeOf 16 [0, 9, 21, 4, 46, 153, 0, 6, 167, 0, 41, 42, 180, 0, 21, 21] = true := by decide +kernel
set_option maxRecDepth 100000 in
theorem zh_dX9_placeOf_31_32 : zc cX9_placeOf 32 [4, 46, 42, 180, 0, 21, 27, 46, 162, 0, 6, 132, 2, 1, 42, 180] = true := by decide +kernel
set_option maxRecDepth 100000 in
theorem zh_dX9_placeOf_47_48 : zc cX9_placeOf 48 [0, 21, 21, 4, 46, 42, 180, 0, 21, 27, 46, 160, 0, 6, 132, 3] = true := by decide +kernel
set_option maxRecDepth 100000 in
theorem zh_dX9_placeOf_62_64 : zc cX9_placeOf 64 [1, 132, 4, 1, 167, 255, 195, 8, 28, 4, 96, 28, 96, 29, 96, 104] = true := by decide +kernel
set_option maxRecDepth 100000 in
theorem zh_dX9_placeOf_80_80 : zc cX9_placeOf 80 [172] = true := by decide +kernel
theorem dX9_read_0 : decode cX9_read 0 = .ok (.aload_n 0, 1) := zo_42 (zi_at zh_dX9_read_0_0 0 rfl)
theorem dX9_read_1 : decode cX9_read 1 = .ok (.iload_n 1, 1) := zo_27 (zi_at zh_dX9_read_0_0 1 rfl)
theorem dX9_read_2 : decode cX9_read 2 = .ok (.iload_n 2, 1) := zo_28 (zi_at zh_dX9_read_0_0 2 rfl)
theorem dX9_read_3 : decode cX9_read 3 = .ok (.invokevirtual 77, 3) := zo_182 (zi_at zh_dX9_read_0_0 3 rfl) (zi_at zh_dX9_read_0_0 4 rfl) (zi_at zh_dX9_read_0_0 5 rfl) rfl
theorem dX9_read_6 : decode cX9_read 6 = .ok (.aload_n 0, 1) := zo_42 (zi_at zh_dX9_read_0_0 6 rfl)
theorem dX9_read_7 : decode cX9_read 7 = .ok (.getfield 27, 3) := zo_180 (zi_at zh_dX9_read_0_0 7 rfl) (zi_at zh_dX9_read_0_0 8 rfl) (zi_at zh_dX9_read_0_0 9 rfl) rfl
theorem dX9_read_10 : decode cX9_read 10 = .ok (.getfield 31, 3) := zo_180 (zi_at zh_dX9_read_0_0 10 rfl) (zi_at zh_dX9_read_0_0 11 rfl) (zi_at zh_dX9_read_0_0 12 rfl) rfl
theorem dX9_read_13 : decode cX9_read 13 = .ok (.iload_n 1, 1) := zo_27 (zi_at zh_dX9_read_0_0 13 rfl)
theorem dX9_read_14 : decode cX9_read 14 = .ok (.invokevirtual 37, 3) := zo_182 (zi_at zh_dX9_read_0_0 14 rfl) (zi_at zh_dX9_read_0_0 15 rfl) (zi_at zh_dX9_read_14_16 0 rfl) rfl
theorem dX9_read_17 : decode cX9_read 17 = .ok (.checkcast 43, 3) := zo_192 (zi_at zh_dX9_read_14_16 1 rfl) (zi_at zh_dX9_read_14_16 2 rfl) (zi_at zh_dX9_read_14_16 3 rfl) rfl
theorem dX9_read_20 : decode cX9_read 20 = .ok (.astore_n 3, 1) := zo_78 (zi_at zh_dX9_read_14_16 4 rfl)
theorem dX9_read_21 : decode cX9_read 21 = .ok (.aload_n 0, 1) := zo_42 (zi_at zh_dX9_read_14_16 5 rfl)
theorem dX9_read_22 : decode cX9_read 22 = .ok (.aload_n 0, 1) := zo_42 (zi_at zh_dX9_read_14_16 6 rfl)
theorem dX9_read_23 : decode cX9_read 23 = .ok (.getfield 27, 3) := zo_180 (zi_at zh_dX9_read_14_16 7 rfl) (zi_at zh_dX9_read_14_16 8 rfl) (zi_at zh_dX9_read_14_16 9 rfl) rfl
theorem dX9_read_26 : decode cX9_read 26 = .ok (.aload_n 3, 1) := zo_45 (zi_at zh_dX9_read_14_16 10 rfl)
theorem dX9_read_27 : decode cX9_read 27 = .ok (.getfield 81, 3) := zo_180 (zi_at zh_dX9_read_14_16 11 rfl) (zi_at zh_dX9_read_14_16 12 rfl) (zi_at zh_dX9_read_14_16 13 rfl) rfl
theorem dX9_read_30 : decode cX9_read 30 = .ok (.iload_n 2, 1) := zo_28 (zi_at zh_dX9_read_14_16 14 rfl)
theorem dX9_read_31 : decode cX9_read 31 = .ok (.invokevirtual 84, 3) := zo_182 (zi_at zh_dX9_read_14_16 15 rfl) (zi_at zh_dX9_read_31_32 0 rfl) (zi_at zh_dX9_read_31_32 1 rfl) rfl
theorem dX9_read_34 : decode cX9_read 34 = .ok (.putfield 87, 3) := zo_181 (zi_at zh_dX9_read_31_32 2 rfl) (zi_at zh_dX9_read_31_32 3 rfl) (zi_at zh_dX9_read_31_32 4 rfl) rfl
theorem dX9_read_37 : decode cX9_read 37 = .ok (.aload_n 0, 1) := zo_42 (zi_at zh_dX9_read_31_32 5 rfl)
theorem dX9_read_38 : decode cX9_read 38 = .ok (.aload_n 3, 1) := zo_45 (zi_at zh_dX9_read_31_32 6 rfl)
theorem dX9_read_39 : decode cX9_read 39 = .ok (.iload_n 2, 1) := zo_28 (zi_at zh_dX9_read_31_32 7 rfl)
theorem dX9_read_40 : decode cX9_read 40 = .ok (.invokevirtual 90, 3) := zo_182 (zi_at zh_dX9_read_31_32 8 rfl) (zi_at zh_dX9_read_31_32 9 rfl) (zi_at zh_dX9_read_31_32 10 rfl) rfl
theorem dX9_read_43 : decode cX9_read 43 = .ok (.putfield 94, 3) := zo_181 (zi_at zh_dX9_read_31_32 11 rfl) (zi_at zh_dX9_read_31_32 12 rfl) (zi_at zh_dX9_read_31_32 13 rfl) rfl
theorem dX9_read_46 : decode cX9_read 46 = .ok (.aload_n 0, 1) := zo_42 (zi_at zh_dX9_read_31_32 14 rfl)
theorem dX9_read_47 : decode cX9_read 47 = .ok (.iconst 0, 1) := zo_3 (zi_at zh_dX9_read_31_32 15 rfl)
theorem dX9_read_48 : decode cX9_read 48 = .ok (.putfield 97, 3) := zo_181 (zi_at zh_dX9_read_48_48 0 rfl) (zi_at zh_dX9_read_48_48 1 rfl) (zi_at zh_dX9_read_48_48 2 rfl) rfl
theorem dX9_read_51 : decode cX9_read 51 = .ok (.iconst 0, 1) := zo_3 (zi_at zh_dX9_read_48_48 3 rfl)
theorem dX9_read_52 : decode cX9_read 52 = .ok (.istore 4, 2) := zo_54 (zi_at zh_dX9_read_48_48 4 rfl) (zi_at zh_dX9_read_48_48 5 rfl)
theorem dX9_read_54 : decode cX9_read 54 = .ok (.iload 4, 2) := zo_21 (zi_at zh_dX9_read_48_48 6 rfl) (zi_at zh_dX9_read_48_48 7 rfl)
theorem dX9_read_56 : decode cX9_read 56 = .ok (.bipush 16, 2) := zo_16 (zi_at zh_dX9_read_48_48 8 rfl) (zi_at zh_dX9_read_48_48 9 rfl) rfl
theorem dX9_read_58 : decode cX9_read 58 = .ok (.if_icmp .ge 116, 3) := zo_162 (zi_at zh_dX9_read_48_48 10 rfl) (zi_at zh_dX9_read_48_48 11 rfl) (zi_at zh_dX9_read_48_48 12 rfl) rfl
theorem dX9_read_61 : decode cX9_read 61 = .ok (.aload_n 0, 1) := zo_42 (zi_at zh_dX9_read_48_48 13 rfl)
theorem dX9_read_62 : decode cX9_read 62 = .ok (.getfield 9, 3) := zo_180 (zi_at zh_dX9_read_48_48 14 rfl) (zi_at zh_dX9_read_48_48 15 rfl) (zi_at zh_dX9_read_62_64 0 rfl) rfl
theorem dX9_read_65 : decode cX9_read 65 = .ok (.iload 4, 2) := zo_21 (zi_at zh_dX9_read_62_64 1 rfl) (zi_at zh_dX9_read_62_64 2 rfl)
theorem dX9_read_67 : decode cX9_read 67 = .ok (.iaload, 1) := zo_46 (zi_at zh_dX9_read_62_64 3 rfl)
theorem dX9_read_68 : decode cX9_read 68 = .ok (.ifCond .eq 6, 3) := zo_153 (zi_at zh_dX9_read_62_64 4 rfl) (zi_at zh_dX9_read_62_64 5 rfl) (zi_at zh_dX9_read_62_64 6 rfl) rfl
theorem dX9_read_71 : decode cX9_read 71 = .ok (.goto 97, 3) := zo_167 (zi_at zh_dX9_read_62_64 7 rfl) (zi_at zh_dX9_read_62_64 8 rfl) (zi_at zh_dX9_read_62_64 9 rfl) rfl
theorem dX9_read_74 : decode cX9_read 74 = .ok (.aload_n 0, 1) := zo_42 (zi_at zh_dX9_read_62_64 10 rfl)
theorem dX9_read_75 : decode cX9_read 75 = .ok (.dup, 1) := zo_89 (zi_at zh_dX9_read_62_64 11 rfl)
theorem dX9_read_76 : decode cX9_read 76 = .ok (.getfield 97, 3) := zo_180 (zi_at zh_dX9_read_62_64 12 rfl) (zi_at zh_dX9_read_62_64 13 rfl) (zi_at zh_dX9_read_62_64 14 rfl) rfl
theorem dX9_read_79 : decode cX9_read 79 = .ok (.iconst 1, 1) := zo_4 (zi_at zh_dX9_read_62_64 15 rfl)
theorem dX9_read_80 : decode cX9_read 80 = .ok (.iadd, 1) := zo_96 (zi_at zh_dX9_read_80_80 0 rfl)
theorem dX9_read_81 : decode cX9_read 81 = .ok (.putfield 97, 3) := zo_181 (zi_at zh_dX9_read_80_80 1 rfl) (zi_at zh_dX9_read_80_80 2 rfl) (zi_at zh_dX9_read_80_80 3 rfl) rfl
theorem dX9_read_84 : decode cX9_read 84 = .ok (.aload_n 0, 1) := zo_42 (zi_at zh_dX9_read_80_80 4 rfl)
theorem dX9_read_85 : decode cX9_read 85 = .ok (.getfield 18, 3) := zo_180 (zi_at zh_dX9_read_80_80 5 rfl) (zi_at zh_dX9_read_80_80 6 rfl) (zi_at zh_dX9_read_80_80 7 rfl) rfl
theorem dX9_read_88 : decode cX9_read 88 = .ok (.iload 4, 2) := zo_21 (zi_at zh_dX9_read_80_80 8 rfl) (zi_at zh_dX9_read_80_80 9 rfl)
theorem dX9_read_90 : decode cX9_read 90 = .ok (.aload_n 0, 1) := zo_42 (zi_at zh_dX9_read_80_80 10 rfl)
theorem dX9_read_91 : decode cX9_read 91 = .ok (.getfield 27, 3) := zo_180 (zi_at zh_dX9_read_80_80 11 rfl) (zi_at zh_dX9_read_80_80 12 rfl) (zi_at zh_dX9_read_80_80 13 rfl) rfl
theorem dX9_read_94 : decode cX9_read 94 = .ok (.iload 4, 2) := zo_21 (zi_at zh_dX9_read_80_80 14 rfl) (zi_at zh_dX9_read_80_80 15 rfl)
theorem dX9_read_96 : decode cX9_read 96 = .ok (.aload_n 3, 1) := zo_45 (zi_at zh_dX9_read_96_96 0 rfl)
theorem dX9_read_97 : decode cX9_read 97 = .ok (.getfield 81, 3) := zo_180 (zi_at zh_dX9_read_96_96 1 rfl) (zi_at zh_dX9_read_96_96 2 rfl) (zi_at zh_dX9_read_96_96 3 rfl) rfl
theorem dX9_read_100 : decode cX9_read 100 = .ok (.iload_n 2, 1) := zo_28 (zi_at zh_dX9_read_96_96 4 rfl)
theorem dX9_read_101 : decode cX9_read 101 = .ok (.invokevirtual 100, 3) := zo_182 (zi_at zh_dX9_read_96_96 5 rfl) (zi_at zh_dX9_read_96_96 6 rfl) (zi_at zh_dX9_read_96_96 7 rfl) rfl
theorem dX9_read_104 : decode cX9_read 104 = .ok (.iastore, 1) := zo_79 (zi_at zh_dX9_read_96_96 8 rfl)
theorem dX9_read_105 : decode cX9_read 105 = .ok (.aload_n 0, 1) := zo_42 (zi_at zh_dX9_read_96_96 9 rfl)
theorem dX9_read_106 : decode cX9_read 106 = .ok (.getfield 21, 3) := zo_180 (zi_at zh_dX9_read_96_96 10 rfl) (zi_at zh_dX9_read_96_96 11 rfl) (zi_at zh_dX9_read_96_96 12 rfl) rfl
theorem dX9_read_109 : decode cX9_read 109 = .ok (.iload 4, 2) := zo_21 (zi_at zh_dX9_read_96_96 13 rfl) (zi_at zh_dX9_read_96_96 14 rfl)
theorem dX9_read_111 : decode cX9_read 111 = .ok (.aload_n 3, 1) := zo_45 (zi_at zh_dX9_read_96_96 15 rfl)
theorem dX9_read_112 : decode cX9_read 112 = .ok (.getfield 104, 3) := zo_180 (zi_at zh_dX9_read_112_112 0 rfl) (zi_at zh_dX9_read_112_112 1 rfl) (zi_at zh_dX9_read_112_112 2 rfl) rfl
theorem dX9_read_115 : decode cX9_read 115 = .ok (.ifCond .ne 25, 3) := zo_154 (zi_at zh_dX9_read_112_112 3 rfl) (zi_at zh_dX9_read_112_112 4 rfl) (zi_at zh_dX9_read_112_112 5 rfl) rfl
theorem dX9_read_118 : decode cX9_read 118 = .ok (.aload_n 0, 1) := zo_42 (zi_at zh_dX9_read_112_112 6 rfl)
theorem dX9_read_119 : decode cX9_read 119 = .ok (.getfield 15, 3) := zo_180 (zi_at zh_dX9_read_112_112 7 rfl) (zi_at zh_dX9_read_112_112 8 rfl) (zi_at zh_dX9_read_112_112 9 rfl) rfl
theorem dX9_read_122 : decode cX9_read 122 = .ok (.iload 4, 2) := zo_21 (zi_at zh_dX9_read_112_112 10 rfl) (zi_at zh_dX9_read_112_112 11 rfl)
theorem dX9_read_124 : decode cX9_read 124 = .ok (.iaload, 1) := zo_46 (zi_at zh_dX9_read_112_112 12 rfl)
theorem dX9_read_125 : decode cX9_read 125 = .ok (.aload_n 0, 1) := zo_42 (zi_at zh_dX9_read_112_112 13 rfl)
theorem dX9_read_126 : decode cX9_read 126 = .ok (.getfield 18, 3) := zo_180 (zi_at zh_dX9_read_112_112 14 rfl) (zi_at zh_dX9_read_112_112 15 rfl) (zi_at zh_dX9_read_126_128 0 rfl) rfl
theorem dX9_read_129 : decode cX9_read 129 = .ok (.iload 4, 2) := zo_21 (zi_at zh_dX9_read_126_128 1 rfl) (zi_at zh_dX9_read_126_128 2 rfl)
theorem dX9_read_131 : decode cX9_read 131 = .ok (.iaload, 1) := zo_46 (zi_at zh_dX9_read_126_128 3 rfl)
theorem dX9_read_132 : decode cX9_read 132 = .ok (.imul, 1) := zo_104 (zi_at zh_dX9_read_126_128 4 rfl)
theorem dX9_read_133 : decode cX9_read 133 = .ok (.sipush 1000, 3) := zo_17 (zi_at zh_dX9_read_126_128 5 rfl) (zi_at zh_dX9_read_126_128 6 rfl) (zi_at zh_dX9_read_126_128 7 rfl) rfl
theorem dX9_read_136 : decode cX9_read 136 = .ok (.idiv, 1) := zo_108 (zi_at zh_dX9_read_126_128 8 rfl)
theorem dX9_read_137 : decode cX9_read 137 = .ok (.goto 30, 3) := zo_167 (zi_at zh_dX9_read_126_128 9 rfl) (zi_at zh_dX9_read_126_128 10 rfl) (zi_at zh_dX9_read_126_128 11 rfl) rfl
theorem dX9_read_140 : decode cX9_read 140 = .ok (.aload_n 0, 1) := zo_42 (zi_at zh_dX9_read_126_128 12 rfl)
theorem dX9_read_141 : decode cX9_read 141 = .ok (.getfield 15, 3) := zo_180 (zi_at zh_dX9_read_126_128 13 rfl) (zi_at zh_dX9_read_126_128 14 rfl) (zi_at zh_dX9_read_126_128 15 rfl) rfl
theorem dX9_read_144 : decode cX9_read 144 = .ok (.iload 4, 2) := zo_21 (zi_at zh_dX9_read_144_144 0 rfl) (zi_at zh_dX9_read_144_144 1 rfl)
theorem dX9_read_146 : decode cX9_read 146 = .ok (.iaload, 1) := zo_46 (zi_at zh_dX9_read_144_144 2 rfl)
theorem dX9_read_147 : decode cX9_read 147 = .ok (.aload_n 0, 1) := zo_42 (zi_at zh_dX9_read_144_144 3 rfl)
theorem dX9_read_148 : decode cX9_read 148 = .ok (.getfield 18, 3) := zo_180 (zi_at zh_dX9_read_144_144 4 rfl) (zi_at zh_dX9_read_144_144 5 rfl) (zi_at zh_dX9_read_144_144 6 rfl) rfl
theorem dX9_read_151 : decode cX9_read 151 = .ok (.iload 4, 2) := zo_21 (zi_at zh_dX9_read_144_144 7 rfl) (zi_at zh_dX9_read_144_144 8 rfl)
theorem dX9_read_153 : decode cX9_read 153 = .ok (.iaload, 1) := zo_46 (zi_at zh_dX9_read_144_144 9 rfl)
theorem dX9_read_154 : decode cX9_read 154 = .ok (.sipush 1000, 3) := zo_17 (zi_at zh_dX9_read_144_144 10 rfl) (zi_at zh_dX9_read_144_144 11 rfl) (zi_at zh_dX9_read_144_144 12 rfl) rfl
theorem dX9_read_157 : decode cX9_read 157 = .ok (.isub, 1) := zo_100 (zi_at zh_dX9_read_144_144 13 rfl)
theorem dX9_read_158 : decode cX9_read 158 = .ok (.aload_n 3, 1) := zo_45 (zi_at zh_dX9_read_144_144 14 rfl)
theorem dX9_read_159 : decode cX9_read 159 = .ok (.getfield 107, 3) := zo_180 (zi_at zh_dX9_read_144_144 15 rfl) (zi_at zh_dX9_read_159_160 0 rfl) (zi_at zh_dX9_read_159_160 1 rfl) rfl
theorem dX9_read_162 : decode cX9_read 162 = .ok (.imul, 1) := zo_104 (zi_at zh_dX9_read_159_160 2 rfl)
theorem dX9_read_163 : decode cX9_read 163 = .ok (.bipush 10, 2) := zo_16 (zi_at zh_dX9_read_159_160 3 rfl) (zi_at zh_dX9_read_159_160 4 rfl) rfl
theorem dX9_read_165 : decode cX9_read 165 = .ok (.idiv, 1) := zo_108 (zi_at zh_dX9_read_159_160 5 rfl)
theorem dX9_read_166 : decode cX9_read 166 = .ok (.iadd, 1) := zo_96 (zi_at zh_dX9_read_159_160 6 rfl)
theorem dX9_read_167 : decode cX9_read 167 = .ok (.iastore, 1) := zo_79 (zi_at zh_dX9_read_159_160 7 rfl)
theorem dX9_read_168 : decode cX9_read 168 = .ok (.iinc 4 1, 3) := zo_132 (zi_at zh_dX9_read_159_160 8 rfl) (zi_at zh_dX9_read_159_160 9 rfl) (zi_at zh_dX9_read_159_160 10 rfl) rfl
theorem dX9_read_171 : decode cX9_read 171 = .ok (.goto (-117), 3) := zo_167 (zi_at zh_dX9_read_159_160 11 rfl) (zi_at zh_dX9_read_159_160 12 rfl) (zi_at zh_dX9_read_159_160 13 rfl) rfl
theorem dX9_read_174 : decode cX9_read 174 = .ok (.iconst 0, 1) := zo_3 (zi_at zh_dX9_read_159_160 14 rfl)
theorem dX9_read_175 : decode cX9_read 175 = .ok (.istore 4, 2) := zo_54 (zi_at zh_dX9_read_159_160 15 rfl) (zi_at zh_dX9_read_175_176 0 rfl)
theorem dX9_read_177 : decode cX9_read 177 = .ok (.iload 4, 2) := zo_21 (zi_at zh_dX9_read_175_176 1 rfl) (zi_at zh_dX9_read_175_176 2 rfl)
theorem dX9_read_179 : decode cX9_read 179 = .ok (.bipush 16, 2) := zo_16 (zi_at zh_dX9_read_175_176 3 rfl) (zi_at zh_dX9_read_175_176 4 rfl) rfl
theorem dX9_read_181 : decode cX9_read 181 = .ok (.if_icmp .ge 36, 3) := zo_162 (zi_at zh_dX9_read_175_176 5 rfl) (zi_at zh_dX9_read_175_176 6 rfl) (zi_at zh_dX9_read_175_176 7 rfl) rfl
theorem dX9_read_184 : decode cX9_read 184 = .ok (.aload_n 0, 1) := zo_42 (zi_at zh_dX9_read_175_176 8 rfl)
theorem dX9_read_185 : decode cX9_read 185 = .ok (.getfield 24, 3) := zo_180 (zi_at zh_dX9_read_175_176 9 rfl) (zi_at zh_dX9_read_175_176 10 rfl) (zi_at zh_dX9_read_175_176 11 rfl) rfl
theorem dX9_read_188 : decode cX9_read 188 = .ok (.iload 4, 2) := zo_21 (zi_at zh_dX9_read_175_176 12 rfl) (zi_at zh_dX9_read_175_176 13 rfl)
theorem dX9_read_190 : decode cX9_read 190 = .ok (.aload_n 0, 1) := zo_42 (zi_at zh_dX9_read_175_176 14 rfl)
theorem dX9_read_191 : decode cX9_read 191 = .ok (.getfield 9, 3) := zo_180 (zi_at zh_dX9_read_175_176 15 rfl) (zi_at zh_dX9_read_191_192 0 rfl) (zi_at zh_dX9_read_191_192 1 rfl) rfl
theorem dX9_read_194 : decode cX9_read 194 = .ok (.iload 4, 2) := zo_21 (zi_at zh_dX9_read_191_192 2 rfl) (zi_at zh_dX9_read_191_192 3 rfl)
theorem dX9_read_196 : decode cX9_read 196 = .ok (.iaload, 1) := zo_46 (zi_at zh_dX9_read_191_192 4 rfl)
theorem dX9_read_197 : decode cX9_read 197 = .ok (.ifCond .ne 12, 3) := zo_154 (zi_at zh_dX9_read_191_192 5 rfl) (zi_at zh_dX9_read_191_192 6 rfl) (zi_at zh_dX9_read_191_192 7 rfl) rfl
theorem dX9_read_200 : decode cX9_read 200 = .ok (.aload_n 0, 1) := zo_42 (zi_at zh_dX9_read_191_192 8 rfl)
theorem dX9_read_201 : decode cX9_read 201 = .ok (.iload 4, 2) := zo_21 (zi_at zh_dX9_read_191_192 9 rfl) (zi_at zh_dX9_read_191_192 10 rfl)
theorem dX9_read_203 : decode cX9_read 203 = .ok (.invokevirtual 110, 3) := zo_182 (zi_at zh_dX9_read_191_192 11 rfl) (zi_at zh_dX9_read_191_192 12 rfl) (zi_at zh_dX9_read_191_192 13 rfl) rfl
theorem dX9_read_206 : decode cX9_read 206 = .ok (.goto 4, 3) := zo_167 (zi_at zh_dX9_read_191_192 14 rfl) (zi_at zh_dX9_read_191_192 15 rfl) (zi_at zh_dX9_read_206_208 0 rfl) rfl
theorem dX9_read_209 : decode cX9_read 209 = .ok (.iconst 0, 1) := zo_3 (zi_at zh_dX9_read_206_208 1 rfl)
theorem dX9_read_210 : decode cX9_read 210 = .ok (.iastore, 1) := zo_79 (zi_at zh_dX9_read_206_208 2 rfl)
theorem dX9_read_211 : decode cX9_read 211 = .ok (.iinc 4 1, 3) := zo_132 (zi_at zh_dX9_read_206_208 3 rfl) (zi_at zh_dX9_read_206_208 4 rfl) (zi_at zh_dX9_read_206_208 5 rfl) rfl
theorem dX9_read_214 : decode cX9_read 214 = .ok (.goto (-37), 3) := zo_167 (zi_at zh_dX9_read_206_208 6 rfl) (zi_at zh_dX9_read_206_208 7 rfl) (zi_at zh_dX9_read_206_208 8 rfl) rfl
theorem dX9_read_217 : decode cX9_read 217 = .ok (.return_, 1) := zo_177 (zi_at zh_dX9_read_206_208 9 rfl)
theorem dX9_placeOf_0 : decode cX9_placeOf 0 = .ok (.iconst 0, 1) := zo_3 (zi_at zh_dX9_placeOf_0_0 0 rfl)
theorem dX9_placeOf_1 : decode cX9_placeOf 1 = .ok (.istore_n 2, 1) := zo_61 (zi_at zh_dX9_placeOf_0_0 1 rfl)
theorem dX9_placeOf_2 : decode cX9_placeOf 2 = .ok (.iconst 0, 1) := zo_3 (zi_at zh_dX9_placeOf_0_0 2 rfl)
theorem dX9_placeOf_3 : decode cX9_placeOf 3 = .ok (.istore_n 3, 1) := zo_62 (zi_at zh_dX9_placeOf_0_0 3 rfl)
theorem dX9_placeOf_4 : decode cX9_placeOf 4 = .ok (.iconst 0, 1) := zo_3 (zi_at zh_dX9_placeOf_0_0 4 rfl)
theorem dX9_placeOf_5 : decode cX9_placeOf 5 = .ok (.istore 4, 2) := zo_54 (zi_at zh_dX9_placeOf_0_0 5 rfl) (zi_at zh_dX9_placeOf_0_0 6 rfl)
theorem dX9_placeOf_7 : decode cX9_placeOf 7 = .ok (.iload 4, 2) := zo_21 (zi_at zh_dX9_placeOf_0_0 7 rfl) (zi_at zh_dX9_placeOf_0_0 8 rfl)
theorem dX9_placeOf_9 : decode cX9_placeOf 9 = .ok (.bipush 16, 2) := zo_16 (zi_at zh_dX9_placeOf_0_0 9 rfl) (zi_at zh_dX9_placeOf_0_0 10 rfl) rfl
theorem dX9_placeOf_11 : decode cX9_placeOf 11 = .ok (.if_icmp .ge 60, 3) := zo_162 (zi_at zh_dX9_placeOf_0_0 11 rfl) (zi_at zh_dX9_placeOf_0_0 12 rfl) (zi_at zh_dX9_placeOf_0_0 13 rfl) rfl
theorem dX9_placeOf_14 : decode cX9_placeOf 14 = .ok (.aload_n 0, 1) := zo_42 (zi_at zh_dX9_placeOf_0_0 14 rfl)
theorem dX9_placeOf_15 : decode cX9_placeOf 15 = .ok (.getfield 9, 3) := zo_180 (zi_at zh_dX9_placeOf_0_0 15 rfl) (zi_at zh_dX9_placeOf_15_16 0 rfl) (zi_at zh_dX9_placeOf_15_16 1 rfl) rfl
theorem dX9_placeOf_18 : decode cX9_placeOf 18 = .ok (.iload 4, 2) := zo_21 (zi_at zh_dX9_placeOf_15_16 2 rfl) (zi_at zh_dX9_placeOf_15_16 3 rfl)
theorem dX9_placeOf_20 : decode cX9_placeOf 20 = .ok (.iaload, 1) := zo_46 (zi_at zh_dX9_placeOf_15_16 4 rfl)
theorem dX9_placeOf_21 : decode cX9_placeOf 21 = .ok (.ifCond .eq 6, 3) := zo_153 (zi_at zh_dX9_placeOf_15_16 5 rfl) (zi_at zh_dX9_placeOf_15_16 6 rfl) (zi_at zh_dX9_placeOf_15_16 7 rfl) rfl
theorem dX9_placeOf_24 : decode cX9_placeOf 24 = .ok (.goto 41, 3) := zo_167 (zi_at zh_dX9_placeOf_15_16 8 rfl) (zi_at zh_dX9_placeOf_15_16 9 rfl) (zi_at zh_dX9_placeOf_15_16 10 rfl) rfl
theorem dX9_placeOf_27 : decode cX9_placeOf 27 = .ok (.aload_n 0, 1) := zo_42 (zi_at zh_dX9_placeOf_15_16 11 rfl)
theorem dX9_placeOf_28 : decode cX9_placeOf 28 = .ok (.getfield 21, 3) := zo_180 (zi_at zh_dX9_placeOf_15_16 12 rfl) (zi_at zh_dX9_placeOf_15_16 13 rfl) (zi_at zh_dX9_placeOf_15_16 14 rfl) rfl
theorem dX9_placeOf_31 : decode cX9_placeOf 31 = .ok (.iload 4, 2) := zo_21 (zi_at zh_dX9_placeOf_15_16 15 rfl) (zi_at zh_dX9_placeOf_31_32 0 rfl)
theorem dX9_placeOf_33 : decode cX9_placeOf 33 = .ok (.iaload, 1) := zo_46 (zi_at zh_dX9_placeOf_31_32 1 rfl)
theorem dX9_placeOf_34 : decode cX9_placeOf 34 = .ok (.aload_n 0, 1) := zo_42 (zi_at zh_dX9_placeOf_31_32 2 rfl)
theorem dX9_placeOf_35 : decode cX9_placeOf 35 = .ok (.getfield 21, 3) := zo_180 (zi_at zh_dX9_placeOf_31_32 3 rfl) (zi_at zh_dX9_placeOf_31_32 4 rfl) (zi_at zh_dX9_placeOf_31_32 5 rfl) rfl
theorem dX9_placeOf_38 : decode cX9_placeOf 38 = .ok (.iload_n 1, 1) := zo_27 (zi_at zh_dX9_placeOf_31_32 6 rfl)
theorem dX9_placeOf_39 : decode cX9_placeOf 39 = .ok (.iaload, 1) := zo_46 (zi_at zh_dX9_placeOf_31_32 7 rfl)
theorem dX9_placeOf_40 : decode cX9_placeOf 40 = .ok (.if_icmp .ge 6, 3) := zo_162 (zi_at zh_dX9_placeOf_31_32 8 rfl) (zi_at zh_dX9_placeOf_31_32 9 rfl) (zi_at zh_dX9_placeOf_31_32 10 rfl) rfl
theorem dX9_placeOf_43 : decode cX9_placeOf 43 = .ok (.iinc 2 1, 3) := zo_132 (zi_at zh_dX9_placeOf_31_32 11 rfl) (zi_at zh_dX9_placeOf_31_32 12 rfl) (zi_at zh_dX9_placeOf_31_32 13 rfl) rfl
theorem dX9_placeOf_46 : decode cX9_placeOf 46 = .ok (.aload_n 0, 1) := zo_42 (zi_at zh_dX9_placeOf_31_32 14 rfl)
theorem dX9_placeOf_47 : decode cX9_placeOf 47 = .ok (.getfield 21, 3) := zo_180 (zi_at zh_dX9_placeOf_31_32 15 rfl) (zi_at zh_dX9_placeOf_47_48 0 rfl) (zi_at zh_dX9_placeOf_47_48 1 rfl) rfl
theorem dX9_placeOf_50 : decode cX9_placeOf 50 = .ok (.iload 4, 2) := zo_21 (zi_at zh_dX9_placeOf_47_48 2 rfl) (zi_at zh_dX9_placeOf_47_48 3 rfl)
theorem dX9_placeOf_52 : decode cX9_placeOf 52 = .ok (.iaload, 1) := zo_46 (zi_at zh_dX9_placeOf_47_48 4 rfl)
theorem dX9_placeOf_53 : decode cX9_placeOf 53 = .ok (.aload_n 0, 1) := zo_42 (zi_at zh_dX9_placeOf_47_48 5 rfl)
theorem dX9_placeOf_54 : decode cX9_placeOf 54 = .ok (.getfield 21, 3) := zo_180 (zi_at zh_dX9_placeOf_47_48 6 rfl) (zi_at zh_dX9_placeOf_47_48 7 rfl) (zi_at zh_dX9_placeOf_47_48 8 rfl) rfl
theorem dX9_placeOf_57 : decode cX9_placeOf 57 = .ok (.iload_n 1, 1) := zo_27 (zi_at zh_dX9_placeOf_47_48 9 rfl)
theorem dX9_placeOf_58 : decode cX9_placeOf 58 = .ok (.iaload, 1) := zo_46 (zi_at zh_dX9_placeOf_47_48 10 rfl)
theorem dX9_placeOf_59 : decode cX9_placeOf 59 = .ok (.if_icmp .ne 6, 3) := zo_160 (zi_at zh_dX9_placeOf_47_48 11 rfl) (zi_at zh_dX9_placeOf_47_48 12 rfl) (zi_at zh_dX9_placeOf_47_48 13 rfl) rfl
theorem dX9_placeOf_62 : decode cX9_placeOf 62 = .ok (.iinc 3 1, 3) := zo_132 (zi_at zh_dX9_placeOf_47_48 14 rfl) (zi_at zh_dX9_placeOf_47_48 15 rfl) (zi_at zh_dX9_placeOf_62_64 0 rfl) rfl
theorem dX9_placeOf_65 : decode cX9_placeOf 65 = .ok (.iinc 4 1, 3) := zo_132 (zi_at zh_dX9_placeOf_62_64 1 rfl) (zi_at zh_dX9_placeOf_62_64 2 rfl) (zi_at zh_dX9_placeOf_62_64 3 rfl) rfl
theorem dX9_placeOf_68 : decode cX9_placeOf 68 = .ok (.goto (-61), 3) := zo_167 (zi_at zh_dX9_placeOf_62_64 4 rfl) (zi_at zh_dX9_placeOf_62_64 5 rfl) (zi_at zh_dX9_placeOf_62_64 6 rfl) rfl
theorem dX9_placeOf_71 : decode cX9_placeOf 71 = .ok (.iconst 5, 1) := zo_8 (zi_at zh_dX9_placeOf_62_64 7 rfl)
theorem dX9_placeOf_72 : decode cX9_placeOf 72 = .ok (.iload_n 2, 1) := zo_28 (zi_at zh_dX9_placeOf_62_64 8 rfl)
theorem dX9_placeOf_73 : decode cX9_placeOf 73 = .ok (.iconst 1, 1) := zo_4 (zi_at zh_dX9_placeOf_62_64 9 rfl)
theorem dX9_placeOf_74 : decode cX9_placeOf 74 = .ok (.iadd, 1) := zo_96 (zi_at zh_dX9_placeOf_62_64 10 rfl)
theorem dX9_placeOf_75 : decode cX9_placeOf 75 = .ok (.iload_n 2, 1) := zo_28 (zi_at zh_dX9_placeOf_62_64 11 rfl)
theorem dX9_placeOf_76 : decode cX9_placeOf 76 = .ok (.iadd, 1) := zo_96 (zi_at zh_dX9_placeOf_62_64 12 rfl)
theorem dX9_placeOf_77 : decode cX9_placeOf 77 = .ok (.iload_n 3, 1) := zo_29 (zi_at zh_dX9_placeOf_62_64 13 rfl)
theorem dX9_placeOf_78 : decode cX9_placeOf 78 = .ok (.iadd, 1) := zo_96 (zi_at zh_dX9_placeOf_62_64 14 rfl)
theorem dX9_placeOf_79 : decode cX9_placeOf 79 = .ok (.imul, 1) := zo_104 (zi_at zh_dX9_placeOf_62_64 15 rfl)
theorem dX9_placeOf_80 : decode cX9_placeOf 80 = .ok (.ireturn, 1) := zo_172 (zi_at zh_dX9_placeOf_80_80 0 rfl)
theorem hz_yX9_placeOf_1 : yX9_placeOf.cls ≠ "java/lang/invoke/MethodHandle" ∧ yX9_placeOf.cls ≠ "java/lang/invoke/VarHandle" ∧ (parseMethodDescriptor yX9_placeOf.desc).map (fun d => d.parameters.length) = some 1 := by decide +kernel

/-! ===== CORRECTED and PLACE (pure) ===== -/
def corI (way s n m : Int32) : Int32 := if way.toInt = 0 then s * n / 1000 else s + (n - 1000) * m / 10
theorem corI_0 {way s n m a b : Int32} (h : way.toInt = 0) (e1 : a = s * n) (e2 : b = a / 1000) : b = corI way s n m := by
  unfold corI
  rw [if_pos h, e2, e1]
theorem corI_1 {way s n m a b c d : Int32} (h : ¬ way.toInt = 0) (e1 : a = n - 1000) (e2 : b = a * m) (e3 : c = b / 10) (e4 : d = s + c) : d = corI way s n m := by
  unfold corI
  rw [if_neg h, e4, e3, e2, e1]
theorem CnR.cg {P Q : Nat → Prop} : ∀ (n : Nat) (c : Int), CnR P n c → (∀ k, k < n → (P k ↔ Q k)) → CnR Q n c := by
  intro n
  induction n with
  | zero => exact fun c h _ => h
  | succ n ih =>
    intro c h e
    have en := e n (by omega)
    have e' : ∀ k, k < n → (P k ↔ Q k) := fun k hk => e k (by omega)
    rcases h with ⟨h1, h2⟩ | ⟨h1, h2⟩
    · exact Or.inl ⟨en.mp h1, ih _ h2 e'⟩
    · exact Or.inr ⟨fun z => h1 (en.mpr z), ih _ h2 e'⟩
/-- PLACE by rows of CODES and times -/
def PlG (c t : Nat → Int32) (b : Nat) (p : Int) : Prop := ∃ x y : Int, CnR (fun o => (c o).toInt = 0 ∧ (t o).toInt < (t b).toInt) 16 x ∧ CnR (fun o => (c o).toInt = 0 ∧ (t o).toInt = (t b).toInt) 16 y ∧ p = 5 * (2 * x + 1 + y)
theorem up_s {g g' : Nat → Int32} {k k' v : Int32} {P : Nat → Int32 → Prop} (h : ∀ b, b < k.toNatClampNeg → P b (g b)) (e : g' = upd g k.toNatClampNeg v) (hv : P k.toNatClampNeg v) (ek : k'.toInt = k.toInt + 1) (h0 : 0 ≤ k.toInt) : ∀ b, b < k'.toNatClampNeg → P b (g' b) := fun b hb => by
  rw [e]
  by_cases c : b = k.toNatClampNeg
  · subst c
    rw [pk_us]
    exact hv
  · rw [show upd g k.toNatClampNeg v b = g b from if_neg c]
    exact h b (by rw [tn_] at hb c ⊢; omega)
theorem up_k {g : Nat → Int32} {k k' : Int32} {P : Nat → Int32 → Prop} (h : ∀ b, b < k.toNatClampNeg → P b (g b)) (hv : P k.toNatClampNeg (g k.toNatClampNeg)) (ek : k'.toInt = k.toInt + 1) (h0 : 0 ≤ k.toInt) : ∀ b, b < k'.toNatClampNeg → P b (g b) := fun b hb => by
  by_cases c : b = k.toNatClampNeg
  · subst c
    exact hv
  · exact h b (by rw [tn_] at hb c ⊢; omega)
def rcS (E : Nat → va_E) (race j : Nat) : Int32 := xi (E (64 * (race + 1) + 6)) j
/-- what is written for a BOAT in the Sheet -/
def ShB (cf : Nat → Nat) (E u : Nat → va_E) (race q : Int32) (b : Nat) : Prop := CdR cf E race q b (xi (u 26) b).toInt ∧ scN E race q (cf 3) b (xi (u 27) b).toInt ∧ ((xi (u 26) b).toInt = 0 → (xi (u 28) b).toInt = numC cf E (nI b) (rcS E race.toNatClampNeg 1) q ∧ xi (u 29) b = corI (rcS E race.toNatClampNeg 3) (xi (u 27) b) (fI (numC cf E (nI b) (rcS E race.toNatClampNeg 1) q)) (rcS E race.toNatClampNeg 2)) ∧ ((xi (u 26) b).toInt = 0 → PlG (xi (u 26)) (xi (u 29)) b (xi (u 30) b).toInt) ∧ (¬ (xi (u 26) b).toInt = 0 → (xi (u 30) b).toInt = 0)
def ShR (cf : Nat → Nat) (E u : Nat → va_E) (race q : Int32) : Prop := (∀ b, b < 16 → ShB cf E u race q b) ∧ xi (u 3) 6 = lawC cf E (rcS E race.toNatClampNeg 1) q ∧ (xi (u 3) 7).toInt = ((entC (xi (E (64 * (race.toNatClampNeg + 1) + 7))) q.toInt 16 : Nat) : Int) ∧ CnR (fun o => (xi (u 26) o).toInt = 0) 16 (xi (u 3) 8).toInt
theorem ShR.of {cf : Nat → Nat} {E u : Nat → va_E} {race q : Int32} {g6 g7 g8 g9 g0 : Nat → Int32} {law ent fin : Int32} (e6 : xi (u 26) = g6) (e7 : xi (u 27) = g7) (e8 : xi (u 28) = g8) (e9 : xi (u 29) = g9) (e0 : xi (u 30) = g0) (h1 : ∀ b, b < 16 → CdR cf E race q b (g6 b).toInt ∧ scN E race q (cf 3) b (g7 b).toInt) (h2 : ∀ b, b < 16 → ((g6 b).toInt = 0 → (g8 b).toInt = numC cf E (nI b) (rcS E race.toNatClampNeg 1) q)) (h3 : ∀ b, b < 16 → ((g6 b).toInt = 0 → g9 b = corI (rcS E race.toNatClampNeg 3) (g7 b) (fI (numC cf E (nI b) (rcS E race.toNatClampNeg 1) q)) (rcS E race.toNatClampNeg 2))) (h4 : ∀ b, b < 16 → (((g6 b).toInt = 0 → PlG g6 g9 b (g0 b).toInt) ∧ (¬ (g6 b).toInt = 0 → (g0 b).toInt = 0))) (s6 : xi (u 3) 6 = law) (s7 : xi (u 3) 7 = ent) (s8 : xi (u 3) 8 = fin) (hl : law = lawC cf E (rcS E race.toNatClampNeg 1) q) (he : ent.toInt = ((entC (xi (E (64 * (race.toNatClampNeg + 1) + 7))) q.toInt 16 : Nat) : Int)) (hf : CnR (fun o => (g6 o).toInt = 0) 16 fin.toInt) : ShR cf E u race q := by
  subst e6
  subst e7
  subst e8
  subst e9
  subst e0
  refine ⟨fun b hb => ⟨(h1 b hb).1, (h1 b hb).2, fun z => ⟨h2 b hb z, h3 b hb z⟩, (h4 b hb).1, (h4 b hb).2⟩, s6.trans hl, ?_, ?_⟩
  · rw [s7]
    exact he
  · rw [s8]
    exact hf
theorem papC_k {cf : Nat → Nat} {E E' : Nat → va_E} {boat day q : Int32} (h : K64 E E') : papC cf E' boat day q = papC cf E boat day q := by
  unfold papC
  rw [show (fun k9 => xi (E' (64 * (k9 + 1) + 0)) 0) = (fun k9 => xi (E (64 * (k9 + 1) + 0)) 0) from funext (fun k9 => h (64 * (k9 + 1) + 0) (by omega) 0), show (fun k9 => xi (E' (64 * (k9 + 1) + 0)) 1) = (fun k9 => xi (E (64 * (k9 + 1) + 0)) 1) from funext (fun k9 => h (64 * (k9 + 1) + 0) (by omega) 1), show (fun k9 => xi (E' (64 * (k9 + 1) + 0)) 2) = (fun k9 => xi (E (64 * (k9 + 1) + 0)) 2) from funext (fun k9 => h (64 * (k9 + 1) + 0) (by omega) 2)]
theorem numC_k {cf : Nat → Nat} {E E' : Nat → va_E} {boat day q : Int32} (h : K64 E E') : numC cf E' boat day q = numC cf E boat day q := by
  have ew : wC cf E' = wC cf E := funext (fun lab => funext (fun k => funext (fun L => by
    unfold wC
    rw [clE_cg (fun t _ _ j => h (64 * (k + 1) + t) (by omega) j)])))
  have ep := papC_k (cf := cf) (boat := boat) (day := day) (q := q) h
  have el := lawC_cg (cf := cf) (day := day) (q := q) h
  have e3 := fun j => h (64 * ((papC cf E boat day q).toNatClampNeg + 1) + 0) (by omega) j
  unfold numC
  rw [ep, el, e3 3, e3 4, e3 5, ew]
theorem nuA_in {law paper a b c : Int32} {W : (Nat → Int32) → Int32} : 500 ≤ nuA law paper a b c W ∧ nuA law paper a b c W ≤ 2000 := by
  unfold nuA
  by_cases h : law.toInt = -1 ∨ paper.toInt = -1
  · rw [if_pos h]
    omega
  · rw [if_neg h]
    omega
theorem numC_in {cf : Nat → Nat} {E : Nat → va_E} {boat day q : Int32} : 500 ≤ numC cf E boat day q ∧ numC cf E boat day q ≤ 2000 := nuA_in
theorem numM_in {E : Nat → va_E} {boat day q : Int32} : 500 ≤ numM E boat day q ∧ numM E boat day q ≤ 2000 := by
  unfold numM
  by_cases h : (papM E boat day q).toInt = -1
  · rw [if_pos h]
    omega
  · rw [if_neg h]
    omega
/-- the class's times, by what was told -/
def tmC (cf : Nat → Nat) (E : Nat → va_E) (race q : Int32) (b : Nat) : Int32 := corI (rcS E race.toNatClampNeg 3) (xi (E (64 * ((lRC E race (nI b) q (cf 3)).toNatClampNeg + 1) + 12)) 3) (fI (numC cf E (nI b) (rcS E race.toNatClampNeg 1) q)) (rcS E race.toNatClampNeg 2)
theorem CdR_0 {cf : Nat → Nat} {E : Nat → va_E} {race q : Int32} {b : Nat} (h : CdR cf E race q b 0) : ¬ (lRC E race (nI b) q (cf 3)).toInt = -1 := fun z => by
  by_cases o : exF (outC E race.toInt q.toInt (b : Int)) (cf 5)
  · exact absurd (h.1 o) (by decide)
  · have h2 := (h.2 o).1 z
    by_cases e : entCd E race.toNatClampNeg b q.toInt
    · exact absurd (h2.1 e) (by decide)
    · exact absurd (h2.2 e) (by decide)
theorem CdR.fn {cf : Nat → Nat} {E : Nat → va_E} {race q : Int32} {b : Nat} {c c' : Int} (h : CdR cf E race q b c) (h' : CdR cf E race q b c') : c = c' := by
  by_cases o : exF (outC E race.toInt q.toInt (b : Int)) (cf 5)
  · rw [h.1 o, h'.1 o]
  · have h2 := h.2 o
    have g2 := h'.2 o
    by_cases z : (lRC E race (nI b) q (cf 3)).toInt = -1
    · by_cases e : entCd E race.toNatClampNeg b q.toInt
      · rw [(h2.1 z).1 e, (g2.1 z).1 e]
      · rw [(h2.1 z).2 e, (g2.1 z).2 e]
    · rw [h2.2 z, g2.2 z]
theorem CdR.tot {cf : Nat → Nat} {E : Nat → va_E} {race q : Int32} {b : Nat} : ∃ c, CdR cf E race q b c := by
  by_cases o : exF (outC E race.toInt q.toInt (b : Int)) (cf 5)
  · exact ⟨5, fun _ => rfl, fun z => absurd o z⟩
  · by_cases z : (lRC E race (nI b) q (cf 3)).toInt = -1
    · by_cases e : entCd E race.toNatClampNeg b q.toInt
      · exact ⟨2, fun g => absurd g o, fun _ => ⟨fun _ => ⟨fun _ => rfl, fun g => absurd e g⟩, fun g => absurd z g⟩⟩
      · exact ⟨-1, fun g => absurd g o, fun _ => ⟨fun _ => ⟨fun g => absurd g e, fun _ => rfl⟩, fun g => absurd z g⟩⟩
    · exact ⟨_, fun g => absurd g o, fun _ => ⟨fun g => absurd g z, fun _ => rfl⟩⟩
theorem ShB.tm {cf : Nat → Nat} {E u : Nat → va_E} {race q : Int32} {b : Nat} (h : ShB cf E u race q b) (h0 : (xi (u 26) b).toInt = 0) : xi (u 29) b = tmC cf E race q b := by
  obtain ⟨h1, h2, h3, -, -⟩ := h
  rw [h0] at h1
  rw [(h3 h0).2, show xi (u 27) b = xi (E (64 * ((lRC E race (nI b) q (cf 3)).toNatClampNeg + 1) + 12)) 3 from Int32.toInt_inj.mp (h2 (CdR_0 h1))]
  rfl
theorem ShB.fin {cf : Nat → Nat} {E u : Nat → va_E} {race q : Int32} {b : Nat} (h : ShB cf E u race q b) : (xi (u 26) b).toInt = 0 ↔ CdR cf E race q b 0 := ⟨fun z => by
  have h1 := h.1
  rw [z] at h1
  exact h1, fun z => h.1.fn z⟩
/-- PLACE, by what was told -/
def PlS (F : Nat → Prop) (T : Nat → Int32) (n b : Nat) (p : Int) : Prop := ∃ x y : Int, CnR (fun o => F o ∧ (T o).toInt < (T b).toInt) n x ∧ CnR (fun o => F o ∧ (T o).toInt = (T b).toInt) n y ∧ p = 5 * (2 * x + 1 + y)
theorem ShR.pl {cf : Nat → Nat} {E u : Nat → va_E} {race q : Int32} {b : Nat} (h : ShR cf E u race q) (hb : b < 16) (h0 : (xi (u 26) b).toInt = 0) : PlS (fun o => CdR cf E race q o 0) (tmC cf E race q) 16 b (xi (u 30) b).toInt := by
  obtain ⟨x, y, h1, h2, h3⟩ := (h.1 b hb).2.2.2.1 h0
  have tb := (h.1 b hb).tm h0
  refine ⟨x, y, h1.cg 16 x (fun o ho => ?_), h2.cg 16 y (fun o ho => ?_), h3⟩
  · constructor
    · rintro ⟨g1, g2⟩
      rw [(h.1 o ho).tm g1, tb] at g2
      exact ⟨(h.1 o ho).fin.mp g1, g2⟩
    · rintro ⟨g1, g2⟩
      have g3 := (h.1 o ho).fin.mpr g1
      refine ⟨g3, ?_⟩
      rw [(h.1 o ho).tm g3, tb]
      exact g2
  · constructor
    · rintro ⟨g1, g2⟩
      rw [(h.1 o ho).tm g1, tb] at g2
      exact ⟨(h.1 o ho).fin.mp g1, g2⟩
    · rintro ⟨g1, g2⟩
      have g3 := (h.1 o ho).fin.mpr g1
      refine ⟨g3, ?_⟩
      rw [(h.1 o ho).tm g3, tb]
      exact g2
/-- the reference's -/
def tmB (E : Nat → va_E) (race boat q : Int32) : Int32 := corI (xi (E 15) race.toNatClampNeg) (xi (E 27) (lRM E race boat q).toNatClampNeg) (fI (numM E boat (xi (E 13) race.toNatClampNeg) q)) (xi (E 14) race.toNatClampNeg)
def tmM (E : Nat → va_E) (race q : Int32) (b : Nat) : Int32 := tmB E race (nI b) q
theorem CdM_0 {E : Nat → va_E} {race boat q : Int32} (h : CdM E race boat q 0) : ¬ (lRM E race boat q).toInt = -1 := fun z => by
  by_cases e : entMd E race.toInt boat.toInt q.toInt
  · by_cases o : OutMx E race.toInt boat.toInt q.toInt
    · exact absurd ((h.2 e).1 o) (by decide)
    · exact absurd (((h.2 e).2 o).1 z) (by decide)
  · exact absurd (h.1 e) (by decide)
theorem CdM.fn {E : Nat → va_E} {race boat q : Int32} {c c' : Int} (h : CdM E race boat q c) (h' : CdM E race boat q c') : c = c' := by
  by_cases e : entMd E race.toInt boat.toInt q.toInt
  · by_cases o : OutMx E race.toInt boat.toInt q.toInt
    · rw [(h.2 e).1 o, (h'.2 e).1 o]
    · have h2 := (h.2 e).2 o
      have g2 := (h'.2 e).2 o
      by_cases z : (lRM E race boat q).toInt = -1
      · rw [h2.1 z, g2.1 z]
      · rw [h2.2 z, g2.2 z]
  · rw [h.1 e, h'.1 e]
theorem CdM.tot {E : Nat → va_E} {race boat q : Int32} : ∃ c, CdM E race boat q c := by
  by_cases e : entMd E race.toInt boat.toInt q.toInt
  · by_cases o : OutMx E race.toInt boat.toInt q.toInt
    · exact ⟨5, fun g => absurd e g, fun _ => ⟨fun _ => rfl, fun g => absurd o g⟩⟩
    · by_cases z : (lRM E race boat q).toInt = -1
      · exact ⟨2, fun g => absurd e g, fun _ => ⟨fun g => absurd g o, fun _ => ⟨fun _ => rfl, fun g => absurd z g⟩⟩⟩
      · exact ⟨_, fun g => absurd e g, fun _ => ⟨fun g => absurd g o, fun _ => ⟨fun g => absurd g z, fun _ => rfl⟩⟩⟩
  · exact ⟨2, fun _ => rfl, fun g => absurd g e⟩
/-! ===== where the reference keeps all that NUMBERS and CODES read ===== -/
def kd8 : List Nat := [1, 2, 3, 4, 5, 6, 8, 9, 10, 11, 13, 14, 15, 21, 24, 25, 26, 27, 28, 46, 47, 48, 51, 52, 53, 54]
def KdN (E E' : Nat → va_E) : Prop := (∀ o ∈ kd8, ∀ j, xi (E' o) j = xi (E o) j) ∧ xi (E' 0) 9 = xi (E 0) 9 ∧ xi (E' 0) 17 = xi (E 0) 17 ∧ xi (E' 0) 47 = xi (E 0) 47 ∧ xi (E' 0) 75 = xi (E 0) 75
theorem KdN.of {a : List Nat} {b : List (Nat × Nat)} {E E' : Nat → va_E} (h : Kp (wl a b) E E') (hw : kd8.all (fun o => !a.contains o && b.all (fun q => q.1 != o)) = true) (h1 : wl a b 0 9 = false) (h2 : wl a b 0 17 = false) (h3 : wl a b 0 47 = false) (h4 : wl a b 0 75 = false) : KdN E E' := ⟨fun o ho j => xik h (wl_row (List.all_eq_true.mp hw o ho)), xik h h1, xik h h2, xik h h3, xik h h4⟩
theorem KdN.rf {E : Nat → va_E} : KdN E E := ⟨fun _ _ _ => rfl, rfl, rfl, rfl, rfl⟩
theorem KdN.rw_ {E E' : Nat → va_E} (h : KdN E E') (o : Nat) (ho : o ∈ kd8) : xi (E' o) = xi (E o) := funext (h.1 o ho)
theorem KdN.lr {E E' : Nat → va_E} (h : KdN E E') (race boat q : Int32) : lRM E' race boat q = lRM E race boat q := by
  unfold lRM
  rw [h.rw_ 24 (by decide), h.rw_ 25 (by decide), h.rw_ 28 (by decide), h.2.2.2.1]
theorem KdN.cd {E E' : Nat → va_E} (h : KdN E E') {race boat q : Int32} {c : Int} : CdM E' race boat q c ↔ CdM E race boat q c := by
  have e1 := h.lr race boat q
  have e2 : entMd E' race.toInt boat.toInt q.toInt = entMd E race.toInt boat.toInt q.toInt := by
    unfold entMd
    rw [h.rw_ 21 (by decide)]
  have e3 : OutMx E' race.toInt boat.toInt q.toInt = OutMx E race.toInt boat.toInt q.toInt := by
    unfold OutMx
    rw [outM_cg (fun o ho j => h.1 o (by
      simp only [kd7, List.mem_cons, List.not_mem_nil, or_false] at ho
      rcases ho with rfl | rfl | rfl | rfl | rfl | rfl | rfl | rfl | rfl | rfl | rfl | rfl <;> decide) j), h.2.2.2.2]
  unfold CdM
  rw [e1, e2, e3, h.rw_ 26 (by decide)]
theorem KdN.nm {E E' : Nat → va_E} (h : KdN E E') (boat day q : Int32) : numM E' boat day q = numM E boat day q := numM_cg (fun o ho j => h.1 o (by
  simp only [List.mem_cons, List.not_mem_nil, or_false] at ho
  rcases ho with rfl | rfl | rfl | rfl | rfl | rfl | rfl | rfl | rfl | rfl <;> decide) j) h.2.2.1 h.2.1
theorem KdN.tm {E E' : Nat → va_E} (h : KdN E E') (race boat q : Int32) : tmB E' race boat q = tmB E race boat q := by
  unfold tmB
  rw [h.lr, h.rw_ 13 (by decide), h.rw_ 14 (by decide), h.rw_ 15 (by decide), h.rw_ 27 (by decide), h.nm]
theorem KdN.txm {E E' : Nat → va_E} (h : KdN E E') (g : TXM E) : TXM E' := g.cg (h.1 8 (by decide)) (h.1 9 (by decide)) h.2.2.1
/-- a BOAT's CORRECTED, or hidden -/
def CoR (cf : Nat → Nat) (E : Nat → va_E) (race q : Int32) (b : Nat) (r : Int32) : Prop := (CdR cf E race q b 0 → r = tmC cf E race q b) ∧ (¬ CdR cf E race q b 0 → r.toInt = -1000000000)
def PlX (cf : Nat → Nat) (E : Nat → va_E) (race q : Int32) (b : Nat) (r : Int) : Prop := (CdR cf E race q b 0 → PlS (fun o => CdR cf E race q o 0) (tmC cf E race q) 16 b r) ∧ (¬ CdR cf E race q b 0 → r = -1)
theorem CoR.y {cf : Nat → Nat} {E u : Nat → va_E} {race q : Int32} {b : Nat} {c r : Int32} (h : ShR cf E u race q) (hb : b < 16) (ec : c = xi (u 26) b) (h0 : c.toInt = 0) (er : r = xi (u 29) b) : CoR cf E race q b r := by
  subst ec
  subst er
  exact ⟨fun _ => (h.1 b hb).tm h0, fun z => absurd ((h.1 b hb).fin.mp h0) z⟩
theorem CoR.n {cf : Nat → Nat} {E u : Nat → va_E} {race q : Int32} {b : Nat} {c r : Int32} (h : ShR cf E u race q) (hb : b < 16) (ec : c = xi (u 26) b) (h0 : ¬ c.toInt = 0) (er : r.toInt = -1000000000) : CoR cf E race q b r := by
  subst ec
  exact ⟨fun z => absurd ((h.1 b hb).fin.mpr z) h0, fun _ => er⟩
theorem PlX.y {cf : Nat → Nat} {E u : Nat → va_E} {race q : Int32} {b : Nat} {c r : Int32} (h : ShR cf E u race q) (hb : b < 16) (ec : c = xi (u 26) b) (h0 : c.toInt = 0) (er : r = xi (u 30) b) : PlX cf E race q b r.toInt := by
  subst ec
  subst er
  exact ⟨fun _ => h.pl hb h0, fun z => absurd ((h.1 b hb).fin.mp h0) z⟩
theorem PlX.n {cf : Nat → Nat} {E u : Nat → va_E} {race q : Int32} {b : Nat} {c r : Int32} (h : ShR cf E u race q) (hb : b < 16) (ec : c = xi (u 26) b) (h0 : ¬ c.toInt = 0) (er : r.toInt = -1) : PlX cf E race q b r.toInt := by
  subst ec
  exact ⟨fun z => absurd ((h.1 b hb).fin.mpr z) h0, fun _ => er⟩
section
def v_placeOfX : List Cond := .code yX9_placeOf cX9_placeOf 5 (some .int) :: vA
abbrev rm_placeOfX : Room := { frames := 0, cells := 0, slots := 0, locals := 0 }
set_option maxHeartbeats 4000000 in
set_option maxRecDepth 100000 in
theorem q_placeOfX (l : Launch) (dC : Nat → ClassId) (dI : Nat → Nat → Nat) (cT : Nat → ClassId) (cf : Nat → Nat) (hC : CF cf) (ad : Nat → Nat) (E : Nat → va_E) (sz : Nat) (a0 : Int32) (hI0 : IXL cT (shC cf) (spC cf) (LC cf) ad E) (hh0 : 0 ≤ a0.toInt ∧ a0.toInt ≤ 15) : Met l yX9_placeOf v_placeOfX rm_placeOfX (va_Pc [.ref (ad 3), .int a0] (HWL dC dI (TYC cT) cf ad E sz)) (va_Qi (S := Unit) (fun r _ => (0 ≤ r.toInt ∧ r.toInt ≤ 245) ∧ (PlG (xi (E 26)) (xi (E 29)) a0.toNatClampNeg r.toInt)) (fun _ _ => True) (fun _ => False)) 0 0 (fun _ => False) := by
  obtain ⟨⟨hc0, hc1, hc2, hc3, hc4, hc5⟩, hcr⟩ := id hC
  refine Met.ofW (cc := cX9_placeOf) (maxL := 5) (ret := (some .int)) (by decide) rfl ?_
  intro p e s m args below meth c s₁ B hml hv
  obtain ⟨hargs, hsz, hP, hK, hD0, hEV⟩ := hv
  subst hsz
  have hx := B.exec
  have hb := B.bytes
  have hr := B.returns
  have hts := atoms_spec (ws := v_placeOfX) B.pre
  have hown : s.vm.findClass RX9 = some m.cls := findClass_of_methodNamed B.named
  have hlocks := B.notSynchronized
  have hinX9 : ∀ w ∈ u_ws RX9 TX9 9, w ∈ v_placeOfX := fun w h => vA_in _ w (in_X9 w h)
  have hS : va_S (fun _ : Nat => False) s.heap s.heap [] := va_S.rf
  have hD := hD0
  have hI := hI0
  have hKp : Kp (wl [] []) E E := Kp.rf
  have hl := lv_entry ([.ref (ad 3), .int a0]) (n := 5) (Nat.le_of_ble_eq_true rfl)
  obtain ⟨Q, hQ⟩ : ∃ Q, Q = MQ below (va_Qi (S := Unit) (fun r _ => (0 ≤ r.toInt ∧ r.toInt ≤ 245) ∧ (PlG (xi (E 26)) (xi (E 29)) a0.toNatClampNeg r.toInt)) (fun _ _ => True) (fun _ => False)) args s 0 0 (fun _ => False) := ⟨_, rfl⟩
  rw [← hQ, show entryFrame m args 5 = _ from (congrArg (fun z => entryFrame m z 5) hargs).trans (lg_entry_eq _ _ _)]
  generalize (lg_sl ([.ref (ad 3), .int a0]) ++ List.replicate (5 - (lg_sl ([.ref (ad 3), .int a0])).length) Slot.unset).toArray = ls at hl ⊢
  have hl : lv_has ls 5 [(0, .ref (ad 3)), (1, .int a0)] := hl
  refine lv_iconst (v := 0) hx hb dX9_placeOf_0 (by decide) ?_
  refine lv_istore_n (lv' := [(2, .int 0), (0, .ref (ad 3)), (1, .int a0)]) hx hb dX9_placeOf_1 rfl hl (by decide) rfl (fun ls hl => ?_)
  refine lv_iconst (v := 0) hx hb dX9_placeOf_2 (by decide) ?_
  refine lv_istore_n (lv' := [(3, .int 0), (2, .int 0), (0, .ref (ad 3)), (1, .int a0)]) hx hb dX9_placeOf_3 rfl hl (by decide) rfl (fun ls hl => ?_)
  refine lv_iconst (v := 0) hx hb dX9_placeOf_4 (by decide) ?_
  refine lv_istore (lv' := [(4, .int 0), (3, .int 0), (2, .int 0), (0, .ref (ad 3)), (1, .int a0)]) hx hb dX9_placeOf_5 hl (by decide) rfl (fun ls hl => ?_)
  have hL7 : ∀ d : Nat, ∀ (v7_4 : Int32) (v7_3 : Int32) (v7_2 : Int32) (H : Heap) (locs : List Loc) (ls : Array Slot), 0 ≤ v7_4.toInt ∧ v7_4.toInt ≤ 16 → 0 ≤ v7_3.toInt ∧ v7_3.toInt ≤ 16 → 0 ≤ v7_2.toInt ∧ v7_2.toInt ≤ 16 → CnR (fun o9 => (xi (E 26) o9).toInt = 0 ∧ (xi (E 29) o9).toInt < (xi (E 29) a0.toNatClampNeg).toInt) v7_4.toNatClampNeg v7_2.toInt → CnR (fun o9 => (xi (E 26) o9).toInt = 0 ∧ (xi (E 29) o9).toInt = (xi (E 29) a0.toNatClampNeg).toInt) v7_4.toNatClampNeg v7_3.toInt → (0 ≤ v7_2.toInt ∧ v7_2.toInt ≤ v7_4.toInt) → (0 ≤ v7_3.toInt ∧ v7_3.toInt ≤ v7_4.toInt) → 16 - v7_4.toInt < (d : Int) → va_P (dC, dI) vwCl (WL (LC cf) ad E) H → va_S (fun _ : Nat => False) s.heap H locs → lv_has ls 5 [(4, .int v7_4), (3, .int v7_3), (2, .int v7_2), (0, .ref (ad 3)), (1, .int a0)] → W p l e (headSpec v_placeOfX rm_placeOfX).room s m args below meth c H locs 0 0 Q (F0 m 7 ls []) := by
    intro d
    induction d with
    | zero =>
      intro v7_4 v7_3 v7_2 H locs ls hv7_4 hv7_3 hv7_2 hx7_0 hx7_1 hx7_2 hx7_3 hx7_4 hP hS hl
      exact absurd hx7_4 (by first | exact ms_zu hv7_4.2 | omega)
    | succ d ih7 =>
      intro v7_4 v7_3 v7_2 H locs ls hv7_4 hv7_3 hv7_2 hx7_0 hx7_1 hx7_2 hx7_3 hx7_4 hP hS hl
      refine lv_iload hx hb dX9_placeOf_7 (lv_at hl 0 rfl) ?_
      refine lv_bipush (v := 16) hx hb dX9_placeOf_9 (by decide) ?_
      refine lv_icmp_ge (tgt := 71) hx hb dX9_placeOf_11 (by decide) (fun c1 => ?_) (fun c1 => ?_)
      · --11 taken
        have t2 : (16 : Int) ≤ v7_4.toInt := ti_le c1
        have i3 : 16 ≤ v7_4.toInt ∧ v7_4.toInt ≤ 16 := iv_le_r t2 (il_ 16) hv7_4 (by decide)
        refine lv_iconst (v := 5) hx hb dX9_placeOf_71 (by decide) ?_
        refine lv_iload_n hx hb dX9_placeOf_72 rfl (lv_at hl 2 rfl) ?_
        refine lv_iconst (v := 1) hx hb dX9_placeOf_73 (by decide) ?_
        refine lv_iadd hx hb dX9_placeOf_74 ?_
        refine lv_topi (fun y4 ey4 => ?_)
        obtain ⟨ty4, iy4⟩ := ti_add (e := 1) (f := 17) hv7_2 ln_1 ey4 (by decide)
        have ty4 : y4.toInt = v7_2.toInt + 1 := ty4
        have iy4 : 1 ≤ y4.toInt ∧ y4.toInt ≤ 17 := iy4
        refine lv_iload_n hx hb dX9_placeOf_75 rfl (lv_at hl 2 rfl) ?_
        refine lv_iadd hx hb dX9_placeOf_76 ?_
        refine lv_topi (fun y5 ey5 => ?_)
        obtain ⟨ty5, iy5⟩ := ti_add (e := 1) (f := 33) iy4 hv7_2 ey5 (by decide)
        have ty5 : y5.toInt = y4.toInt + v7_2.toInt := ty5
        have iy5 : 1 ≤ y5.toInt ∧ y5.toInt ≤ 33 := iy5
        refine lv_iload_n hx hb dX9_placeOf_77 rfl (lv_at hl 1 rfl) ?_
        refine lv_iadd hx hb dX9_placeOf_78 ?_
        refine lv_topi (fun y6 ey6 => ?_)
        obtain ⟨ty6, iy6⟩ := ti_add (e := 1) (f := 49) iy5 hv7_3 ey6 (by decide)
        have ty6 : y6.toInt = y5.toInt + v7_3.toInt := ty6
        have iy6 : 1 ≤ y6.toInt ∧ y6.toInt ≤ 49 := iy6
        refine lv_imul hx hb dX9_placeOf_79 ?_
        refine lv_topi (fun y7 ey7 => ?_)
        obtain ⟨ty7, iy7⟩ := ti_mul (e := 5) (f := 245) ln_5 iy6 ey7 (by decide)
        have ty7 : y7.toInt = 5 * y6.toInt := ty7
        have iy7 : 5 ≤ y7.toInt ∧ y7.toInt ≤ 245 := iy7
        rw [hQ]
        exact W.iret (v := y7) hx hb hr (fun t ht hW => ⟨⟨y7, (), rfl, ⟨(iv_w iy7 (by decide)), ⟨v7_2.toInt, v7_3.toInt, (by have h9 := hx7_0; rw [show v7_4.toNatClampNeg = 16 by rw [tn_]; omega] at h9; exact h9), (by have h9 := hx7_1; rw [show v7_4.toNatClampNeg = 16 by rw [tn_]; omega] at h9; exact h9), by omega⟩⟩, trivial⟩, hS.F ht⟩) hS.2.2 dX9_placeOf_80
      · --11 not
        have t8 : v7_4.toInt < 16 := ti_nle c1
        have i9 : 0 ≤ v7_4.toInt ∧ v7_4.toInt ≤ 15 := iv_lt_l t8 hv7_4 (il_ 16) (by decide)
        have i10 : 0 ≤ v7_2.toInt ∧ v7_2.toInt ≤ 15 := by omega
        have i11 : 0 ≤ v7_3.toInt ∧ v7_3.toInt ≤ 15 := by omega
        refine lv_aload_n hx hb dX9_placeOf_14 rfl (lv_at hl 3 rfl) ?_
        refine th_getL (ci := 10) (C := RX9) (T := TX9) (N := 9) (v := .ref (ad 26)) hx hb hts hinX9 hown hK hP hI 3 (mF 3 rfl) rfl rfl 1 (Nat.le_of_ble_eq_true rfl) (hts _ (vA_in _ _ (in_12 _ (zs4 (zs1 (zs1 (zs0))))))) (fun _ h9 => h9) (hI.fr 3 (mF 3 rfl) rfl (Nat.le_of_ble_eq_true rfl) 26 rfl) dX9_placeOf_15 ?_
        refine lv_iload hx hb dX9_placeOf_18 (lv_at hl 0 rfl) ?_
        have n13 : vp_in v7_4 16 := (iv_in (n := 16) i9 (by decide))
        refine th_ialdL hx hb hK hP hI 26 (mF 26 rfl) rfl rfl n13 dX9_placeOf_20 (fun y12 ey12 => ?_)
        have iy12 : -1 ≤ y12.toInt ∧ y12.toInt ≤ 5 := hI.el 26 (mF 26 rfl) rfl n13 (fun _ => rfl) ey12
        have ey12 := ey12.trans (hKp.ei 26 _ rfl)
        refine lv_if_eq (tgt := 27) hx hb dX9_placeOf_21 (by decide) (fun c14 => ?_) (fun c14 => ?_)
        · --21 taken
          have t15 : y12.toInt = 0 := ti_eq c14
          have i16 : 0 ≤ y12.toInt ∧ y12.toInt ≤ 0 := iv_eqi t15 iy12 (il_ 0) (by decide)
          refine lv_aload_n hx hb dX9_placeOf_27 rfl (lv_at hl 3 rfl) ?_
          refine th_getL (ci := 10) (C := RX9) (T := TX9) (N := 9) (v := .ref (ad 29)) hx hb hts hinX9 hown hK hP hI 3 (mF 3 rfl) rfl rfl 4 (Nat.le_of_ble_eq_true rfl) (hts _ (vA_in _ _ (in_12 _ (zs4 (zs4 (zs0)))))) (fun _ h9 => h9) (hI.fr 3 (mF 3 rfl) rfl (Nat.le_of_ble_eq_true rfl) 29 rfl) dX9_placeOf_28 ?_
          refine lv_iload hx hb dX9_placeOf_31 (lv_at hl 0 rfl) ?_
          have n18 : vp_in v7_4 16 := (iv_in (n := 16) i9 (by decide))
          refine th_ialdL hx hb hK hP hI 29 (mF 29 rfl) rfl rfl n18 dX9_placeOf_33 (fun y17 ey17 => ?_)
          have iy17 : -100000 ≤ y17.toInt ∧ y17.toInt ≤ 400000 := hI.el 29 (mF 29 rfl) rfl n18 (fun _ => rfl) ey17
          have ey17 := ey17.trans (hKp.ei 29 _ rfl)
          refine lv_aload_n hx hb dX9_placeOf_34 rfl (lv_at hl 3 rfl) ?_
          refine th_getL (ci := 10) (C := RX9) (T := TX9) (N := 9) (v := .ref (ad 29)) hx hb hts hinX9 hown hK hP hI 3 (mF 3 rfl) rfl rfl 4 (Nat.le_of_ble_eq_true rfl) (hts _ (vA_in _ _ (in_12 _ (zs4 (zs4 (zs0)))))) (fun _ h9 => h9) (hI.fr 3 (mF 3 rfl) rfl (Nat.le_of_ble_eq_true rfl) 29 rfl) dX9_placeOf_35 ?_
          refine lv_iload_n hx hb dX9_placeOf_38 rfl (lv_at hl 4 rfl) ?_
          have n20 : vp_in a0 16 := (iv_in (n := 16) hh0 (by decide))
          refine th_ialdL hx hb hK hP hI 29 (mF 29 rfl) rfl rfl n20 dX9_placeOf_39 (fun y19 ey19 => ?_)
          have iy19 : -100000 ≤ y19.toInt ∧ y19.toInt ≤ 400000 := hI.el 29 (mF 29 rfl) rfl n20 (fun _ => rfl) ey19
          have ey19 := ey19.trans (hKp.ei 29 _ rfl)
          refine lv_icmp_ge (tgt := 46) hx hb dX9_placeOf_40 (by decide) (fun c21 => ?_) (fun c21 => ?_)
          · --40 taken
            have t22 : y19.toInt ≤ y17.toInt := ti_le c21
            refine lv_aload_n hx hb dX9_placeOf_46 rfl (lv_at hl 3 rfl) ?_
            refine th_getL (ci := 10) (C := RX9) (T := TX9) (N := 9) (v := .ref (ad 29)) hx hb hts hinX9 hown hK hP hI 3 (mF 3 rfl) rfl rfl 4 (Nat.le_of_ble_eq_true rfl) (hts _ (vA_in _ _ (in_12 _ (zs4 (zs4 (zs0)))))) (fun _ h9 => h9) (hI.fr 3 (mF 3 rfl) rfl (Nat.le_of_ble_eq_true rfl) 29 rfl) dX9_placeOf_47 ?_
            refine lv_iload hx hb dX9_placeOf_50 (lv_at hl 0 rfl) ?_
            have n24 : vp_in v7_4 16 := (iv_in (n := 16) i9 (by decide))
            refine th_ialdL hx hb hK hP hI 29 (mF 29 rfl) rfl rfl n24 dX9_placeOf_52 (fun y23 ey23 => ?_)
            have iy23 : -100000 ≤ y23.toInt ∧ y23.toInt ≤ 400000 := hI.el 29 (mF 29 rfl) rfl n24 (fun _ => rfl) ey23
            have ey23 := ey23.trans (hKp.ei 29 _ rfl)
            refine lv_aload_n hx hb dX9_placeOf_53 rfl (lv_at hl 3 rfl) ?_
            refine th_getL (ci := 10) (C := RX9) (T := TX9) (N := 9) (v := .ref (ad 29)) hx hb hts hinX9 hown hK hP hI 3 (mF 3 rfl) rfl rfl 4 (Nat.le_of_ble_eq_true rfl) (hts _ (vA_in _ _ (in_12 _ (zs4 (zs4 (zs0)))))) (fun _ h9 => h9) (hI.fr 3 (mF 3 rfl) rfl (Nat.le_of_ble_eq_true rfl) 29 rfl) dX9_placeOf_54 ?_
            refine lv_iload_n hx hb dX9_placeOf_57 rfl (lv_at hl 4 rfl) ?_
            have n26 : vp_in a0 16 := (iv_in (n := 16) hh0 (by decide))
            refine th_ialdL hx hb hK hP hI 29 (mF 29 rfl) rfl rfl n26 dX9_placeOf_58 (fun y25 ey25 => ?_)
            have iy25 : -100000 ≤ y25.toInt ∧ y25.toInt ≤ 400000 := hI.el 29 (mF 29 rfl) rfl n26 (fun _ => rfl) ey25
            have ey25 := ey25.trans (hKp.ei 29 _ rfl)
            refine lv_icmp_ne (tgt := 65) hx hb dX9_placeOf_59 (by decide) (fun c27 => ?_) (fun c27 => ?_)
            · --59 taken
              have t28 : ¬ y23.toInt = y25.toInt := ti_ne c27
              obtain ⟨y29, ey29⟩ : ∃ y : Int32, y = v7_4 + (1 : Int32) := ⟨_, rfl⟩
              obtain ⟨ty29, iy29⟩ := ti_add (e := 1) (f := 16) i9 ln_1 ey29 (by decide)
              have ty29 : y29.toInt = v7_4.toInt + 1 := ty29
              have iy29 : 1 ≤ y29.toInt ∧ y29.toInt ≤ 16 := iy29
              refine lv_iinc (v := y29) (lv' := [(4, .int y29), (3, .int v7_3), (2, .int v7_2), (0, .ref (ad 3)), (1, .int a0)]) hx hb dX9_placeOf_65 hl (k := 0) rfl (by rw [ey29]; rfl) (by decide) rfl (fun ls hl => ?_)
              refine lv_goto (tgt := 7) hx hb dX9_placeOf_68 (by decide) ?_
              exact ih7 y29 v7_3 v7_2 _ _ _ (iv_w iy29 (by decide)) (iv_w i11 (by decide)) (iv_w i10 (by decide)) (hx7_0.no (show ¬ ((xi (E 26) v7_4.toNatClampNeg).toInt = 0 ∧ (xi (E 29) v7_4.toNatClampNeg).toInt < (xi (E 29) a0.toNatClampNeg).toInt) by have gy12 := congrArg Int32.toInt ey12; have gy17 := congrArg Int32.toInt ey17; have gy19 := congrArg Int32.toInt ey19; have gy23 := congrArg Int32.toInt ey23; have gy25 := congrArg Int32.toInt ey25; omega) rfl (by rw [tn_ y29, tn_ v7_4]; omega)) (hx7_1.no (show ¬ ((xi (E 26) v7_4.toNatClampNeg).toInt = 0 ∧ (xi (E 29) v7_4.toNatClampNeg).toInt = (xi (E 29) a0.toNatClampNeg).toInt) by have gy12 := congrArg Int32.toInt ey12; have gy17 := congrArg Int32.toInt ey17; have gy19 := congrArg Int32.toInt ey19; have gy23 := congrArg Int32.toInt ey23; have gy25 := congrArg Int32.toInt ey25; omega) rfl (by rw [tn_ y29, tn_ v7_4]; omega)) (by omega) (by omega) (by first | exact ms_su hx7_4 ty29 (by decide) | omega) hP hS (lv_sub hl [0, 1, 2, 3, 4] rfl)
            · --59 not
              have t30 : y23.toInt = y25.toInt := ti_eq c27
              obtain ⟨y31, ey31⟩ : ∃ y : Int32, y = v7_3 + (1 : Int32) := ⟨_, rfl⟩
              obtain ⟨ty31, iy31⟩ := ti_add (e := 1) (f := 16) i11 ln_1 ey31 (by decide)
              have ty31 : y31.toInt = v7_3.toInt + 1 := ty31
              have iy31 : 1 ≤ y31.toInt ∧ y31.toInt ≤ 16 := iy31
              refine lv_iinc (v := y31) (lv' := [(3, .int y31), (4, .int v7_4), (2, .int v7_2), (0, .ref (ad 3)), (1, .int a0)]) hx hb dX9_placeOf_62 hl (k := 1) rfl (by rw [ey31]; rfl) (by decide) rfl (fun ls hl => ?_)
              obtain ⟨y32, ey32⟩ : ∃ y : Int32, y = v7_4 + (1 : Int32) := ⟨_, rfl⟩
              obtain ⟨ty32, iy32⟩ := ti_add (e := 1) (f := 16) i9 ln_1 ey32 (by decide)
              have ty32 : y32.toInt = v7_4.toInt + 1 := ty32
              have iy32 : 1 ≤ y32.toInt ∧ y32.toInt ≤ 16 := iy32
              refine lv_iinc (v := y32) (lv' := [(4, .int y32), (3, .int y31), (2, .int v7_2), (0, .ref (ad 3)), (1, .int a0)]) hx hb dX9_placeOf_65 hl (k := 1) rfl (by rw [ey32]; rfl) (by decide) rfl (fun ls hl => ?_)
              refine lv_goto (tgt := 7) hx hb dX9_placeOf_68 (by decide) ?_
              exact ih7 y32 y31 v7_2 _ _ _ (iv_w iy32 (by decide)) (iv_w iy31 (by decide)) (iv_w i10 (by decide)) (hx7_0.no (show ¬ ((xi (E 26) v7_4.toNatClampNeg).toInt = 0 ∧ (xi (E 29) v7_4.toNatClampNeg).toInt < (xi (E 29) a0.toNatClampNeg).toInt) by have gy12 := congrArg Int32.toInt ey12; have gy17 := congrArg Int32.toInt ey17; have gy19 := congrArg Int32.toInt ey19; have gy23 := congrArg Int32.toInt ey23; have gy25 := congrArg Int32.toInt ey25; omega) rfl (by rw [tn_ y32, tn_ v7_4]; omega)) (hx7_1.one (show (xi (E 26) v7_4.toNatClampNeg).toInt = 0 ∧ (xi (E 29) v7_4.toNatClampNeg).toInt = (xi (E 29) a0.toNatClampNeg).toInt by have gy12 := congrArg Int32.toInt ey12; have gy17 := congrArg Int32.toInt ey17; have gy19 := congrArg Int32.toInt ey19; have gy23 := congrArg Int32.toInt ey23; have gy25 := congrArg Int32.toInt ey25; exact ⟨by omega, by omega⟩) ty31 (by rw [tn_ y32, tn_ v7_4]; omega)) (by omega) (by omega) (by first | exact ms_su hx7_4 ty32 (by decide) | omega) hP hS (lv_sub hl [0, 1, 2, 3, 4] rfl)
          · --40 not
            have t33 : y17.toInt < y19.toInt := ti_nle c21
            have i34 : -100000 ≤ y17.toInt ∧ y17.toInt ≤ 399999 := iv_lt_l t33 iy17 iy19 (by decide)
            have i35 : -99999 ≤ y19.toInt ∧ y19.toInt ≤ 400000 := iv_lt_r t33 iy17 iy19 (by decide)
            obtain ⟨y36, ey36⟩ : ∃ y : Int32, y = v7_2 + (1 : Int32) := ⟨_, rfl⟩
            obtain ⟨ty36, iy36⟩ := ti_add (e := 1) (f := 16) i10 ln_1 ey36 (by decide)
            have ty36 : y36.toInt = v7_2.toInt + 1 := ty36
            have iy36 : 1 ≤ y36.toInt ∧ y36.toInt ≤ 16 := iy36
            refine lv_iinc (v := y36) (lv' := [(2, .int y36), (4, .int v7_4), (3, .int v7_3), (0, .ref (ad 3)), (1, .int a0)]) hx hb dX9_placeOf_43 hl (k := 2) rfl (by rw [ey36]; rfl) (by decide) rfl (fun ls hl => ?_)
            refine lv_aload_n hx hb dX9_placeOf_46 rfl (lv_at hl 3 rfl) ?_
            refine th_getL (ci := 10) (C := RX9) (T := TX9) (N := 9) (v := .ref (ad 29)) hx hb hts hinX9 hown hK hP hI 3 (mF 3 rfl) rfl rfl 4 (Nat.le_of_ble_eq_true rfl) (hts _ (vA_in _ _ (in_12 _ (zs4 (zs4 (zs0)))))) (fun _ h9 => h9) (hI.fr 3 (mF 3 rfl) rfl (Nat.le_of_ble_eq_true rfl) 29 rfl) dX9_placeOf_47 ?_
            refine lv_iload hx hb dX9_placeOf_50 (lv_at hl 1 rfl) ?_
            have n38 : vp_in v7_4 16 := (iv_in (n := 16) i9 (by decide))
            refine th_ialdL hx hb hK hP hI 29 (mF 29 rfl) rfl rfl n38 dX9_placeOf_52 (fun y37 ey37 => ?_)
            have iy37 : -100000 ≤ y37.toInt ∧ y37.toInt ≤ 400000 := hI.el 29 (mF 29 rfl) rfl n38 (fun _ => rfl) ey37
            have ey37 := ey37.trans (hKp.ei 29 _ rfl)
            refine lv_aload_n hx hb dX9_placeOf_53 rfl (lv_at hl 3 rfl) ?_
            refine th_getL (ci := 10) (C := RX9) (T := TX9) (N := 9) (v := .ref (ad 29)) hx hb hts hinX9 hown hK hP hI 3 (mF 3 rfl) rfl rfl 4 (Nat.le_of_ble_eq_true rfl) (hts _ (vA_in _ _ (in_12 _ (zs4 (zs4 (zs0)))))) (fun _ h9 => h9) (hI.fr 3 (mF 3 rfl) rfl (Nat.le_of_ble_eq_true rfl) 29 rfl) dX9_placeOf_54 ?_
            refine lv_iload_n hx hb dX9_placeOf_57 rfl (lv_at hl 4 rfl) ?_
            have n40 : vp_in a0 16 := (iv_in (n := 16) hh0 (by decide))
            refine th_ialdL hx hb hK hP hI 29 (mF 29 rfl) rfl rfl n40 dX9_placeOf_58 (fun y39 ey39 => ?_)
            have iy39 : -100000 ≤ y39.toInt ∧ y39.toInt ≤ 400000 := hI.el 29 (mF 29 rfl) rfl n40 (fun _ => rfl) ey39
            have ey39 := ey39.trans (hKp.ei 29 _ rfl)
            refine lv_icmp_ne (tgt := 65) hx hb dX9_placeOf_59 (by decide) (fun c41 => ?_) (fun c41 => ?_)
            · --59 taken
              have t42 : ¬ y37.toInt = y39.toInt := ti_ne c41
              obtain ⟨y43, ey43⟩ : ∃ y : Int32, y = v7_4 + (1 : Int32) := ⟨_, rfl⟩
              obtain ⟨ty43, iy43⟩ := ti_add (e := 1) (f := 16) i9 ln_1 ey43 (by decide)
              have ty43 : y43.toInt = v7_4.toInt + 1 := ty43
              have iy43 : 1 ≤ y43.toInt ∧ y43.toInt ≤ 16 := iy43
              refine lv_iinc (v := y43) (lv' := [(4, .int y43), (2, .int y36), (3, .int v7_3), (0, .ref (ad 3)), (1, .int a0)]) hx hb dX9_placeOf_65 hl (k := 1) rfl (by rw [ey43]; rfl) (by decide) rfl (fun ls hl => ?_)
              refine lv_goto (tgt := 7) hx hb dX9_placeOf_68 (by decide) ?_
              exact ih7 y43 v7_3 y36 _ _ _ (iv_w iy43 (by decide)) (iv_w i11 (by decide)) (iv_w iy36 (by decide)) (hx7_0.one (show (xi (E 26) v7_4.toNatClampNeg).toInt = 0 ∧ (xi (E 29) v7_4.toNatClampNeg).toInt < (xi (E 29) a0.toNatClampNeg).toInt by have gy12 := congrArg Int32.toInt ey12; have gy17 := congrArg Int32.toInt ey17; have gy19 := congrArg Int32.toInt ey19; have gy37 := congrArg Int32.toInt ey37; have gy39 := congrArg Int32.toInt ey39; exact ⟨by omega, by omega⟩) ty36 (by rw [tn_ y43, tn_ v7_4]; omega)) (hx7_1.no (show ¬ ((xi (E 26) v7_4.toNatClampNeg).toInt = 0 ∧ (xi (E 29) v7_4.toNatClampNeg).toInt = (xi (E 29) a0.toNatClampNeg).toInt) by have gy12 := congrArg Int32.toInt ey12; have gy17 := congrArg Int32.toInt ey17; have gy19 := congrArg Int32.toInt ey19; have gy37 := congrArg Int32.toInt ey37; have gy39 := congrArg Int32.toInt ey39; omega) rfl (by rw [tn_ y43, tn_ v7_4]; omega)) (by omega) (by omega) (by first | exact ms_su hx7_4 ty43 (by decide) | omega) hP hS (lv_sub hl [0, 2, 1, 3, 4] rfl)
            · --59 not
              have t44 : y37.toInt = y39.toInt := ti_eq c41
              obtain ⟨y45, ey45⟩ : ∃ y : Int32, y = v7_3 + (1 : Int32) := ⟨_, rfl⟩
              obtain ⟨ty45, iy45⟩ := ti_add (e := 1) (f := 16) i11 ln_1 ey45 (by decide)
              have ty45 : y45.toInt = v7_3.toInt + 1 := ty45
              have iy45 : 1 ≤ y45.toInt ∧ y45.toInt ≤ 16 := iy45
              refine lv_iinc (v := y45) (lv' := [(3, .int y45), (2, .int y36), (4, .int v7_4), (0, .ref (ad 3)), (1, .int a0)]) hx hb dX9_placeOf_62 hl (k := 2) rfl (by rw [ey45]; rfl) (by decide) rfl (fun ls hl => ?_)
              obtain ⟨y46, ey46⟩ : ∃ y : Int32, y = v7_4 + (1 : Int32) := ⟨_, rfl⟩
              obtain ⟨ty46, iy46⟩ := ti_add (e := 1) (f := 16) i9 ln_1 ey46 (by decide)
              have ty46 : y46.toInt = v7_4.toInt + 1 := ty46
              have iy46 : 1 ≤ y46.toInt ∧ y46.toInt ≤ 16 := iy46
              refine lv_iinc (v := y46) (lv' := [(4, .int y46), (3, .int y45), (2, .int y36), (0, .ref (ad 3)), (1, .int a0)]) hx hb dX9_placeOf_65 hl (k := 2) rfl (by rw [ey46]; rfl) (by decide) rfl (fun ls hl => ?_)
              refine lv_goto (tgt := 7) hx hb dX9_placeOf_68 (by decide) ?_
              exact ih7 y46 y45 y36 _ _ _ (iv_w iy46 (by decide)) (iv_w iy45 (by decide)) (iv_w iy36 (by decide)) (hx7_0.one (show (xi (E 26) v7_4.toNatClampNeg).toInt = 0 ∧ (xi (E 29) v7_4.toNatClampNeg).toInt < (xi (E 29) a0.toNatClampNeg).toInt by have gy12 := congrArg Int32.toInt ey12; have gy17 := congrArg Int32.toInt ey17; have gy19 := congrArg Int32.toInt ey19; have gy37 := congrArg Int32.toInt ey37; have gy39 := congrArg Int32.toInt ey39; exact ⟨by omega, by omega⟩) ty36 (by rw [tn_ y46, tn_ v7_4]; omega)) (hx7_1.one (show (xi (E 26) v7_4.toNatClampNeg).toInt = 0 ∧ (xi (E 29) v7_4.toNatClampNeg).toInt = (xi (E 29) a0.toNatClampNeg).toInt by have gy12 := congrArg Int32.toInt ey12; have gy17 := congrArg Int32.toInt ey17; have gy19 := congrArg Int32.toInt ey19; have gy37 := congrArg Int32.toInt ey37; have gy39 := congrArg Int32.toInt ey39; exact ⟨by omega, by omega⟩) ty45 (by rw [tn_ y46, tn_ v7_4]; omega)) (by omega) (by omega) (by first | exact ms_su hx7_4 ty46 (by decide) | omega) hP hS (lv_sub hl [0, 1, 2, 3, 4] rfl)
        · --21 not
          have t47 : ¬ y12.toInt = 0 := ti_ne c14
          refine lv_goto (tgt := 65) hx hb dX9_placeOf_24 (by decide) ?_
          obtain ⟨y48, ey48⟩ : ∃ y : Int32, y = v7_4 + (1 : Int32) := ⟨_, rfl⟩
          obtain ⟨ty48, iy48⟩ := ti_add (e := 1) (f := 16) i9 ln_1 ey48 (by decide)
          have ty48 : y48.toInt = v7_4.toInt + 1 := ty48
          have iy48 : 1 ≤ y48.toInt ∧ y48.toInt ≤ 16 := iy48
          refine lv_iinc (v := y48) (lv' := [(4, .int y48), (3, .int v7_3), (2, .int v7_2), (0, .ref (ad 3)), (1, .int a0)]) hx hb dX9_placeOf_65 hl (k := 0) rfl (by rw [ey48]; rfl) (by decide) rfl (fun ls hl => ?_)
          refine lv_goto (tgt := 7) hx hb dX9_placeOf_68 (by decide) ?_
          exact ih7 y48 v7_3 v7_2 _ _ _ (iv_w iy48 (by decide)) (iv_w i11 (by decide)) (iv_w i10 (by decide)) (hx7_0.no (show ¬ ((xi (E 26) v7_4.toNatClampNeg).toInt = 0 ∧ (xi (E 29) v7_4.toNatClampNeg).toInt < (xi (E 29) a0.toNatClampNeg).toInt) by have gy12 := congrArg Int32.toInt ey12; omega) rfl (by rw [tn_ y48, tn_ v7_4]; omega)) (hx7_1.no (show ¬ ((xi (E 26) v7_4.toNatClampNeg).toInt = 0 ∧ (xi (E 29) v7_4.toNatClampNeg).toInt = (xi (E 29) a0.toNatClampNeg).toInt) by have gy12 := congrArg Int32.toInt ey12; omega) rfl (by rw [tn_ y48, tn_ v7_4]; omega)) (by omega) (by omega) (by first | exact ms_su hx7_4 ty48 (by decide) | omega) hP hS (lv_sub hl [0, 1, 2, 3, 4] rfl)
  exact hL7 (17) (0 : Int32) (0 : Int32) (0 : Int32) _ _ _ (iv_w ln_0 (by decide)) (iv_w ln_0 (by decide)) (iv_w ln_0 (by decide)) (show CnR (fun o9 => (xi (E 26) o9).toInt = 0 ∧ (xi (E 29) o9).toInt < (xi (E 29) a0.toNatClampNeg).toInt) 0 0 from rfl) (show CnR (fun o9 => (xi (E 26) o9).toInt = 0 ∧ (xi (E 29) o9).toInt = (xi (E 29) a0.toNatClampNeg).toInt) 0 0 from rfl) (by have z9 := ln_0; omega) (by have z9 := ln_0; omega) (by have h9 := ln_0; first | exact ms_bu h9.1 (by decide) | omega) hP hS (lv_sub hl [0, 1, 2, 3, 4] rfl)
def v_sheetX : List Cond := .code yX9_read cX9_read 5 none :: vA
abbrev rm_sheetX : Room := { frames := 5, cells := 0, slots := 0, locals := 200 }
def w_sheetX : Nat → Nat → Bool := wl [19, 20, 26, 27, 28, 29, 30] [(3, 6), (3, 7), (3, 8)]
set_option maxHeartbeats 4000000 in
set_option maxRecDepth 100000 in
theorem q_sheetX (l : Launch) (dC : Nat → ClassId) (dI : Nat → Nat → Nat) (cT : Nat → ClassId) (cf : Nat → Nat) (hC : CF cf) (ad : Nat → Nat) (E : Nat → va_E) (sz : Nat) (a0 : Int32) (a1 : Int32) (hI0 : IXL cT (shC cf) (spC cf) (LC cf) ad E) (hh0 : 0 ≤ a0.toInt ∧ a0.toInt ≤ 19) (hh1 : a0.toInt < ((cf 2 : Nat) : Int)) (hh2 : RulAll cf E) : Met l yX9_read v_sheetX rm_sheetX (va_Pc [.ref (ad 3), .int a0, .int a1] (HWL dC dI (TYC cT) cf ad E sz)) (va_Qv (S := Nat → va_E) (fun u => IXL cT (shC cf) (spC cf) (LC cf) ad u ∧ Kp w_sheetX E u ∧ ((ShR cf E u a0 a1))) (HBL dC dI (LC cf) ad) (va_A (WL (LC cf) ad E) sz)) 0 0 (va_A (WL (LC cf) ad E) sz) := by
  obtain ⟨⟨hc0, hc1, hc2, hc3, hc4, hc5⟩, hcr⟩ := id hC
  refine Met.ofW (cc := cX9_read) (maxL := 5) (ret := none) (by decide) rfl ?_
  intro p e s m args below meth c s₁ B hml hv
  obtain ⟨hargs, hsz, hP, hK, hD0, hEV⟩ := hv
  subst hsz
  have hx := B.exec
  have hb := B.bytes
  have hr := B.returns
  have hts := atoms_spec (ws := v_sheetX) B.pre
  have hown : s.vm.findClass RX9 = some m.cls := findClass_of_methodNamed B.named
  have hlocks := B.notSynchronized
  have hinX0 : ∀ w ∈ u_ws RX0 TX0 11, w ∈ v_sheetX := fun w h => vA_in _ w (in_X0 w h)
  have hinX5 : ∀ w ∈ u_ws RX5 TX5 12, w ∈ v_sheetX := fun w h => vA_in _ w (in_X5 w h)
  have hinX9 : ∀ w ∈ u_ws RX9 TX9 9, w ∈ v_sheetX := fun w h => vA_in _ w (in_X9 w h)
  generalize hAe : va_A (WL (LC cf) ad E) s.heap.size = A at hEV ⊢
  have hA : ∀ q : Nat, s.heap.size ≤ q → A q := fun q h => by rw [← hAe]; exact Or.inr h
  have hD : va_D A (WL (LC cf) ad E) := by rw [← hAe]; exact hD0.self
  have hS : va_S A s.heap s.heap [] := va_S.rf
  have hI := hI0
  have hKp : Kp w_sheetX E E := Kp.rf
  have hl := lv_entry ([.ref (ad 3), .int a0, .int a1]) (n := 5) (Nat.le_of_ble_eq_true rfl)
  obtain ⟨Q, hQ⟩ : ∃ Q, Q = MQ below (va_Qv (S := Nat → va_E) (fun u => IXL cT (shC cf) (spC cf) (LC cf) ad u ∧ Kp w_sheetX E u ∧ ((ShR cf E u a0 a1))) (HBL dC dI (LC cf) ad) (A)) args s 0 0 (A) := ⟨_, rfl⟩
  rw [← hQ, show entryFrame m args 5 = _ from (congrArg (fun z => entryFrame m z 5) hargs).trans (lg_entry_eq _ _ _)]
  generalize (lg_sl ([.ref (ad 3), .int a0, .int a1]) ++ List.replicate (5 - (lg_sl ([.ref (ad 3), .int a0, .int a1])).length) Slot.unset).toArray = ls at hl ⊢
  have hl : lv_has ls 5 [(0, .ref (ad 3)), (1, .int a0), (2, .int a1)] := hl
  have z0z : (0 : Int32).toInt = 0 := rfl
  refine lv_aload_n hx hb dX9_read_0 rfl (lv_at hl 0 rfl) ?_
  refine lv_iload_n hx hb dX9_read_1 rfl (lv_at hl 1 rfl) ?_
  refine lv_iload_n hx hb dX9_read_2 rfl (lv_at hl 2 rfl) ?_
  refine th_vL (va_runV (As := [.int a0, .int a1]) (rest := []) ⟨hx, hb, hml, hown, hts⟩ (q_readCodesX l dC dI cT cf hC ad E s.heap.size a0 a1 hI hh0 (by omega)) (cwV 2 hts (gi_V (in_12 _ (zs4 (zs4 (zs4 (zs1 (zs0)))))) (in_12 _ (zs4 (zs4 (zs4 (zs1 (zs1 (zs0))))))) (in_12 _ (zs4 (zs4 (zs4 (zs1 (zs1 (zs1 (zs0)))))))) (in_11 _ (zs16 (zs16 (zs4 (zs1 (zs0)))))) (in_12 _ (zs16 (zs0)))) rfl rfl rfl ⟨rfl, hz_yX9_readCodes_2⟩ ⟨Nat.le_of_ble_eq_true rfl, Nat.le_of_ble_eq_true rfl⟩) ⟨HWL_bl, va_recv hK hP (ci := 10) (q0 := posL 3 (LC cf)) rfl (hI.ob 3 (mF 3 rfl) rfl), (HWL_wi hP hK (WL_D hD) hS hA hEV)⟩ rfl rfl hl.1 rfl (lv_room (Nat.le_of_ble_eq_true rfl)) dX9_read_3 ⟨Nat.le_of_ble_eq_true rfl, Nat.le_of_ble_eq_true rfl⟩) (WL_D hD) hS hA (fun E2 H locs hw hP hS => ?_)
  obtain ⟨hI, kq3, hw⟩ := hw
  have hKb := hKp
  have hKp := hKp.tr kq3 (wl_sub rfl rfl)
  have f4 := hw
  obtain ⟨g5, hg5⟩ : ∃ g, xi (E2 26) = g := ⟨_, rfl⟩
  obtain ⟨g6, hg6⟩ : ∃ g, xi (E2 27) = g := ⟨_, rfl⟩
  obtain ⟨g7, hg7⟩ : ∃ g, xi (E2 28) = g := ⟨_, rfl⟩
  obtain ⟨g8, hg8⟩ : ∃ g, xi (E2 29) = g := ⟨_, rfl⟩
  obtain ⟨g9, hg9⟩ : ∃ g, xi (E2 30) = g := ⟨_, rfl⟩
  have k10 : ∀ b9 : Nat, b9 < 16 → CdR cf E a0 a1 b9 (g5 b9).toInt ∧ scN E a0 a1 (cf 3) b9 (g6 b9).toInt := by have h9 := f4; rw [show xi (E2 26) = g5 from hg5, show xi (E2 27) = g6 from hg6] at h9; exact h9
  refine lv_aload_n hx hb dX9_read_6 rfl (lv_at hl 0 rfl) ?_
  refine th_getL (ci := 10) (C := RX9) (T := TX9) (N := 9) (v := .ref (ad 1)) hx hb hts hinX9 hown hK hP hI 3 (mF 3 rfl) rfl rfl 0 (Nat.le_of_ble_eq_true rfl) (hts _ (vA_in _ _ (in_11 _ (zs16 (zs16 (zs4 (zs1 (zs1 (zs1 (zs0)))))))))) (fun _ h9 => h9) (hI.fr 3 (mF 3 rfl) rfl (Nat.le_of_ble_eq_true rfl) 1 rfl) dX9_read_7 ?_
  refine th_getL (ci := 1) (C := RX0) (T := TX0) (N := 11) (v := .ref (ad 9)) hx hb hts hinX0 hown hK hP hI 1 (mF 1 rfl) rfl rfl 5 (Nat.le_of_ble_eq_true rfl) (hts _ (vA_in _ _ (in_12 _ zs0))) (fun _ h9 => h9) (hI.fr 1 (mF 1 rfl) rfl (Nat.le_of_ble_eq_true rfl) 9 rfl) dX9_read_10 ?_
  refine lv_iload_n hx hb dX9_read_13 rfl (lv_at hl 1 rfl) ?_
  refine th_rrL (va_runV (As := [.int a0]) (rest := []) ⟨hx, hb, hml, hown, hts⟩ (q_get2 l dC dI cT cf hC ad E2 H.size a0 hI (by omega)) (cwV 1 hts (gi_V (in_12 _ (zs16 (zs4 (zs4 (zs0))))) (in_4 _ (zs16 (zs16 (zs4 (zs1 (zs1 (zs0))))))) (in_4 _ (zs16 (zs16 (zs4 (zs1 (zs1 (zs1 (zs0)))))))) (in_3 _ (zs16 (zs1 (zs1 (zs0))))) (in_3 _ (zs16 (zs16 (zs4 (zs1 (zs1 (zs1 (zs0))))))))) rfl rfl rfl ⟨rfl, hz_yJx4a65c_get_915e3_1⟩ ⟨Nat.le_of_ble_eq_true rfl, Nat.le_of_ble_eq_true rfl⟩) ⟨HWL_bl, va_recv hK hP (ci := 0) (q0 := posL 9 (LC cf)) rfl (hI.ob 9 (mF 9 rfl) rfl), (HWL_wi hP hK (WL_D hD) hS hA hEV)⟩ rfl rfl hl.1 rfl (lv_room (Nat.le_of_ble_eq_true rfl)) dX9_read_14 ⟨Nat.le_of_ble_eq_true rfl, Nat.le_of_ble_eq_true rfl⟩) hS hP (fun r11 H locs hw hP hS => ?_)
  obtain rfl := hw
  have lv12 : a0.toNatClampNeg < cf 2 := by rw [tn_]; omega
  refine va_castS (cC := dC 6) hx hb hown (hts _ (vA_in _ _ (in_12 _ (zs1 (zs0))))) (hK.1 6 _ rfl).2 (va_recv hK hP (ci := 6) (q0 := posL (64 * (a0.toNatClampNeg + 1) + 6) (LC cf)) rfl (hI.ob (64 * (a0.toNatClampNeg + 1) + 6) (mP 6 a0.toNatClampNeg (by decide) lv12 (kl_le hC 2 (by decide))) (shC_p 6 a0.toNatClampNeg (by decide)))) dX9_read_17 ?_
  refine lv_astore_n (lv' := [(3, .ref (ad (64 * (a0.toNatClampNeg + 1) + 6))), (0, .ref (ad 3)), (1, .int a0), (2, .int a1)]) hx hb dX9_read_20 rfl hl (by decide) rfl (fun ls hl => ?_)
  refine lv_aload_n hx hb dX9_read_21 rfl (lv_at hl 1 rfl) ?_
  refine lv_aload_n hx hb dX9_read_22 rfl (lv_at hl 1 rfl) ?_
  refine th_getL (ci := 10) (C := RX9) (T := TX9) (N := 9) (v := .ref (ad 1)) hx hb hts hinX9 hown hK hP hI 3 (mF 3 rfl) rfl rfl 0 (Nat.le_of_ble_eq_true rfl) (hts _ (vA_in _ _ (in_11 _ (zs16 (zs16 (zs4 (zs1 (zs1 (zs1 (zs0)))))))))) (fun _ h9 => h9) (hI.fr 3 (mF 3 rfl) rfl (Nat.le_of_ble_eq_true rfl) 1 rfl) dX9_read_23 ?_
  refine lv_aload_n hx hb dX9_read_26 rfl (lv_at hl 0 rfl) ?_
  have i13 : 0 ≤ (xi (E (64 * (a0.toNatClampNeg + 1) + 6)) 1).toInt ∧ (xi (E (64 * (a0.toNatClampNeg + 1) + 6)) 1).toInt ≤ 400 := hI0.iv (64 * (a0.toNatClampNeg + 1) + 6) (mP 6 a0.toNatClampNeg (by decide) lv12 (kl_le hC 2 (by decide))) (shC_p 6 a0.toNatClampNeg (by decide)) (Nat.le_of_ble_eq_true rfl) (spC_p 6 a0.toNatClampNeg (by decide) 1)
  refine th_getL (ci := 6) (C := RX5) (T := TX5) (N := 12) (v := .int (xi (E (64 * (a0.toNatClampNeg + 1) + 6)) 1)) hx hb hts hinX5 hown hK hP hI (64 * (a0.toNatClampNeg + 1) + 6) (mP 6 a0.toNatClampNeg (by decide) lv12 (kl_le hC 2 (by decide))) (shC_p 6 a0.toNatClampNeg (by decide)) rfl 1 (Nat.le_of_ble_eq_true rfl) (hts _ (vA_in _ _ (in_12 _ (zs1 (zs1 (zs0)))))) (fun _ h9 => h9) (th_v0L hKp hI0 (64 * (a0.toNatClampNeg + 1) + 6) (mP 6 a0.toNatClampNeg (by decide) lv12 (kl_le hC 2 (by decide))) (shC_p 6 a0.toNatClampNeg (by decide)) (Nat.le_of_ble_eq_true rfl) (spC_p 6 a0.toNatClampNeg (by decide) 1) (wl_p rfl rfl (by omega))) dX9_read_27 ?_
  refine lv_iload_n hx hb dX9_read_30 rfl (lv_at hl 3 rfl) ?_
  refine th_riL (va_runV (As := [.int (xi (E (64 * (a0.toNatClampNeg + 1) + 6)) 1), .int a1]) (rest := [.ref (ad 3)]) ⟨hx, hb, hml, hown, hts⟩ (q_rulesOnX l dC dI cT cf hC ad E2 H.size (xi (E (64 * (a0.toNatClampNeg + 1) + 6)) 1) a1 hI) (cwV 2 hts (gi_V (in_12 _ (zs16 (zs4 (zs4 (zs4 (zs0)))))) (in_6 _ (zs16 (zs4 (zs4 (zs4 (zs0)))))) (in_6 _ (zs16 (zs4 (zs4 (zs4 (zs1 (zs0))))))) (in_5 _ (zs4 (zs1 (zs1 (zs0))))) (in_6 _ (zs16 (zs4 (zs4 (zs4 (zs1 (zs1 (zs0))))))))) rfl rfl rfl ⟨rfl, hz_yX0_rulesOn_2⟩ ⟨Nat.le_of_ble_eq_true rfl, Nat.le_of_ble_eq_true rfl⟩) ⟨HWL_bl, va_recv hK hP (ci := 1) (q0 := posL 1 (LC cf)) rfl (hI.ob 1 (mF 1 rfl) rfl), (HWL_wi hP hK (WL_D hD) hS hA hEV)⟩ rfl rfl hl.1 rfl (lv_room (Nat.le_of_ble_eq_true rfl)) dX9_read_31 ⟨Nat.le_of_ble_eq_true rfl, Nat.le_of_ble_eq_true rfl⟩) hS hP (fun r14 H locs hw hP hS => ?_)
  obtain ⟨f15, f16, f17⟩ := hw
  have k18 : r14 = lawC cf E (rcS E a0.toNatClampNeg 1) a1 := (show r14 = lawC cf E2 (rcS E a0.toNatClampNeg 1) a1 from Int32.toInt_inj.mp f17).trans (lawC_cg (E := E) (K64.of hKp (fun o9 ho9 j9 => wl_p rfl rfl ho9)))
  refine th_putL (ci := 10) (C := RX9) (T := TX9) (N := 9) (v := .int r14) (ty := .int) hx hb hts hinX9 tyX9 tyX9_ok nmX9 hown hK hP (WL_D hD) hS hI 3 (mF 3 rfl) rfl rfl 6 (Nat.le_of_ble_eq_true rfl) (hts _ (vA_in _ _ (in_12 _ (zs1 (zs1 (zs1 (zs0))))))) (fun _ h9 => h9) rfl (by decide +kernel) rfl rfl (okI rfl f15) dX9_read_34 (fun H locs E19 pw20 hI hP hS => ?_)
  have hKp := hKp.pw pw20 rfl
  refine lv_aload_n hx hb dX9_read_37 rfl (lv_at hl 1 rfl) ?_
  refine lv_aload_n hx hb dX9_read_38 rfl (lv_at hl 0 rfl) ?_
  refine lv_iload_n hx hb dX9_read_39 rfl (lv_at hl 3 rfl) ?_
  refine th_riL (va_runV (As := [.int a1]) (rest := [.ref (ad 3)]) ⟨hx, hb, hml, hown, hts⟩ (q_enteredInX l dC dI cT cf hC ad E19 H.size a1 a0.toNatClampNeg hI (by omega)) (cwV 1 hts (gi_V (in_12 _ (zs16 (zs4 (zs4 (zs4 (zs1 (zs0))))))) (in_12 _ (zs16 (zs4 (zs4 (zs4 (zs1 (zs1 (zs0)))))))) (in_12 _ (zs16 (zs4 (zs4 (zs4 (zs1 (zs1 (zs1 (zs0))))))))) (in_6 _ (zs16 (zs1 (zs0)))) (in_12 _ (zs16 (zs16 (zs0))))) rfl rfl rfl ⟨rfl, hz_yX5_enteredIn_1⟩ ⟨Nat.le_of_ble_eq_true rfl, Nat.le_of_ble_eq_true rfl⟩) ⟨HWL_bl, va_recv hK hP (ci := 6) (q0 := posL (64 * (a0.toNatClampNeg + 1) + 6) (LC cf)) rfl (hI.ob (64 * (a0.toNatClampNeg + 1) + 6) (mP 6 a0.toNatClampNeg (by decide) lv12 (kl_le hC 2 (by decide))) (shC_p 6 a0.toNatClampNeg (by decide))), (HWL_wi hP hK (WL_D hD) hS hA hEV)⟩ rfl rfl hl.1 rfl (lv_room (Nat.le_of_ble_eq_true rfl)) dX9_read_40 ⟨Nat.le_of_ble_eq_true rfl, Nat.le_of_ble_eq_true rfl⟩) hS hP (fun r21 H locs hw hP hS => ?_)
  obtain ⟨f22, f23⟩ := hw
  have k24 : r21.toInt = ((entC (xi (E (64 * (a0.toNatClampNeg + 1) + 7))) a1.toInt 16 : Nat) : Int) := by have h9 := f23; rw [show xi (E19 (64 * (a0.toNatClampNeg + 1) + 7)) = xi (E (64 * (a0.toNatClampNeg + 1) + 7)) from funext (fun j9 => hKp.ei _ j9 (wl_p rfl rfl (by omega)))] at h9; exact h9
  refine th_putL (ci := 10) (C := RX9) (T := TX9) (N := 9) (v := .int r21) (ty := .int) hx hb hts hinX9 tyX9 tyX9_ok nmX9 hown hK hP (WL_D hD) hS hI 3 (mF 3 rfl) rfl rfl 7 (Nat.le_of_ble_eq_true rfl) (hts _ (vA_in _ _ (in_12 _ (zs4 (zs0))))) (fun _ h9 => h9) rfl (by decide +kernel) rfl rfl (okI rfl f22) dX9_read_43 (fun H locs E25 pw26 hI hP hS => ?_)
  have hKp := hKp.pw pw26 rfl
  refine lv_aload_n hx hb dX9_read_46 rfl (lv_at hl 1 rfl) ?_
  refine lv_iconst (v := 0) hx hb dX9_read_47 (by decide) ?_
  refine th_putL (ci := 10) (C := RX9) (T := TX9) (N := 9) (v := .int 0) (ty := .int) hx hb hts hinX9 tyX9 tyX9_ok nmX9 hown hK hP (WL_D hD) hS hI 3 (mF 3 rfl) rfl rfl 8 (Nat.le_of_ble_eq_true rfl) (hts _ (vA_in _ _ (in_12 _ (zs4 (zs1 (zs0)))))) (fun _ h9 => h9) rfl (by decide +kernel) rfl rfl (okI rfl (iv_w ln_0 (by decide))) dX9_read_48 (fun H locs E27 pw28 hI hP hS => ?_)
  have hKp := hKp.pw pw28 rfl
  refine lv_iconst (v := 0) hx hb dX9_read_51 (by decide) ?_
  refine lv_istore (lv' := [(4, .int 0), (3, .ref (ad (64 * (a0.toNatClampNeg + 1) + 6))), (0, .ref (ad 3)), (1, .int a0), (2, .int a1)]) hx hb dX9_read_52 hl (by decide) rfl (fun ls hl => ?_)
  have hL54 : ∀ d : Nat, ∀ (w54_3_8 : Int32) (g54_28 : Nat → Int32) (g54_29 : Nat → Int32) (v54_4 : Int32) (E54_ : Nat → va_E) (H : Heap) (locs : List Loc) (ls : Array Slot), 0 ≤ w54_3_8.toInt ∧ w54_3_8.toInt ≤ 16 → 0 ≤ v54_4.toInt ∧ v54_4.toInt ≤ 16 → (∀ b9 : Nat, b9 < v54_4.toNatClampNeg → (fun b9 z9 => (g5 b9).toInt = 0 → z9.toInt = numC cf E (nI b9) (rcS E a0.toNatClampNeg 1) a1) b9 (g54_28 b9)) → (∀ b9 : Nat, b9 < v54_4.toNatClampNeg → (fun b9 z9 => (g5 b9).toInt = 0 → z9 = corI (rcS E a0.toNatClampNeg 3) (g6 b9) (fI (numC cf E (nI b9) (rcS E a0.toNatClampNeg 1) a1)) (rcS E a0.toNatClampNeg 2)) b9 (g54_29 b9)) → CnR (fun o9 => (g5 o9).toInt = 0) v54_4.toNatClampNeg w54_3_8.toInt → w54_3_8.toInt ≤ v54_4.toInt → 16 - v54_4.toInt < (d : Int) → IXL cT (shC cf) (spC cf) (LC cf) ad E54_ → Kp w_sheetX E E54_ → xv (E54_ 3) 8 = .int w54_3_8 → xv (E54_ 3) 6 = .int r14 → xv (E54_ 3) 7 = .int r21 → xi (E54_ 26) = g5 → xi (E54_ 27) = g6 → xi (E54_ 28) = g54_28 → xi (E54_ 29) = g54_29 → xi (E54_ 30) = g9 → va_P (dC, dI) vwCl (WL (LC cf) ad E54_) H → va_S A s.heap H locs → lv_has ls 5 [(4, .int v54_4), (3, .ref (ad (64 * (a0.toNatClampNeg + 1) + 6))), (0, .ref (ad 3)), (1, .int a0), (2, .int a1)] → W p l e (headSpec v_sheetX rm_sheetX).room s m args below meth c H locs 0 0 Q (F0 m 54 ls []) := by
    intro d
    induction d with
    | zero =>
      intro w54_3_8 g54_28 g54_29 v54_4 E54_ H locs ls hw54_3_8 hv54_4 hx54_0 hx54_1 hx54_2 hx54_3 hx54_4 hI hKp hs54_3_8 hs54_3_6 hs54_3_7 hr54_26 hr54_27 hr54_28 hr54_29 hr54_30 hP hS hl
      exact absurd hx54_4 (by first | exact ms_zu hv54_4.2 | omega)
    | succ d ih54 =>
      intro w54_3_8 g54_28 g54_29 v54_4 E54_ H locs ls hw54_3_8 hv54_4 hx54_0 hx54_1 hx54_2 hx54_3 hx54_4 hI hKp hs54_3_8 hs54_3_6 hs54_3_7 hr54_26 hr54_27 hr54_28 hr54_29 hr54_30 hP hS hl
      refine lv_iload hx hb dX9_read_54 (lv_at hl 0 rfl) ?_
      refine lv_bipush (v := 16) hx hb dX9_read_56 (by decide) ?_
      refine lv_icmp_ge (tgt := 174) hx hb dX9_read_58 (by decide) (fun c29 => ?_) (fun c29 => ?_)
      · --58 taken
        have t30 : (16 : Int) ≤ v54_4.toInt := ti_le c29
        have i31 : 16 ≤ v54_4.toInt ∧ v54_4.toInt ≤ 16 := iv_le_r t30 (il_ 16) hv54_4 (by decide)
        refine lv_iconst (v := 0) hx hb dX9_read_174 (by decide) ?_
        refine lv_istore (lv' := [(4, .int 0), (3, .ref (ad (64 * (a0.toNatClampNeg + 1) + 6))), (0, .ref (ad 3)), (1, .int a0), (2, .int a1)]) hx hb dX9_read_175 hl (by decide) rfl (fun ls hl => ?_)
        have hL177 : ∀ d : Nat, ∀ (g177_30 : Nat → Int32) (v177_4 : Int32) (E177_ : Nat → va_E) (H : Heap) (locs : List Loc) (ls : Array Slot), 0 ≤ v177_4.toInt ∧ v177_4.toInt ≤ 16 → (∀ b9 : Nat, b9 < v177_4.toNatClampNeg → (fun b9 z9 => ((g5 b9).toInt = 0 → PlG g5 g54_29 b9 z9.toInt) ∧ (¬ (g5 b9).toInt = 0 → z9.toInt = 0)) b9 (g177_30 b9)) → 16 - v177_4.toInt < (d : Int) → IXL cT (shC cf) (spC cf) (LC cf) ad E177_ → Kp w_sheetX E E177_ → xv (E177_ 3) 8 = .int w54_3_8 → xv (E177_ 3) 6 = .int r14 → xv (E177_ 3) 7 = .int r21 → xi (E177_ 26) = g5 → xi (E177_ 27) = g6 → xi (E177_ 28) = g54_28 → xi (E177_ 29) = g54_29 → xi (E177_ 30) = g177_30 → va_P (dC, dI) vwCl (WL (LC cf) ad E177_) H → va_S A s.heap H locs → lv_has ls 5 [(4, .int v177_4), (3, .ref (ad (64 * (a0.toNatClampNeg + 1) + 6))), (0, .ref (ad 3)), (1, .int a0), (2, .int a1)] → W p l e (headSpec v_sheetX rm_sheetX).room s m args below meth c H locs 0 0 Q (F0 m 177 ls []) := by
          intro d
          induction d with
          | zero =>
            intro g177_30 v177_4 E177_ H locs ls hv177_4 hx177_0 hx177_1 hI hKp hs177_3_8 hs177_3_6 hs177_3_7 hr177_26 hr177_27 hr177_28 hr177_29 hr177_30 hP hS hl
            exact absurd hx177_1 (by first | exact ms_zu hv177_4.2 | omega)
          | succ d ih177 =>
            intro g177_30 v177_4 E177_ H locs ls hv177_4 hx177_0 hx177_1 hI hKp hs177_3_8 hs177_3_6 hs177_3_7 hr177_26 hr177_27 hr177_28 hr177_29 hr177_30 hP hS hl
            refine lv_iload hx hb dX9_read_177 (lv_at hl 0 rfl) ?_
            refine lv_bipush (v := 16) hx hb dX9_read_179 (by decide) ?_
            refine lv_icmp_ge (tgt := 217) hx hb dX9_read_181 (by decide) (fun c32 => ?_) (fun c32 => ?_)
            · --181 taken
              have t33 : (16 : Int) ≤ v177_4.toInt := ti_le c32
              have i34 : 16 ≤ v177_4.toInt ∧ v177_4.toInt ≤ 16 := iv_le_r t33 (il_ 16) hv177_4 (by decide)
              rw [hQ]
              exact W.vret hx hb hr (fun t ht hW => ⟨⟨E177_, rfl, ⟨hI, hKp, (ShR.of hr177_26 hr177_27 hr177_28 hr177_29 hr177_30 k10 (fun b9 h9 => hx54_0 b9 (by rw [tn_]; omega)) (fun b9 h9 => hx54_1 b9 (by rw [tn_]; omega)) (fun b9 h9 => hx177_0 b9 (by rw [tn_]; omega)) (vi_e hs177_3_6) (vi_e hs177_3_7) (vi_e hs177_3_8) k18 k24 (by have h9 := hx54_2; rw [show v54_4.toNatClampNeg = 16 by rw [tn_]; omega] at h9; exact h9))⟩, by show va_P (dC, dI) vwCl (WL (LC cf) ad E177_) t.heap; rw [ht]; exact hP⟩, hS.F ht⟩) hS.2.2 dX9_read_217
            · --181 not
              have t35 : v177_4.toInt < 16 := ti_nle c32
              have i36 : 0 ≤ v177_4.toInt ∧ v177_4.toInt ≤ 15 := iv_lt_l t35 hv177_4 (il_ 16) (by decide)
              refine lv_aload_n hx hb dX9_read_184 rfl (lv_at hl 2 rfl) ?_
              refine th_getL (ci := 10) (C := RX9) (T := TX9) (N := 9) (v := .ref (ad 30)) hx hb hts hinX9 hown hK hP hI 3 (mF 3 rfl) rfl rfl 5 (Nat.le_of_ble_eq_true rfl) (hts _ (vA_in _ _ (in_12 _ (zs4 (zs4 (zs4 (zs0))))))) (fun _ h9 => h9) (hI.fr 3 (mF 3 rfl) rfl (Nat.le_of_ble_eq_true rfl) 30 rfl) dX9_read_185 ?_
              refine lv_iload hx hb dX9_read_188 (lv_at hl 0 rfl) ?_
              refine lv_aload_n hx hb dX9_read_190 rfl (lv_at hl 2 rfl) ?_
              refine th_getL (ci := 10) (C := RX9) (T := TX9) (N := 9) (v := .ref (ad 26)) hx hb hts hinX9 hown hK hP hI 3 (mF 3 rfl) rfl rfl 1 (Nat.le_of_ble_eq_true rfl) (hts _ (vA_in _ _ (in_12 _ (zs4 (zs1 (zs1 (zs0))))))) (fun _ h9 => h9) (hI.fr 3 (mF 3 rfl) rfl (Nat.le_of_ble_eq_true rfl) 26 rfl) dX9_read_191 ?_
              refine lv_iload hx hb dX9_read_194 (lv_at hl 0 rfl) ?_
              have n38 : vp_in v177_4 16 := (iv_in (n := 16) i36 (by decide))
              refine th_ialdL hx hb hK hP hI 26 (mF 26 rfl) rfl rfl n38 dX9_read_196 (fun y37 ey37 => ?_)
              have iy37 : -1 ≤ y37.toInt ∧ y37.toInt ≤ 5 := hI.el 26 (mF 26 rfl) rfl n38 (fun _ => rfl) ey37
              have ey37 := ey37.trans (congrFun hr177_26 _)
              refine lv_if_ne (tgt := 209) hx hb dX9_read_197 (by decide) (fun c39 => ?_) (fun c39 => ?_)
              · --197 taken
                have t40 : ¬ y37.toInt = 0 := ti_ne c39
                refine lv_iconst (v := 0) hx hb dX9_read_209 (by decide) ?_
                have n41 : vp_in v177_4 16 := (iv_in (n := 16) i36 (by decide))
                refine th_iastL hx hb hK hP (WL_D hD) hS hI 30 (mF 30 rfl) rfl rfl n41 (okI rfl (iv_w ln_0 (by decide))) dX9_read_210 (fun H locs E42 pw43 hI hP hS => ?_)
                have hKp := hKp.pw pw43 rfl
                obtain ⟨g44, eg44⟩ : ∃ z : Nat → Int32, z = upd g177_30 v177_4.toNatClampNeg (0 : Int32) := ⟨_, rfl⟩
                have hg44 : xi (E42 30) = g44 := by rw [pw43.eu, hr177_30, eg44]
                obtain ⟨y45, ey45⟩ : ∃ y : Int32, y = v177_4 + (1 : Int32) := ⟨_, rfl⟩
                obtain ⟨ty45, iy45⟩ := ti_add (e := 1) (f := 16) i36 ln_1 ey45 (by decide)
                have ty45 : y45.toInt = v177_4.toInt + 1 := ty45
                have iy45 : 1 ≤ y45.toInt ∧ y45.toInt ≤ 16 := iy45
                refine lv_iinc (v := y45) (lv' := [(4, .int y45), (3, .ref (ad (64 * (a0.toNatClampNeg + 1) + 6))), (0, .ref (ad 3)), (1, .int a0), (2, .int a1)]) hx hb dX9_read_211 hl (k := 0) rfl (by rw [ey45]; rfl) (by decide) rfl (fun ls hl => ?_)
                refine lv_goto (tgt := 177) hx hb dX9_read_214 (by decide) ?_
                exact ih177 g44 y45 E42 _ _ _ (iv_w iy45 (by decide)) (up_s (P := (fun b9 z9 => ((g5 b9).toInt = 0 → PlG g5 g54_29 b9 z9.toInt) ∧ (¬ (g5 b9).toInt = 0 → z9.toInt = 0))) hx177_0 eg44 ⟨fun z9 => absurd z9 (show ¬ (g5 v177_4.toNatClampNeg).toInt = 0 by rw [← ey37]; omega), fun _ => rfl⟩ (by omega) (by omega)) (by first | exact ms_su hx177_1 ty45 (by decide) | omega) hI hKp ((pw43.2 3 8 (fun q9 => absurd q9.1 (Nat.ne_of_beq_eq_false rfl))).trans hs177_3_8) ((pw43.2 3 6 (fun q9 => absurd q9.1 (Nat.ne_of_beq_eq_false rfl))).trans hs177_3_6) ((pw43.2 3 7 (fun q9 => absurd q9.1 (Nat.ne_of_beq_eq_false rfl))).trans hs177_3_7) ((pw43.ef 26 (Nat.ne_of_beq_eq_false rfl)).trans hr177_26) ((pw43.ef 27 (Nat.ne_of_beq_eq_false rfl)).trans hr177_27) ((pw43.ef 28 (Nat.ne_of_beq_eq_false rfl)).trans hr177_28) ((pw43.ef 29 (Nat.ne_of_beq_eq_false rfl)).trans hr177_29) hg44 hP hS (lv_sub hl [0, 1, 2, 3, 4] rfl)
              · --197 not
                have t46 : y37.toInt = 0 := ti_eq c39
                have i47 : 0 ≤ y37.toInt ∧ y37.toInt ≤ 0 := iv_eqi t46 iy37 (il_ 0) (by decide)
                refine lv_aload_n hx hb dX9_read_200 rfl (lv_at hl 2 rfl) ?_
                refine lv_iload hx hb dX9_read_201 (lv_at hl 0 rfl) ?_
                refine th_riL (va_runV (As := [.int v177_4]) (rest := [.int v177_4, .ref (ad 30)]) ⟨hx, hb, hml, hown, hts⟩ (q_placeOfX l dC dI cT cf hC ad E177_ H.size v177_4 hI i36) (cwV 1 hts (gi_V (in_12 _ (zs16 (zs16 (zs4 (zs1 (zs0)))))) (in_12 _ (zs16 (zs16 (zs4 (zs1 (zs1 (zs0))))))) (in_12 _ (zs16 (zs16 (zs4 (zs1 (zs1 (zs1 (zs0)))))))) (in_11 _ (zs16 (zs16 (zs4 (zs1 (zs0)))))) (in_13 _ zs0)) rfl rfl rfl ⟨rfl, hz_yX9_placeOf_1⟩ ⟨Nat.le_of_ble_eq_true rfl, Nat.le_of_ble_eq_true rfl⟩) ⟨HWL_bl, va_recv hK hP (ci := 10) (q0 := posL 3 (LC cf)) rfl (hI.ob 3 (mF 3 rfl) rfl), (HWL_wi hP hK (WL_D hD) hS hA hEV)⟩ rfl rfl hl.1 rfl (lv_room (Nat.le_of_ble_eq_true rfl)) dX9_read_203 ⟨Nat.le_of_ble_eq_true rfl, Nat.le_of_ble_eq_true rfl⟩) hS hP (fun r48 H locs hw hP hS => ?_)
                obtain ⟨f49, f50⟩ := hw
                have k51 : PlG g5 g54_29 v177_4.toNatClampNeg r48.toInt := by have h9 := f50; rw [show xi (E177_ 26) = g5 from hr177_26, show xi (E177_ 29) = g54_29 from hr177_29] at h9; exact h9
                refine lv_goto (tgt := 210) hx hb dX9_read_206 (by decide) ?_
                have n52 : vp_in v177_4 16 := (iv_in (n := 16) i36 (by decide))
                refine th_iastL hx hb hK hP (WL_D hD) hS hI 30 (mF 30 rfl) rfl rfl n52 (okI rfl f49) dX9_read_210 (fun H locs E53 pw54 hI hP hS => ?_)
                have hKp := hKp.pw pw54 rfl
                obtain ⟨g55, eg55⟩ : ∃ z : Nat → Int32, z = upd g177_30 v177_4.toNatClampNeg r48 := ⟨_, rfl⟩
                have hg55 : xi (E53 30) = g55 := by rw [pw54.eu, hr177_30, eg55]
                obtain ⟨y56, ey56⟩ : ∃ y : Int32, y = v177_4 + (1 : Int32) := ⟨_, rfl⟩
                obtain ⟨ty56, iy56⟩ := ti_add (e := 1) (f := 16) i36 ln_1 ey56 (by decide)
                have ty56 : y56.toInt = v177_4.toInt + 1 := ty56
                have iy56 : 1 ≤ y56.toInt ∧ y56.toInt ≤ 16 := iy56
                refine lv_iinc (v := y56) (lv' := [(4, .int y56), (3, .ref (ad (64 * (a0.toNatClampNeg + 1) + 6))), (0, .ref (ad 3)), (1, .int a0), (2, .int a1)]) hx hb dX9_read_211 hl (k := 0) rfl (by rw [ey56]; rfl) (by decide) rfl (fun ls hl => ?_)
                refine lv_goto (tgt := 177) hx hb dX9_read_214 (by decide) ?_
                exact ih177 g55 y56 E53 _ _ _ (iv_w iy56 (by decide)) (up_s (P := (fun b9 z9 => ((g5 b9).toInt = 0 → PlG g5 g54_29 b9 z9.toInt) ∧ (¬ (g5 b9).toInt = 0 → z9.toInt = 0))) hx177_0 eg55 ⟨fun _ => k51, fun z9 => absurd (show (g5 v177_4.toNatClampNeg).toInt = 0 by rw [← ey37]; omega) z9⟩ (by omega) (by omega)) (by first | exact ms_su hx177_1 ty56 (by decide) | omega) hI hKp ((pw54.2 3 8 (fun q9 => absurd q9.1 (Nat.ne_of_beq_eq_false rfl))).trans hs177_3_8) ((pw54.2 3 6 (fun q9 => absurd q9.1 (Nat.ne_of_beq_eq_false rfl))).trans hs177_3_6) ((pw54.2 3 7 (fun q9 => absurd q9.1 (Nat.ne_of_beq_eq_false rfl))).trans hs177_3_7) ((pw54.ef 26 (Nat.ne_of_beq_eq_false rfl)).trans hr177_26) ((pw54.ef 27 (Nat.ne_of_beq_eq_false rfl)).trans hr177_27) ((pw54.ef 28 (Nat.ne_of_beq_eq_false rfl)).trans hr177_28) ((pw54.ef 29 (Nat.ne_of_beq_eq_false rfl)).trans hr177_29) hg55 hP hS (lv_sub hl [0, 1, 2, 3, 4] rfl)
        exact hL177 (17) g9 (0 : Int32) E54_ _ _ _ (iv_w ln_0 (by decide)) (fun b9 h9 => absurd h9 (Nat.not_lt_zero b9)) (by have h9 := ln_0; first | exact ms_bu h9.1 (by decide) | omega) hI hKp hs54_3_8 hs54_3_6 hs54_3_7 hr54_26 hr54_27 hr54_28 hr54_29 hr54_30 hP hS (lv_sub hl [0, 1, 2, 3, 4] rfl)
      · --58 not
        have t57 : v54_4.toInt < 16 := ti_nle c29
        have i58 : 0 ≤ v54_4.toInt ∧ v54_4.toInt ≤ 15 := iv_lt_l t57 hv54_4 (il_ 16) (by decide)
        have i59 : 0 ≤ w54_3_8.toInt ∧ w54_3_8.toInt ≤ 15 := by omega
        refine lv_aload_n hx hb dX9_read_61 rfl (lv_at hl 2 rfl) ?_
        refine th_getL (ci := 10) (C := RX9) (T := TX9) (N := 9) (v := .ref (ad 26)) hx hb hts hinX9 hown hK hP hI 3 (mF 3 rfl) rfl rfl 1 (Nat.le_of_ble_eq_true rfl) (hts _ (vA_in _ _ (in_12 _ (zs4 (zs1 (zs1 (zs0))))))) (fun _ h9 => h9) (hI.fr 3 (mF 3 rfl) rfl (Nat.le_of_ble_eq_true rfl) 26 rfl) dX9_read_62 ?_
        refine lv_iload hx hb dX9_read_65 (lv_at hl 0 rfl) ?_
        have n61 : vp_in v54_4 16 := (iv_in (n := 16) i58 (by decide))
        refine th_ialdL hx hb hK hP hI 26 (mF 26 rfl) rfl rfl n61 dX9_read_67 (fun y60 ey60 => ?_)
        have iy60 : -1 ≤ y60.toInt ∧ y60.toInt ≤ 5 := hI.el 26 (mF 26 rfl) rfl n61 (fun _ => rfl) ey60
        have ey60 := ey60.trans (congrFun hr54_26 _)
        refine lv_if_eq (tgt := 74) hx hb dX9_read_68 (by decide) (fun c62 => ?_) (fun c62 => ?_)
        · --68 taken
          have t63 : y60.toInt = 0 := ti_eq c62
          have i64 : 0 ≤ y60.toInt ∧ y60.toInt ≤ 0 := iv_eqi t63 iy60 (il_ 0) (by decide)
          refine lv_aload_n hx hb dX9_read_74 rfl (lv_at hl 2 rfl) ?_
          refine lv_dup hx hb dX9_read_75 rfl ?_
          refine th_getL (ci := 10) (C := RX9) (T := TX9) (N := 9) (v := .int w54_3_8) hx hb hts hinX9 hown hK hP hI 3 (mF 3 rfl) rfl rfl 8 (Nat.le_of_ble_eq_true rfl) (hts _ (vA_in _ _ (in_12 _ (zs4 (zs1 (zs0)))))) (fun _ h9 => h9) hs54_3_8 dX9_read_76 ?_
          refine lv_iconst (v := 1) hx hb dX9_read_79 (by decide) ?_
          refine lv_iadd hx hb dX9_read_80 ?_
          refine lv_topi (fun y65 ey65 => ?_)
          obtain ⟨ty65, iy65⟩ := ti_add (e := 1) (f := 16) i59 ln_1 ey65 (by decide)
          have ty65 : y65.toInt = w54_3_8.toInt + 1 := ty65
          have iy65 : 1 ≤ y65.toInt ∧ y65.toInt ≤ 16 := iy65
          refine th_putL (ci := 10) (C := RX9) (T := TX9) (N := 9) (v := .int y65) (ty := .int) hx hb hts hinX9 tyX9 tyX9_ok nmX9 hown hK hP (WL_D hD) hS hI 3 (mF 3 rfl) rfl rfl 8 (Nat.le_of_ble_eq_true rfl) (hts _ (vA_in _ _ (in_12 _ (zs4 (zs1 (zs0)))))) (fun _ h9 => h9) rfl (by decide +kernel) rfl rfl (okI rfl (iv_w iy65 (by decide))) dX9_read_81 (fun H locs E66 pw67 hI hP hS => ?_)
          have hKp := hKp.pw pw67 rfl
          refine lv_aload_n hx hb dX9_read_84 rfl (lv_at hl 2 rfl) ?_
          refine th_getL (ci := 10) (C := RX9) (T := TX9) (N := 9) (v := .ref (ad 28)) hx hb hts hinX9 hown hK hP hI 3 (mF 3 rfl) rfl rfl 3 (Nat.le_of_ble_eq_true rfl) (hts _ (vA_in _ _ (in_12 _ (zs4 (zs1 (zs1 (zs1 (zs0)))))))) (fun _ h9 => h9) (hI.fr 3 (mF 3 rfl) rfl (Nat.le_of_ble_eq_true rfl) 28 rfl) dX9_read_85 ?_
          refine lv_iload hx hb dX9_read_88 (lv_at hl 0 rfl) ?_
          refine lv_aload_n hx hb dX9_read_90 rfl (lv_at hl 2 rfl) ?_
          refine th_getL (ci := 10) (C := RX9) (T := TX9) (N := 9) (v := .ref (ad 1)) hx hb hts hinX9 hown hK hP hI 3 (mF 3 rfl) rfl rfl 0 (Nat.le_of_ble_eq_true rfl) (hts _ (vA_in _ _ (in_11 _ (zs16 (zs16 (zs4 (zs1 (zs1 (zs1 (zs0)))))))))) (fun _ h9 => h9) (hI.fr 3 (mF 3 rfl) rfl (Nat.le_of_ble_eq_true rfl) 1 rfl) dX9_read_91 ?_
          refine lv_iload hx hb dX9_read_94 (lv_at hl 0 rfl) ?_
          refine lv_aload_n hx hb dX9_read_96 rfl (lv_at hl 1 rfl) ?_
          refine th_getL (ci := 6) (C := RX5) (T := TX5) (N := 12) (v := .int (xi (E (64 * (a0.toNatClampNeg + 1) + 6)) 1)) hx hb hts hinX5 hown hK hP hI (64 * (a0.toNatClampNeg + 1) + 6) (mP 6 a0.toNatClampNeg (by decide) lv12 (kl_le hC 2 (by decide))) (shC_p 6 a0.toNatClampNeg (by decide)) rfl 1 (Nat.le_of_ble_eq_true rfl) (hts _ (vA_in _ _ (in_12 _ (zs1 (zs1 (zs0)))))) (fun _ h9 => h9) (th_v0L hKp hI0 (64 * (a0.toNatClampNeg + 1) + 6) (mP 6 a0.toNatClampNeg (by decide) lv12 (kl_le hC 2 (by decide))) (shC_p 6 a0.toNatClampNeg (by decide)) (Nat.le_of_ble_eq_true rfl) (spC_p 6 a0.toNatClampNeg (by decide) 1) (wl_p rfl rfl (by omega))) dX9_read_97 ?_
          refine lv_iload_n hx hb dX9_read_100 rfl (lv_at hl 4 rfl) ?_
          refine th_iL (va_runV (As := [.int v54_4, .int (xi (E (64 * (a0.toNatClampNeg + 1) + 6)) 1), .int a1]) (rest := [.int v54_4, .ref (ad 28)]) ⟨hx, hb, hml, hown, hts⟩ (q_numberOfX l dC dI cT cf hC ad E66 H.size v54_4 (xi (E (64 * (a0.toNatClampNeg + 1) + 6)) 1) a1 hI (by exact fun i9 hi9 => (hh2 i9 hi9).cg (kp_rul hKp (fun o9 ho9 j9 => wl_p rfl rfl ho9) i9))) (cwV 3 hts (gi_V (in_12 _ (zs16 (zs16 (zs1 (zs1 (zs0)))))) (in_12 _ (zs16 (zs16 (zs1 (zs1 (zs1 (zs0))))))) (in_12 _ (zs16 (zs16 (zs4 (zs0))))) (in_5 _ (zs4 (zs1 (zs1 (zs0))))) (in_6 _ (zs16 (zs4 (zs1 (zs1 (zs0))))))) rfl rfl rfl ⟨rfl, hz_yX0_numberOf_3⟩ ⟨Nat.le_of_ble_eq_true rfl, Nat.le_of_ble_eq_true rfl⟩) ⟨HWL_bl, va_recv hK hP (ci := 1) (q0 := posL 1 (LC cf)) rfl (hI.ob 1 (mF 1 rfl) rfl), (HWL_wi hP hK (WL_D hD) hS hA hEV)⟩ rfl rfl hl.1 rfl (lv_room (Nat.le_of_ble_eq_true rfl)) dX9_read_101 ⟨Nat.le_of_ble_eq_true rfl, Nat.le_of_ble_eq_true rfl⟩) (WL_D hD) hS hA (fun r68 E69 H locs hw hP hS => ?_)
          obtain ⟨hI, kq70, hw⟩ := hw
          have hKb := hKp
          have hKp := hKp.tr kq70 (wl_sub rfl rfl)
          have f71 := hw
          have i73 : 500 ≤ r68.toInt ∧ r68.toInt ≤ 2000 := by rw [f71]; exact numC_in
          have k72 : r68.toInt = numC cf E (nI v54_4.toNatClampNeg) (rcS E a0.toNatClampNeg 1) a1 := by rw [nI_tn (show 0 ≤ v54_4.toInt by omega)]; exact f71.trans (numC_k (K64.of hKb (fun o9 ho9 j9 => wl_p rfl rfl ho9)))
          have n74 : vp_in v54_4 16 := (iv_in (n := 16) i58 (by decide))
          refine th_iastL hx hb hK hP (WL_D hD) hS hI 28 (mF 28 rfl) rfl rfl n74 (okI rfl (iv_w i73 (by decide))) dX9_read_104 (fun H locs E75 pw76 hI hP hS => ?_)
          have hKp := hKp.pw pw76 rfl
          obtain ⟨g77, eg77⟩ : ∃ z : Nat → Int32, z = upd g54_28 v54_4.toNatClampNeg r68 := ⟨_, rfl⟩
          have hg77 : xi (E75 28) = g77 := by rw [pw76.eu, ((kq70.ef 28 (fun _ => rfl)).trans ((pw67.ef 28 (Nat.ne_of_beq_eq_false rfl)).trans hr54_28)), eg77]
          refine lv_aload_n hx hb dX9_read_105 rfl (lv_at hl 2 rfl) ?_
          refine th_getL (ci := 10) (C := RX9) (T := TX9) (N := 9) (v := .ref (ad 29)) hx hb hts hinX9 hown hK hP hI 3 (mF 3 rfl) rfl rfl 4 (Nat.le_of_ble_eq_true rfl) (hts _ (vA_in _ _ (in_12 _ (zs4 (zs4 (zs0)))))) (fun _ h9 => h9) (hI.fr 3 (mF 3 rfl) rfl (Nat.le_of_ble_eq_true rfl) 29 rfl) dX9_read_106 ?_
          refine lv_iload hx hb dX9_read_109 (lv_at hl 0 rfl) ?_
          refine lv_aload_n hx hb dX9_read_111 rfl (lv_at hl 1 rfl) ?_
          have i78 : 0 ≤ (xi (E (64 * (a0.toNatClampNeg + 1) + 6)) 3).toInt ∧ (xi (E (64 * (a0.toNatClampNeg + 1) + 6)) 3).toInt ≤ 1 := hI0.iv (64 * (a0.toNatClampNeg + 1) + 6) (mP 6 a0.toNatClampNeg (by decide) lv12 (kl_le hC 2 (by decide))) (shC_p 6 a0.toNatClampNeg (by decide)) (Nat.le_of_ble_eq_true rfl) (spC_p 6 a0.toNatClampNeg (by decide) 3)
          refine th_getL (ci := 6) (C := RX5) (T := TX5) (N := 12) (v := .int (xi (E (64 * (a0.toNatClampNeg + 1) + 6)) 3)) hx hb hts hinX5 hown hK hP hI (64 * (a0.toNatClampNeg + 1) + 6) (mP 6 a0.toNatClampNeg (by decide) lv12 (kl_le hC 2 (by decide))) (shC_p 6 a0.toNatClampNeg (by decide)) rfl 3 (Nat.le_of_ble_eq_true rfl) (hts _ (vA_in _ _ (in_12 _ (zs4 (zs4 (zs1 (zs0))))))) (fun _ h9 => h9) (th_v0L hKp hI0 (64 * (a0.toNatClampNeg + 1) + 6) (mP 6 a0.toNatClampNeg (by decide) lv12 (kl_le hC 2 (by decide))) (shC_p 6 a0.toNatClampNeg (by decide)) (Nat.le_of_ble_eq_true rfl) (spC_p 6 a0.toNatClampNeg (by decide) 3) (wl_p rfl rfl (by omega))) dX9_read_112 ?_
          refine lv_if_ne (tgt := 140) hx hb dX9_read_115 (by decide) (fun c79 => ?_) (fun c79 => ?_)
          · --115 taken
            have t80 : ¬ (xi (E (64 * (a0.toNatClampNeg + 1) + 6)) 3).toInt = 0 := ti_ne c79
            have i81 : 1 ≤ (xi (E (64 * (a0.toNatClampNeg + 1) + 6)) 3).toInt ∧ (xi (E (64 * (a0.toNatClampNeg + 1) + 6)) 3).toInt ≤ 1 := iv_ne_l t80 i78 (il_ 0)
            refine lv_aload_n hx hb dX9_read_140 rfl (lv_at hl 2 rfl) ?_
            refine th_getL (ci := 10) (C := RX9) (T := TX9) (N := 9) (v := .ref (ad 27)) hx hb hts hinX9 hown hK hP hI 3 (mF 3 rfl) rfl rfl 2 (Nat.le_of_ble_eq_true rfl) (hts _ (vA_in _ _ (in_12 _ (zs4 (zs4 (zs1 (zs1 (zs0)))))))) (fun _ h9 => h9) (hI.fr 3 (mF 3 rfl) rfl (Nat.le_of_ble_eq_true rfl) 27 rfl) dX9_read_141 ?_
            refine lv_iload hx hb dX9_read_144 (lv_at hl 0 rfl) ?_
            have n83 : vp_in v54_4 16 := (iv_in (n := 16) i58 (by decide))
            refine th_ialdL hx hb hK hP hI 27 (mF 27 rfl) rfl rfl n83 dX9_read_146 (fun y82 ey82 => ?_)
            have iy82 : 0 ≤ y82.toInt ∧ y82.toInt ≤ 200000 := hI.el 27 (mF 27 rfl) rfl n83 (fun _ => rfl) ey82
            have ey82 := ey82.trans (congrFun ((pw76.ef 27 (Nat.ne_of_beq_eq_false rfl)).trans ((kq70.ef 27 (fun _ => rfl)).trans ((pw67.ef 27 (Nat.ne_of_beq_eq_false rfl)).trans hr54_27))) _)
            refine lv_aload_n hx hb dX9_read_147 rfl (lv_at hl 2 rfl) ?_
            refine th_getL (ci := 10) (C := RX9) (T := TX9) (N := 9) (v := .ref (ad 28)) hx hb hts hinX9 hown hK hP hI 3 (mF 3 rfl) rfl rfl 3 (Nat.le_of_ble_eq_true rfl) (hts _ (vA_in _ _ (in_12 _ (zs4 (zs1 (zs1 (zs1 (zs0)))))))) (fun _ h9 => h9) (hI.fr 3 (mF 3 rfl) rfl (Nat.le_of_ble_eq_true rfl) 28 rfl) dX9_read_148 ?_
            refine lv_iload hx hb dX9_read_151 (lv_at hl 0 rfl) ?_
            have n85 : vp_in v54_4 16 := (iv_in (n := 16) i58 (by decide))
            refine th_ialdL hx hb hK hP hI 28 (mF 28 rfl) rfl rfl n85 dX9_read_153 (fun y84 ey84 => ?_)
            have iy84 : 0 ≤ y84.toInt ∧ y84.toInt ≤ 2000 := hI.el 28 (mF 28 rfl) rfl n85 (fun _ => rfl) ey84
            have ey84 := ey84.trans (congrFun hg77 _)
            refine lv_sipush (v := 1000) hx hb dX9_read_154 (by decide) ?_
            refine lv_isub hx hb dX9_read_157 ?_
            refine lv_topi (fun y86 ey86 => ?_)
            obtain ⟨ty86, iy86⟩ := ti_sub (e := (-1000)) (f := 1000) iy84 ln_1000 ey86 (by decide)
            have ty86 : y86.toInt = y84.toInt - 1000 := ty86
            have iy86 : -1000 ≤ y86.toInt ∧ y86.toInt ≤ 1000 := iy86
            refine lv_aload_n hx hb dX9_read_158 rfl (lv_at hl 1 rfl) ?_
            have i87 : 0 ≤ (xi (E (64 * (a0.toNatClampNeg + 1) + 6)) 2).toInt ∧ (xi (E (64 * (a0.toNatClampNeg + 1) + 6)) 2).toInt ≤ 1000 := hI0.iv (64 * (a0.toNatClampNeg + 1) + 6) (mP 6 a0.toNatClampNeg (by decide) lv12 (kl_le hC 2 (by decide))) (shC_p 6 a0.toNatClampNeg (by decide)) (Nat.le_of_ble_eq_true rfl) (spC_p 6 a0.toNatClampNeg (by decide) 2)
            refine th_getL (ci := 6) (C := RX5) (T := TX5) (N := 12) (v := .int (xi (E (64 * (a0.toNatClampNeg + 1) + 6)) 2)) hx hb hts hinX5 hown hK hP hI (64 * (a0.toNatClampNeg + 1) + 6) (mP 6 a0.toNatClampNeg (by decide) lv12 (kl_le hC 2 (by decide))) (shC_p 6 a0.toNatClampNeg (by decide)) rfl 2 (Nat.le_of_ble_eq_true rfl) (hts _ (vA_in _ _ (in_12 _ (zs4 (zs4 (zs1 (zs1 (zs1 (zs0))))))))) (fun _ h9 => h9) (th_v0L hKp hI0 (64 * (a0.toNatClampNeg + 1) + 6) (mP 6 a0.toNatClampNeg (by decide) lv12 (kl_le hC 2 (by decide))) (shC_p 6 a0.toNatClampNeg (by decide)) (Nat.le_of_ble_eq_true rfl) (spC_p 6 a0.toNatClampNeg (by decide) 2) (wl_p rfl rfl (by omega))) dX9_read_159 ?_
            refine lv_imul hx hb dX9_read_162 ?_
            refine lv_topi (fun y88 ey88 => ?_)
            obtain ⟨ty88, iy88⟩ := ti_mul (e := (-1000000)) (f := 1000000) iy86 i87 ey88 (by decide)
            have ty88 : y88.toInt = y86.toInt * (xi (E (64 * (a0.toNatClampNeg + 1) + 6)) 2).toInt := ty88
            have iy88 : -1000000 ≤ y88.toInt ∧ y88.toInt ≤ 1000000 := iy88
            refine lv_bipush (v := 10) hx hb dX9_read_163 (by decide) ?_
            refine lv_idiv hx hb dX9_read_165 (by decide) ?_
            refine lv_topi (fun y89 ey89 => ?_)
            have iy89 : -100000 ≤ y89.toInt ∧ y89.toInt ≤ 100000 := ti_tdiv (c := 10) iy88 ey89 (by decide) (by decide)
            refine lv_iadd hx hb dX9_read_166 ?_
            refine lv_topi (fun y90 ey90 => ?_)
            obtain ⟨ty90, iy90⟩ := ti_add (e := (-100000)) (f := 300000) iy82 iy89 ey90 (by decide)
            have ty90 : y90.toInt = y82.toInt + y89.toInt := ty90
            have iy90 : -100000 ≤ y90.toInt ∧ y90.toInt ≤ 300000 := iy90
            have k91 : y90 = corI (rcS E a0.toNatClampNeg 3) (g6 v54_4.toNatClampNeg) (fI (numC cf E (nI v54_4.toNatClampNeg) (rcS E a0.toNatClampNeg 1) a1)) (rcS E a0.toNatClampNeg 2) := by rw [← ey82, ← (fI_of k72)]; rw [← (show y84 = r68 by rw [ey84]; first | exact pk_us | (rw [eg77]; exact pk_us))]; exact corI_1 (by show ¬ (xi (E (64 * (a0.toNatClampNeg + 1) + 6)) 3).toInt = 0; omega) ey86 ey88 ey89 ey90
            have n92 : vp_in v54_4 16 := (iv_in (n := 16) i58 (by decide))
            refine th_iastL hx hb hK hP (WL_D hD) hS hI 29 (mF 29 rfl) rfl rfl n92 (okI rfl (iv_w iy90 (by decide))) dX9_read_167 (fun H locs E93 pw94 hI hP hS => ?_)
            have hKp := hKp.pw pw94 rfl
            obtain ⟨g95, eg95⟩ : ∃ z : Nat → Int32, z = upd g54_29 v54_4.toNatClampNeg y90 := ⟨_, rfl⟩
            have hg95 : xi (E93 29) = g95 := by rw [pw94.eu, ((pw76.ef 29 (Nat.ne_of_beq_eq_false rfl)).trans ((kq70.ef 29 (fun _ => rfl)).trans ((pw67.ef 29 (Nat.ne_of_beq_eq_false rfl)).trans hr54_29))), eg95]
            obtain ⟨y96, ey96⟩ : ∃ y : Int32, y = v54_4 + (1 : Int32) := ⟨_, rfl⟩
            obtain ⟨ty96, iy96⟩ := ti_add (e := 1) (f := 16) i58 ln_1 ey96 (by decide)
            have ty96 : y96.toInt = v54_4.toInt + 1 := ty96
            have iy96 : 1 ≤ y96.toInt ∧ y96.toInt ≤ 16 := iy96
            refine lv_iinc (v := y96) (lv' := [(4, .int y96), (3, .ref (ad (64 * (a0.toNatClampNeg + 1) + 6))), (0, .ref (ad 3)), (1, .int a0), (2, .int a1)]) hx hb dX9_read_168 hl (k := 0) rfl (by rw [ey96]; rfl) (by decide) rfl (fun ls hl => ?_)
            refine lv_goto (tgt := 54) hx hb dX9_read_171 (by decide) ?_
            exact ih54 y65 g77 g95 y96 E93 _ _ _ (iv_w iy65 (by decide)) (iv_w iy96 (by decide)) (up_s (P := (fun b9 z9 => (g5 b9).toInt = 0 → z9.toInt = numC cf E (nI b9) (rcS E a0.toNatClampNeg 1) a1)) hx54_0 eg77 (fun _ => k72) (by omega) (by omega)) (up_s (P := (fun b9 z9 => (g5 b9).toInt = 0 → z9 = corI (rcS E a0.toNatClampNeg 3) (g6 b9) (fI (numC cf E (nI b9) (rcS E a0.toNatClampNeg 1) a1)) (rcS E a0.toNatClampNeg 2))) hx54_1 eg95 (fun _ => k91) (by omega) (by omega)) (hx54_2.one (show (g5 v54_4.toNatClampNeg).toInt = 0 by rw [← ey60]; omega) ty65 (by rw [tn_ y96, tn_ v54_4]; omega)) (by omega) (by first | exact ms_su hx54_4 ty96 (by decide) | omega) hI hKp ((pw94.2 3 8 (fun q9 => absurd q9.1 (Nat.ne_of_beq_eq_false rfl))).trans ((pw76.2 3 8 (fun q9 => absurd q9.1 (Nat.ne_of_beq_eq_false rfl))).trans ((kq70 3 8 rfl).trans pw67.1))) ((pw94.2 3 6 (fun q9 => absurd q9.1 (Nat.ne_of_beq_eq_false rfl))).trans ((pw76.2 3 6 (fun q9 => absurd q9.1 (Nat.ne_of_beq_eq_false rfl))).trans ((kq70 3 6 rfl).trans ((pw67.2 3 6 (fun q9 => absurd q9.2 (Nat.ne_of_beq_eq_false rfl))).trans hs54_3_6)))) ((pw94.2 3 7 (fun q9 => absurd q9.1 (Nat.ne_of_beq_eq_false rfl))).trans ((pw76.2 3 7 (fun q9 => absurd q9.1 (Nat.ne_of_beq_eq_false rfl))).trans ((kq70 3 7 rfl).trans ((pw67.2 3 7 (fun q9 => absurd q9.2 (Nat.ne_of_beq_eq_false rfl))).trans hs54_3_7)))) ((pw94.ef 26 (Nat.ne_of_beq_eq_false rfl)).trans ((pw76.ef 26 (Nat.ne_of_beq_eq_false rfl)).trans ((kq70.ef 26 (fun _ => rfl)).trans ((pw67.ef 26 (Nat.ne_of_beq_eq_false rfl)).trans hr54_26)))) ((pw94.ef 27 (Nat.ne_of_beq_eq_false rfl)).trans ((pw76.ef 27 (Nat.ne_of_beq_eq_false rfl)).trans ((kq70.ef 27 (fun _ => rfl)).trans ((pw67.ef 27 (Nat.ne_of_beq_eq_false rfl)).trans hr54_27)))) ((pw94.ef 28 (Nat.ne_of_beq_eq_false rfl)).trans hg77) hg95 ((pw94.ef 30 (Nat.ne_of_beq_eq_false rfl)).trans ((pw76.ef 30 (Nat.ne_of_beq_eq_false rfl)).trans ((kq70.ef 30 (fun _ => rfl)).trans ((pw67.ef 30 (Nat.ne_of_beq_eq_false rfl)).trans hr54_30)))) hP hS (lv_sub hl [0, 1, 2, 3, 4] rfl)
          · --115 not
            have t97 : (xi (E (64 * (a0.toNatClampNeg + 1) + 6)) 3).toInt = 0 := ti_eq c79
            have i98 : 0 ≤ (xi (E (64 * (a0.toNatClampNeg + 1) + 6)) 3).toInt ∧ (xi (E (64 * (a0.toNatClampNeg + 1) + 6)) 3).toInt ≤ 0 := iv_eqi t97 i78 (il_ 0) (by decide)
            refine lv_aload_n hx hb dX9_read_118 rfl (lv_at hl 2 rfl) ?_
            refine th_getL (ci := 10) (C := RX9) (T := TX9) (N := 9) (v := .ref (ad 27)) hx hb hts hinX9 hown hK hP hI 3 (mF 3 rfl) rfl rfl 2 (Nat.le_of_ble_eq_true rfl) (hts _ (vA_in _ _ (in_12 _ (zs4 (zs4 (zs1 (zs1 (zs0)))))))) (fun _ h9 => h9) (hI.fr 3 (mF 3 rfl) rfl (Nat.le_of_ble_eq_true rfl) 27 rfl) dX9_read_119 ?_
            refine lv_iload hx hb dX9_read_122 (lv_at hl 0 rfl) ?_
            have n100 : vp_in v54_4 16 := (iv_in (n := 16) i58 (by decide))
            refine th_ialdL hx hb hK hP hI 27 (mF 27 rfl) rfl rfl n100 dX9_read_124 (fun y99 ey99 => ?_)
            have iy99 : 0 ≤ y99.toInt ∧ y99.toInt ≤ 200000 := hI.el 27 (mF 27 rfl) rfl n100 (fun _ => rfl) ey99
            have ey99 := ey99.trans (congrFun ((pw76.ef 27 (Nat.ne_of_beq_eq_false rfl)).trans ((kq70.ef 27 (fun _ => rfl)).trans ((pw67.ef 27 (Nat.ne_of_beq_eq_false rfl)).trans hr54_27))) _)
            refine lv_aload_n hx hb dX9_read_125 rfl (lv_at hl 2 rfl) ?_
            refine th_getL (ci := 10) (C := RX9) (T := TX9) (N := 9) (v := .ref (ad 28)) hx hb hts hinX9 hown hK hP hI 3 (mF 3 rfl) rfl rfl 3 (Nat.le_of_ble_eq_true rfl) (hts _ (vA_in _ _ (in_12 _ (zs4 (zs1 (zs1 (zs1 (zs0)))))))) (fun _ h9 => h9) (hI.fr 3 (mF 3 rfl) rfl (Nat.le_of_ble_eq_true rfl) 28 rfl) dX9_read_126 ?_
            refine lv_iload hx hb dX9_read_129 (lv_at hl 0 rfl) ?_
            have n102 : vp_in v54_4 16 := (iv_in (n := 16) i58 (by decide))
            refine th_ialdL hx hb hK hP hI 28 (mF 28 rfl) rfl rfl n102 dX9_read_131 (fun y101 ey101 => ?_)
            have iy101 : 0 ≤ y101.toInt ∧ y101.toInt ≤ 2000 := hI.el 28 (mF 28 rfl) rfl n102 (fun _ => rfl) ey101
            have ey101 := ey101.trans (congrFun hg77 _)
            refine lv_imul hx hb dX9_read_132 ?_
            refine lv_topi (fun y103 ey103 => ?_)
            obtain ⟨ty103, iy103⟩ := ti_mul (e := 0) (f := 400000000) iy99 iy101 ey103 (by decide)
            have ty103 : y103.toInt = y99.toInt * y101.toInt := ty103
            have iy103 : 0 ≤ y103.toInt ∧ y103.toInt ≤ 400000000 := iy103
            refine lv_sipush (v := 1000) hx hb dX9_read_133 (by decide) ?_
            refine lv_idiv hx hb dX9_read_136 (by decide) ?_
            refine lv_topi (fun y104 ey104 => ?_)
            obtain ⟨ty104, iy104⟩ := ti_div (e := 0) (f := 400000) iy103 ln_1000 ey104 (by decide)
            have iy104 : 0 ≤ y104.toInt ∧ y104.toInt ≤ 400000 := iy104
            refine lv_goto (tgt := 167) hx hb dX9_read_137 (by decide) ?_
            have k105 : y104 = corI (rcS E a0.toNatClampNeg 3) (g6 v54_4.toNatClampNeg) (fI (numC cf E (nI v54_4.toNatClampNeg) (rcS E a0.toNatClampNeg 1) a1)) (rcS E a0.toNatClampNeg 2) := by rw [← ey99, ← (fI_of k72)]; rw [← (show y101 = r68 by rw [ey101]; first | exact pk_us | (rw [eg77]; exact pk_us))]; exact corI_0 (by show (xi (E (64 * (a0.toNatClampNeg + 1) + 6)) 3).toInt = 0; omega) ey103 ey104
            have n106 : vp_in v54_4 16 := (iv_in (n := 16) i58 (by decide))
            refine th_iastL hx hb hK hP (WL_D hD) hS hI 29 (mF 29 rfl) rfl rfl n106 (okI rfl (iv_w iy104 (by decide))) dX9_read_167 (fun H locs E107 pw108 hI hP hS => ?_)
            have hKp := hKp.pw pw108 rfl
            obtain ⟨g109, eg109⟩ : ∃ z : Nat → Int32, z = upd g54_29 v54_4.toNatClampNeg y104 := ⟨_, rfl⟩
            have hg109 : xi (E107 29) = g109 := by rw [pw108.eu, ((pw76.ef 29 (Nat.ne_of_beq_eq_false rfl)).trans ((kq70.ef 29 (fun _ => rfl)).trans ((pw67.ef 29 (Nat.ne_of_beq_eq_false rfl)).trans hr54_29))), eg109]
            obtain ⟨y110, ey110⟩ : ∃ y : Int32, y = v54_4 + (1 : Int32) := ⟨_, rfl⟩
            obtain ⟨ty110, iy110⟩ := ti_add (e := 1) (f := 16) i58 ln_1 ey110 (by decide)
            have ty110 : y110.toInt = v54_4.toInt + 1 := ty110
            have iy110 : 1 ≤ y110.toInt ∧ y110.toInt ≤ 16 := iy110
            refine lv_iinc (v := y110) (lv' := [(4, .int y110), (3, .ref (ad (64 * (a0.toNatClampNeg + 1) + 6))), (0, .ref (ad 3)), (1, .int a0), (2, .int a1)]) hx hb dX9_read_168 hl (k := 0) rfl (by rw [ey110]; rfl) (by decide) rfl (fun ls hl => ?_)
            refine lv_goto (tgt := 54) hx hb dX9_read_171 (by decide) ?_
            exact ih54 y65 g77 g109 y110 E107 _ _ _ (iv_w iy65 (by decide)) (iv_w iy110 (by decide)) (up_s (P := (fun b9 z9 => (g5 b9).toInt = 0 → z9.toInt = numC cf E (nI b9) (rcS E a0.toNatClampNeg 1) a1)) hx54_0 eg77 (fun _ => k72) (by omega) (by omega)) (up_s (P := (fun b9 z9 => (g5 b9).toInt = 0 → z9 = corI (rcS E a0.toNatClampNeg 3) (g6 b9) (fI (numC cf E (nI b9) (rcS E a0.toNatClampNeg 1) a1)) (rcS E a0.toNatClampNeg 2))) hx54_1 eg109 (fun _ => k105) (by omega) (by omega)) (hx54_2.one (show (g5 v54_4.toNatClampNeg).toInt = 0 by rw [← ey60]; omega) ty65 (by rw [tn_ y110, tn_ v54_4]; omega)) (by omega) (by first | exact ms_su hx54_4 ty110 (by decide) | omega) hI hKp ((pw108.2 3 8 (fun q9 => absurd q9.1 (Nat.ne_of_beq_eq_false rfl))).trans ((pw76.2 3 8 (fun q9 => absurd q9.1 (Nat.ne_of_beq_eq_false rfl))).trans ((kq70 3 8 rfl).trans pw67.1))) ((pw108.2 3 6 (fun q9 => absurd q9.1 (Nat.ne_of_beq_eq_false rfl))).trans ((pw76.2 3 6 (fun q9 => absurd q9.1 (Nat.ne_of_beq_eq_false rfl))).trans ((kq70 3 6 rfl).trans ((pw67.2 3 6 (fun q9 => absurd q9.2 (Nat.ne_of_beq_eq_false rfl))).trans hs54_3_6)))) ((pw108.2 3 7 (fun q9 => absurd q9.1 (Nat.ne_of_beq_eq_false rfl))).trans ((pw76.2 3 7 (fun q9 => absurd q9.1 (Nat.ne_of_beq_eq_false rfl))).trans ((kq70 3 7 rfl).trans ((pw67.2 3 7 (fun q9 => absurd q9.2 (Nat.ne_of_beq_eq_false rfl))).trans hs54_3_7)))) ((pw108.ef 26 (Nat.ne_of_beq_eq_false rfl)).trans ((pw76.ef 26 (Nat.ne_of_beq_eq_false rfl)).trans ((kq70.ef 26 (fun _ => rfl)).trans ((pw67.ef 26 (Nat.ne_of_beq_eq_false rfl)).trans hr54_26)))) ((pw108.ef 27 (Nat.ne_of_beq_eq_false rfl)).trans ((pw76.ef 27 (Nat.ne_of_beq_eq_false rfl)).trans ((kq70.ef 27 (fun _ => rfl)).trans ((pw67.ef 27 (Nat.ne_of_beq_eq_false rfl)).trans hr54_27)))) ((pw108.ef 28 (Nat.ne_of_beq_eq_false rfl)).trans hg77) hg109 ((pw108.ef 30 (Nat.ne_of_beq_eq_false rfl)).trans ((pw76.ef 30 (Nat.ne_of_beq_eq_false rfl)).trans ((kq70.ef 30 (fun _ => rfl)).trans ((pw67.ef 30 (Nat.ne_of_beq_eq_false rfl)).trans hr54_30)))) hP hS (lv_sub hl [0, 1, 2, 3, 4] rfl)
        · --68 not
          have t111 : ¬ y60.toInt = 0 := ti_ne c62
          refine lv_goto (tgt := 168) hx hb dX9_read_71 (by decide) ?_
          obtain ⟨y112, ey112⟩ : ∃ y : Int32, y = v54_4 + (1 : Int32) := ⟨_, rfl⟩
          obtain ⟨ty112, iy112⟩ := ti_add (e := 1) (f := 16) i58 ln_1 ey112 (by decide)
          have ty112 : y112.toInt = v54_4.toInt + 1 := ty112
          have iy112 : 1 ≤ y112.toInt ∧ y112.toInt ≤ 16 := iy112
          refine lv_iinc (v := y112) (lv' := [(4, .int y112), (3, .ref (ad (64 * (a0.toNatClampNeg + 1) + 6))), (0, .ref (ad 3)), (1, .int a0), (2, .int a1)]) hx hb dX9_read_168 hl (k := 0) rfl (by rw [ey112]; rfl) (by decide) rfl (fun ls hl => ?_)
          refine lv_goto (tgt := 54) hx hb dX9_read_171 (by decide) ?_
          exact ih54 w54_3_8 g54_28 g54_29 y112 E54_ _ _ _ (iv_w i59 (by decide)) (iv_w iy112 (by decide)) (up_k (P := (fun b9 z9 => (g5 b9).toInt = 0 → z9.toInt = numC cf E (nI b9) (rcS E a0.toNatClampNeg 1) a1)) hx54_0 (fun z9 => absurd z9 (show ¬ (g5 v54_4.toNatClampNeg).toInt = 0 by rw [← ey60]; omega)) (by omega) (by omega)) (up_k (P := (fun b9 z9 => (g5 b9).toInt = 0 → z9 = corI (rcS E a0.toNatClampNeg 3) (g6 b9) (fI (numC cf E (nI b9) (rcS E a0.toNatClampNeg 1) a1)) (rcS E a0.toNatClampNeg 2))) hx54_1 (fun z9 => absurd z9 (show ¬ (g5 v54_4.toNatClampNeg).toInt = 0 by rw [← ey60]; omega)) (by omega) (by omega)) (hx54_2.no (show ¬ (g5 v54_4.toNatClampNeg).toInt = 0 by rw [← ey60]; omega) rfl (by rw [tn_ y112, tn_ v54_4]; omega)) (by omega) (by first | exact ms_su hx54_4 ty112 (by decide) | omega) hI hKp hs54_3_8 hs54_3_6 hs54_3_7 hr54_26 hr54_27 hr54_28 hr54_29 hr54_30 hP hS (lv_sub hl [0, 1, 2, 3, 4] rfl)
  exact hL54 (17) (0 : Int32) g7 g8 (0 : Int32) E27 _ _ _ (iv_w ln_0 (by decide)) (iv_w ln_0 (by decide)) (fun b9 h9 => absurd h9 (Nat.not_lt_zero b9)) (fun b9 h9 => absurd h9 (Nat.not_lt_zero b9)) (show CnR _ 0 0 from rfl) (by have z9 := ln_0; omega) (by have h9 := ln_0; first | exact ms_bu h9.1 (by decide) | omega) hI hKp pw28.1 ((pw28.2 3 6 (fun q9 => absurd q9.2 (Nat.ne_of_beq_eq_false rfl))).trans ((pw26.2 3 6 (fun q9 => absurd q9.2 (Nat.ne_of_beq_eq_false rfl))).trans pw20.1)) ((pw28.2 3 7 (fun q9 => absurd q9.2 (Nat.ne_of_beq_eq_false rfl))).trans pw26.1) ((pw28.ef 26 (Nat.ne_of_beq_eq_false rfl)).trans ((pw26.ef 26 (Nat.ne_of_beq_eq_false rfl)).trans ((pw20.ef 26 (Nat.ne_of_beq_eq_false rfl)).trans hg5))) ((pw28.ef 27 (Nat.ne_of_beq_eq_false rfl)).trans ((pw26.ef 27 (Nat.ne_of_beq_eq_false rfl)).trans ((pw20.ef 27 (Nat.ne_of_beq_eq_false rfl)).trans hg6))) ((pw28.ef 28 (Nat.ne_of_beq_eq_false rfl)).trans ((pw26.ef 28 (Nat.ne_of_beq_eq_false rfl)).trans ((pw20.ef 28 (Nat.ne_of_beq_eq_false rfl)).trans hg7))) ((pw28.ef 29 (Nat.ne_of_beq_eq_false rfl)).trans ((pw26.ef 29 (Nat.ne_of_beq_eq_false rfl)).trans ((pw20.ef 29 (Nat.ne_of_beq_eq_false rfl)).trans hg8))) ((pw28.ef 30 (Nat.ne_of_beq_eq_false rfl)).trans ((pw26.ef 30 (Nat.ne_of_beq_eq_false rfl)).trans ((pw20.ef 30 (Nat.ne_of_beq_eq_false rfl)).trans hg9))) hP hS (lv_sub hl [0, 1, 2, 3, 4] rfl)
end

