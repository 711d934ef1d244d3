set_option maxRecDepth 100000 in
theorem zh_dX3_gather_0_0 : zc cX3_gather 0 [3, 61, 3, 62, 29, 42, 180, 0, 55, 180, 0, 63, 182, 0, 69, 162] = true := by decide +kernel
set_option maxRecDepth 100000 in
theorem zh_dX3_gather_15_16 : zc cX3_gather 16 [0, 138, 42, 29, 27, 182, 0, 113, 54, 4, 21, 4, 18, 108, 160, 0] = true := by decide +kernel
set_option maxRecDepth 100000 in
theorem zh_dX3_gather_30_32 : zc cX3_gather 32 [6, 167, 0, 114, 28, 54, 5, 21, 5, 158, 0, 86, 42, 180, 0, 55] = true := by decide +kernel
set_option maxRecDepth 100000 in
theorem zh_dX3_gather_48_48 : zc cX3_gather 48 [180, 0, 63, 42, 180, 0, 25, 21, 5, 4, 100, 46, 182, 0, 99, 192] = true := by decide +kernel
set_option maxRecDepth 100000 in
theorem zh_dX3_gather_63_64 : zc cX3_gather 64 [0, 103, 180, 0, 116, 42, 180, 0, 55, 180, 0, 63, 29, 182, 0, 99] = true := by decide +kernel
set_option maxRecDepth 100000 in
theorem zh_dX3_gather_80_80 : zc cX3_gather 80 [192, 0, 103, 180, 0, 116, 164, 0, 41, 42, 180, 0, 25, 21, 5, 42] = true := by decide +kernel
set_option maxRecDepth 100000 in
theorem zh_dX3_gather_96_96 : zc cX3_gather 96 [180, 0, 25, 21, 5, 4, 100, 46, 79, 42, 180, 0, 28, 21, 5, 42] = true := by decide +kernel
set_option maxRecDepth 100000 in
theorem zh_dX3_gather_112_112 : zc cX3_gather 112 [180, 0, 28, 21, 5, 4, 100, 46, 79, 132, 5, 255, 167, 255, 171, 42] = true := by decide +kernel
set_option maxRecDepth 100000 in
theorem zh_dX3_gather_128_128 : zc cX3_gather 128 [180, 0, 25, 21, 5, 29, 79, 42, 180, 0, 28, 21, 5, 21, 4, 79] = true := by decide +kernel
set_option maxRecDepth 100000 in
theorem zh_dX3_gather_144_144 : zc cX3_gather 144 [132, 2, 1, 132, 3, 1, 167, 255, 110, 28, 172] = true := by decide +kernel
set_option maxRecDepth 100000 in
theorem zh_dX3_fitOf_0_0 : zc cX3_fitOf 0 [42, 27, 182, 0, 119, 61, 28, 154, 0, 5, 2, 172, 3, 62, 29, 28] = true := by decide +kernel
set_option maxRecDepth 100000 in
theorem zh_dX3_fitOf_16_16 : zc cX3_fitOf 16 [162, 0, 30, 42, 180, 0, 31, 29, 42, 180, 0, 15, 42, 180, 0, 25] = true := by decide +kernel
set_option maxRecDepth 100000 in
theorem zh_dX3_fitOf_32_32 : zc cX3_fitOf 32 [29, 46, 27, 184, 0, 89, 46, 79, 132, 3, 1, 167, 255, 227, 2, 62] = true := by decide +kernel
set_option maxRecDepth 100000 in
theorem zh_dX3_fitOf_48_48 : zc cX3_fitOf 48 [18, 125, 54, 4, 17, 1, 244, 54, 5, 21, 5, 17, 7, 208, 163, 0] = true := by decide +kernel
set_option maxRecDepth 100000 in
theorem zh_dX3_fitOf_62_64 : zc cX3_fitOf 64 [77, 3, 54, 6, 3, 54, 7, 21, 7, 28, 162, 0, 45, 21, 6, 21] = true := by decide +kernel
set_option maxRecDepth 100000 in
theorem zh_dX3_fitOf_79_80 : zc cX3_fitOf 80 [4, 162, 0, 38, 21, 6, 42, 180, 0, 31, 21, 7, 46, 21, 5, 104] = true := by decide +kernel
set_option maxRecDepth 100000 in
theorem zh_dX3_fitOf_96_96 : zc cX3_fitOf 96 [17, 3, 232, 108, 42, 180, 0, 28, 21, 7, 46, 184, 0, 126, 96, 54] = true := by decide +kernel
set_option maxRecDepth 100000 in
theorem zh_dX3_fitOf_111_112 : zc cX3_fitOf 112 [6, 132, 7, 1, 167, 255, 211, 21, 6, 21, 4, 162, 0, 10, 21, 6] = true := by decide +kernel
set_option maxRecDepth 100000 in
theorem zh_dX3_fitOf_128_128 : zc cX3_fitOf 128 [54, 4, 21, 5, 62, 132, 5, 1, 167, 255, 177, 29, 172] = true := by decide +kernel
theorem dX3_gather_0 : decode cX3_gather 0 = .ok (.iconst 0, 1) := zo_3 (zi_at zh_dX3_gather_0_0 0 rfl)
theorem dX3_gather_1 : decode cX3_gather 1 = .ok (.istore_n 2, 1) := zo_61 (zi_at zh_dX3_gather_0_0 1 rfl)
theorem dX3_gather_2 : decode cX3_gather 2 = .ok (.iconst 0, 1) := zo_3 (zi_at zh_dX3_gather_0_0 2 rfl)
theorem dX3_gather_3 : decode cX3_gather 3 = .ok (.istore_n 3, 1) := zo_62 (zi_at zh_dX3_gather_0_0 3 rfl)
theorem dX3_gather_4 : decode cX3_gather 4 = .ok (.iload_n 3, 1) := zo_29 (zi_at zh_dX3_gather_0_0 4 rfl)
theorem dX3_gather_5 : decode cX3_gather 5 = .ok (.aload_n 0, 1) := zo_42 (zi_at zh_dX3_gather_0_0 5 rfl)
theorem dX3_gather_6 : decode cX3_gather 6 = .ok (.getfield 55, 3) := zo_180 (zi_at zh_dX3_gather_0_0 6 rfl) (zi_at zh_dX3_gather_0_0 7 rfl) (zi_at zh_dX3_gather_0_0 8 rfl) rfl
theorem dX3_gather_9 : decode cX3_gather 9 = .ok (.getfield 63, 3) := zo_180 (zi_at zh_dX3_gather_0_0 9 rfl) (zi_at zh_dX3_gather_0_0 10 rfl) (zi_at zh_dX3_gather_0_0 11 rfl) rfl
theorem dX3_gather_12 : decode cX3_gather 12 = .ok (.invokevirtual 69, 3) := zo_182 (zi_at zh_dX3_gather_0_0 12 rfl) (zi_at zh_dX3_gather_0_0 13 rfl) (zi_at zh_dX3_gather_0_0 14 rfl) rfl
theorem dX3_gather_15 : decode cX3_gather 15 = .ok (.if_icmp .ge 138, 3) := zo_162 (zi_at zh_dX3_gather_0_0 15 rfl) (zi_at zh_dX3_gather_15_16 0 rfl) (zi_at zh_dX3_gather_15_16 1 rfl) rfl
theorem dX3_gather_18 : decode cX3_gather 18 = .ok (.aload_n 0, 1) := zo_42 (zi_at zh_dX3_gather_15_16 2 rfl)
theorem dX3_gather_19 : decode cX3_gather 19 = .ok (.iload_n 3, 1) := zo_29 (zi_at zh_dX3_gather_15_16 3 rfl)
theorem dX3_gather_20 : decode cX3_gather 20 = .ok (.iload_n 1, 1) := zo_27 (zi_at zh_dX3_gather_15_16 4 rfl)
theorem dX3_gather_21 : decode cX3_gather 21 = .ok (.invokevirtual 113, 3) := zo_182 (zi_at zh_dX3_gather_15_16 5 rfl) (zi_at zh_dX3_gather_15_16 6 rfl) (zi_at zh_dX3_gather_15_16 7 rfl) rfl
theorem dX3_gather_24 : decode cX3_gather 24 = .ok (.istore 4, 2) := zo_54 (zi_at zh_dX3_gather_15_16 8 rfl) (zi_at zh_dX3_gather_15_16 9 rfl)
theorem dX3_gather_26 : decode cX3_gather 26 = .ok (.iload 4, 2) := zo_21 (zi_at zh_dX3_gather_15_16 10 rfl) (zi_at zh_dX3_gather_15_16 11 rfl)
theorem dX3_gather_28 : decode cX3_gather 28 = .ok (.ldc 108, 2) := zo_18 (zi_at zh_dX3_gather_15_16 12 rfl) (zi_at zh_dX3_gather_15_16 13 rfl)
theorem dX3_gather_30 : decode cX3_gather 30 = .ok (.if_icmp .ne 6, 3) := zo_160 (zi_at zh_dX3_gather_15_16 14 rfl) (zi_at zh_dX3_gather_15_16 15 rfl) (zi_at zh_dX3_gather_30_32 0 rfl) rfl
theorem dX3_gather_33 : decode cX3_gather 33 = .ok (.goto 114, 3) := zo_167 (zi_at zh_dX3_gather_30_32 1 rfl) (zi_at zh_dX3_gather_30_32 2 rfl) (zi_at zh_dX3_gather_30_32 3 rfl) rfl
theorem dX3_gather_36 : decode cX3_gather 36 = .ok (.iload_n 2, 1) := zo_28 (zi_at zh_dX3_gather_30_32 4 rfl)
theorem dX3_gather_37 : decode cX3_gather 37 = .ok (.istore 5, 2) := zo_54 (zi_at zh_dX3_gather_30_32 5 rfl) (zi_at zh_dX3_gather_30_32 6 rfl)
theorem dX3_gather_39 : decode cX3_gather 39 = .ok (.iload 5, 2) := zo_21 (zi_at zh_dX3_gather_30_32 7 rfl) (zi_at zh_dX3_gather_30_32 8 rfl)
theorem dX3_gather_41 : decode cX3_gather 41 = .ok (.ifCond .le 86, 3) := zo_158 (zi_at zh_dX3_gather_30_32 9 rfl) (zi_at zh_dX3_gather_30_32 10 rfl) (zi_at zh_dX3_gather_30_32 11 rfl) rfl
theorem dX3_gather_44 : decode cX3_gather 44 = .ok (.aload_n 0, 1) := zo_42 (zi_at zh_dX3_gather_30_32 12 rfl)
theorem dX3_gather_45 : decode cX3_gather 45 = .ok (.getfield 55, 3) := zo_180 (zi_at zh_dX3_gather_30_32 13 rfl) (zi_at zh_dX3_gather_30_32 14 rfl) (zi_at zh_dX3_gather_30_32 15 rfl) rfl
theorem dX3_gather_48 : decode cX3_gather 48 = .ok (.getfield 63, 3) := zo_180 (zi_at zh_dX3_gather_48_48 0 rfl) (zi_at zh_dX3_gather_48_48 1 rfl) (zi_at zh_dX3_gather_48_48 2 rfl) rfl
theorem dX3_gather_51 : decode cX3_gather 51 = .ok (.aload_n 0, 1) := zo_42 (zi_at zh_dX3_gather_48_48 3 rfl)
theorem dX3_gather_52 : decode cX3_gather 52 = .ok (.getfield 25, 3) := zo_180 (zi_at zh_dX3_gather_48_48 4 rfl) (zi_at zh_dX3_gather_48_48 5 rfl) (zi_at zh_dX3_gather_48_48 6 rfl) rfl
theorem dX3_gather_55 : decode cX3_gather 55 = .ok (.iload 5, 2) := zo_21 (zi_at zh_dX3_gather_48_48 7 rfl) (zi_at zh_dX3_gather_48_48 8 rfl)
theorem dX3_gather_57 : decode cX3_gather 57 = .ok (.iconst 1, 1) := zo_4 (zi_at zh_dX3_gather_48_48 9 rfl)
theorem dX3_gather_58 : decode cX3_gather 58 = .ok (.isub, 1) := zo_100 (zi_at zh_dX3_gather_48_48 10 rfl)
theorem dX3_gather_59 : decode cX3_gather 59 = .ok (.iaload, 1) := zo_46 (zi_at zh_dX3_gather_48_48 11 rfl)
theorem dX3_gather_60 : decode cX3_gather 60 = .ok (.invokevirtual 99, 3) := zo_182 (zi_at zh_dX3_gather_48_48 12 rfl) (zi_at zh_dX3_gather_48_48 13 rfl) (zi_at zh_dX3_gather_48_48 14 rfl) rfl
theorem dX3_gather_63 : decode cX3_gather 63 = .ok (.checkcast 103, 3) := zo_192 (zi_at zh_dX3_gather_48_48 15 rfl) (zi_at zh_dX3_gather_63_64 0 rfl) (zi_at zh_dX3_gather_63_64 1 rfl) rfl
theorem dX3_gather_66 : decode cX3_gather 66 = .ok (.getfield 116, 3) := zo_180 (zi_at zh_dX3_gather_63_64 2 rfl) (zi_at zh_dX3_gather_63_64 3 rfl) (zi_at zh_dX3_gather_63_64 4 rfl) rfl
theorem dX3_gather_69 : decode cX3_gather 69 = .ok (.aload_n 0, 1) := zo_42 (zi_at zh_dX3_gather_63_64 5 rfl)
theorem dX3_gather_70 : decode cX3_gather 70 = .ok (.getfield 55, 3) := zo_180 (zi_at zh_dX3_gather_63_64 6 rfl) (zi_at zh_dX3_gather_63_64 7 rfl) (zi_at zh_dX3_gather_63_64 8 rfl) rfl
theorem dX3_gather_73 : decode cX3_gather 73 = .ok (.getfield 63, 3) := zo_180 (zi_at zh_dX3_gather_63_64 9 rfl) (zi_at zh_dX3_gather_63_64 10 rfl) (zi_at zh_dX3_gather_63_64 11 rfl) rfl
theorem dX3_gather_76 : decode cX3_gather 76 = .ok (.iload_n 3, 1) := zo_29 (zi_at zh_dX3_gather_63_64 12 rfl)
theorem dX3_gather_77 : decode cX3_gather 77 = .ok (.invokevirtual 99, 3) := zo_182 (zi_at zh_dX3_gather_63_64 13 rfl) (zi_at zh_dX3_gather_63_64 14 rfl) (zi_at zh_dX3_gather_63_64 15 rfl) rfl
theorem dX3_gather_80 : decode cX3_gather 80 = .ok (.checkcast 103, 3) := zo_192 (zi_at zh_dX3_gather_80_80 0 rfl) (zi_at zh_dX3_gather_80_80 1 rfl) (zi_at zh_dX3_gather_80_80 2 rfl) rfl
theorem dX3_gather_83 : decode cX3_gather 83 = .ok (.getfield 116, 3) := zo_180 (zi_at zh_dX3_gather_80_80 3 rfl) (zi_at zh_dX3_gather_80_80 4 rfl) (zi_at zh_dX3_gather_80_80 5 rfl) rfl
theorem dX3_gather_86 : decode cX3_gather 86 = .ok (.if_icmp .le 41, 3) := zo_164 (zi_at zh_dX3_gather_80_80 6 rfl) (zi_at zh_dX3_gather_80_80 7 rfl) (zi_at zh_dX3_gather_80_80 8 rfl) rfl
theorem dX3_gather_89 : decode cX3_gather 89 = .ok (.aload_n 0, 1) := zo_42 (zi_at zh_dX3_gather_80_80 9 rfl)
theorem dX3_gather_90 : decode cX3_gather 90 = .ok (.getfield 25, 3) := zo_180 (zi_at zh_dX3_gather_80_80 10 rfl) (zi_at zh_dX3_gather_80_80 11 rfl) (zi_at zh_dX3_gather_80_80 12 rfl) rfl
theorem dX3_gather_93 : decode cX3_gather 93 = .ok (.iload 5, 2) := zo_21 (zi_at zh_dX3_gather_80_80 13 rfl) (zi_at zh_dX3_gather_80_80 14 rfl)
theorem dX3_gather_95 : decode cX3_gather 95 = .ok (.aload_n 0, 1) := zo_42 (zi_at zh_dX3_gather_80_80 15 rfl)
theorem dX3_gather_96 : decode cX3_gather 96 = .ok (.getfield 25, 3) := zo_180 (zi_at zh_dX3_gather_96_96 0 rfl) (zi_at zh_dX3_gather_96_96 1 rfl) (zi_at zh_dX3_gather_96_96 2 rfl) rfl
theorem dX3_gather_99 : decode cX3_gather 99 = .ok (.iload 5, 2) := zo_21 (zi_at zh_dX3_gather_96_96 3 rfl) (zi_at zh_dX3_gather_96_96 4 rfl)
theorem dX3_gather_101 : decode cX3_gather 101 = .ok (.iconst 1, 1) := zo_4 (zi_at zh_dX3_gather_96_96 5 rfl)
theorem dX3_gather_102 : decode cX3_gather 102 = .ok (.isub, 1) := zo_100 (zi_at zh_dX3_gather_96_96 6 rfl)
theorem dX3_gather_103 : decode cX3_gather 103 = .ok (.iaload, 1) := zo_46 (zi_at zh_dX3_gather_96_96 7 rfl)
theorem dX3_gather_104 : decode cX3_gather 104 = .ok (.iastore, 1) := zo_79 (zi_at zh_dX3_gather_96_96 8 rfl)
theorem dX3_gather_105 : decode cX3_gather 105 = .ok (.aload_n 0, 1) := zo_42 (zi_at zh_dX3_gather_96_96 9 rfl)
theorem dX3_gather_106 : decode cX3_gather 106 = .ok (.getfield 28, 3) := zo_180 (zi_at zh_dX3_gather_96_96 10 rfl) (zi_at zh_dX3_gather_96_96 11 rfl) (zi_at zh_dX3_gather_96_96 12 rfl) rfl
theorem dX3_gather_109 : decode cX3_gather 109 = .ok (.iload 5, 2) := zo_21 (zi_at zh_dX3_gather_96_96 13 rfl) (zi_at zh_dX3_gather_96_96 14 rfl)
theorem dX3_gather_111 : decode cX3_gather 111 = .ok (.aload_n 0, 1) := zo_42 (zi_at zh_dX3_gather_96_96 15 rfl)
theorem dX3_gather_112 : decode cX3_gather 112 = .ok (.getfield 28, 3) := zo_180 (zi_at zh_dX3_gather_112_112 0 rfl) (zi_at zh_dX3_gather_112_112 1 rfl) (zi_at zh_dX3_gather_112_112 2 rfl) rfl
theorem dX3_gather_115 : decode cX3_gather 115 = .ok (.iload 5, 2) := zo_21 (zi_at zh_dX3_gather_112_112 3 rfl) (zi_at zh_dX3_gather_112_112 4 rfl)
theorem dX3_gather_117 : decode cX3_gather 117 = .ok (.iconst 1, 1) := zo_4 (zi_at zh_dX3_gather_112_112 5 rfl)
theorem dX3_gather_118 : decode cX3_gather 118 = .ok (.isub, 1) := zo_100 (zi_at zh_dX3_gather_112_112 6 rfl)
theorem dX3_gather_119 : decode cX3_gather 119 = .ok (.iaload, 1) := zo_46 (zi_at zh_dX3_gather_112_112 7 rfl)
theorem dX3_gather_120 : decode cX3_gather 120 = .ok (.iastore, 1) := zo_79 (zi_at zh_dX3_gather_112_112 8 rfl)
theorem dX3_gather_121 : decode cX3_gather 121 = .ok (.iinc 5 (-1), 3) := zo_132 (zi_at zh_dX3_gather_112_112 9 rfl) (zi_at zh_dX3_gather_112_112 10 rfl) (zi_at zh_dX3_gather_112_112 11 rfl) rfl
theorem dX3_gather_124 : decode cX3_gather 124 = .ok (.goto (-85), 3) := zo_167 (zi_at zh_dX3_gather_112_112 12 rfl) (zi_at zh_dX3_gather_112_112 13 rfl) (zi_at zh_dX3_gather_112_112 14 rfl) rfl
theorem dX3_gather_127 : decode cX3_gather 127 = .ok (.aload_n 0, 1) := zo_42 (zi_at zh_dX3_gather_112_112 15 rfl)
theorem dX3_gather_128 : decode cX3_gather 128 = .ok (.getfield 25, 3) := zo_180 (zi_at zh_dX3_gather_128_128 0 rfl) (zi_at zh_dX3_gather_128_128 1 rfl) (zi_at zh_dX3_gather_128_128 2 rfl) rfl
theorem dX3_gather_131 : decode cX3_gather 131 = .ok (.iload 5, 2) := zo_21 (zi_at zh_dX3_gather_128_128 3 rfl) (zi_at zh_dX3_gather_128_128 4 rfl)
theorem dX3_gather_133 : decode cX3_gather 133 = .ok (.iload_n 3, 1) := zo_29 (zi_at zh_dX3_gather_128_128 5 rfl)
theorem dX3_gather_134 : decode cX3_gather 134 = .ok (.iastore, 1) := zo_79 (zi_at zh_dX3_gather_128_128 6 rfl)
theorem dX3_gather_135 : decode cX3_gather 135 = .ok (.aload_n 0, 1) := zo_42 (zi_at zh_dX3_gather_128_128 7 rfl)
theorem dX3_gather_136 : decode cX3_gather 136 = .ok (.getfield 28, 3) := zo_180 (zi_at zh_dX3_gather_128_128 8 rfl) (zi_at zh_dX3_gather_128_128 9 rfl) (zi_at zh_dX3_gather_128_128 10 rfl) rfl
theorem dX3_gather_139 : decode cX3_gather 139 = .ok (.iload 5, 2) := zo_21 (zi_at zh_dX3_gather_128_128 11 rfl) (zi_at zh_dX3_gather_128_128 12 rfl)
theorem dX3_gather_141 : decode cX3_gather 141 = .ok (.iload 4, 2) := zo_21 (zi_at zh_dX3_gather_128_128 13 rfl) (zi_at zh_dX3_gather_128_128 14 rfl)
theorem dX3_gather_143 : decode cX3_gather 143 = .ok (.iastore, 1) := zo_79 (zi_at zh_dX3_gather_128_128 15 rfl)
theorem dX3_gather_144 : decode cX3_gather 144 = .ok (.iinc 2 1, 3) := zo_132 (zi_at zh_dX3_gather_144_144 0 rfl) (zi_at zh_dX3_gather_144_144 1 rfl) (zi_at zh_dX3_gather_144_144 2 rfl) rfl
theorem dX3_gather_147 : decode cX3_gather 147 = .ok (.iinc 3 1, 3) := zo_132 (zi_at zh_dX3_gather_144_144 3 rfl) (zi_at zh_dX3_gather_144_144 4 rfl) (zi_at zh_dX3_gather_144_144 5 rfl) rfl
theorem dX3_gather_150 : decode cX3_gather 150 = .ok (.goto (-146), 3) := zo_167 (zi_at zh_dX3_gather_144_144 6 rfl) (zi_at zh_dX3_gather_144_144 7 rfl) (zi_at zh_dX3_gather_144_144 8 rfl) rfl
theorem dX3_gather_153 : decode cX3_gather 153 = .ok (.iload_n 2, 1) := zo_28 (zi_at zh_dX3_gather_144_144 9 rfl)
theorem dX3_gather_154 : decode cX3_gather 154 = .ok (.ireturn, 1) := zo_172 (zi_at zh_dX3_gather_144_144 10 rfl)
theorem dX3_fitOf_0 : decode cX3_fitOf 0 = .ok (.aload_n 0, 1) := zo_42 (zi_at zh_dX3_fitOf_0_0 0 rfl)
theorem dX3_fitOf_1 : decode cX3_fitOf 1 = .ok (.iload_n 1, 1) := zo_27 (zi_at zh_dX3_fitOf_0_0 1 rfl)
theorem dX3_fitOf_2 : decode cX3_fitOf 2 = .ok (.invokevirtual 119, 3) := zo_182 (zi_at zh_dX3_fitOf_0_0 2 rfl) (zi_at zh_dX3_fitOf_0_0 3 rfl) (zi_at zh_dX3_fitOf_0_0 4 rfl) rfl
theorem dX3_fitOf_5 : decode cX3_fitOf 5 = .ok (.istore_n 2, 1) := zo_61 (zi_at zh_dX3_fitOf_0_0 5 rfl)
theorem dX3_fitOf_6 : decode cX3_fitOf 6 = .ok (.iload_n 2, 1) := zo_28 (zi_at zh_dX3_fitOf_0_0 6 rfl)
theorem dX3_fitOf_7 : decode cX3_fitOf 7 = .ok (.ifCond .ne 5, 3) := zo_154 (zi_at zh_dX3_fitOf_0_0 7 rfl) (zi_at zh_dX3_fitOf_0_0 8 rfl) (zi_at zh_dX3_fitOf_0_0 9 rfl) rfl
theorem dX3_fitOf_10 : decode cX3_fitOf 10 = .ok (.iconst (-1), 1) := zo_2 (zi_at zh_dX3_fitOf_0_0 10 rfl)
theorem dX3_fitOf_11 : decode cX3_fitOf 11 = .ok (.ireturn, 1) := zo_172 (zi_at zh_dX3_fitOf_0_0 11 rfl)
theorem dX3_fitOf_12 : decode cX3_fitOf 12 = .ok (.iconst 0, 1) := zo_3 (zi_at zh_dX3_fitOf_0_0 12 rfl)
theorem dX3_fitOf_13 : decode cX3_fitOf 13 = .ok (.istore_n 3, 1) := zo_62 (zi_at zh_dX3_fitOf_0_0 13 rfl)
theorem dX3_fitOf_14 : decode cX3_fitOf 14 = .ok (.iload_n 3, 1) := zo_29 (zi_at zh_dX3_fitOf_0_0 14 rfl)
theorem dX3_fitOf_15 : decode cX3_fitOf 15 = .ok (.iload_n 2, 1) := zo_28 (zi_at zh_dX3_fitOf_0_0 15 rfl)
theorem dX3_fitOf_16 : decode cX3_fitOf 16 = .ok (.if_icmp .ge 30, 3) := zo_162 (zi_at zh_dX3_fitOf_16_16 0 rfl) (zi_at zh_dX3_fitOf_16_16 1 rfl) (zi_at zh_dX3_fitOf_16_16 2 rfl) rfl
theorem dX3_fitOf_19 : decode cX3_fitOf 19 = .ok (.aload_n 0, 1) := zo_42 (zi_at zh_dX3_fitOf_16_16 3 rfl)
theorem dX3_fitOf_20 : decode cX3_fitOf 20 = .ok (.getfield 31, 3) := zo_180 (zi_at zh_dX3_fitOf_16_16 4 rfl) (zi_at zh_dX3_fitOf_16_16 5 rfl) (zi_at zh_dX3_fitOf_16_16 6 rfl) rfl
theorem dX3_fitOf_23 : decode cX3_fitOf 23 = .ok (.iload_n 3, 1) := zo_29 (zi_at zh_dX3_fitOf_16_16 7 rfl)
theorem dX3_fitOf_24 : decode cX3_fitOf 24 = .ok (.aload_n 0, 1) := zo_42 (zi_at zh_dX3_fitOf_16_16 8 rfl)
theorem dX3_fitOf_25 : decode cX3_fitOf 25 = .ok (.getfield 15, 3) := zo_180 (zi_at zh_dX3_fitOf_16_16 9 rfl) (zi_at zh_dX3_fitOf_16_16 10 rfl) (zi_at zh_dX3_fitOf_16_16 11 rfl) rfl
theorem dX3_fitOf_28 : decode cX3_fitOf 28 = .ok (.aload_n 0, 1) := zo_42 (zi_at zh_dX3_fitOf_16_16 12 rfl)
theorem dX3_fitOf_29 : decode cX3_fitOf 29 = .ok (.getfield 25, 3) := zo_180 (zi_at zh_dX3_fitOf_16_16 13 rfl) (zi_at zh_dX3_fitOf_16_16 14 rfl) (zi_at zh_dX3_fitOf_16_16 15 rfl) rfl
theorem dX3_fitOf_32 : decode cX3_fitOf 32 = .ok (.iload_n 3, 1) := zo_29 (zi_at zh_dX3_fitOf_32_32 0 rfl)
theorem dX3_fitOf_33 : decode cX3_fitOf 33 = .ok (.iaload, 1) := zo_46 (zi_at zh_dX3_fitOf_32_32 1 rfl)
theorem dX3_fitOf_34 : decode cX3_fitOf 34 = .ok (.iload_n 1, 1) := zo_27 (zi_at zh_dX3_fitOf_32_32 2 rfl)
theorem dX3_fitOf_35 : decode cX3_fitOf 35 = .ok (.invokestatic 89, 3) := zo_184 (zi_at zh_dX3_fitOf_32_32 3 rfl) (zi_at zh_dX3_fitOf_32_32 4 rfl) (zi_at zh_dX3_fitOf_32_32 5 rfl) rfl
theorem dX3_fitOf_38 : decode cX3_fitOf 38 = .ok (.iaload, 1) := zo_46 (zi_at zh_dX3_fitOf_32_32 6 rfl)
theorem dX3_fitOf_39 : decode cX3_fitOf 39 = .ok (.iastore, 1) := zo_79 (zi_at zh_dX3_fitOf_32_32 7 rfl)
theorem dX3_fitOf_40 : decode cX3_fitOf 40 = .ok (.iinc 3 1, 3) := zo_132 (zi_at zh_dX3_fitOf_32_32 8 rfl) (zi_at zh_dX3_fitOf_32_32 9 rfl) (zi_at zh_dX3_fitOf_32_32 10 rfl) rfl
theorem dX3_fitOf_43 : decode cX3_fitOf 43 = .ok (.goto (-29), 3) := zo_167 (zi_at zh_dX3_fitOf_32_32 11 rfl) (zi_at zh_dX3_fitOf_32_32 12 rfl) (zi_at zh_dX3_fitOf_32_32 13 rfl) rfl
theorem dX3_fitOf_46 : decode cX3_fitOf 46 = .ok (.iconst (-1), 1) := zo_2 (zi_at zh_dX3_fitOf_32_32 14 rfl)
theorem dX3_fitOf_47 : decode cX3_fitOf 47 = .ok (.istore_n 3, 1) := zo_62 (zi_at zh_dX3_fitOf_32_32 15 rfl)
theorem dX3_fitOf_48 : decode cX3_fitOf 48 = .ok (.ldc 125, 2) := zo_18 (zi_at zh_dX3_fitOf_48_48 0 rfl) (zi_at zh_dX3_fitOf_48_48 1 rfl)
theorem dX3_fitOf_50 : decode cX3_fitOf 50 = .ok (.istore 4, 2) := zo_54 (zi_at zh_dX3_fitOf_48_48 2 rfl) (zi_at zh_dX3_fitOf_48_48 3 rfl)
theorem dX3_fitOf_52 : decode cX3_fitOf 52 = .ok (.sipush 500, 3) := zo_17 (zi_at zh_dX3_fitOf_48_48 4 rfl) (zi_at zh_dX3_fitOf_48_48 5 rfl) (zi_at zh_dX3_fitOf_48_48 6 rfl) rfl
theorem dX3_fitOf_55 : decode cX3_fitOf 55 = .ok (.istore 5, 2) := zo_54 (zi_at zh_dX3_fitOf_48_48 7 rfl) (zi_at zh_dX3_fitOf_48_48 8 rfl)
theorem dX3_fitOf_57 : decode cX3_fitOf 57 = .ok (.iload 5, 2) := zo_21 (zi_at zh_dX3_fitOf_48_48 9 rfl) (zi_at zh_dX3_fitOf_48_48 10 rfl)
theorem dX3_fitOf_59 : decode cX3_fitOf 59 = .ok (.sipush 2000, 3) := zo_17 (zi_at zh_dX3_fitOf_48_48 11 rfl) (zi_at zh_dX3_fitOf_48_48 12 rfl) (zi_at zh_dX3_fitOf_48_48 13 rfl) rfl
theorem dX3_fitOf_62 : decode cX3_fitOf 62 = .ok (.if_icmp .gt 77, 3) := zo_163 (zi_at zh_dX3_fitOf_48_48 14 rfl) (zi_at zh_dX3_fitOf_48_48 15 rfl) (zi_at zh_dX3_fitOf_62_64 0 rfl) rfl
theorem dX3_fitOf_65 : decode cX3_fitOf 65 = .ok (.iconst 0, 1) := zo_3 (zi_at zh_dX3_fitOf_62_64 1 rfl)
theorem dX3_fitOf_66 : decode cX3_fitOf 66 = .ok (.istore 6, 2) := zo_54 (zi_at zh_dX3_fitOf_62_64 2 rfl) (zi_at zh_dX3_fitOf_62_64 3 rfl)
theorem dX3_fitOf_68 : decode cX3_fitOf 68 = .ok (.iconst 0, 1) := zo_3 (zi_at zh_dX3_fitOf_62_64 4 rfl)
theorem dX3_fitOf_69 : decode cX3_fitOf 69 = .ok (.istore 7, 2) := zo_54 (zi_at zh_dX3_fitOf_62_64 5 rfl) (zi_at zh_dX3_fitOf_62_64 6 rfl)
theorem dX3_fitOf_71 : decode cX3_fitOf 71 = .ok (.iload 7, 2) := zo_21 (zi_at zh_dX3_fitOf_62_64 7 rfl) (zi_at zh_dX3_fitOf_62_64 8 rfl)
theorem dX3_fitOf_73 : decode cX3_fitOf 73 = .ok (.iload_n 2, 1) := zo_28 (zi_at zh_dX3_fitOf_62_64 9 rfl)
theorem dX3_fitOf_74 : decode cX3_fitOf 74 = .ok (.if_icmp .ge 45, 3) := zo_162 (zi_at zh_dX3_fitOf_62_64 10 rfl) (zi_at zh_dX3_fitOf_62_64 11 rfl) (zi_at zh_dX3_fitOf_62_64 12 rfl) rfl
theorem dX3_fitOf_77 : decode cX3_fitOf 77 = .ok (.iload 6, 2) := zo_21 (zi_at zh_dX3_fitOf_62_64 13 rfl) (zi_at zh_dX3_fitOf_62_64 14 rfl)
theorem dX3_fitOf_79 : decode cX3_fitOf 79 = .ok (.iload 4, 2) := zo_21 (zi_at zh_dX3_fitOf_62_64 15 rfl) (zi_at zh_dX3_fitOf_79_80 0 rfl)
theorem dX3_fitOf_81 : decode cX3_fitOf 81 = .ok (.if_icmp .ge 38, 3) := zo_162 (zi_at zh_dX3_fitOf_79_80 1 rfl) (zi_at zh_dX3_fitOf_79_80 2 rfl) (zi_at zh_dX3_fitOf_79_80 3 rfl) rfl
theorem dX3_fitOf_84 : decode cX3_fitOf 84 = .ok (.iload 6, 2) := zo_21 (zi_at zh_dX3_fitOf_79_80 4 rfl) (zi_at zh_dX3_fitOf_79_80 5 rfl)
theorem dX3_fitOf_86 : decode cX3_fitOf 86 = .ok (.aload_n 0, 1) := zo_42 (zi_at zh_dX3_fitOf_79_80 6 rfl)
theorem dX3_fitOf_87 : decode cX3_fitOf 87 = .ok (.getfield 31, 3) := zo_180 (zi_at zh_dX3_fitOf_79_80 7 rfl) (zi_at zh_dX3_fitOf_79_80 8 rfl) (zi_at zh_dX3_fitOf_79_80 9 rfl) rfl
theorem dX3_fitOf_90 : decode cX3_fitOf 90 = .ok (.iload 7, 2) := zo_21 (zi_at zh_dX3_fitOf_79_80 10 rfl) (zi_at zh_dX3_fitOf_79_80 11 rfl)
theorem dX3_fitOf_92 : decode cX3_fitOf 92 = .ok (.iaload, 1) := zo_46 (zi_at zh_dX3_fitOf_79_80 12 rfl)
theorem dX3_fitOf_93 : decode cX3_fitOf 93 = .ok (.iload 5, 2) := zo_21 (zi_at zh_dX3_fitOf_79_80 13 rfl) (zi_at zh_dX3_fitOf_79_80 14 rfl)
theorem dX3_fitOf_95 : decode cX3_fitOf 95 = .ok (.imul, 1) := zo_104 (zi_at zh_dX3_fitOf_79_80 15 rfl)
theorem dX3_fitOf_96 : decode cX3_fitOf 96 = .ok (.sipush 1000, 3) := zo_17 (zi_at zh_dX3_fitOf_96_96 0 rfl) (zi_at zh_dX3_fitOf_96_96 1 rfl) (zi_at zh_dX3_fitOf_96_96 2 rfl) rfl
theorem dX3_fitOf_99 : decode cX3_fitOf 99 = .ok (.idiv, 1) := zo_108 (zi_at zh_dX3_fitOf_96_96 3 rfl)
theorem dX3_fitOf_100 : decode cX3_fitOf 100 = .ok (.aload_n 0, 1) := zo_42 (zi_at zh_dX3_fitOf_96_96 4 rfl)
theorem dX3_fitOf_101 : decode cX3_fitOf 101 = .ok (.getfield 28, 3) := zo_180 (zi_at zh_dX3_fitOf_96_96 5 rfl) (zi_at zh_dX3_fitOf_96_96 6 rfl) (zi_at zh_dX3_fitOf_96_96 7 rfl) rfl
theorem dX3_fitOf_104 : decode cX3_fitOf 104 = .ok (.iload 7, 2) := zo_21 (zi_at zh_dX3_fitOf_96_96 8 rfl) (zi_at zh_dX3_fitOf_96_96 9 rfl)
theorem dX3_fitOf_106 : decode cX3_fitOf 106 = .ok (.iaload, 1) := zo_46 (zi_at zh_dX3_fitOf_96_96 10 rfl)
theorem dX3_fitOf_107 : decode cX3_fitOf 107 = .ok (.invokestatic 126, 3) := zo_184 (zi_at zh_dX3_fitOf_96_96 11 rfl) (zi_at zh_dX3_fitOf_96_96 12 rfl) (zi_at zh_dX3_fitOf_96_96 13 rfl) rfl
theorem dX3_fitOf_110 : decode cX3_fitOf 110 = .ok (.iadd, 1) := zo_96 (zi_at zh_dX3_fitOf_96_96 14 rfl)
theorem dX3_fitOf_111 : decode cX3_fitOf 111 = .ok (.istore 6, 2) := zo_54 (zi_at zh_dX3_fitOf_96_96 15 rfl) (zi_at zh_dX3_fitOf_111_112 0 rfl)
theorem dX3_fitOf_113 : decode cX3_fitOf 113 = .ok (.iinc 7 1, 3) := zo_132 (zi_at zh_dX3_fitOf_111_112 1 rfl) (zi_at zh_dX3_fitOf_111_112 2 rfl) (zi_at zh_dX3_fitOf_111_112 3 rfl) rfl
theorem dX3_fitOf_116 : decode cX3_fitOf 116 = .ok (.goto (-45), 3) := zo_167 (zi_at zh_dX3_fitOf_111_112 4 rfl) (zi_at zh_dX3_fitOf_111_112 5 rfl) (zi_at zh_dX3_fitOf_111_112 6 rfl) rfl
theorem dX3_fitOf_119 : decode cX3_fitOf 119 = .ok (.iload 6, 2) := zo_21 (zi_at zh_dX3_fitOf_111_112 7 rfl) (zi_at zh_dX3_fitOf_111_112 8 rfl)
theorem dX3_fitOf_121 : decode cX3_fitOf 121 = .ok (.iload 4, 2) := zo_21 (zi_at zh_dX3_fitOf_111_112 9 rfl) (zi_at zh_dX3_fitOf_111_112 10 rfl)
theorem dX3_fitOf_123 : decode cX3_fitOf 123 = .ok (.if_icmp .ge 10, 3) := zo_162 (zi_at zh_dX3_fitOf_111_112 11 rfl) (zi_at zh_dX3_fitOf_111_112 12 rfl) (zi_at zh_dX3_fitOf_111_112 13 rfl) rfl
theorem dX3_fitOf_126 : decode cX3_fitOf 126 = .ok (.iload 6, 2) := zo_21 (zi_at zh_dX3_fitOf_111_112 14 rfl) (zi_at zh_dX3_fitOf_111_112 15 rfl)
theorem dX3_fitOf_128 : decode cX3_fitOf 128 = .ok (.istore 4, 2) := zo_54 (zi_at zh_dX3_fitOf_128_128 0 rfl) (zi_at zh_dX3_fitOf_128_128 1 rfl)
theorem dX3_fitOf_130 : decode cX3_fitOf 130 = .ok (.iload 5, 2) := zo_21 (zi_at zh_dX3_fitOf_128_128 2 rfl) (zi_at zh_dX3_fitOf_128_128 3 rfl)
theorem dX3_fitOf_132 : decode cX3_fitOf 132 = .ok (.istore_n 3, 1) := zo_62 (zi_at zh_dX3_fitOf_128_128 4 rfl)
theorem dX3_fitOf_133 : decode cX3_fitOf 133 = .ok (.iinc 5 1, 3) := zo_132 (zi_at zh_dX3_fitOf_128_128 5 rfl) (zi_at zh_dX3_fitOf_128_128 6 rfl) (zi_at zh_dX3_fitOf_128_128 7 rfl) rfl
theorem dX3_fitOf_136 : decode cX3_fitOf 136 = .ok (.goto (-79), 3) := zo_167 (zi_at zh_dX3_fitOf_128_128 8 rfl) (zi_at zh_dX3_fitOf_128_128 9 rfl) (zi_at zh_dX3_fitOf_128_128 10 rfl) rfl
theorem dX3_fitOf_139 : decode cX3_fitOf 139 = .ok (.iload_n 3, 1) := zo_29 (zi_at zh_dX3_fitOf_128_128 11 rfl)
theorem dX3_fitOf_140 : decode cX3_fitOf 140 = .ok (.ireturn, 1) := zo_172 (zi_at zh_dX3_fitOf_128_128 12 rfl)
theorem hz_yX3_gather_1 : yX3_gather.cls ≠ "java/lang/invoke/MethodHandle" ∧ yX3_gather.cls ≠ "java/lang/invoke/VarHandle" ∧ (parseMethodDescriptor yX3_gather.desc).map (fun d => d.parameters.length) = some 1 := by decide +kernel

def v_gatherX : List Cond := .code yX3_gather cX3_gather 6 (some .int) :: vA
abbrev rm_gatherX : Room := { frames := 4, cells := 0, slots := 0, locals := 160 }
def w_gatherX : Nat → Nat → Bool := wl [47, 48, 51] []
set_option maxHeartbeats 4000000 in
set_option maxRecDepth 100000 in
theorem q_gatherX (l : Launch) (dC : Nat → ClassId) (dI : Nat → Nat → Nat) (cT : Nat → ClassId) (cf : Nat → Nat) (hC : CF cf) (ad : Nat → Nat) (E : Nat → va_E) (sz : Nat) (a0 : Int32) (hI0 : IXL cT (shC cf) (spC cf) (LC cf) ad E) (hh0 : 0 ≤ a0.toInt ∧ a0.toInt ≤ 15) : Met l yX3_gather v_gatherX rm_gatherX (va_Pc [.ref (ad 6), .int a0] (HWL dC dI (TYC cT) cf ad E sz)) (va_Qi (S := Nat → va_E) (fun r u => IXL cT (shC cf) (spC cf) (LC cf) ad u ∧ Kp w_gatherX E u ∧ ((0 ≤ r.toInt ∧ r.toInt ≤ 20) ∧ (GaG E a0.toNatClampNeg (cf 2) r.toNatClampNeg (xi (u 47)) (xi (u 48))))) (HBL dC dI (LC cf) ad) (va_A (WL (LC cf) ad E) sz)) 0 0 (va_A (WL (LC cf) ad E) sz) := by
  obtain ⟨⟨hc0, hc1, hc2, hc3, hc4, hc5⟩, hcr⟩ := id hC
  refine Met.ofW (cc := cX3_gather) (maxL := 6) (ret := (some .int)) (by decide) rfl ?_
  intro p e s m args below meth c s₁ B hml hv
  obtain ⟨hargs, hsz, hP, hK, hD0, hEV⟩ := hv
  subst hsz
  have hx := B.exec
  have hb := B.bytes
  have hr := B.returns
  have hts := atoms_spec (ws := v_gatherX) B.pre
  have hown : s.vm.findClass RX3 = some m.cls := findClass_of_methodNamed B.named
  have hlocks := B.notSynchronized
  have hinX0 : ∀ w ∈ u_ws RX0 TX0 11, w ∈ v_gatherX := fun w h => vA_in _ w (in_X0 w h)
  have hinX3 : ∀ w ∈ u_ws RX3 TX3 18, w ∈ v_gatherX := fun w h => vA_in _ w (in_X3 w h)
  have hinX5 : ∀ w ∈ u_ws RX5 TX5 12, w ∈ v_gatherX := fun w h => vA_in _ w (in_X5 w h)
  generalize hAe : va_A (WL (LC cf) ad E) s.heap.size = A at hEV ⊢
  have hA : ∀ q : Nat, s.heap.size ≤ q → A q := fun q h => by rw [← hAe]; exact Or.inr h
  have hD : va_D A (WL (LC cf) ad E) := by rw [← hAe]; exact hD0.self
  have hS : va_S A s.heap s.heap [] := va_S.rf
  have hI := hI0
  have hKp : Kp w_gatherX E E := Kp.rf
  have hl := lv_entry ([.ref (ad 6), .int a0]) (n := 6) (Nat.le_of_ble_eq_true rfl)
  obtain ⟨Q, hQ⟩ : ∃ Q, Q = MQ below (va_Qi (S := Nat → va_E) (fun r u => IXL cT (shC cf) (spC cf) (LC cf) ad u ∧ Kp w_gatherX E u ∧ ((0 ≤ r.toInt ∧ r.toInt ≤ 20) ∧ (GaG E a0.toNatClampNeg (cf 2) r.toNatClampNeg (xi (u 47)) (xi (u 48))))) (HBL dC dI (LC cf) ad) (A)) args s 0 0 (A) := ⟨_, rfl⟩
  rw [← hQ, show entryFrame m args 6 = _ from (congrArg (fun z => entryFrame m z 6) hargs).trans (lg_entry_eq _ _ _)]
  generalize (lg_sl ([.ref (ad 6), .int a0]) ++ List.replicate (6 - (lg_sl ([.ref (ad 6), .int a0])).length) Slot.unset).toArray = ls at hl ⊢
  have hl : lv_has ls 6 [(0, .ref (ad 6)), (1, .int a0)] := hl
  obtain ⟨g1, hg1⟩ : ∃ g, xi (E 47) = g := ⟨_, rfl⟩
  obtain ⟨g2, hg2⟩ : ∃ g, xi (E 48) = g := ⟨_, rfl⟩
  have z0z : (0 : Int32).toInt = 0 := rfl
  refine lv_iconst (v := 0) hx hb dX3_gather_0 (by decide) ?_
  refine lv_istore_n (lv' := [(2, .int 0), (0, .ref (ad 6)), (1, .int a0)]) hx hb dX3_gather_1 rfl hl (by decide) rfl (fun ls hl => ?_)
  refine lv_iconst (v := 0) hx hb dX3_gather_2 (by decide) ?_
  refine lv_istore_n (lv' := [(3, .int 0), (2, .int 0), (0, .ref (ad 6)), (1, .int a0)]) hx hb dX3_gather_3 rfl hl (by decide) rfl (fun ls hl => ?_)
  have hL4 : ∀ d : Nat, ∀ (g4_47 : Nat → Int32) (g4_48 : Nat → Int32) (v4_3 : Int32) (v4_2 : Int32) (E4_ : Nat → va_E) (H : Heap) (locs : List Loc) (ls : Array Slot), 0 ≤ v4_3.toInt ∧ v4_3.toInt ≤ 20 → 0 ≤ v4_2.toInt ∧ v4_2.toInt ≤ 20 → GaG E a0.toNatClampNeg v4_3.toNatClampNeg v4_2.toNatClampNeg g4_47 g4_48 → v4_2.toInt ≤ v4_3.toInt → v4_3.toInt ≤ ((cf 2 : Nat) : Int) → 20 - v4_3.toInt < (d : Int) → IXL cT (shC cf) (spC cf) (LC cf) ad E4_ → Kp w_gatherX E E4_ → xi (E4_ 47) = g4_47 → xi (E4_ 48) = g4_48 → va_P (dC, dI) vwCl (WL (LC cf) ad E4_) H → va_S A s.heap H locs → lv_has ls 6 [(3, .int v4_3), (2, .int v4_2), (0, .ref (ad 6)), (1, .int a0)] → W p l e (headSpec v_gatherX rm_gatherX).room s m args below meth c H locs 0 0 Q (F0 m 4 ls []) := by
    intro d
    induction d with
    | zero =>
      intro g4_47 g4_48 v4_3 v4_2 E4_ H locs ls hv4_3 hv4_2 hx4_0 hx4_1 hx4_2 hx4_3 hI hKp hr4_47 hr4_48 hP hS hl
      exact absurd hx4_3 (by first | exact ms_zu hv4_3.2 | omega)
    | succ d ih4 =>
      intro g4_47 g4_48 v4_3 v4_2 E4_ H locs ls hv4_3 hv4_2 hx4_0 hx4_1 hx4_2 hx4_3 hI hKp hr4_47 hr4_48 hP hS hl
      refine lv_iload_n hx hb dX3_gather_4 rfl (lv_at hl 0 rfl) ?_
      refine lv_aload_n hx hb dX3_gather_5 rfl (lv_at hl 2 rfl) ?_
      refine th_getL (ci := 4) (C := RX3) (T := TX3) (N := 18) (v := .ref (ad 1)) hx hb hts hinX3 hown hK hP hI 6 (mF 6 rfl) rfl rfl 0 (Nat.le_of_ble_eq_true rfl) (hts _ (vA_in _ _ (in_11 _ (zs16 (zs1 (zs0)))))) (fun _ h9 => h9) (hI.fr 6 (mF 6 rfl) rfl (Nat.le_of_ble_eq_true rfl) 1 rfl) dX3_gather_6 ?_
      refine th_getL (ci := 1) (C := RX0) (T := TX0) (N := 11) (v := .ref (ad 9)) hx hb hts hinX0 hown hK hP hI 1 (mF 1 rfl) rfl rfl 5 (Nat.le_of_ble_eq_true rfl) (hts _ (vA_in _ _ (in_11 _ (zs16 (zs1 (zs1 (zs0))))))) (fun _ h9 => h9) (hI.fr 1 (mF 1 rfl) rfl (Nat.le_of_ble_eq_true rfl) 9 rfl) dX3_gather_9 ?_
      refine th_riL (va_runV (As := []) (rest := [.int v4_3]) ⟨hx, hb, hml, hown, hts⟩ (q_size2 l dC dI cT cf hC ad E4_ H.size hI) (cwV 0 hts (gi_V (in_11 _ (zs16 (zs1 (zs1 (zs1 (zs0)))))) (in_4 _ (zs16 (zs16 (zs1 (zs1 (zs1 (zs0))))))) (in_4 _ (zs16 (zs16 (zs4 (zs0))))) (in_3 _ (zs16 (zs1 (zs1 (zs0))))) (in_4 _ (zs16 (zs1 (zs1 (zs1 (zs0))))))) rfl rfl rfl ⟨rfl, hz_yJx4a65c_size_8abf5_0⟩ ⟨Nat.le_of_ble_eq_true rfl, Nat.le_of_ble_eq_true rfl⟩) ⟨HWL_bl, va_recv hK hP (ci := 0) (q0 := posL 9 (LC cf)) rfl (hI.ob 9 (mF 9 rfl) rfl), (HWL_wi hP hK (WL_D hD) hS hA hEV)⟩ rfl rfl hl.1 rfl (lv_room (Nat.le_of_ble_eq_true rfl)) dX3_gather_12 ⟨Nat.le_of_ble_eq_true rfl, Nat.le_of_ble_eq_true rfl⟩) hS hP (fun r3 H locs hw hP hS => ?_)
      obtain ⟨f4, f5⟩ := hw
      refine lv_icmp_ge (tgt := 153) hx hb dX3_gather_15 (by decide) (fun c6 => ?_) (fun c6 => ?_)
      · --15 taken
        have t7 : r3.toInt ≤ v4_3.toInt := ti_le c6
        refine lv_iload_n hx hb dX3_gather_153 rfl (lv_at hl 1 rfl) ?_
        rw [hQ]
        exact W.iret (v := v4_2) hx hb hr (fun t ht hW => ⟨⟨v4_2, E4_, rfl, ⟨hI, hKp, ⟨hv4_2, (by rw [(show xi (E4_ 47) = g4_47 from hr4_47), (show xi (E4_ 48) = g4_48 from hr4_48)]; have h9 := hx4_0; rw [show v4_3.toNatClampNeg = cf 2 by rw [tn_]; omega] at h9; exact h9)⟩⟩, by show va_P (dC, dI) vwCl (WL (LC cf) ad E4_) t.heap; rw [ht]; exact hP⟩, hS.F ht⟩) hS.2.2 dX3_gather_154
      · --15 not
        have t8 : v4_3.toInt < r3.toInt := ti_nle c6
        have i9 : 0 ≤ v4_3.toInt ∧ v4_3.toInt ≤ 19 := iv_lt_l t8 hv4_3 f4 (by decide)
        have i10 : 1 ≤ r3.toInt ∧ r3.toInt ≤ 20 := iv_lt_r t8 hv4_3 f4 (by decide)
        have i11 : 0 ≤ v4_2.toInt ∧ v4_2.toInt ≤ 19 := by omega
        refine lv_aload_n hx hb dX3_gather_18 rfl (lv_at hl 2 rfl) ?_
        refine lv_iload_n hx hb dX3_gather_19 rfl (lv_at hl 0 rfl) ?_
        refine lv_iload_n hx hb dX3_gather_20 rfl (lv_at hl 3 rfl) ?_
        refine th_iL (va_runV (As := [.int v4_3, .int a0]) (rest := []) ⟨hx, hb, hml, hown, hts⟩ (q_middleOfX l dC dI cT cf hC ad E4_ H.size v4_3 a0 hI i9 (by omega) hh0) (cwV 2 hts (gi_V (in_17 _ (zs16 (zs1 (zs1 (zs0))))) (in_17 _ (zs16 (zs1 (zs1 (zs1 (zs0)))))) (in_17 _ (zs16 (zs4 (zs0)))) (in_11 _ (zs4 (zs4 (zs4 (zs1 (zs1 (zs1 (zs0)))))))) (in_17 _ (zs16 (zs4 (zs1 (zs0)))))) rfl rfl rfl ⟨rfl, hz_yX3_middleOf_2⟩ ⟨Nat.le_of_ble_eq_true rfl, Nat.le_of_ble_eq_true rfl⟩) ⟨HWL_bl, va_recv hK hP (ci := 4) (q0 := posL 6 (LC cf)) rfl (hI.ob 6 (mF 6 rfl) rfl), (HWL_wi hP hK (WL_D hD) hS hA hEV)⟩ rfl rfl hl.1 rfl (lv_room (Nat.le_of_ble_eq_true rfl)) dX3_gather_21 ⟨Nat.le_of_ble_eq_true rfl, Nat.le_of_ble_eq_true rfl⟩) (WL_D hD) hS hA (fun r12 E13 H locs hw hP hS => ?_)
        obtain ⟨hI, kq14, hw⟩ := hw
        have hKb := hKp
        have hKp := hKp.tr kq14 (wl_sub rfl rfl)
        obtain ⟨f15, f16, f17⟩ := hw
        have k18 : MdO E v4_3.toNatClampNeg a0.toNatClampNeg r12 := by have h9 := f17; rw [MdO_cg (E := E) (K64.of hKb (fun o9 ho9 j9 => wl_p rfl rfl ho9)) (hKb.ef 43 (fun _ => rfl)) (hKb.ef 46 (fun _ => rfl))] at h9; exact h9
        refine lv_istore (lv' := [(4, .int r12), (3, .int v4_3), (2, .int v4_2), (0, .ref (ad 6)), (1, .int a0)]) hx hb dX3_gather_24 hl (by decide) rfl (fun ls hl => ?_)
        refine lv_iload hx hb dX3_gather_26 (lv_at hl 0 rfl) ?_
        refine lv_ldc hx hb hown (hts _ (vA_in _ _ (in_13 _ (zs16 (zs16 (zs1 (zs1 (zs0)))))))) dX3_gather_28 ?_
        refine lv_icmp_ne (tgt := 36) hx hb dX3_gather_30 (by decide) (fun c19 => ?_) (fun c19 => ?_)
        · --30 taken
          have t20 : ¬ r12.toInt = -1000000000 := ti_ne c19
          have i21 : -999999999 ≤ r12.toInt ∧ r12.toInt ≤ 400000 := iv_ne_l t20 f15 (il_ (-1000000000))
          have i22 : -100000 ≤ r12.toInt ∧ r12.toInt ≤ 400000 := by omega
          refine lv_iload_n hx hb dX3_gather_36 rfl (lv_at hl 2 rfl) ?_
          refine lv_istore (lv' := [(5, .int v4_2), (4, .int r12), (3, .int v4_3), (2, .int v4_2), (0, .ref (ad 6)), (1, .int a0)]) hx hb dX3_gather_37 hl (by decide) rfl (fun ls hl => ?_)
          have hL39 : ∀ d : Nat, ∀ (g39_47 : Nat → Int32) (g39_48 : Nat → Int32) (v39_5 : Int32) (E39_ : Nat → va_E) (H : Heap) (locs : List Loc) (ls : Array Slot), 0 ≤ v39_5.toInt ∧ v39_5.toInt ≤ 19 → shI g4_47 g39_47 v4_2.toNatClampNeg v39_5.toNatClampNeg → shI g4_48 g39_48 v4_2.toNatClampNeg v39_5.toNatClampNeg → (∀ i9 : Nat, v39_5.toNatClampNeg ≤ i9 → i9 < v4_2.toNatClampNeg → dyC E v4_3.toNatClampNeg < dyC E (g4_47 i9).toNatClampNeg) → v39_5.toInt ≤ v4_2.toInt → v39_5.toInt - 0 < (d : Int) → IXL cT (shC cf) (spC cf) (LC cf) ad E39_ → Kp w_gatherX E E39_ → xi (E39_ 47) = g39_47 → xi (E39_ 48) = g39_48 → va_P (dC, dI) vwCl (WL (LC cf) ad E39_) H → va_S A s.heap H locs → lv_has ls 6 [(5, .int v39_5), (4, .int r12), (3, .int v4_3), (2, .int v4_2), (0, .ref (ad 6)), (1, .int a0)] → W p l e (headSpec v_gatherX rm_gatherX).room s m args below meth c H locs 0 0 Q (F0 m 39 ls []) := by
            intro d
            induction d with
            | zero =>
              intro g39_47 g39_48 v39_5 E39_ H locs ls hv39_5 hx39_0 hx39_1 hx39_2 hx39_3 hx39_4 hI hKp hr39_47 hr39_48 hP hS hl
              exact absurd hx39_4 (by first | exact ms_zd hv39_5.1 | omega)
            | succ d ih39 =>
              intro g39_47 g39_48 v39_5 E39_ H locs ls hv39_5 hx39_0 hx39_1 hx39_2 hx39_3 hx39_4 hI hKp hr39_47 hr39_48 hP hS hl
              refine lv_iload hx hb dX3_gather_39 (lv_at hl 0 rfl) ?_
              refine lv_if_le (tgt := 127) hx hb dX3_gather_41 (by decide) (fun c23 => ?_) (fun c23 => ?_)
              · --41 taken
                have t24 : v39_5.toInt ≤ 0 := ti_le c23
                have i25 : 0 ≤ v39_5.toInt ∧ v39_5.toInt ≤ 0 := iv_le_l t24 hv39_5 (il_ 0) (by decide)
                refine lv_aload_n hx hb dX3_gather_127 rfl (lv_at hl 4 rfl) ?_
                refine th_getL (ci := 4) (C := RX3) (T := TX3) (N := 18) (v := .ref (ad 47)) hx hb hts hinX3 hown hK hP hI 6 (mF 6 rfl) rfl rfl 6 (Nat.le_of_ble_eq_true rfl) (hts _ (vA_in _ _ (in_17 _ (zs4 (zs4 (zs1 (zs1 (zs1 (zs0))))))))) (fun _ h9 => h9) (hI.fr 6 (mF 6 rfl) rfl (Nat.le_of_ble_eq_true rfl) 47 rfl) dX3_gather_128 ?_
                refine lv_iload hx hb dX3_gather_131 (lv_at hl 0 rfl) ?_
                refine lv_iload_n hx hb dX3_gather_133 rfl (lv_at hl 2 rfl) ?_
                have n26 : vp_in v39_5 20 := (iv_in (n := 20) i25 (by decide))
                refine th_iastL hx hb hK hP (WL_D hD) hS hI 47 (mF 47 rfl) rfl rfl n26 (okI (lo := 0) (hi := ((cf 2 - 1 : Nat) : Int)) rfl (by omega)) dX3_gather_134 (fun H locs E27 pw28 hI hP hS => ?_)
                have hKp := hKp.pw pw28 rfl
                obtain ⟨g29, eg29⟩ : ∃ z : Nat → Int32, z = upd g39_47 v39_5.toNatClampNeg v4_3 := ⟨_, rfl⟩
                have hg29 : xi (E27 47) = g29 := by rw [pw28.eu, hr39_47, eg29]
                refine lv_aload_n hx hb dX3_gather_135 rfl (lv_at hl 4 rfl) ?_
                refine th_getL (ci := 4) (C := RX3) (T := TX3) (N := 18) (v := .ref (ad 48)) hx hb hts hinX3 hown hK hP hI 6 (mF 6 rfl) rfl rfl 7 (Nat.le_of_ble_eq_true rfl) (hts _ (vA_in _ _ (in_17 _ (zs4 (zs4 (zs4 (zs0))))))) (fun _ h9 => h9) (hI.fr 6 (mF 6 rfl) rfl (Nat.le_of_ble_eq_true rfl) 48 rfl) dX3_gather_136 ?_
                refine lv_iload hx hb dX3_gather_139 (lv_at hl 0 rfl) ?_
                refine lv_iload hx hb dX3_gather_141 (lv_at hl 1 rfl) ?_
                have n30 : vp_in v39_5 20 := (iv_in (n := 20) i25 (by decide))
                refine th_iastL hx hb hK hP (WL_D hD) hS hI 48 (mF 48 rfl) rfl rfl n30 (okI rfl i22) dX3_gather_143 (fun H locs E31 pw32 hI hP hS => ?_)
                have hKp := hKp.pw pw32 rfl
                obtain ⟨g33, eg33⟩ : ∃ z : Nat → Int32, z = upd g39_48 v39_5.toNatClampNeg r12 := ⟨_, rfl⟩
                have hg33 : xi (E31 48) = g33 := by rw [pw32.eu, ((pw28.ef 48 (Nat.ne_of_beq_eq_false rfl)).trans hr39_48), eg33]
                obtain ⟨y34, ey34⟩ : ∃ y : Int32, y = v4_2 + (1 : Int32) := ⟨_, rfl⟩
                obtain ⟨ty34, iy34⟩ := ti_add (e := 1) (f := 20) i11 ln_1 ey34 (by decide)
                have ty34 : y34.toInt = v4_2.toInt + 1 := ty34
                have iy34 : 1 ≤ y34.toInt ∧ y34.toInt ≤ 20 := iy34
                refine lv_iinc (v := y34) (lv' := [(2, .int y34), (5, .int v39_5), (4, .int r12), (3, .int v4_3), (0, .ref (ad 6)), (1, .int a0)]) hx hb dX3_gather_144 hl (k := 3) rfl (by rw [ey34]; rfl) (by decide) rfl (fun ls hl => ?_)
                obtain ⟨y35, ey35⟩ : ∃ y : Int32, y = v4_3 + (1 : Int32) := ⟨_, rfl⟩
                obtain ⟨ty35, iy35⟩ := ti_add (e := 1) (f := 20) i9 ln_1 ey35 (by decide)
                have ty35 : y35.toInt = v4_3.toInt + 1 := ty35
                have iy35 : 1 ≤ y35.toInt ∧ y35.toInt ≤ 20 := iy35
                refine lv_iinc (v := y35) (lv' := [(3, .int y35), (2, .int y34), (5, .int v39_5), (4, .int r12), (0, .ref (ad 6)), (1, .int a0)]) hx hb dX3_gather_147 hl (k := 3) rfl (by rw [ey35]; rfl) (by decide) rfl (fun ls hl => ?_)
                refine lv_goto (tgt := 4) hx hb dX3_gather_150 (by decide) ?_
                exact ih4 g29 g33 y35 y34 E31 _ _ _ (iv_w iy35 (by decide)) (iv_w iy34 (by decide)) (hx4_0.yes k18 (by omega) (by rw [tn_, tn_]; omega) (hx39_0.fin eg29 rfl) (hx39_1.fin eg33 rfl) rfl (fun i9 h9 => by exfalso; rw [tn_] at h9; omega) hx39_2 (by rw [tn_ y35, tn_ v4_3]; omega) (by rw [tn_ y34, tn_ v4_2]; omega)) (by omega) (by omega) (by first | exact ms_su hx4_3 ty35 (by decide) | omega) hI hKp ((pw32.ef 47 (Nat.ne_of_beq_eq_false rfl)).trans hg29) hg33 hP hS (lv_sub hl [0, 1, 4, 5] rfl)
              · --41 not
                have t36 : (0 : Int) < v39_5.toInt := ti_nle c23
                have i37 : 1 ≤ v39_5.toInt ∧ v39_5.toInt ≤ 19 := iv_lt_r t36 (il_ 0) hv39_5 (by decide)
                refine lv_aload_n hx hb dX3_gather_44 rfl (lv_at hl 4 rfl) ?_
                refine th_getL (ci := 4) (C := RX3) (T := TX3) (N := 18) (v := .ref (ad 1)) hx hb hts hinX3 hown hK hP hI 6 (mF 6 rfl) rfl rfl 0 (Nat.le_of_ble_eq_true rfl) (hts _ (vA_in _ _ (in_11 _ (zs16 (zs1 (zs0)))))) (fun _ h9 => h9) (hI.fr 6 (mF 6 rfl) rfl (Nat.le_of_ble_eq_true rfl) 1 rfl) dX3_gather_45 ?_
                refine th_getL (ci := 1) (C := RX0) (T := TX0) (N := 11) (v := .ref (ad 9)) hx hb hts hinX0 hown hK hP hI 1 (mF 1 rfl) rfl rfl 5 (Nat.le_of_ble_eq_true rfl) (hts _ (vA_in _ _ (in_11 _ (zs16 (zs1 (zs1 (zs0))))))) (fun _ h9 => h9) (hI.fr 1 (mF 1 rfl) rfl (Nat.le_of_ble_eq_true rfl) 9 rfl) dX3_gather_48 ?_
                refine lv_aload_n hx hb dX3_gather_51 rfl (lv_at hl 4 rfl) ?_
                refine th_getL (ci := 4) (C := RX3) (T := TX3) (N := 18) (v := .ref (ad 47)) hx hb hts hinX3 hown hK hP hI 6 (mF 6 rfl) rfl rfl 6 (Nat.le_of_ble_eq_true rfl) (hts _ (vA_in _ _ (in_17 _ (zs4 (zs4 (zs1 (zs1 (zs1 (zs0))))))))) (fun _ h9 => h9) (hI.fr 6 (mF 6 rfl) rfl (Nat.le_of_ble_eq_true rfl) 47 rfl) dX3_gather_52 ?_
                refine lv_iload hx hb dX3_gather_55 (lv_at hl 0 rfl) ?_
                refine lv_iconst (v := 1) hx hb dX3_gather_57 (by decide) ?_
                refine lv_isub hx hb dX3_gather_58 ?_
                refine lv_topi (fun y38 ey38 => ?_)
                obtain ⟨ty38, iy38⟩ := ti_sub (e := 0) (f := 18) i37 ln_1 ey38 (by decide)
                have ty38 : y38.toInt = v39_5.toInt - 1 := ty38
                have iy38 : 0 ≤ y38.toInt ∧ y38.toInt ≤ 18 := iy38
                have n40 : vp_in y38 20 := (iv_in (n := 20) iy38 (by decide))
                refine th_ialdL hx hb hK hP hI 47 (mF 47 rfl) rfl rfl n40 dX3_gather_59 (fun y39 ey39 => ?_)
                have jy39 : 0 ≤ y39.toInt ∧ y39.toInt ≤ ((cf 2 - 1 : Nat) : Int) := hI.el 47 (mF 47 rfl) rfl n40 (fun _ => rfl) ey39
                have iy39 : 0 ≤ y39.toInt ∧ y39.toInt ≤ 19 := by omega
                have ey39 := ey39.trans (congrFun hr39_47 _)
                refine th_rrL (va_runV (As := [.int y39]) (rest := []) ⟨hx, hb, hml, hown, hts⟩ (q_get2 l dC dI cT cf hC ad E39_ H.size y39 hI (by omega)) (cwV 1 hts (gi_V (in_13 _ (zs16 (zs4 (zs1 (zs0))))) (in_4 _ (zs16 (zs16 (zs4 (zs1 (zs1 (zs0))))))) (in_4 _ (zs16 (zs16 (zs4 (zs1 (zs1 (zs1 (zs0)))))))) (in_3 _ (zs16 (zs1 (zs1 (zs0))))) (in_3 _ (zs16 (zs16 (zs4 (zs1 (zs1 (zs1 (zs0))))))))) rfl rfl rfl ⟨rfl, hz_yJx4a65c_get_915e3_1⟩ ⟨Nat.le_of_ble_eq_true rfl, Nat.le_of_ble_eq_true rfl⟩) ⟨HWL_bl, va_recv hK hP (ci := 0) (q0 := posL 9 (LC cf)) rfl (hI.ob 9 (mF 9 rfl) rfl), (HWL_wi hP hK (WL_D hD) hS hA hEV)⟩ rfl rfl hl.1 rfl (lv_room (Nat.le_of_ble_eq_true rfl)) dX3_gather_60 ⟨Nat.le_of_ble_eq_true rfl, Nat.le_of_ble_eq_true rfl⟩) hS hP (fun r41 H locs hw hP hS => ?_)
                obtain rfl := hw
                have lv42 : y39.toNatClampNeg < cf 2 := by rw [tn_]; omega
                refine va_castS (cC := dC 6) hx hb hown (hts _ (vA_in _ _ (in_13 _ (zs16 (zs1 (zs0)))))) (hK.1 6 _ rfl).2 (va_recv hK hP (ci := 6) (q0 := posL (64 * (y39.toNatClampNeg + 1) + 6) (LC cf)) rfl (hI.ob (64 * (y39.toNatClampNeg + 1) + 6) (mP 6 y39.toNatClampNeg (by decide) lv42 (kl_le hC 2 (by decide))) (shC_p 6 y39.toNatClampNeg (by decide)))) dX3_gather_63 ?_
                have i43 : 0 ≤ (xi (E (64 * (y39.toNatClampNeg + 1) + 6)) 1).toInt ∧ (xi (E (64 * (y39.toNatClampNeg + 1) + 6)) 1).toInt ≤ 400 := hI0.iv (64 * (y39.toNatClampNeg + 1) + 6) (mP 6 y39.toNatClampNeg (by decide) lv42 (kl_le hC 2 (by decide))) (shC_p 6 y39.toNatClampNeg (by decide)) (Nat.le_of_ble_eq_true rfl) (spC_p 6 y39.toNatClampNeg (by decide) 1)
                refine th_getL (ci := 6) (C := RX5) (T := TX5) (N := 12) (v := .int (xi (E (64 * (y39.toNatClampNeg + 1) + 6)) 1)) hx hb hts hinX5 hown hK hP hI (64 * (y39.toNatClampNeg + 1) + 6) (mP 6 y39.toNatClampNeg (by decide) lv42 (kl_le hC 2 (by decide))) (shC_p 6 y39.toNatClampNeg (by decide)) rfl 1 (Nat.le_of_ble_eq_true rfl) (hts _ (vA_in _ _ (in_17 _ (zs16 (zs1 (zs0)))))) (fun _ h9 => h9) (th_v0L hKp hI0 (64 * (y39.toNatClampNeg + 1) + 6) (mP 6 y39.toNatClampNeg (by decide) lv42 (kl_le hC 2 (by decide))) (shC_p 6 y39.toNatClampNeg (by decide)) (Nat.le_of_ble_eq_true rfl) (spC_p 6 y39.toNatClampNeg (by decide) 1) (wl_p rfl rfl (by omega))) dX3_gather_66 ?_
                refine lv_aload_n hx hb dX3_gather_69 rfl (lv_at hl 4 rfl) ?_
                refine th_getL (ci := 4) (C := RX3) (T := TX3) (N := 18) (v := .ref (ad 1)) hx hb hts hinX3 hown hK hP hI 6 (mF 6 rfl) rfl rfl 0 (Nat.le_of_ble_eq_true rfl) (hts _ (vA_in _ _ (in_11 _ (zs16 (zs1 (zs0)))))) (fun _ h9 => h9) (hI.fr 6 (mF 6 rfl) rfl (Nat.le_of_ble_eq_true rfl) 1 rfl) dX3_gather_70 ?_
                refine th_getL (ci := 1) (C := RX0) (T := TX0) (N := 11) (v := .ref (ad 9)) hx hb hts hinX0 hown hK hP hI 1 (mF 1 rfl) rfl rfl 5 (Nat.le_of_ble_eq_true rfl) (hts _ (vA_in _ _ (in_11 _ (zs16 (zs1 (zs1 (zs0))))))) (fun _ h9 => h9) (hI.fr 1 (mF 1 rfl) rfl (Nat.le_of_ble_eq_true rfl) 9 rfl) dX3_gather_73 ?_
                refine lv_iload_n hx hb dX3_gather_76 rfl (lv_at hl 2 rfl) ?_
                refine th_rrL (va_runV (As := [.int v4_3]) (rest := [.int (xi (E (64 * (y39.toNatClampNeg + 1) + 6)) 1)]) ⟨hx, hb, hml, hown, hts⟩ (q_get2 l dC dI cT cf hC ad E39_ H.size v4_3 hI (by omega)) (cwV 1 hts (gi_V (in_13 _ (zs16 (zs4 (zs1 (zs0))))) (in_4 _ (zs16 (zs16 (zs4 (zs1 (zs1 (zs0))))))) (in_4 _ (zs16 (zs16 (zs4 (zs1 (zs1 (zs1 (zs0)))))))) (in_3 _ (zs16 (zs1 (zs1 (zs0))))) (in_3 _ (zs16 (zs16 (zs4 (zs1 (zs1 (zs1 (zs0))))))))) rfl rfl rfl ⟨rfl, hz_yJx4a65c_get_915e3_1⟩ ⟨Nat.le_of_ble_eq_true rfl, Nat.le_of_ble_eq_true rfl⟩) ⟨HWL_bl, va_recv hK hP (ci := 0) (q0 := posL 9 (LC cf)) rfl (hI.ob 9 (mF 9 rfl) rfl), (HWL_wi hP hK (WL_D hD) hS hA hEV)⟩ rfl rfl hl.1 rfl (lv_room (Nat.le_of_ble_eq_true rfl)) dX3_gather_77 ⟨Nat.le_of_ble_eq_true rfl, Nat.le_of_ble_eq_true rfl⟩) hS hP (fun r44 H locs hw hP hS => ?_)
                obtain rfl := hw
                have lv45 : v4_3.toNatClampNeg < cf 2 := by rw [tn_]; omega
                refine va_castS (cC := dC 6) hx hb hown (hts _ (vA_in _ _ (in_13 _ (zs16 (zs1 (zs0)))))) (hK.1 6 _ rfl).2 (va_recv hK hP (ci := 6) (q0 := posL (64 * (v4_3.toNatClampNeg + 1) + 6) (LC cf)) rfl (hI.ob (64 * (v4_3.toNatClampNeg + 1) + 6) (mP 6 v4_3.toNatClampNeg (by decide) lv45 (kl_le hC 2 (by decide))) (shC_p 6 v4_3.toNatClampNeg (by decide)))) dX3_gather_80 ?_
                have i46 : 0 ≤ (xi (E (64 * (v4_3.toNatClampNeg + 1) + 6)) 1).toInt ∧ (xi (E (64 * (v4_3.toNatClampNeg + 1) + 6)) 1).toInt ≤ 400 := hI0.iv (64 * (v4_3.toNatClampNeg + 1) + 6) (mP 6 v4_3.toNatClampNeg (by decide) lv45 (kl_le hC 2 (by decide))) (shC_p 6 v4_3.toNatClampNeg (by decide)) (Nat.le_of_ble_eq_true rfl) (spC_p 6 v4_3.toNatClampNeg (by decide) 1)
                refine th_getL (ci := 6) (C := RX5) (T := TX5) (N := 12) (v := .int (xi (E (64 * (v4_3.toNatClampNeg + 1) + 6)) 1)) hx hb hts hinX5 hown hK hP hI (64 * (v4_3.toNatClampNeg + 1) + 6) (mP 6 v4_3.toNatClampNeg (by decide) lv45 (kl_le hC 2 (by decide))) (shC_p 6 v4_3.toNatClampNeg (by decide)) rfl 1 (Nat.le_of_ble_eq_true rfl) (hts _ (vA_in _ _ (in_17 _ (zs16 (zs1 (zs0)))))) (fun _ h9 => h9) (th_v0L hKp hI0 (64 * (v4_3.toNatClampNeg + 1) + 6) (mP 6 v4_3.toNatClampNeg (by decide) lv45 (kl_le hC 2 (by decide))) (shC_p 6 v4_3.toNatClampNeg (by decide)) (Nat.le_of_ble_eq_true rfl) (spC_p 6 v4_3.toNatClampNeg (by decide) 1) (wl_p rfl rfl (by omega))) dX3_gather_83 ?_
                refine lv_icmp_le (tgt := 127) hx hb dX3_gather_86 (by decide) (fun c47 => ?_) (fun c47 => ?_)
                · --86 taken
                  have t48 : (xi (E (64 * (y39.toNatClampNeg + 1) + 6)) 1).toInt ≤ (xi (E (64 * (v4_3.toNatClampNeg + 1) + 6)) 1).toInt := ti_le c47
                  refine lv_aload_n hx hb dX3_gather_127 rfl (lv_at hl 4 rfl) ?_
                  refine th_getL (ci := 4) (C := RX3) (T := TX3) (N := 18) (v := .ref (ad 47)) hx hb hts hinX3 hown hK hP hI 6 (mF 6 rfl) rfl rfl 6 (Nat.le_of_ble_eq_true rfl) (hts _ (vA_in _ _ (in_17 _ (zs4 (zs4 (zs1 (zs1 (zs1 (zs0))))))))) (fun _ h9 => h9) (hI.fr 6 (mF 6 rfl) rfl (Nat.le_of_ble_eq_true rfl) 47 rfl) dX3_gather_128 ?_
                  refine lv_iload hx hb dX3_gather_131 (lv_at hl 0 rfl) ?_
                  refine lv_iload_n hx hb dX3_gather_133 rfl (lv_at hl 2 rfl) ?_
                  have n49 : vp_in v39_5 20 := (iv_in (n := 20) i37 (by decide))
                  refine th_iastL hx hb hK hP (WL_D hD) hS hI 47 (mF 47 rfl) rfl rfl n49 (okI (lo := 0) (hi := ((cf 2 - 1 : Nat) : Int)) rfl (by omega)) dX3_gather_134 (fun H locs E50 pw51 hI hP hS => ?_)
                  have hKp := hKp.pw pw51 rfl
                  obtain ⟨g52, eg52⟩ : ∃ z : Nat → Int32, z = upd g39_47 v39_5.toNatClampNeg v4_3 := ⟨_, rfl⟩
                  have hg52 : xi (E50 47) = g52 := by rw [pw51.eu, hr39_47, eg52]
                  refine lv_aload_n hx hb dX3_gather_135 rfl (lv_at hl 4 rfl) ?_
                  refine th_getL (ci := 4) (C := RX3) (T := TX3) (N := 18) (v := .ref (ad 48)) hx hb hts hinX3 hown hK hP hI 6 (mF 6 rfl) rfl rfl 7 (Nat.le_of_ble_eq_true rfl) (hts _ (vA_in _ _ (in_17 _ (zs4 (zs4 (zs4 (zs0))))))) (fun _ h9 => h9) (hI.fr 6 (mF 6 rfl) rfl (Nat.le_of_ble_eq_true rfl) 48 rfl) dX3_gather_136 ?_
                  refine lv_iload hx hb dX3_gather_139 (lv_at hl 0 rfl) ?_
                  refine lv_iload hx hb dX3_gather_141 (lv_at hl 1 rfl) ?_
                  have n53 : vp_in v39_5 20 := (iv_in (n := 20) i37 (by decide))
                  refine th_iastL hx hb hK hP (WL_D hD) hS hI 48 (mF 48 rfl) rfl rfl n53 (okI rfl i22) dX3_gather_143 (fun H locs E54 pw55 hI hP hS => ?_)
                  have hKp := hKp.pw pw55 rfl
                  obtain ⟨g56, eg56⟩ : ∃ z : Nat → Int32, z = upd g39_48 v39_5.toNatClampNeg r12 := ⟨_, rfl⟩
                  have hg56 : xi (E54 48) = g56 := by rw [pw55.eu, ((pw51.ef 48 (Nat.ne_of_beq_eq_false rfl)).trans hr39_48), eg56]
                  obtain ⟨y57, ey57⟩ : ∃ y : Int32, y = v4_2 + (1 : Int32) := ⟨_, rfl⟩
                  obtain ⟨ty57, iy57⟩ := ti_add (e := 1) (f := 20) i11 ln_1 ey57 (by decide)
                  have ty57 : y57.toInt = v4_2.toInt + 1 := ty57
                  have iy57 : 1 ≤ y57.toInt ∧ y57.toInt ≤ 20 := iy57
                  refine lv_iinc (v := y57) (lv' := [(2, .int y57), (5, .int v39_5), (4, .int r12), (3, .int v4_3), (0, .ref (ad 6)), (1, .int a0)]) hx hb dX3_gather_144 hl (k := 3) rfl (by rw [ey57]; rfl) (by decide) rfl (fun ls hl => ?_)
                  obtain ⟨y58, ey58⟩ : ∃ y : Int32, y = v4_3 + (1 : Int32) := ⟨_, rfl⟩
                  obtain ⟨ty58, iy58⟩ := ti_add (e := 1) (f := 20) i9 ln_1 ey58 (by decide)
                  have ty58 : y58.toInt = v4_3.toInt + 1 := ty58
                  have iy58 : 1 ≤ y58.toInt ∧ y58.toInt ≤ 20 := iy58
                  refine lv_iinc (v := y58) (lv' := [(3, .int y58), (2, .int y57), (5, .int v39_5), (4, .int r12), (0, .ref (ad 6)), (1, .int a0)]) hx hb dX3_gather_147 hl (k := 3) rfl (by rw [ey58]; rfl) (by decide) rfl (fun ls hl => ?_)
                  refine lv_goto (tgt := 4) hx hb dX3_gather_150 (by decide) ?_
                  exact ih4 g52 g56 y58 y57 E54 _ _ _ (iv_w iy58 (by decide)) (iv_w iy57 (by decide)) (hx4_0.yes k18 (by omega) (by rw [tn_, tn_]; omega) (hx39_0.fin eg52 rfl) (hx39_1.fin eg56 rfl) rfl (fun i9 h9 => by have q7 : dyC E (g4_47 y38.toNatClampNeg).toNatClampNeg ≤ dyC E v4_3.toNatClampNeg := (by rw [← hx39_0.1 y38.toNatClampNeg (by rw [tn_, tn_]; omega), ← ey39]; show (xi (E (64 * (y39.toNatClampNeg + 1) + 6)) 1).toInt ≤ (xi (E (64 * (v4_3.toNatClampNeg + 1) + 6)) 1).toInt; omega); exact dite (i9 = y38.toNatClampNeg) (fun q9 => by rw [q9]; exact q7) (fun q9 => by have q8 : kLt (dyC E) (g4_47 i9).toNatClampNeg (g4_47 y38.toNatClampNeg).toNatClampNeg := hx4_0.2.1 i9 y38.toNatClampNeg (by rw [tn_] at h9 q9 ⊢; omega) (by rw [tn_, tn_]; omega); unfold kLt at q8; omega)) hx39_2 (by rw [tn_ y58, tn_ v4_3]; omega) (by rw [tn_ y57, tn_ v4_2]; omega)) (by omega) (by omega) (by first | exact ms_su hx4_3 ty58 (by decide) | omega) hI hKp ((pw55.ef 47 (Nat.ne_of_beq_eq_false rfl)).trans hg52) hg56 hP hS (lv_sub hl [0, 1, 4, 5] rfl)
                · --86 not
                  have t59 : (xi (E (64 * (v4_3.toNatClampNeg + 1) + 6)) 1).toInt < (xi (E (64 * (y39.toNatClampNeg + 1) + 6)) 1).toInt := ti_nle c47
                  have i60 : 0 ≤ (xi (E (64 * (v4_3.toNatClampNeg + 1) + 6)) 1).toInt ∧ (xi (E (64 * (v4_3.toNatClampNeg + 1) + 6)) 1).toInt ≤ 399 := iv_lt_l t59 i46 i43 (by decide)
                  have i61 : 1 ≤ (xi (E (64 * (y39.toNatClampNeg + 1) + 6)) 1).toInt ∧ (xi (E (64 * (y39.toNatClampNeg + 1) + 6)) 1).toInt ≤ 400 := iv_lt_r t59 i46 i43 (by decide)
                  refine lv_aload_n hx hb dX3_gather_89 rfl (lv_at hl 4 rfl) ?_
                  refine th_getL (ci := 4) (C := RX3) (T := TX3) (N := 18) (v := .ref (ad 47)) hx hb hts hinX3 hown hK hP hI 6 (mF 6 rfl) rfl rfl 6 (Nat.le_of_ble_eq_true rfl) (hts _ (vA_in _ _ (in_17 _ (zs4 (zs4 (zs1 (zs1 (zs1 (zs0))))))))) (fun _ h9 => h9) (hI.fr 6 (mF 6 rfl) rfl (Nat.le_of_ble_eq_true rfl) 47 rfl) dX3_gather_90 ?_
                  refine lv_iload hx hb dX3_gather_93 (lv_at hl 0 rfl) ?_
                  refine lv_aload_n hx hb dX3_gather_95 rfl (lv_at hl 4 rfl) ?_
                  refine th_getL (ci := 4) (C := RX3) (T := TX3) (N := 18) (v := .ref (ad 47)) hx hb hts hinX3 hown hK hP hI 6 (mF 6 rfl) rfl rfl 6 (Nat.le_of_ble_eq_true rfl) (hts _ (vA_in _ _ (in_17 _ (zs4 (zs4 (zs1 (zs1 (zs1 (zs0))))))))) (fun _ h9 => h9) (hI.fr 6 (mF 6 rfl) rfl (Nat.le_of_ble_eq_true rfl) 47 rfl) dX3_gather_96 ?_
                  refine lv_iload hx hb dX3_gather_99 (lv_at hl 0 rfl) ?_
                  refine lv_iconst (v := 1) hx hb dX3_gather_101 (by decide) ?_
                  refine lv_isub hx hb dX3_gather_102 ?_
                  refine lv_topi (fun y62 ey62 => ?_)
                  obtain ⟨ty62, iy62⟩ := ti_sub (e := 0) (f := 18) i37 ln_1 ey62 (by decide)
                  have ty62 : y62.toInt = v39_5.toInt - 1 := ty62
                  have iy62 : 0 ≤ y62.toInt ∧ y62.toInt ≤ 18 := iy62
                  have n64 : vp_in y62 20 := (iv_in (n := 20) iy62 (by decide))
                  refine th_ialdL hx hb hK hP hI 47 (mF 47 rfl) rfl rfl n64 dX3_gather_103 (fun y63 ey63 => ?_)
                  have jy63 : 0 ≤ y63.toInt ∧ y63.toInt ≤ ((cf 2 - 1 : Nat) : Int) := hI.el 47 (mF 47 rfl) rfl n64 (fun _ => rfl) ey63
                  have iy63 : 0 ≤ y63.toInt ∧ y63.toInt ≤ 19 := by omega
                  have ey63 := ey63.trans (congrFun hr39_47 _)
                  have n65 : vp_in v39_5 20 := (iv_in (n := 20) i37 (by decide))
                  refine th_iastL hx hb hK hP (WL_D hD) hS hI 47 (mF 47 rfl) rfl rfl n65 (okI (lo := 0) (hi := ((cf 2 - 1 : Nat) : Int)) rfl (by omega)) dX3_gather_104 (fun H locs E66 pw67 hI hP hS => ?_)
                  have hKp := hKp.pw pw67 rfl
                  obtain ⟨g68, eg68⟩ : ∃ z : Nat → Int32, z = upd g39_47 v39_5.toNatClampNeg y63 := ⟨_, rfl⟩
                  have hg68 : xi (E66 47) = g68 := by rw [pw67.eu, hr39_47, eg68]
                  refine lv_aload_n hx hb dX3_gather_105 rfl (lv_at hl 4 rfl) ?_
                  refine th_getL (ci := 4) (C := RX3) (T := TX3) (N := 18) (v := .ref (ad 48)) hx hb hts hinX3 hown hK hP hI 6 (mF 6 rfl) rfl rfl 7 (Nat.le_of_ble_eq_true rfl) (hts _ (vA_in _ _ (in_17 _ (zs4 (zs4 (zs4 (zs0))))))) (fun _ h9 => h9) (hI.fr 6 (mF 6 rfl) rfl (Nat.le_of_ble_eq_true rfl) 48 rfl) dX3_gather_106 ?_
                  refine lv_iload hx hb dX3_gather_109 (lv_at hl 0 rfl) ?_
                  refine lv_aload_n hx hb dX3_gather_111 rfl (lv_at hl 4 rfl) ?_
                  refine th_getL (ci := 4) (C := RX3) (T := TX3) (N := 18) (v := .ref (ad 48)) hx hb hts hinX3 hown hK hP hI 6 (mF 6 rfl) rfl rfl 7 (Nat.le_of_ble_eq_true rfl) (hts _ (vA_in _ _ (in_17 _ (zs4 (zs4 (zs4 (zs0))))))) (fun _ h9 => h9) (hI.fr 6 (mF 6 rfl) rfl (Nat.le_of_ble_eq_true rfl) 48 rfl) dX3_gather_112 ?_
                  refine lv_iload hx hb dX3_gather_115 (lv_at hl 0 rfl) ?_
                  refine lv_iconst (v := 1) hx hb dX3_gather_117 (by decide) ?_
                  refine lv_isub hx hb dX3_gather_118 ?_
                  refine lv_topi (fun y69 ey69 => ?_)
                  obtain ⟨ty69, iy69⟩ := ti_sub (e := 0) (f := 18) i37 ln_1 ey69 (by decide)
                  have ty69 : y69.toInt = v39_5.toInt - 1 := ty69
                  have iy69 : 0 ≤ y69.toInt ∧ y69.toInt ≤ 18 := iy69
                  have n71 : vp_in y69 20 := (iv_in (n := 20) iy69 (by decide))
                  refine th_ialdL hx hb hK hP hI 48 (mF 48 rfl) rfl rfl n71 dX3_gather_119 (fun y70 ey70 => ?_)
                  have iy70 : -100000 ≤ y70.toInt ∧ y70.toInt ≤ 400000 := hI.el 48 (mF 48 rfl) rfl n71 (fun _ => rfl) ey70
                  have ey70 := ey70.trans (congrFun ((pw67.ef 48 (Nat.ne_of_beq_eq_false rfl)).trans hr39_48) _)
                  have n72 : vp_in v39_5 20 := (iv_in (n := 20) i37 (by decide))
                  refine th_iastL hx hb hK hP (WL_D hD) hS hI 48 (mF 48 rfl) rfl rfl n72 (okI rfl iy70) dX3_gather_120 (fun H locs E73 pw74 hI hP hS => ?_)
                  have hKp := hKp.pw pw74 rfl
                  obtain ⟨g75, eg75⟩ : ∃ z : Nat → Int32, z = upd g39_48 v39_5.toNatClampNeg y70 := ⟨_, rfl⟩
                  have hg75 : xi (E73 48) = g75 := by rw [pw74.eu, ((pw67.ef 48 (Nat.ne_of_beq_eq_false rfl)).trans hr39_48), eg75]
                  obtain ⟨y76, ey76⟩ : ∃ y : Int32, y = v39_5 + (-1 : Int32) := ⟨_, rfl⟩
                  obtain ⟨ty76, iy76⟩ := ti_add (e := 0) (f := 18) i37 ln_m1 ey76 (by decide)
                  have ty76 : y76.toInt = v39_5.toInt + (-1) := ty76
                  have iy76 : 0 ≤ y76.toInt ∧ y76.toInt ≤ 18 := iy76
                  refine lv_iinc (v := y76) (lv' := [(5, .int y76), (4, .int r12), (3, .int v4_3), (2, .int v4_2), (0, .ref (ad 6)), (1, .int a0)]) hx hb dX3_gather_121 hl (k := 0) rfl (by rw [ey76]; rfl) (by decide) rfl (fun ls hl => ?_)
                  refine lv_goto (tgt := 39) hx hb dX3_gather_124 (by decide) ?_
                  exact ih39 g68 g75 y76 E73 _ _ _ (iv_w iy76 (by decide)) (hx39_0.step (show v39_5.toNatClampNeg = y76.toNatClampNeg + 1 by rw [tn_ v39_5, tn_ y76]; omega) (by rw [tn_, tn_]; omega) eg68 rfl (by rw [ey63, (show y62.toNatClampNeg = y76.toNatClampNeg by rw [tn_ y62, tn_ y76]; omega)])) (hx39_1.step (show v39_5.toNatClampNeg = y76.toNatClampNeg + 1 by rw [tn_ v39_5, tn_ y76]; omega) (by rw [tn_, tn_]; omega) eg75 rfl (by rw [ey70, (show y69.toNatClampNeg = y76.toNatClampNeg by rw [tn_ y69, tn_ y76]; omega)])) (fun i9 h8 h9 => dite (i9 = y76.toNatClampNeg) (fun q9 => by rw [q9, ← hx39_0.1 y76.toNatClampNeg (by rw [tn_, tn_]; omega), ← (show y38.toNatClampNeg = y76.toNatClampNeg by rw [tn_ y38, tn_ y76]; omega), ← ey39]; show (xi (E (64 * (v4_3.toNatClampNeg + 1) + 6)) 1).toInt < (xi (E (64 * (y39.toNatClampNeg + 1) + 6)) 1).toInt; omega) (fun q9 => hx39_2 i9 (by have q8 := (show v39_5.toNatClampNeg = y76.toNatClampNeg + 1 by rw [tn_ v39_5, tn_ y76]; omega); omega) h9)) (by omega) (by first | exact ms_sd hx39_4 ty76 (by decide) | exact ms_sd2 hx39_4 ty76 | omega) hI hKp ((pw74.ef 47 (Nat.ne_of_beq_eq_false rfl)).trans hg68) hg75 hP hS (lv_sub hl [0, 1, 2, 3, 4, 5] rfl)
          exact hL39 (20) g4_47 g4_48 v4_2 E13 _ _ _ i11 shI.start shI.start (fun i9 h8 h9 => absurd h9 (Nat.not_lt.mpr h8)) (by omega) (by have h9 := i11; first | exact ms_bd h9.2 (by decide) | omega) hI hKp ((kq14.ef 47 (fun _ => rfl)).trans hr4_47) ((kq14.ef 48 (fun _ => rfl)).trans hr4_48) hP hS (lv_sub hl [0, 1, 2, 3, 4, 5] rfl)
        · --30 not
          have t77 : r12.toInt = -1000000000 := ti_eq c19
          have i78 : -1000000000 ≤ r12.toInt ∧ r12.toInt ≤ -1000000000 := iv_eqi t77 f15 (il_ (-1000000000)) (by decide)
          refine lv_goto (tgt := 147) hx hb dX3_gather_33 (by decide) ?_
          obtain ⟨y79, ey79⟩ : ∃ y : Int32, y = v4_3 + (1 : Int32) := ⟨_, rfl⟩
          obtain ⟨ty79, iy79⟩ := ti_add (e := 1) (f := 20) i9 ln_1 ey79 (by decide)
          have ty79 : y79.toInt = v4_3.toInt + 1 := ty79
          have iy79 : 1 ≤ y79.toInt ∧ y79.toInt ≤ 20 := iy79
          refine lv_iinc (v := y79) (lv' := [(3, .int y79), (4, .int r12), (2, .int v4_2), (0, .ref (ad 6)), (1, .int a0)]) hx hb dX3_gather_147 hl (k := 1) rfl (by rw [ey79]; rfl) (by decide) rfl (fun ls hl => ?_)
          refine lv_goto (tgt := 4) hx hb dX3_gather_150 (by decide) ?_
          exact ih4 g4_47 g4_48 y79 v4_2 E13 _ _ _ (iv_w iy79 (by decide)) (iv_w i11 (by decide)) (hx4_0.no k18 (by omega) (by rw [tn_ y79, tn_ v4_3]; omega)) (by omega) (by omega) (by first | exact ms_su hx4_3 ty79 (by decide) | omega) hI hKp ((kq14.ef 47 (fun _ => rfl)).trans hr4_47) ((kq14.ef 48 (fun _ => rfl)).trans hr4_48) hP hS (lv_sub hl [0, 2, 3, 4] rfl)
  exact hL4 (21) g1 g2 (0 : Int32) (0 : Int32) E _ _ _ (iv_w ln_0 (by decide)) (iv_w ln_0 (by decide)) (show GaG E a0.toNatClampNeg 0 0 _ _ from ⟨⟨fun i9 h9 => absurd h9 (Nat.not_lt_zero i9), fun r9 h9 => absurd h9 (Nat.not_lt_zero r9), fun i9 j9 _ h9 => absurd h9 (Nat.not_lt_zero j9)⟩, fun i9 j9 _ h9 => absurd h9 (Nat.not_lt_zero j9), fun i9 h9 => absurd h9 (Nat.not_lt_zero i9)⟩) (by have z9 := ln_0; omega) (by have z9 := ln_0; omega) (by have h9 := ln_0; first | exact ms_bu h9.1 (by decide) | omega) hI hKp hg1 hg2 hP hS (lv_sub hl [0, 1, 2, 3] rfl)
section
/-! ===== FIT (pure) ===== -/
def FtR (P : Nat → Prop) (F : Int → Nat → Int → Prop) (R : Nat) (fit : Int) : Prop := ((∀ r, r < R → ¬ P r) → fit = -1) ∧ ((∃ r, r < R ∧ P r) → ∃ S : Int → Int, (∀ v, 500 ≤ v → v ≤ 2000 → SmR P (F v) R (S v)) ∧ (500 ≤ fit ∧ fit ≤ 2000) ∧ (∀ v, 500 ≤ v → v < fit → S fit < S v) ∧ ∀ v, fit ≤ v → v ≤ 2000 → S fit ≤ S v)
theorem FtR.un {P P' : Nat → Prop} {F F' : Int → Nat → Int → Prop} {R : Nat} {f f' : Int} (h : FtR P F R f) (h' : FtR P' F' R f') (e : ∀ r, r < R → (P r ↔ P' r)) (t : ∀ v, 500 ≤ v → v ≤ 2000 → ∀ r, r < R → P r → ∀ x x', F v r x → F' v r x' → x = x') : f = f' := by
  by_cases o : ∃ r, r < R ∧ P r
  · have o' : ∃ r, r < R ∧ P' r := by
      obtain ⟨r, h1, h2⟩ := o
      exact ⟨r, h1, (e r h1).mp h2⟩
    obtain ⟨S, s1, s2, s3, s4⟩ := h.2 o
    obtain ⟨S', q1, q2, q3, q4⟩ := h'.2 o'
    have es : ∀ v, 500 ≤ v → v ≤ 2000 → S v = S' v := fun v h1 h2 => SmR.un R _ _ (s1 v h1 h2) (q1 v h1 h2) e (t v h1 h2)
    by_cases c : f < f'
    · have a1 := q3 f s2.1 c
      have a2 := s4 f' (by omega) q2.2
      rw [es f' q2.1 q2.2, es f s2.1 s2.2] at a2
      omega
    · by_cases c2 : f' < f
      · have a1 := s3 f' q2.1 c2
        have a2 := q4 f (by omega) s2.2
        rw [es f' q2.1 q2.2, es f s2.1 s2.2] at a1
        omega
      · omega
  · rw [h.1 (fun r h1 h2 => o ⟨r, h1, h2⟩), h'.1 (fun r h1 h2 => o ⟨r, h1, (e r h1).mpr h2⟩)]
/-- the least so far -/
def FtI (S : Int → Int) (v least fit : Int) : Prop := (v = 500 ∧ fit = -1) ∨ ((500 ≤ fit ∧ fit < v) ∧ least = S fit ∧ (∀ w, 500 ≤ w → w < fit → S fit < S w) ∧ ∀ w, fit ≤ w → w < v → S fit ≤ S w)
theorem FtI.start {S : Int → Int} {v least fit : Int} (h : v = 500) (h2 : fit = -1) : FtI S v least fit := Or.inl ⟨h, h2⟩
theorem FtI.no {S : Int → Int} {v v' least fit : Int} (h : FtI S v least fit) (hv : 500 ≤ v) (hn : ¬ v = 500) (hs : least ≤ S v) (e : v' = v + 1) : FtI S v' least fit := by
  subst e
  rcases h with ⟨h1, -⟩ | ⟨h1, h2, h3, h4⟩
  · exact absurd h1 hn
  · refine Or.inr ⟨⟨h1.1, by omega⟩, h2, h3, fun w q1 q2 => ?_⟩
    by_cases q : w = v
    · subst q
      omega
    · exact h4 w q1 (by omega)
theorem FtI.yes {S : Int → Int} {v v' least fit least' : Int} (h : FtI S v least fit) (hv : 500 ≤ v) (hs : ¬ v = 500 → S v < least) (el : least' = S v) (e : v' = v + 1) : FtI S v' least' v := by
  subst e
  refine Or.inr ⟨⟨hv, by omega⟩, el, fun w q1 q2 => ?_, fun w q1 q2 => ?_⟩
  · rcases h with ⟨h1, -⟩ | ⟨h1, h2, h3, h4⟩
    · omega
    · have h9 := hs (by omega)
      by_cases q : w < fit
      · have := h3 w q1 q
        omega
      · have := h4 w (by omega) q2
        omega
  · have e : w = v := by omega
    subst e
    exact Int.le_refl _
theorem FtI.fin {S : Int → Int} {v least fit : Int} (h : FtI S v least fit) (hv : v = 2001) : (500 ≤ fit ∧ fit ≤ 2000) ∧ (∀ w, 500 ≤ w → w < fit → S fit < S w) ∧ ∀ w, fit ≤ w → w ≤ 2000 → S fit ≤ S w := by
  rcases h with ⟨h1, -⟩ | ⟨h1, h2, h3, h4⟩
  · omega
  · exact ⟨by omega, h3, fun w q1 q2 => h4 w q1 (by omega)⟩
/-- how far a number is from the MIDDLE of a RACE -/
def tFt (s m : Int32) (v : Int) : Int := ab (s.toInt * v / 1000 - m.toInt)
theorem tFt_nn {s m : Int32} {v : Int} : 0 ≤ tFt s m v := ab_0 _
theorem GaG.fit {E : Nat → va_E} {b R n : Nat} {c m o : Nat → Int32} {v least fit : Int} (h : GaG E b R n c m) (ho : ∀ i, i < n → o i = xi (E 44) (16 * (c i).toNatClampNeg + b)) (hn : 0 < n) (hf : FtI (fun v9 : Int => sumF (fun i9 => tFt (o i9) (m i9) v9) n) v least fit) (hv : v = 2001) : FtR (ctO E b) (fun v9 r9 x9 => ∃ m9 : Int32, MdO E r9 b m9 ∧ x9 = tFt (xi (E 44) (16 * r9 + b)) m9 v9) R fit := by
  obtain ⟨h1, h2, h3⟩ := h
  refine ⟨fun z => absurd (h1.1 0 hn).2 (z _ (h1.1 0 hn).1), fun _ => ?_⟩
  obtain ⟨f1, f2, f3⟩ := hf.fin hv
  refine ⟨fun v9 : Int => sumF (fun i9 => tFt (o i9) (m i9) v9) n, fun w _ _ => ?_, f1, f2, f3⟩
  -- the terms by RACE
  have pick : ∀ r, ∃ x : Int, (∀ i, i < n → (c i).toNatClampNeg = r → x = tFt (o i) (m i) w) := fun r => by
    by_cases q : ∃ i, i < n ∧ (c i).toNatClampNeg = r
    · obtain ⟨i, hi, ei⟩ := q
      refine ⟨tFt (o i) (m i) w, fun j hj ej => ?_⟩
      by_cases e : i = j
      · subst e
        rfl
      · exfalso
        rcases Nat.lt_or_gt_of_ne e with g | g
        · exact h1.2.2 i j g hj (ei.trans ej.symm)
        · exact h1.2.2 j i g hi (ej.trans ei.symm)
    · exact ⟨0, fun i hi ei => absurd ⟨i, hi, ei⟩ q⟩
  obtain ⟨f, hfx⟩ := Classical.axiomOfChoice pick
  have e : sumF (fun i9 => tFt (o i9) (m i9) w) n = sumF (fun i9 => f ((fun i => (c i).toNatClampNeg) i9)) n := sumF_cg n (fun i hi => (hfx _ i hi rfl).symm)
  show SmR _ _ R (sumF (fun i9 => tFt (o i9) (m i9) w) n)
  rw [e]
  refine (h1.sum f).cg R _ (fun _ _ => Iff.rfl) (fun r hr hp x hx => ?_)
  obtain ⟨i, hi, ei⟩ := h1.2.1 r hr hp
  have ei' : (c i).toNatClampNeg = r := ei
  refine ⟨m i, ?_, ?_⟩
  · have h9 := h3 i hi
    rw [ei'] at h9
    exact h9
  · rw [hx, hfx r i hi ei', ho i hi, ei']
end
section
def v_capartB : List Cond := .code yX12_apart cX12_apart 2 (some .int) :: vA
abbrev rm_capartB : Room := { frames := 0, cells := 0, slots := 0, locals := 0 }
set_option maxHeartbeats 4000000 in
set_option maxRecDepth 100000 in
theorem q_capartB (l : Launch) (a0 : Int32) (a1 : Int32) (hh0 : -1000000 ≤ a0.toInt ∧ a0.toInt ≤ 1000000) (hh1 : -1000000 ≤ a1.toInt ∧ a1.toInt ≤ 1000000) : Met l yX12_apart v_capartB rm_capartB (va_Pc [.int a0, .int a1] (fun _ => True)) (va_Qi (S := Unit) (fun r _ => (r.toInt = ab (a0.toInt - a1.toInt))) (fun _ _ => True) (fun _ => False)) 0 0 (fun _ => False) := by
  refine Met.ofW (cc := cX12_apart) (maxL := 2) (ret := (some .int)) (by decide) rfl ?_
  intro p e s m args below meth c s₁ B hml hv
  obtain ⟨hargs, -⟩ := hv
  have hx := B.exec
  have hb := B.bytes
  have hr := B.returns
  have hts := atoms_spec (ws := v_capartB) B.pre
  have hown : s.vm.findClass RX12 = some m.cls := findClass_of_methodNamed B.named
  have hlocks := B.notSynchronized
  have hS : va_S (fun _ : Nat => False) s.heap s.heap [] := va_S.rf
  have hl := lv_entry ([.int a0, .int a1]) (n := 2) (Nat.le_of_ble_eq_true rfl)
  obtain ⟨Q, hQ⟩ : ∃ Q, Q = MQ below (va_Qi (S := Unit) (fun r _ => (r.toInt = ab (a0.toInt - a1.toInt))) (fun _ _ => True) (fun _ => False)) args s 0 0 (fun _ => False) := ⟨_, rfl⟩
  rw [← hQ, show entryFrame m args 2 = _ from (congrArg (fun z => entryFrame m z 2) hargs).trans (lg_entry_eq _ _ _)]
  generalize (lg_sl ([.int a0, .int a1]) ++ List.replicate (2 - (lg_sl ([.int a0, .int a1])).length) Slot.unset).toArray = ls at hl ⊢
  have hl : lv_has ls 2 [(0, .int a0), (1, .int a1)] := hl
  refine lv_iload_n hx hb dX12_apart_0 rfl (lv_at hl 0 rfl) ?_
  refine lv_iload_n hx hb dX12_apart_1 rfl (lv_at hl 1 rfl) ?_
  refine lv_icmp_le (tgt := 11) hx hb dX12_apart_2 (by decide) (fun c1 => ?_) (fun c1 => ?_)
  · --2 taken
    have t2 : a0.toInt ≤ a1.toInt := ti_le c1
    refine lv_iload_n hx hb dX12_apart_11 rfl (lv_at hl 1 rfl) ?_
    refine lv_iload_n hx hb dX12_apart_12 rfl (lv_at hl 0 rfl) ?_
    refine lv_isub hx hb dX12_apart_13 ?_
    refine lv_topi (fun y3 ey3 => ?_)
    obtain ⟨ty3, iy3⟩ := ti_sub (e := (-2000000)) (f := 2000000) hh1 hh0 ey3 (by decide)
    have ty3 : y3.toInt = a1.toInt - a0.toInt := ty3
    have iy3 : -2000000 ≤ y3.toInt ∧ y3.toInt ≤ 2000000 := iy3
    rw [hQ]
    exact W.iret (v := y3) hx hb hr (fun t ht hW => ⟨⟨y3, (), rfl, (by unfold ab; omega), trivial⟩, hS.F ht⟩) hS.2.2 dX12_apart_14
  · --2 not
    have t4 : a1.toInt < a0.toInt := ti_nle c1
    have i5 : -1000000 ≤ a1.toInt ∧ a1.toInt ≤ 999999 := iv_lt_l t4 hh1 hh0 (by decide)
    have i6 : -999999 ≤ a0.toInt ∧ a0.toInt ≤ 1000000 := iv_lt_r t4 hh1 hh0 (by decide)
    refine lv_iload_n hx hb dX12_apart_5 rfl (lv_at hl 0 rfl) ?_
    refine lv_iload_n hx hb dX12_apart_6 rfl (lv_at hl 1 rfl) ?_
    refine lv_isub hx hb dX12_apart_7 ?_
    refine lv_topi (fun y7 ey7 => ?_)
    obtain ⟨ty7, iy7⟩ := ti_sub (e := (-1999998)) (f := 2000000) i6 i5 ey7 (by decide)
    have ty7 : y7.toInt = a0.toInt - a1.toInt := ty7
    have iy7 : -1999998 ≤ y7.toInt ∧ y7.toInt ≤ 2000000 := iy7
    refine lv_goto (tgt := 14) hx hb dX12_apart_8 (by decide) ?_
    rw [hQ]
    exact W.iret (v := y7) hx hb hr (fun t ht hW => ⟨⟨y7, (), rfl, (by unfold ab; omega), trivial⟩, hS.F ht⟩) hS.2.2 dX12_apart_14
def v_fitOfX : List Cond := .code yX3_fitOf cX3_fitOf 8 (some .int) :: vA
abbrev rm_fitOfX : Room := { frames := 5, cells := 0, slots := 0, locals := 200 }
def w_fitOfX : Nat → Nat → Bool := wl [47, 48, 49, 51] []
set_option maxHeartbeats 4000000 in
set_option maxRecDepth 100000 in
theorem q_fitOfX (l : Launch) (dC : Nat → ClassId) (dI : Nat → Nat → Nat) (cT : Nat → ClassId) (cf : Nat → Nat) (hC : CF cf) (ad : Nat → Nat) (E : Nat → va_E) (sz : Nat) (a0 : Int32) (hI0 : IXL cT (shC cf) (spC cf) (LC cf) ad E) (hh0 : 0 ≤ a0.toInt ∧ a0.toInt ≤ 15) : Met l yX3_fitOf v_fitOfX rm_fitOfX (va_Pc [.ref (ad 6), .int a0] (HWL dC dI (TYC cT) cf ad E sz)) (va_Qi (S := Nat → va_E) (fun r u => IXL cT (shC cf) (spC cf) (LC cf) ad u ∧ Kp w_fitOfX E u ∧ ((-1 ≤ r.toInt ∧ r.toInt ≤ 2000) ∧ (FtR (ctO E a0.toNatClampNeg) (fun v9 r9 x9 => ∃ m9 : Int32, MdO E r9 a0.toNatClampNeg m9 ∧ x9 = tFt (xi (E 44) (16 * r9 + a0.toNatClampNeg)) m9 v9) (cf 2) r.toInt))) (HBL dC dI (LC cf) ad) (va_A (WL (LC cf) ad E) sz)) 0 0 (va_A (WL (LC cf) ad E) sz) := by
  obtain ⟨⟨hc0, hc1, hc2, hc3, hc4, hc5⟩, hcr⟩ := id hC
  refine Met.ofW (cc := cX3_fitOf) (maxL := 8) (ret := (some .int)) (by decide) rfl ?_
  intro p e s m args below meth c s₁ B hml hv
  obtain ⟨hargs, hsz, hP, hK, hD0, hEV⟩ := hv
  subst hsz
  have hx := B.exec
  have hb := B.bytes
  have hr := B.returns
  have hts := atoms_spec (ws := v_fitOfX) B.pre
  have hown : s.vm.findClass RX3 = some m.cls := findClass_of_methodNamed B.named
  have hlocks := B.notSynchronized
  have hinX3 : ∀ w ∈ u_ws RX3 TX3 18, w ∈ v_fitOfX := fun w h => vA_in _ w (in_X3 w h)
  generalize hAe : va_A (WL (LC cf) ad E) s.heap.size = A at hEV ⊢
  have hA : ∀ q : Nat, s.heap.size ≤ q → A q := fun q h => by rw [← hAe]; exact Or.inr h
  have hD : va_D A (WL (LC cf) ad E) := by rw [← hAe]; exact hD0.self
  have hS : va_S A s.heap s.heap [] := va_S.rf
  have hI := hI0
  have hKp : Kp w_fitOfX E E := Kp.rf
  have hl := lv_entry ([.ref (ad 6), .int a0]) (n := 8) (Nat.le_of_ble_eq_true rfl)
  obtain ⟨Q, hQ⟩ : ∃ Q, Q = MQ below (va_Qi (S := Nat → va_E) (fun r u => IXL cT (shC cf) (spC cf) (LC cf) ad u ∧ Kp w_fitOfX E u ∧ ((-1 ≤ r.toInt ∧ r.toInt ≤ 2000) ∧ (FtR (ctO E a0.toNatClampNeg) (fun v9 r9 x9 => ∃ m9 : Int32, MdO E r9 a0.toNatClampNeg m9 ∧ x9 = tFt (xi (E 44) (16 * r9 + a0.toNatClampNeg)) m9 v9) (cf 2) r.toInt))) (HBL dC dI (LC cf) ad) (A)) args s 0 0 (A) := ⟨_, rfl⟩
  rw [← hQ, show entryFrame m args 8 = _ from (congrArg (fun z => entryFrame m z 8) hargs).trans (lg_entry_eq _ _ _)]
  generalize (lg_sl ([.ref (ad 6), .int a0]) ++ List.replicate (8 - (lg_sl ([.ref (ad 6), .int a0])).length) Slot.unset).toArray = ls at hl ⊢
  have hl : lv_has ls 8 [(0, .ref (ad 6)), (1, .int a0)] := hl
  have z0z : (0 : Int32).toInt = 0 := rfl
  refine lv_aload_n hx hb dX3_fitOf_0 rfl (lv_at hl 0 rfl) ?_
  refine lv_iload_n hx hb dX3_fitOf_1 rfl (lv_at hl 1 rfl) ?_
  refine th_iL (va_runV (As := [.int a0]) (rest := []) ⟨hx, hb, hml, hown, hts⟩ (q_gatherX l dC dI cT cf hC ad E s.heap.size a0 hI hh0) (cwV 1 hts (gi_V (in_17 _ (zs4 (zs4 (zs4 (zs1 (zs0)))))) (in_17 _ (zs4 (zs4 (zs4 (zs1 (zs1 (zs0))))))) (in_17 _ (zs4 (zs4 (zs4 (zs1 (zs1 (zs1 (zs0)))))))) (in_11 _ (zs4 (zs4 (zs4 (zs1 (zs1 (zs1 (zs0)))))))) (in_17 _ (zs16 (zs0)))) rfl rfl rfl ⟨rfl, hz_yX3_gather_1⟩ ⟨Nat.le_of_ble_eq_true rfl, Nat.le_of_ble_eq_true rfl⟩) ⟨HWL_bl, va_recv hK hP (ci := 4) (q0 := posL 6 (LC cf)) rfl (hI.ob 6 (mF 6 rfl) rfl), (HWL_wi hP hK (WL_D hD) hS hA hEV)⟩ rfl rfl hl.1 rfl (lv_room (Nat.le_of_ble_eq_true rfl)) dX3_fitOf_2 ⟨Nat.le_of_ble_eq_true rfl, Nat.le_of_ble_eq_true rfl⟩) (WL_D hD) hS hA (fun r1 E2 H locs hw hP hS => ?_)
  obtain ⟨hI, kq3, hw⟩ := hw
  have hKb := hKp
  have hKp := hKp.tr kq3 (wl_sub rfl rfl)
  obtain ⟨f4, f5⟩ := hw
  obtain ⟨g6, hg6⟩ : ∃ g, xi (E2 47) = g := ⟨_, rfl⟩
  obtain ⟨g7, hg7⟩ : ∃ g, xi (E2 48) = g := ⟨_, rfl⟩
  obtain ⟨g8, hg8⟩ : ∃ g, xi (E2 49) = g := ⟨_, rfl⟩
  have k9 : GaG E a0.toNatClampNeg (cf 2) r1.toNatClampNeg g6 g7 := by have h9 := f5; rw [show xi (E2 47) = g6 from hg6, show xi (E2 48) = g7 from hg7] at h9; exact h9
  refine lv_istore_n (lv' := [(2, .int r1), (0, .ref (ad 6)), (1, .int a0)]) hx hb dX3_fitOf_5 rfl hl (by decide) rfl (fun ls hl => ?_)
  refine lv_iload_n hx hb dX3_fitOf_6 rfl (lv_at hl 0 rfl) ?_
  refine lv_if_ne (tgt := 12) hx hb dX3_fitOf_7 (by decide) (fun c10 => ?_) (fun c10 => ?_)
  · --7 taken
    have t11 : ¬ r1.toInt = 0 := ti_ne c10
    have i12 : 1 ≤ r1.toInt ∧ r1.toInt ≤ 20 := iv_ne_l t11 f4 (il_ 0)
    refine lv_iconst (v := 0) hx hb dX3_fitOf_12 (by decide) ?_
    refine lv_istore_n (lv' := [(3, .int 0), (2, .int r1), (0, .ref (ad 6)), (1, .int a0)]) hx hb dX3_fitOf_13 rfl hl (by decide) rfl (fun ls hl => ?_)
    have hL14 : ∀ d : Nat, ∀ (g14_49 : Nat → Int32) (v14_3 : Int32) (E14_ : Nat → va_E) (H : Heap) (locs : List Loc) (ls : Array Slot), 0 ≤ v14_3.toInt ∧ v14_3.toInt ≤ 20 → (∀ b9 : Nat, b9 < v14_3.toNatClampNeg → g14_49 b9 = xi (E 44) (16 * (g6 b9).toNatClampNeg + a0.toNatClampNeg)) → v14_3.toInt ≤ r1.toInt → 20 - v14_3.toInt < (d : Int) → IXL cT (shC cf) (spC cf) (LC cf) ad E14_ → Kp w_fitOfX E E14_ → xi (E14_ 47) = g6 → xi (E14_ 48) = g7 → xi (E14_ 49) = g14_49 → va_P (dC, dI) vwCl (WL (LC cf) ad E14_) H → va_S A s.heap H locs → lv_has ls 8 [(3, .int v14_3), (2, .int r1), (0, .ref (ad 6)), (1, .int a0)] → W p l e (headSpec v_fitOfX rm_fitOfX).room s m args below meth c H locs 0 0 Q (F0 m 14 ls []) := by
      intro d
      induction d with
      | zero =>
        intro g14_49 v14_3 E14_ H locs ls hv14_3 hx14_0 hx14_1 hx14_2 hI hKp hr14_47 hr14_48 hr14_49 hP hS hl
        exact absurd hx14_2 (by first | exact ms_zu hv14_3.2 | omega)
      | succ d ih14 =>
        intro g14_49 v14_3 E14_ H locs ls hv14_3 hx14_0 hx14_1 hx14_2 hI hKp hr14_47 hr14_48 hr14_49 hP hS hl
        refine lv_iload_n hx hb dX3_fitOf_14 rfl (lv_at hl 0 rfl) ?_
        refine lv_iload_n hx hb dX3_fitOf_15 rfl (lv_at hl 1 rfl) ?_
        refine lv_icmp_ge (tgt := 46) hx hb dX3_fitOf_16 (by decide) (fun c13 => ?_) (fun c13 => ?_)
        · --16 taken
          have t14 : r1.toInt ≤ v14_3.toInt := ti_le c13
          have i15 : 1 ≤ v14_3.toInt ∧ v14_3.toInt ≤ 20 := iv_le_r t14 i12 hv14_3 (by decide)
          refine lv_iconst (v := -1) hx hb dX3_fitOf_46 (by decide) ?_
          refine lv_istore_n (lv' := [(3, .int (-1)), (2, .int r1), (0, .ref (ad 6)), (1, .int a0)]) hx hb dX3_fitOf_47 rfl hl (by decide) rfl (fun ls hl => ?_)
          refine lv_ldc hx hb hown (hts _ (vA_in _ _ (in_13 _ (zs4 (zs1 (zs1 (zs1 (zs0)))))))) dX3_fitOf_48 ?_
          refine lv_istore (lv' := [(4, .int 2147483647), (3, .int (-1)), (2, .int r1), (0, .ref (ad 6)), (1, .int a0)]) hx hb dX3_fitOf_50 hl (by decide) rfl (fun ls hl => ?_)
          refine lv_sipush (v := 500) hx hb dX3_fitOf_52 (by decide) ?_
          refine lv_istore (lv' := [(5, .int 500), (4, .int 2147483647), (3, .int (-1)), (2, .int r1), (0, .ref (ad 6)), (1, .int a0)]) hx hb dX3_fitOf_55 hl (by decide) rfl (fun ls hl => ?_)
          have hL57 : ∀ d : Nat, ∀ (v57_5 : Int32) (v57_4 : Int32) (v57_3 : Int32) (H : Heap) (locs : List Loc) (ls : Array Slot), 500 ≤ v57_5.toInt ∧ v57_5.toInt ≤ 2001 → 0 ≤ v57_4.toInt ∧ v57_4.toInt ≤ 2147483647 → -1 ≤ v57_3.toInt ∧ v57_3.toInt ≤ 2000 → FtI (fun v9 : Int => sumF (fun i9 => tFt (g14_49 i9) (g7 i9) v9) r1.toNatClampNeg) v57_5.toInt v57_4.toInt v57_3.toInt → (v57_5.toInt = 500 → v57_4.toInt = 2147483647) → 500 ≤ v57_5.toInt → 2001 - v57_5.toInt < (d : Int) → va_P (dC, dI) vwCl (WL (LC cf) ad E14_) H → va_S A s.heap H locs → lv_has ls 8 [(5, .int v57_5), (4, .int v57_4), (3, .int v57_3), (2, .int r1), (0, .ref (ad 6)), (1, .int a0)] → W p l e (headSpec v_fitOfX rm_fitOfX).room s m args below meth c H locs 0 0 Q (F0 m 57 ls []) := by
            intro d
            induction d with
            | zero =>
              intro v57_5 v57_4 v57_3 H locs ls hv57_5 hv57_4 hv57_3 hx57_0 hx57_1 hx57_2 hx57_3 hP hS hl
              exact absurd hx57_3 (by first | exact ms_zu hv57_5.2 | omega)
            | succ d ih57 =>
              intro v57_5 v57_4 v57_3 H locs ls hv57_5 hv57_4 hv57_3 hx57_0 hx57_1 hx57_2 hx57_3 hP hS hl
              refine lv_iload hx hb dX3_fitOf_57 (lv_at hl 0 rfl) ?_
              refine lv_sipush (v := 2000) hx hb dX3_fitOf_59 (by decide) ?_
              refine lv_icmp_gt (tgt := 139) hx hb dX3_fitOf_62 (by decide) (fun c16 => ?_) (fun c16 => ?_)
              · --62 taken
                have t17 : (2000 : Int) < v57_5.toInt := ti_lt c16
                have i18 : 2001 ≤ v57_5.toInt ∧ v57_5.toInt ≤ 2001 := iv_lt_r t17 (il_ 2000) hv57_5 (by decide)
                refine lv_iload_n hx hb dX3_fitOf_139 rfl (lv_at hl 2 rfl) ?_
                rw [hQ]
                exact W.iret (v := v57_3) hx hb hr (fun t ht hW => ⟨⟨v57_3, E14_, rfl, ⟨hI, hKp, ⟨hv57_3, (GaG.fit k9 (n := r1.toNatClampNeg) (fun i9 h9 => hx14_0 i9 (by rw [tn_] at h9 ⊢; omega)) (by rw [tn_]; omega) hx57_0 (by omega))⟩⟩, by show va_P (dC, dI) vwCl (WL (LC cf) ad E14_) t.heap; rw [ht]; exact hP⟩, hS.F ht⟩) hS.2.2 dX3_fitOf_140
              · --62 not
                have t19 : v57_5.toInt ≤ 2000 := ti_nlt c16
                have i20 : 500 ≤ v57_5.toInt ∧ v57_5.toInt ≤ 2000 := iv_le_l t19 hv57_5 (il_ 2000) (by decide)
                refine lv_iconst (v := 0) hx hb dX3_fitOf_65 (by decide) ?_
                refine lv_istore (lv' := [(6, .int 0), (5, .int v57_5), (4, .int v57_4), (3, .int v57_3), (2, .int r1), (0, .ref (ad 6)), (1, .int a0)]) hx hb dX3_fitOf_66 hl (by decide) rfl (fun ls hl => ?_)
                refine lv_iconst (v := 0) hx hb dX3_fitOf_68 (by decide) ?_
                refine lv_istore (lv' := [(7, .int 0), (6, .int 0), (5, .int v57_5), (4, .int v57_4), (3, .int v57_3), (2, .int r1), (0, .ref (ad 6)), (1, .int a0)]) hx hb dX3_fitOf_69 hl (by decide) rfl (fun ls hl => ?_)
                have hL71 : ∀ d : Nat, ∀ (v71_7 : Int32) (v71_6 : Int32) (H : Heap) (locs : List Loc) (ls : Array Slot), 0 ≤ v71_7.toInt ∧ v71_7.toInt ≤ 20 → 0 ≤ v71_6.toInt ∧ v71_6.toInt ≤ 16000000 → v71_6.toInt = sumF (fun i9 => tFt (g14_49 i9) (g7 i9) v57_5.toInt) v71_7.toNatClampNeg → v71_7.toInt ≤ r1.toInt → 0 ≤ v71_6.toInt ∧ v71_6.toInt ≤ 800000 * v71_7.toInt → 20 - v71_7.toInt < (d : Int) → va_P (dC, dI) vwCl (WL (LC cf) ad E14_) H → va_S A s.heap H locs → lv_has ls 8 [(7, .int v71_7), (6, .int v71_6), (5, .int v57_5), (4, .int v57_4), (3, .int v57_3), (2, .int r1), (0, .ref (ad 6)), (1, .int a0)] → W p l e (headSpec v_fitOfX rm_fitOfX).room s m args below meth c H locs 0 0 Q (F0 m 71 ls []) := by
                  intro d
                  induction d with
                  | zero =>
                    intro v71_7 v71_6 H locs ls hv71_7 hv71_6 hx71_0 hx71_1 hx71_2 hx71_3 hP hS hl
                    exact absurd hx71_3 (by first | exact ms_zu hv71_7.2 | omega)
                  | succ d ih71 =>
                    intro v71_7 v71_6 H locs ls hv71_7 hv71_6 hx71_0 hx71_1 hx71_2 hx71_3 hP hS hl
                    refine lv_iload hx hb dX3_fitOf_71 (lv_at hl 0 rfl) ?_
                    refine lv_iload_n hx hb dX3_fitOf_73 rfl (lv_at hl 5 rfl) ?_
                    refine lv_icmp_ge (tgt := 119) hx hb dX3_fitOf_74 (by decide) (fun c21 => ?_) (fun c21 => ?_)
                    · --74 taken
                      have t22 : r1.toInt ≤ v71_7.toInt := ti_le c21
                      have i23 : 1 ≤ v71_7.toInt ∧ v71_7.toInt ≤ 20 := iv_le_r t22 i12 hv71_7 (by decide)
                      refine lv_iload hx hb dX3_fitOf_119 (lv_at hl 1 rfl) ?_
                      refine lv_iload hx hb dX3_fitOf_121 (lv_at hl 3 rfl) ?_
                      refine lv_icmp_ge (tgt := 133) hx hb dX3_fitOf_123 (by decide) (fun c24 => ?_) (fun c24 => ?_)
                      · --123 taken
                        have t25 : v57_4.toInt ≤ v71_6.toInt := ti_le c24
                        have i26 : 0 ≤ v57_4.toInt ∧ v57_4.toInt ≤ 16000000 := iv_le_l t25 hv57_4 hv71_6 (by decide)
                        obtain ⟨y27, ey27⟩ : ∃ y : Int32, y = v57_5 + (1 : Int32) := ⟨_, rfl⟩
                        obtain ⟨ty27, iy27⟩ := ti_add (e := 501) (f := 2001) i20 ln_1 ey27 (by decide)
                        have ty27 : y27.toInt = v57_5.toInt + 1 := ty27
                        have iy27 : 501 ≤ y27.toInt ∧ y27.toInt ≤ 2001 := iy27
                        refine lv_iinc (v := y27) (lv' := [(5, .int y27), (7, .int v71_7), (6, .int v71_6), (4, .int v57_4), (3, .int v57_3), (2, .int r1), (0, .ref (ad 6)), (1, .int a0)]) hx hb dX3_fitOf_133 hl (k := 2) rfl (by rw [ey27]; rfl) (by decide) rfl (fun ls hl => ?_)
                        refine lv_goto (tgt := 57) hx hb dX3_fitOf_136 (by decide) ?_
                        exact ih57 y27 v57_4 v57_3 _ _ _ (iv_w iy27 (by decide)) (iv_w i26 (by decide)) hv57_3 (hx57_0.no hx57_2 (fun q9 => by have h8 := hx57_1 q9; omega) (Int.le_trans (show v57_4.toInt ≤ v71_6.toInt by omega) (show v71_6.toInt ≤ (fun v9 : Int => sumF (fun i9 => tFt (g14_49 i9) (g7 i9) v9) r1.toNatClampNeg) v57_5.toInt by rw [hx71_0]; have h9 := sumF_mo (f := fun i9 => tFt (g14_49 i9) (g7 i9) v57_5.toInt) (k := v71_7.toNatClampNeg) (r1.toNatClampNeg - v71_7.toNatClampNeg) (fun i9 _ => tFt_nn); rw [show v71_7.toNatClampNeg + (r1.toNatClampNeg - v71_7.toNatClampNeg) = r1.toNatClampNeg by rw [tn_, tn_]; omega] at h9; exact h9)) (by omega)) (fun q9 => by exfalso; omega) (by omega) (by first | exact ms_su hx57_3 ty27 (by decide) | omega) hP hS (lv_sub hl [0, 3, 4, 5, 6, 7] rfl)
                      · --123 not
                        have t28 : v71_6.toInt < v57_4.toInt := ti_nle c24
                        have i29 : 1 ≤ v57_4.toInt ∧ v57_4.toInt ≤ 2147483647 := iv_lt_r t28 hv71_6 hv57_4 (by decide)
                        refine lv_iload hx hb dX3_fitOf_126 (lv_at hl 1 rfl) ?_
                        refine lv_istore (lv' := [(4, .int v71_6), (7, .int v71_7), (6, .int v71_6), (5, .int v57_5), (3, .int v57_3), (2, .int r1), (0, .ref (ad 6)), (1, .int a0)]) hx hb dX3_fitOf_128 hl (by decide) rfl (fun ls hl => ?_)
                        refine lv_iload hx hb dX3_fitOf_130 (lv_at hl 3 rfl) ?_
                        refine lv_istore_n (lv' := [(3, .int v57_5), (4, .int v71_6), (7, .int v71_7), (6, .int v71_6), (5, .int v57_5), (2, .int r1), (0, .ref (ad 6)), (1, .int a0)]) hx hb dX3_fitOf_132 rfl hl (by decide) rfl (fun ls hl => ?_)
                        obtain ⟨y30, ey30⟩ : ∃ y : Int32, y = v57_5 + (1 : Int32) := ⟨_, rfl⟩
                        obtain ⟨ty30, iy30⟩ := ti_add (e := 501) (f := 2001) i20 ln_1 ey30 (by decide)
                        have ty30 : y30.toInt = v57_5.toInt + 1 := ty30
                        have iy30 : 501 ≤ y30.toInt ∧ y30.toInt ≤ 2001 := iy30
                        refine lv_iinc (v := y30) (lv' := [(5, .int y30), (3, .int v57_5), (4, .int v71_6), (7, .int v71_7), (6, .int v71_6), (2, .int r1), (0, .ref (ad 6)), (1, .int a0)]) hx hb dX3_fitOf_133 hl (k := 4) rfl (by rw [ey30]; rfl) (by decide) rfl (fun ls hl => ?_)
                        refine lv_goto (tgt := 57) hx hb dX3_fitOf_136 (by decide) ?_
                        exact ih57 y30 v71_6 v57_5 _ _ _ (iv_w iy30 (by decide)) (iv_w hv71_6 (by decide)) (iv_w i20 (by decide)) (hx57_0.yes hx57_2 (fun _ => Int.lt_of_le_of_lt (Int.le_of_eq (Eq.symm (show v71_6.toInt = (fun v9 : Int => sumF (fun i9 => tFt (g14_49 i9) (g7 i9) v9) r1.toNatClampNeg) v57_5.toInt by have h9 := hx71_0; rw [show v71_7.toNatClampNeg = r1.toNatClampNeg by rw [tn_, tn_]; omega] at h9; exact h9))) (by omega)) (show v71_6.toInt = (fun v9 : Int => sumF (fun i9 => tFt (g14_49 i9) (g7 i9) v9) r1.toNatClampNeg) v57_5.toInt by have h9 := hx71_0; rw [show v71_7.toNatClampNeg = r1.toNatClampNeg by rw [tn_, tn_]; omega] at h9; exact h9) (by omega)) (fun q9 => by exfalso; omega) (by omega) (by first | exact ms_su hx57_3 ty30 (by decide) | omega) hP hS (lv_sub hl [0, 2, 1, 5, 6, 7] rfl)
                    · --74 not
                      have t31 : v71_7.toInt < r1.toInt := ti_nle c21
                      have i32 : 0 ≤ v71_7.toInt ∧ v71_7.toInt ≤ 19 := iv_lt_l t31 hv71_7 i12 (by decide)
                      refine lv_iload hx hb dX3_fitOf_77 (lv_at hl 1 rfl) ?_
                      refine lv_iload hx hb dX3_fitOf_79 (lv_at hl 3 rfl) ?_
                      refine lv_icmp_ge (tgt := 119) hx hb dX3_fitOf_81 (by decide) (fun c33 => ?_) (fun c33 => ?_)
                      · --81 taken
                        have t34 : v57_4.toInt ≤ v71_6.toInt := ti_le c33
                        have i35 : 0 ≤ v57_4.toInt ∧ v57_4.toInt ≤ 16000000 := iv_le_l t34 hv57_4 hv71_6 (by decide)
                        refine lv_iload hx hb dX3_fitOf_119 (lv_at hl 1 rfl) ?_
                        refine lv_iload hx hb dX3_fitOf_121 (lv_at hl 3 rfl) ?_
                        refine lv_icmp_ge (tgt := 133) hx hb dX3_fitOf_123 (by decide) (fun c36 => ?_) (fun c36 => ?_)
                        · --123 taken
                          have t37 : v57_4.toInt ≤ v71_6.toInt := ti_le c36
                          obtain ⟨y38, ey38⟩ : ∃ y : Int32, y = v57_5 + (1 : Int32) := ⟨_, rfl⟩
                          obtain ⟨ty38, iy38⟩ := ti_add (e := 501) (f := 2001) i20 ln_1 ey38 (by decide)
                          have ty38 : y38.toInt = v57_5.toInt + 1 := ty38
                          have iy38 : 501 ≤ y38.toInt ∧ y38.toInt ≤ 2001 := iy38
                          refine lv_iinc (v := y38) (lv' := [(5, .int y38), (7, .int v71_7), (6, .int v71_6), (4, .int v57_4), (3, .int v57_3), (2, .int r1), (0, .ref (ad 6)), (1, .int a0)]) hx hb dX3_fitOf_133 hl (k := 2) rfl (by rw [ey38]; rfl) (by decide) rfl (fun ls hl => ?_)
                          refine lv_goto (tgt := 57) hx hb dX3_fitOf_136 (by decide) ?_
                          exact ih57 y38 v57_4 v57_3 _ _ _ (iv_w iy38 (by decide)) (iv_w i35 (by decide)) hv57_3 (hx57_0.no hx57_2 (fun q9 => by have h8 := hx57_1 q9; omega) (Int.le_trans (show v57_4.toInt ≤ v71_6.toInt by omega) (show v71_6.toInt ≤ (fun v9 : Int => sumF (fun i9 => tFt (g14_49 i9) (g7 i9) v9) r1.toNatClampNeg) v57_5.toInt by rw [hx71_0]; have h9 := sumF_mo (f := fun i9 => tFt (g14_49 i9) (g7 i9) v57_5.toInt) (k := v71_7.toNatClampNeg) (r1.toNatClampNeg - v71_7.toNatClampNeg) (fun i9 _ => tFt_nn); rw [show v71_7.toNatClampNeg + (r1.toNatClampNeg - v71_7.toNatClampNeg) = r1.toNatClampNeg by rw [tn_, tn_]; omega] at h9; exact h9)) (by omega)) (fun q9 => by exfalso; omega) (by omega) (by first | exact ms_su hx57_3 ty38 (by decide) | omega) hP hS (lv_sub hl [0, 3, 4, 5, 6, 7] rfl)
                        · --123 not
                          have t39 : v71_6.toInt < v57_4.toInt := ti_nle c36
                          have i40 : 0 ≤ v71_6.toInt ∧ v71_6.toInt ≤ 15999999 := iv_lt_l t39 hv71_6 i35 (by decide)
                          have i41 : 1 ≤ v57_4.toInt ∧ v57_4.toInt ≤ 16000000 := iv_lt_r t39 hv71_6 i35 (by decide)
                          refine lv_iload hx hb dX3_fitOf_126 (lv_at hl 1 rfl) ?_
                          refine lv_istore (lv' := [(4, .int v71_6), (7, .int v71_7), (6, .int v71_6), (5, .int v57_5), (3, .int v57_3), (2, .int r1), (0, .ref (ad 6)), (1, .int a0)]) hx hb dX3_fitOf_128 hl (by decide) rfl (fun ls hl => ?_)
                          refine lv_iload hx hb dX3_fitOf_130 (lv_at hl 3 rfl) ?_
                          refine lv_istore_n (lv' := [(3, .int v57_5), (4, .int v71_6), (7, .int v71_7), (6, .int v71_6), (5, .int v57_5), (2, .int r1), (0, .ref (ad 6)), (1, .int a0)]) hx hb dX3_fitOf_132 rfl hl (by decide) rfl (fun ls hl => ?_)
                          obtain ⟨y42, ey42⟩ : ∃ y : Int32, y = v57_5 + (1 : Int32) := ⟨_, rfl⟩
                          obtain ⟨ty42, iy42⟩ := ti_add (e := 501) (f := 2001) i20 ln_1 ey42 (by decide)
                          have ty42 : y42.toInt = v57_5.toInt + 1 := ty42
                          have iy42 : 501 ≤ y42.toInt ∧ y42.toInt ≤ 2001 := iy42
                          refine lv_iinc (v := y42) (lv' := [(5, .int y42), (3, .int v57_5), (4, .int v71_6), (7, .int v71_7), (6, .int v71_6), (2, .int r1), (0, .ref (ad 6)), (1, .int a0)]) hx hb dX3_fitOf_133 hl (k := 4) rfl (by rw [ey42]; rfl) (by decide) rfl (fun ls hl => ?_)
                          refine lv_goto (tgt := 57) hx hb dX3_fitOf_136 (by decide) ?_
                          exact ih57 y42 v71_6 v57_5 _ _ _ (iv_w iy42 (by decide)) (iv_w i40 (by decide)) (iv_w i20 (by decide)) (hx57_0.yes hx57_2 (fun _ => Int.lt_of_le_of_lt (Int.le_of_eq (Eq.symm (show v71_6.toInt = (fun v9 : Int => sumF (fun i9 => tFt (g14_49 i9) (g7 i9) v9) r1.toNatClampNeg) v57_5.toInt by have h9 := hx71_0; rw [show v71_7.toNatClampNeg = r1.toNatClampNeg by rw [tn_, tn_]; omega] at h9; exact h9))) (by omega)) (show v71_6.toInt = (fun v9 : Int => sumF (fun i9 => tFt (g14_49 i9) (g7 i9) v9) r1.toNatClampNeg) v57_5.toInt by have h9 := hx71_0; rw [show v71_7.toNatClampNeg = r1.toNatClampNeg by rw [tn_, tn_]; omega] at h9; exact h9) (by omega)) (fun q9 => by exfalso; omega) (by omega) (by first | exact ms_su hx57_3 ty42 (by decide) | omega) hP hS (lv_sub hl [0, 2, 1, 5, 6, 7] rfl)
                      · --81 not
                        have t43 : v71_6.toInt < v57_4.toInt := ti_nle c33
                        have i44 : 1 ≤ v57_4.toInt ∧ v57_4.toInt ≤ 2147483647 := iv_lt_r t43 hv71_6 hv57_4 (by decide)
                        have i45 : 0 ≤ v71_6.toInt ∧ v71_6.toInt ≤ 15200000 := by omega
                        refine lv_iload hx hb dX3_fitOf_84 (lv_at hl 1 rfl) ?_
                        refine lv_aload_n hx hb dX3_fitOf_86 rfl (lv_at hl 6 rfl) ?_
                        refine th_getL (ci := 4) (C := RX3) (T := TX3) (N := 18) (v := .ref (ad 49)) hx hb hts hinX3 hown hK hP hI 6 (mF 6 rfl) rfl rfl 8 (Nat.le_of_ble_eq_true rfl) (hts _ (vA_in _ _ (in_17 _ (zs4 (zs4 (zs1 (zs1 (zs0)))))))) (fun _ h9 => h9) (hI.fr 6 (mF 6 rfl) rfl (Nat.le_of_ble_eq_true rfl) 49 rfl) dX3_fitOf_87 ?_
                        refine lv_iload hx hb dX3_fitOf_90 (lv_at hl 0 rfl) ?_
                        have n47 : vp_in v71_7 20 := (iv_in (n := 20) i32 (by decide))
                        refine th_ialdL hx hb hK hP hI 49 (mF 49 rfl) rfl rfl n47 dX3_fitOf_92 (fun y46 ey46 => ?_)
                        have iy46 : 0 ≤ y46.toInt ∧ y46.toInt ≤ 200000 := hI.el 49 (mF 49 rfl) rfl n47 (fun _ => rfl) ey46
                        have ey46 := ey46.trans (congrFun hr14_49 _)
                        refine lv_iload hx hb dX3_fitOf_93 (lv_at hl 2 rfl) ?_
                        refine lv_imul hx hb dX3_fitOf_95 ?_
                        refine lv_topi (fun y48 ey48 => ?_)
                        obtain ⟨ty48, iy48⟩ := ti_mul (e := 0) (f := 400000000) iy46 i20 ey48 (by decide)
                        have ty48 : y48.toInt = y46.toInt * v57_5.toInt := ty48
                        have iy48 : 0 ≤ y48.toInt ∧ y48.toInt ≤ 400000000 := iy48
                        refine lv_sipush (v := 1000) hx hb dX3_fitOf_96 (by decide) ?_
                        refine lv_idiv hx hb dX3_fitOf_99 (by decide) ?_
                        refine lv_topi (fun y49 ey49 => ?_)
                        obtain ⟨ty49, iy49⟩ := ti_div (e := 0) (f := 400000) iy48 ln_1000 ey49 (by decide)
                        have iy49 : 0 ≤ y49.toInt ∧ y49.toInt ≤ 400000 := iy49
                        refine lv_aload_n hx hb dX3_fitOf_100 rfl (lv_at hl 6 rfl) ?_
                        refine th_getL (ci := 4) (C := RX3) (T := TX3) (N := 18) (v := .ref (ad 48)) hx hb hts hinX3 hown hK hP hI 6 (mF 6 rfl) rfl rfl 7 (Nat.le_of_ble_eq_true rfl) (hts _ (vA_in _ _ (in_17 _ (zs4 (zs4 (zs4 (zs0))))))) (fun _ h9 => h9) (hI.fr 6 (mF 6 rfl) rfl (Nat.le_of_ble_eq_true rfl) 48 rfl) dX3_fitOf_101 ?_
                        refine lv_iload hx hb dX3_fitOf_104 (lv_at hl 0 rfl) ?_
                        have n51 : vp_in v71_7 20 := (iv_in (n := 20) i32 (by decide))
                        refine th_ialdL hx hb hK hP hI 48 (mF 48 rfl) rfl rfl n51 dX3_fitOf_106 (fun y50 ey50 => ?_)
                        have iy50 : -100000 ≤ y50.toInt ∧ y50.toInt ≤ 400000 := hI.el 48 (mF 48 rfl) rfl n51 (fun _ => rfl) ey50
                        have ey50 := ey50.trans (congrFun hr14_48 _)
                        refine th_pi (va_runSN (As := [.int y49, .int y50]) (rest := [.int v71_6]) ⟨hx, hb, hml, hown, hts⟩ (q_capartB l y49 y50 (iv_w iy49 (by decide)) (iv_w iy50 (by decide))) ⟨va_cnB 2 hts (gi_0 (in_10 _ (zs4 (zs4 (zs4 (zs1 (zs1 (zs1 (zs0))))))))) rfl rfl rfl (hEV.1.1 _ (List.mem_of_getElem? (i := 6) rfl)) (hts _ (vA_in _ _ (in_4 _ (zs16 (zs4 (zs1 (zs1 (zs1 (zs0))))))))) hz_yX12_apart_2 ⟨Nat.le_of_ble_eq_true rfl, Nat.le_of_ble_eq_true rfl⟩, (hts _ (vA_in _ _ (in_13 _ (zs16 (zs4 (zs4 (zs1 (zs0)))))))), trivial⟩ ⟨fun _ _ _ _ q => q, fun _ _ _ => ⟨rfl, trivial⟩⟩ rfl rfl hl.1 rfl (lv_room (Nat.le_of_ble_eq_true rfl)) dX3_fitOf_107 ⟨Nat.le_of_ble_eq_true rfl, Nat.le_of_ble_eq_true rfl⟩) hS (fun r52 H1 locs1 hw hk1 hS => ?_)
                        have hP := ub_keep hP hk1
                        generalize H1 = H at hP hS ⊢
                        generalize locs1 = locs at hS ⊢
                        have f53 := hw
                        have k54 : r52.toInt = tFt (g14_49 v71_7.toNatClampNeg) (g7 v71_7.toNatClampNeg) v57_5.toInt := by rw [f53]; unfold tFt; rw [← ey46, ← ey50]; congr 1; have q7 := ty49; rw [show (1000 : Int32).toInt = 1000 from rfl] at q7; omega
                        have i55 : 0 ≤ r52.toInt ∧ r52.toInt ≤ 800000 := by have h9 := f53; unfold ab at h9; omega
                        refine lv_iadd hx hb dX3_fitOf_110 ?_
                        refine lv_topi (fun y56 ey56 => ?_)
                        obtain ⟨ty56, iy56⟩ := ti_add (e := 0) (f := 16000000) i45 i55 ey56 (by decide)
                        have ty56 : y56.toInt = v71_6.toInt + r52.toInt := ty56
                        have iy56 : 0 ≤ y56.toInt ∧ y56.toInt ≤ 16000000 := iy56
                        refine lv_istore (lv' := [(6, .int y56), (7, .int v71_7), (5, .int v57_5), (4, .int v57_4), (3, .int v57_3), (2, .int r1), (0, .ref (ad 6)), (1, .int a0)]) hx hb dX3_fitOf_111 hl (by decide) rfl (fun ls hl => ?_)
                        obtain ⟨y57, ey57⟩ : ∃ y : Int32, y = v71_7 + (1 : Int32) := ⟨_, rfl⟩
                        obtain ⟨ty57, iy57⟩ := ti_add (e := 1) (f := 20) i32 ln_1 ey57 (by decide)
                        have ty57 : y57.toInt = v71_7.toInt + 1 := ty57
                        have iy57 : 1 ≤ y57.toInt ∧ y57.toInt ≤ 20 := iy57
                        refine lv_iinc (v := y57) (lv' := [(7, .int y57), (6, .int y56), (5, .int v57_5), (4, .int v57_4), (3, .int v57_3), (2, .int r1), (0, .ref (ad 6)), (1, .int a0)]) hx hb dX3_fitOf_113 hl (k := 1) rfl (by rw [ey57]; rfl) (by decide) rfl (fun ls hl => ?_)
                        refine lv_goto (tgt := 71) hx hb dX3_fitOf_116 (by decide) ?_
                        exact ih71 y57 y56 _ _ _ (iv_w iy57 (by decide)) iy56 (by rw [show y57.toNatClampNeg = v71_7.toNatClampNeg + 1 by rw [tn_ y57, tn_ v71_7]; omega]; show y56.toInt = sumF (fun i9 => tFt (g14_49 i9) (g7 i9) v57_5.toInt) v71_7.toNatClampNeg + tFt (g14_49 v71_7.toNatClampNeg) (g7 v71_7.toNatClampNeg) v57_5.toInt; omega) (by omega) (by omega) (by first | exact ms_su hx71_3 ty57 (by decide) | omega) hP hS (lv_sub hl [0, 1, 2, 3, 4, 5, 6, 7] rfl)
                exact hL71 (21) (0 : Int32) (0 : Int32) _ _ _ (iv_w ln_0 (by decide)) (iv_w ln_0 (by decide)) (show (0 : Int32).toInt = 0 from rfl) (by have z9 := ln_0; omega) (by have z9 := ln_0; omega) (by have h9 := ln_0; first | exact ms_bu h9.1 (by decide) | omega) hP hS (lv_sub hl [0, 1, 2, 3, 4, 5, 6, 7] rfl)
          exact hL57 (1502) (500 : Int32) (2147483647 : Int32) (-1 : Int32) _ _ _ (iv_w ln_500 (by decide)) (iv_w ln_2147483647 (by decide)) (iv_w ln_m1 (by decide)) (FtI.start (by have z9 := ln_500; omega) (by have z9 := ln_m1; omega)) (fun _ => by have z9 := ln_2147483647; omega) (by have z9 := ln_500; omega) (by have h9 := ln_500; first | exact ms_bu h9.1 (by decide) | omega) hP hS (lv_sub hl [0, 1, 2, 3, 4, 5] rfl)
        · --16 not
          have t58 : v14_3.toInt < r1.toInt := ti_nle c13
          have i59 : 0 ≤ v14_3.toInt ∧ v14_3.toInt ≤ 19 := iv_lt_l t58 hv14_3 i12 (by decide)
          refine lv_aload_n hx hb dX3_fitOf_19 rfl (lv_at hl 2 rfl) ?_
          refine th_getL (ci := 4) (C := RX3) (T := TX3) (N := 18) (v := .ref (ad 49)) hx hb hts hinX3 hown hK hP hI 6 (mF 6 rfl) rfl rfl 8 (Nat.le_of_ble_eq_true rfl) (hts _ (vA_in _ _ (in_17 _ (zs4 (zs4 (zs1 (zs1 (zs0)))))))) (fun _ h9 => h9) (hI.fr 6 (mF 6 rfl) rfl (Nat.le_of_ble_eq_true rfl) 49 rfl) dX3_fitOf_20 ?_
          refine lv_iload_n hx hb dX3_fitOf_23 rfl (lv_at hl 0 rfl) ?_
          refine lv_aload_n hx hb dX3_fitOf_24 rfl (lv_at hl 2 rfl) ?_
          refine th_getL (ci := 4) (C := RX3) (T := TX3) (N := 18) (v := .ref (ad 44)) hx hb hts hinX3 hown hK hP hI 6 (mF 6 rfl) rfl rfl 3 (Nat.le_of_ble_eq_true rfl) (hts _ (vA_in _ _ (in_11 _ (zs16 (zs4 (zs4 (zs4 (zs0)))))))) (fun _ h9 => h9) (hI.fr 6 (mF 6 rfl) rfl (Nat.le_of_ble_eq_true rfl) 44 rfl) dX3_fitOf_25 ?_
          refine lv_aload_n hx hb dX3_fitOf_28 rfl (lv_at hl 2 rfl) ?_
          refine th_getL (ci := 4) (C := RX3) (T := TX3) (N := 18) (v := .ref (ad 47)) hx hb hts hinX3 hown hK hP hI 6 (mF 6 rfl) rfl rfl 6 (Nat.le_of_ble_eq_true rfl) (hts _ (vA_in _ _ (in_17 _ (zs4 (zs4 (zs1 (zs1 (zs1 (zs0))))))))) (fun _ h9 => h9) (hI.fr 6 (mF 6 rfl) rfl (Nat.le_of_ble_eq_true rfl) 47 rfl) dX3_fitOf_29 ?_
          refine lv_iload_n hx hb dX3_fitOf_32 rfl (lv_at hl 0 rfl) ?_
          have n61 : vp_in v14_3 20 := (iv_in (n := 20) i59 (by decide))
          refine th_ialdL hx hb hK hP hI 47 (mF 47 rfl) rfl rfl n61 dX3_fitOf_33 (fun y60 ey60 => ?_)
          have jy60 : 0 ≤ y60.toInt ∧ y60.toInt ≤ ((cf 2 - 1 : Nat) : Int) := hI.el 47 (mF 47 rfl) rfl n61 (fun _ => rfl) ey60
          have iy60 : 0 ≤ y60.toInt ∧ y60.toInt ≤ 19 := by omega
          have ey60 := ey60.trans (congrFun hr14_47 _)
          refine lv_iload_n hx hb dX3_fitOf_34 rfl (lv_at hl 3 rfl) ?_
          refine th_pi (va_runSN (As := [.int y60, .int a0]) (rest := [.ref (ad 44), .int v14_3, .ref (ad 49)]) ⟨hx, hb, hml, hown, hts⟩ (q_ccell l y60 a0 iy60 hh0) ⟨va_cnB 2 hts (gi_0 (in_10 _ (zs16 (zs4 (zs0))))) rfl rfl rfl (hEV.1.1 _ (List.mem_of_getElem? (i := 7) rfl)) (hts _ (vA_in _ _ (in_4 _ (zs16 (zs4 (zs1 (zs1 (zs1 (zs0))))))))) hz_yX12_cell_2 ⟨Nat.le_of_ble_eq_true rfl, Nat.le_of_ble_eq_true rfl⟩, (hts _ (vA_in _ _ (in_13 _ (zs1 (zs0))))), trivial⟩ ⟨fun _ _ _ _ q => q, fun _ _ _ => ⟨rfl, trivial⟩⟩ rfl rfl hl.1 rfl (lv_room (Nat.le_of_ble_eq_true rfl)) dX3_fitOf_35 ⟨Nat.le_of_ble_eq_true rfl, Nat.le_of_ble_eq_true rfl⟩) hS (fun r62 H1 locs1 hw hk1 hS => ?_)
          have hP := ub_keep hP hk1
          generalize H1 = H at hP hS ⊢
          generalize locs1 = locs at hS ⊢
          obtain ⟨f63, f64⟩ := hw
          have n66 : vp_in r62 320 := (iv_in (n := 320) f63 (by decide))
          refine th_ialdL hx hb hK hP hI 44 (mF 44 rfl) rfl rfl n66 dX3_fitOf_38 (fun y65 ey65 => ?_)
          have iy65 : 0 ≤ y65.toInt ∧ y65.toInt ≤ 200000 := hI.el 44 (mF 44 rfl) rfl n66 (fun _ => rfl) ey65
          have ey65 := ey65.trans (hKp.ei 44 _ rfl)
          have n67 : vp_in v14_3 20 := (iv_in (n := 20) i59 (by decide))
          refine th_iastL hx hb hK hP (WL_D hD) hS hI 49 (mF 49 rfl) rfl rfl n67 (okI rfl iy65) dX3_fitOf_39 (fun H locs E68 pw69 hI hP hS => ?_)
          have hKp := hKp.pw pw69 rfl
          obtain ⟨g70, eg70⟩ : ∃ z : Nat → Int32, z = upd g14_49 v14_3.toNatClampNeg y65 := ⟨_, rfl⟩
          have hg70 : xi (E68 49) = g70 := by rw [pw69.eu, hr14_49, eg70]
          obtain ⟨y71, ey71⟩ : ∃ y : Int32, y = v14_3 + (1 : Int32) := ⟨_, rfl⟩
          obtain ⟨ty71, iy71⟩ := ti_add (e := 1) (f := 20) i59 ln_1 ey71 (by decide)
          have ty71 : y71.toInt = v14_3.toInt + 1 := ty71
          have iy71 : 1 ≤ y71.toInt ∧ y71.toInt ≤ 20 := iy71
          refine lv_iinc (v := y71) (lv' := [(3, .int y71), (2, .int r1), (0, .ref (ad 6)), (1, .int a0)]) hx hb dX3_fitOf_40 hl (k := 0) rfl (by rw [ey71]; rfl) (by decide) rfl (fun ls hl => ?_)
          refine lv_goto (tgt := 14) hx hb dX3_fitOf_43 (by decide) ?_
          exact ih14 g70 y71 E68 _ _ _ (iv_w iy71 (by decide)) (up_s (P := (fun b9 z9 => z9 = xi (E 44) (16 * (g6 b9).toNatClampNeg + a0.toNatClampNeg))) hx14_0 eg70 (by show y65 = xi (E 44) (16 * (g6 v14_3.toNatClampNeg).toNatClampNeg + a0.toNatClampNeg); rw [← ey60, ey65, show r62.toNatClampNeg = 16 * y60.toNatClampNeg + a0.toNatClampNeg by rw [tn_ r62, tn_ y60, tn_ a0]; omega]) (by omega) (by omega)) (by omega) (by first | exact ms_su hx14_2 ty71 (by decide) | omega) hI hKp ((pw69.ef 47 (Nat.ne_of_beq_eq_false rfl)).trans hr14_47) ((pw69.ef 48 (Nat.ne_of_beq_eq_false rfl)).trans hr14_48) hg70 hP hS (lv_sub hl [0, 1, 2, 3] rfl)
    exact hL14 (21) g8 (0 : Int32) E2 _ _ _ (iv_w ln_0 (by decide)) (fun b9 h9 => absurd h9 (Nat.not_lt_zero b9)) (by have z9 := ln_0; omega) (by have h9 := ln_0; first | exact ms_bu h9.1 (by decide) | omega) hI hKp hg6 hg7 hg8 hP hS (lv_sub hl [0, 1, 2, 3] rfl)
  · --7 not
    have t72 : r1.toInt = 0 := ti_eq c10
    have i73 : 0 ≤ r1.toInt ∧ r1.toInt ≤ 0 := iv_eqi t72 f4 (il_ 0) (by decide)
    refine lv_iconst (v := -1) hx hb dX3_fitOf_10 (by decide) ?_
    rw [hQ]
    exact W.iret (v := (-1)) hx hb hr (fun t ht hW => ⟨⟨(-1), E2, rfl, ⟨hI, hKp, ⟨(iv_w ln_m1 (by decide)), ⟨fun _ => rfl, fun q9 => by exfalso; obtain ⟨r9, h8, h9⟩ := q9; obtain ⟨i9, g8, -⟩ := k9.1.2.1 r9 h8 h9; rw [tn_] at g8; omega⟩⟩⟩, by show va_P (dC, dI) vwCl (WL (LC cf) ad E2) t.heap; rw [ht]; exact hP⟩, hS.F ht⟩) hS.2.2 dX3_fitOf_11
end
section
/-! ===== FIT of the reference (pure) ===== -/
theorem fI_nn {n : Int} (h : 0 ≤ n ∧ n ≤ 2000000000) : (fI n).toInt = n := by
  have e0 : (nI n.toNat).toInt = ((n.toNat : Nat) : Int) := nI_toInt (by omega)
  have e : (nI n.toNat).toInt = n := by omega
  rw [← fI_of e]
  exact e
theorem corI_in {way s n m : Int32} (h : way.toInt = 0) (hs : 0 ≤ s.toInt ∧ s.toInt ≤ 200000) (hn : 500 ≤ n.toInt ∧ n.toInt ≤ 2000) : 0 ≤ (corI way s n m).toInt ∧ (corI way s n m).toInt ≤ 400000 := by
  obtain ⟨w, ew⟩ : ∃ w, w = s * n := ⟨_, rfl⟩
  obtain ⟨-, b1⟩ := ti_mul (e := 0) (f := 400000000) hs hn ew (by decide)
  obtain ⟨y, ey⟩ : ∃ y, y = w / 1000 := ⟨_, rfl⟩
  obtain ⟨-, b2⟩ := ti_div (e := 0) (f := 400000) b1 (show (1000 : Int) ≤ (1000 : Int32).toInt ∧ (1000 : Int32).toInt ≤ 1000 by decide) ey (by decide)
  have e : corI way s n m = y := by
    unfold corI
    rw [if_pos h, ← ew, ← ey]
  rw [e]
  exact b2
theorem lO_ix {gA gB gT : Nat → Int32} {a b q : Int32} : ∀ n : Nat, lO gA gB gT a b q n = -1 ∨ ∃ k, k < n ∧ lO gA gB gT a b q n = nI k := by
  intro n
  induction n with
  | zero => exact Or.inl rfl
  | succ n ih =>
    by_cases c : gA n = a ∧ gB n = b ∧ gT n ≤ q
    · exact Or.inr ⟨n, by omega, if_pos c⟩
    · have e : lO gA gB gT a b q (n + 1) = lO gA gB gT a b q n := if_neg c
      rw [e]
      exact ih.imp id (fun ⟨k, h1, h2⟩ => ⟨k, by omega, h2⟩)
theorem shf_mem {c : Int32} : ∀ (n : Nat) (g : Nat → Int32) (i : Nat), i ≤ n → shf g c n i = c ∨ ∃ j, j < n ∧ shf g c n i = g j := by
  intro n
  induction n with
  | zero =>
    intro g i hi
    have e : i = 0 := by omega
    subst e
    exact Or.inl upd_i
  | succ n ih =>
    intro g i hi
    by_cases q : c.toInt < (g n).toInt
    · rw [shf_s q]
      by_cases e : i = n + 1
      · subst e
        rw [shf_hi n (upd g (n + 1) (g n)) (n + 1) (by omega), upd_i]
        exact Or.inr ⟨n, by omega, rfl⟩
      · rcases ih (upd g (n + 1) (g n)) i (by omega) with h | ⟨j, hj, h⟩
        · exact Or.inl h
        · exact Or.inr ⟨j, by omega, by rw [h, upd_j (by omega)]⟩
    · rw [shf_e q]
      by_cases e : i = n + 1
      · subst e
        rw [upd_i]
        exact Or.inl rfl
      · rw [upd_j e]
        exact Or.inr ⟨i, by omega, rfl⟩
theorem MR.mem {F : Nat → Prop} {T : Nat → Int32} {sk : Nat} : ∀ (k n : Nat) (g : Nat → Int32), MR F T sk k n g → ∀ i, i < n → ∃ o, o < k ∧ F o ∧ g i = T o := by
  intro k
  induction k with
  | zero =>
    intro n g h i hi
    have h1 : n = 0 := h
    omega
  | succ k ih =>
    intro n g h i hi
    rcases h with ⟨-, h2⟩ | ⟨h1, n0, g0, h2, h3, h4⟩
    · obtain ⟨o, a1, a2⟩ := ih n g h2 i hi
      exact ⟨o, by omega, a2⟩
    · rw [h4 i (by omega)]
      rcases shf_mem (c := T k) n0 g0 i (by omega) with q | ⟨j, hj, q⟩
      · exact ⟨k, by omega, h1.2, q⟩
      · obtain ⟨o, a1, a2, a3⟩ := ih n0 g0 h2 j hj
        exact ⟨o, by omega, a2, by rw [q]; exact a3⟩
/-- MIDDLE in the reference -/
def MdM (E : Nat → va_E) (b q : Int32) (r : Nat) (x : Int32) : Prop := MdV (fun o9 => CdM E (nI r) (nI o9) q 0) (tmM E (nI r) q) (xi (E 0) 8).toNatClampNeg b.toNatClampNeg ((xi (E 15) (nI r).toNatClampNeg).toInt = 0 ∧ CdM E (nI r) b q 0) x
theorem tmM_in {cT : Nat → ClassId} {ad : Nat → Nat} {E : Nat → va_E} {race q : Int32} {o : Nat} (hI : IX cT shM spM 72 ad E) (hw : (xi (E 15) race.toNatClampNeg).toInt = 0) (hc : CdM E race (nI o) q 0) : 0 ≤ (tmM E race q o).toInt ∧ (tmM E race q o).toInt ≤ 400000 := by
  have hl := CdM_0 hc
  have h47 : (0 : Int) ≤ (xi (E 0) 47).toInt ∧ (xi (E 0) 47).toInt ≤ 300 := hI.iv 0 (Nat.le_of_ble_eq_true rfl) rfl (Nat.le_of_ble_eq_true rfl) rfl
  have hix : (lRM E race (nI o) q).toNatClampNeg < 300 := by
    rcases lO_ix (gA := xi (E 24)) (gB := xi (E 25)) (gT := xi (E 28)) (a := race) (b := nI o) (q := q) (xi (E 0) 47).toNatClampNeg with h | ⟨k, hk, h⟩
    · exfalso
      refine hl ?_
      unfold lRM
      rw [h]
      rfl
    · have hk3 : k < 300 := by
        rw [tn_] at hk
        omega
      have e : lRM E race (nI o) q = nI k := h
      have hi : (nI k).toInt = (k : Int) := nI_toInt (by omega)
      rw [e, tn_, hi]
      omega
  have hs : (0 : Int) ≤ (xi (E 27) (lRM E race (nI o) q).toNatClampNeg).toInt ∧ (xi (E 27) (lRM E race (nI o) q).toNatClampNeg).toInt ≤ 200000 := hI.iv 27 (Nat.le_of_ble_eq_true rfl) rfl hix rfl
  have hn := numM_in (E := E) (boat := nI o) (day := xi (E 13) race.toNatClampNeg) (q := q)
  unfold tmM tmB
  exact corI_in hw hs (by
    have e9 : (fI (numM E (nI o) (xi (E 13) race.toNatClampNeg) q)).toInt = numM E (nI o) (xi (E 13) race.toNatClampNeg) q := fI_nn ⟨by omega, by omega⟩
    rw [e9]
    exact hn)
theorem MdM_in {cT : Nat → ClassId} {ad : Nat → Nat} {E : Nat → va_E} {b q : Int32} {r : Nat} {x : Int32} (hI : IX cT shM spM 72 ad E) (h : MdM E b q r x) : x.toInt = -1000000000 ∨ (0 ≤ x.toInt ∧ x.toInt ≤ 400000) := by
  by_cases o : (xi (E 15) (nI r).toNatClampNeg).toInt = 0 ∧ CdM E (nI r) b q 0
  · obtain ⟨n, g, h1, h2, h3⟩ := h.2 o
    by_cases z : n = 0
    · exact Or.inl (h2 z)
    · refine Or.inr ?_
      obtain ⟨k, hk, hc, e⟩ := MR.mem _ n g h1 ((n - 1) / 2) (by omega)
      rw [h3 z, e]
      exact tmM_in hI o.1 hc
  · exact Or.inl (h.1 o)
theorem MdM_ok {E : Nat → va_E} {b q : Int32} {r : Nat} {x : Int32} (h : MdM E b q r x) (hx : ¬ x.toInt = -1000000000) : CdM E (nI r) b q 0 := Classical.byContradiction (fun z => hx (h.1 (fun w => z w.2)))
/-- rows that list what counts, in the order of RACES -/
def LsR (P : Nat → Prop) (Q : Nat → Int32 → Int32 → Prop) : Nat → Nat → (Nat → Int32) → (Nat → Int32) → Prop
  | 0, n, _, _ => n = 0
  | k + 1, n, s, m => (¬ P k ∧ LsR P Q k n s m) ∨ (P k ∧ ∃ n0, n = n0 + 1 ∧ LsR P Q k n0 s m ∧ Q k (s n0) (m n0))
theorem LsR.up {P : Nat → Prop} {Q : Nat → Int32 → Int32 → Prop} : ∀ (k n : Nat) (s m s' m' : Nat → Int32), LsR P Q k n s m → (∀ i, i < n → s' i = s i ∧ m' i = m i) → LsR P Q k n s' m' := by
  intro k
  induction k with
  | zero => exact fun n s m s' m' h _ => h
  | succ k ih =>
    intro n s m s' m' h e
    rcases h with ⟨h1, h2⟩ | ⟨h1, n0, h2, h3, h4⟩
    · exact Or.inl ⟨h1, ih n s m s' m' h2 e⟩
    · refine Or.inr ⟨h1, n0, h2, ih n0 s m s' m' h3 (fun i hi => e i (by omega)), ?_⟩
      rw [(e n0 (by omega)).1, (e n0 (by omega)).2]
      exact h4
theorem LsR.no {P : Nat → Prop} {Q : Nat → Int32 → Int32 → Prop} {k k' n : Nat} {s m : Nat → Int32} (h : LsR P Q k n s m) (hp : ¬ P k) (e : k' = k + 1) : LsR P Q k' n s m := by
  subst e
  exact Or.inl ⟨hp, h⟩
theorem LsR.yes {P : Nat → Prop} {Q : Nat → Int32 → Int32 → Prop} {k k' n n' i j : Nat} {s m s' m' : Nat → Int32} {x y : Int32} (h : LsR P Q k n s m) (hp : P k) (es : s' = upd s i x) (em : m' = upd m j y) (hi : i = n) (hj : j = n) (hq : Q k x y) (en : n' = n + 1) (e : k' = k + 1) : LsR P Q k' n' s' m' := by
  subst e
  subst hi
  subst hj
  subst es
  subst em
  refine Or.inr ⟨hp, _, en, LsR.up k _ s m _ _ h (fun i hi => ⟨upd_j (by omega), upd_j (by omega)⟩), ?_⟩
  rw [upd_i, upd_i]
  exact hq
theorem LsR.some {P : Nat → Prop} {Q : Nat → Int32 → Int32 → Prop} : ∀ (k n : Nat) (s m : Nat → Int32), LsR P Q k n s m → (∀ i, i < n → ∃ r, r < k ∧ P r ∧ Q r (s i) (m i)) ∧ (n = 0 ↔ ∀ r, r < k → ¬ P r) := by
  intro k
  induction k with
  | zero =>
    intro n s m h
    have h1 : n = 0 := h
    subst h1
    exact ⟨fun i hi => absurd hi (Nat.not_lt_zero i), ⟨fun _ r hr => absurd hr (Nat.not_lt_zero r), fun _ => rfl⟩⟩
  | succ k ih =>
    intro n s m h
    rcases h with ⟨h1, h2⟩ | ⟨h1, n0, h2, h3, h4⟩
    · obtain ⟨a1, a2⟩ := ih n s m h2
      refine ⟨fun i hi => ?_, ⟨fun z r hr => ?_, fun z => a2.mpr (fun r hr => z r (by omega))⟩⟩
      · obtain ⟨r, b1, b2⟩ := a1 i hi
        exact ⟨r, by omega, b2⟩
      · by_cases q : r = k
        · subst q
          exact h1
        · exact a2.mp z r (by omega)
    · obtain ⟨a1, a2⟩ := ih n0 s m h3
      subst h2
      refine ⟨fun i hi => ?_, ⟨fun z => by omega, fun z => absurd h1 (z k (by omega))⟩⟩
      by_cases q : i = n0
      · subst q
        exact ⟨k, by omega, h1, h4⟩
      · obtain ⟨r, b1, b2⟩ := a1 i (by omega)
        exact ⟨r, by omega, b2⟩
theorem LsR.sum {P : Nat → Prop} {Q : Nat → Int32 → Int32 → Prop} {f : Int32 → Int32 → Int} : ∀ (k n : Nat) (s m : Nat → Int32), LsR P Q k n s m → SmR P (fun r w => ∃ x y, Q r x y ∧ w = f x y) k (sumF (fun i => f (s i) (m i)) n) := by
  intro k
  induction k with
  | zero =>
    intro n s m h
    have h1 : n = 0 := h
    subst h1
    rfl
  | succ k ih =>
    intro n s m h
    rcases h with ⟨h1, h2⟩ | ⟨h1, n0, h2, h3, h4⟩
    · exact (ih n s m h2).no h1 rfl rfl
    · subst h2
      exact (ih n0 s m h3).one h1 ⟨_, _, h4, rfl⟩ rfl rfl
theorem FtI.neg {S : Int → Int} {v least fit : Int} (h : FtI S v least fit) (e : fit = -1) : v = 500 := by
  rcases h with ⟨h1, -⟩ | ⟨h1, -⟩ <;> omega
theorem FtI.pos {S : Int → Int} {v least fit : Int} (h : FtI S v least fit) (e : ¬ fit = -1) : ¬ v = 500 := by
  rcases h with ⟨-, h1⟩ | ⟨h1, -⟩ <;> omega
theorem LsR.fit {P : Nat → Prop} {Q : Nat → Int32 → Int32 → Prop} {R n : Nat} {s m : Nat → Int32} {v least fit : Int} (h : LsR P Q R n s m) (hn : 0 < n) (hf : FtI (fun v9 : Int => sumF (fun i9 => tFt (s i9) (m i9) v9) n) v least fit) (hv : v = 2001) : FtR P (fun v9 r9 x9 => ∃ x y, Q r9 x y ∧ x9 = tFt x y v9) R fit := by
  refine ⟨fun z => ?_, fun _ => ?_⟩
  · have := (LsR.some R n s m h).2.mpr z
    omega
  · obtain ⟨f1, f2, f3⟩ := hf.fin hv
    exact ⟨_, fun w _ _ => LsR.sum (f := fun x y => tFt x y w) R n s m h, f1, f2, f3⟩
theorem MdM_kd {E E' : Nat → va_E} {b q : Int32} {r : Nat} {x : Int32} (k : KdN E E') (h8 : xi (E' 0) 8 = xi (E 0) 8) : MdM E' b q r x ↔ MdM E b q r x := by
  have e1 : ∀ a : Int32, (fun o9 => CdM E' a (nI o9) q 0) = (fun o9 => CdM E a (nI o9) q 0) := fun a => funext (fun o => propext k.cd)
  have e2 : ∀ a : Int32, tmM E' a q = tmM E a q := fun a => funext (fun o => k.tm a (nI o) q)
  have e3 : ∀ a : Int32, (CdM E' a b q 0) = (CdM E a b q 0) := fun a => propext k.cd
  unfold MdM
  rw [e1, e2, e3, h8, k.rw_ 15 (by decide)]
theorem FtR_kd {E E' : Nat → va_E} {b q : Int32} {R : Nat} {f : Int} (k : KdN E E') (h8 : xi (E' 0) 8 = xi (E 0) 8) (h : FtR (fun r9 => ∃ x9 : Int32, MdM E' b q r9 x9 ∧ ¬ x9.toInt = -1000000000) (fun v9 r9 x9 => ∃ s9 m9 : Int32, (MdM E' b q r9 m9 ∧ ¬ m9.toInt = -1000000000 ∧ s9 = xi (E' 27) (lRM E' (nI r9) b q).toNatClampNeg) ∧ x9 = tFt s9 m9 v9) R f) : FtR (fun r9 => ∃ x9 : Int32, MdM E b q r9 x9 ∧ ¬ x9.toInt = -1000000000) (fun v9 r9 x9 => ∃ s9 m9 : Int32, (MdM E b q r9 m9 ∧ ¬ m9.toInt = -1000000000 ∧ s9 = xi (E 27) (lRM E (nI r9) b q).toNatClampNeg) ∧ x9 = tFt s9 m9 v9) R f := by
  have e : ∀ r x, MdM E' b q r x = MdM E b q r x := fun r x => propext (MdM_kd k h8)
  simp only [e, k.lr, k.rw_ 27 (by decide)] at h
  exact h
end

