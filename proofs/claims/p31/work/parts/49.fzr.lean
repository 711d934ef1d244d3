set_option maxRecDepth 100000 in
theorem zh_dX13_pointsByText_0_0 : zc cX13_pointsByText 0 [42, 27, 28, 29, 182, 1, 163, 54, 4, 21, 4, 154, 0, 13, 42, 27] = true := by decide +kernel
set_option maxRecDepth 100000 in
theorem zh_dX13_pointsByText_16_16 : zc cX13_pointsByText 16 [28, 29, 182, 1, 176, 167, 0, 4, 3, 54, 5, 3, 54, 6, 3, 54] = true := by decide +kernel
set_option maxRecDepth 100000 in
theorem zh_dX13_pointsByText_31_32 : zc cX13_pointsByText 32 [7, 3, 54, 8, 21, 8, 42, 180, 0, 239, 162, 0, 51, 21, 6, 42] = true := by decide +kernel
set_option maxRecDepth 100000 in
theorem zh_dX13_pointsByText_48_48 : zc cX13_pointsByText 48 [27, 21, 8, 29, 182, 1, 140, 153, 0, 7, 4, 167, 0, 4, 3, 96] = true := by decide +kernel
set_option maxRecDepth 100000 in
theorem zh_dX13_pointsByText_64_64 : zc cX13_pointsByText 64 [54, 6, 21, 7, 42, 27, 21, 8, 29, 182, 1, 163, 154, 0, 7, 4] = true := by decide +kernel
set_option maxRecDepth 100000 in
theorem zh_dX13_pointsByText_80_80 : zc cX13_pointsByText 80 [167, 0, 4, 3, 96, 54, 7, 132, 8, 1, 167, 255, 202, 42, 182, 1] = true := by decide +kernel
set_option maxRecDepth 100000 in
theorem zh_dX13_pointsByText_94_96 : zc cX13_pointsByText 96 [121, 42, 180, 0, 44, 16, 107, 21, 4, 79, 42, 180, 0, 44, 16, 114] = true := by decide +kernel
set_option maxRecDepth 100000 in
theorem zh_dX13_pointsByText_112_112 : zc cX13_pointsByText 112 [21, 5, 79, 42, 180, 0, 44, 16, 101, 21, 6, 79, 42, 180, 0, 44] = true := by decide +kernel
set_option maxRecDepth 100000 in
theorem zh_dX13_pointsByText_128_128 : zc cX13_pointsByText 128 [16, 102, 21, 7, 79, 3, 17, 39, 16, 42, 16, 112, 42, 180, 0, 50] = true := by decide +kernel
set_option maxRecDepth 100000 in
theorem zh_dX13_pointsByText_144_144 : zc cX13_pointsByText 144 [27, 46, 29, 182, 1, 124, 184, 1, 127, 184, 1, 129, 172] = true := by decide +kernel
set_option maxRecDepth 100000 in
theorem zh_dX13_pointsOf_0_0 : zc cX13_pointsOf 0 [42, 27, 28, 29, 182, 1, 182, 154, 0, 11, 42, 27, 28, 29, 182, 1] = true := by decide +kernel
set_option maxRecDepth 100000 in
theorem zh_dX13_pointsOf_14_16 : zc cX13_pointsOf 16 [185, 172, 3, 54, 4, 3, 54, 5, 3, 54, 6, 21, 6, 42, 180, 1] = true := by decide +kernel
set_option maxRecDepth 100000 in
theorem zh_dX13_pointsOf_30_32 : zc cX13_pointsOf 32 [134, 162, 0, 56, 21, 6, 27, 159, 0, 44, 42, 180, 0, 71, 21, 6] = true := by decide +kernel
set_option maxRecDepth 100000 in
theorem zh_dX13_pointsOf_48_48 : zc cX13_pointsOf 48 [46, 29, 163, 0, 33, 42, 21, 6, 28, 29, 182, 1, 182, 153, 0, 6] = true := by decide +kernel
set_option maxRecDepth 100000 in
theorem zh_dX13_pointsOf_64_64 : zc cX13_pointsOf 64 [167, 0, 19, 21, 4, 42, 21, 6, 28, 29, 182, 1, 185, 96, 54, 4] = true := by decide +kernel
set_option maxRecDepth 100000 in
theorem zh_dX13_pointsOf_80_80 : zc cX13_pointsOf 80 [132, 5, 1, 132, 6, 1, 167, 255, 197, 21, 5, 154, 0, 7, 3, 167] = true := by decide +kernel
set_option maxRecDepth 100000 in
theorem zh_dX13_pointsOf_95_96 : zc cX13_pointsOf 96 [0, 8, 21, 4, 21, 5, 108, 172] = true := by decide +kernel
set_option maxRecDepth 100000 in
theorem zh_dX13_points_0_0 : zc cX13_points 0 [42, 27, 28, 29, 182, 1, 157, 153, 0, 13, 42, 27, 28, 29, 182, 1] = true := by decide +kernel
set_option maxRecDepth 100000 in
theorem zh_dX13_points_14_16 : zc cX13_points 16 [188, 167, 0, 4, 2, 172] = true := by decide +kernel
theorem dX13_pointsByText_0 : decode cX13_pointsByText 0 = .ok (.aload_n 0, 1) := zo_42 (zi_at zh_dX13_pointsByText_0_0 0 rfl)
theorem dX13_pointsByText_1 : decode cX13_pointsByText 1 = .ok (.iload_n 1, 1) := zo_27 (zi_at zh_dX13_pointsByText_0_0 1 rfl)
theorem dX13_pointsByText_2 : decode cX13_pointsByText 2 = .ok (.iload_n 2, 1) := zo_28 (zi_at zh_dX13_pointsByText_0_0 2 rfl)
theorem dX13_pointsByText_3 : decode cX13_pointsByText 3 = .ok (.iload_n 3, 1) := zo_29 (zi_at zh_dX13_pointsByText_0_0 3 rfl)
theorem dX13_pointsByText_4 : decode cX13_pointsByText 4 = .ok (.invokevirtual 419, 3) := zo_182 (zi_at zh_dX13_pointsByText_0_0 4 rfl) (zi_at zh_dX13_pointsByText_0_0 5 rfl) (zi_at zh_dX13_pointsByText_0_0 6 rfl) rfl
theorem dX13_pointsByText_7 : decode cX13_pointsByText 7 = .ok (.istore 4, 2) := zo_54 (zi_at zh_dX13_pointsByText_0_0 7 rfl) (zi_at zh_dX13_pointsByText_0_0 8 rfl)
theorem dX13_pointsByText_9 : decode cX13_pointsByText 9 = .ok (.iload 4, 2) := zo_21 (zi_at zh_dX13_pointsByText_0_0 9 rfl) (zi_at zh_dX13_pointsByText_0_0 10 rfl)
theorem dX13_pointsByText_11 : decode cX13_pointsByText 11 = .ok (.ifCond .ne 13, 3) := zo_154 (zi_at zh_dX13_pointsByText_0_0 11 rfl) (zi_at zh_dX13_pointsByText_0_0 12 rfl) (zi_at zh_dX13_pointsByText_0_0 13 rfl) rfl
theorem dX13_pointsByText_14 : decode cX13_pointsByText 14 = .ok (.aload_n 0, 1) := zo_42 (zi_at zh_dX13_pointsByText_0_0 14 rfl)
theorem dX13_pointsByText_15 : decode cX13_pointsByText 15 = .ok (.iload_n 1, 1) := zo_27 (zi_at zh_dX13_pointsByText_0_0 15 rfl)
theorem dX13_pointsByText_16 : decode cX13_pointsByText 16 = .ok (.iload_n 2, 1) := zo_28 (zi_at zh_dX13_pointsByText_16_16 0 rfl)
theorem dX13_pointsByText_17 : decode cX13_pointsByText 17 = .ok (.iload_n 3, 1) := zo_29 (zi_at zh_dX13_pointsByText_16_16 1 rfl)
theorem dX13_pointsByText_18 : decode cX13_pointsByText 18 = .ok (.invokevirtual 432, 3) := zo_182 (zi_at zh_dX13_pointsByText_16_16 2 rfl) (zi_at zh_dX13_pointsByText_16_16 3 rfl) (zi_at zh_dX13_pointsByText_16_16 4 rfl) rfl
theorem dX13_pointsByText_21 : decode cX13_pointsByText 21 = .ok (.goto 4, 3) := zo_167 (zi_at zh_dX13_pointsByText_16_16 5 rfl) (zi_at zh_dX13_pointsByText_16_16 6 rfl) (zi_at zh_dX13_pointsByText_16_16 7 rfl) rfl
theorem dX13_pointsByText_24 : decode cX13_pointsByText 24 = .ok (.iconst 0, 1) := zo_3 (zi_at zh_dX13_pointsByText_16_16 8 rfl)
theorem dX13_pointsByText_25 : decode cX13_pointsByText 25 = .ok (.istore 5, 2) := zo_54 (zi_at zh_dX13_pointsByText_16_16 9 rfl) (zi_at zh_dX13_pointsByText_16_16 10 rfl)
theorem dX13_pointsByText_27 : decode cX13_pointsByText 27 = .ok (.iconst 0, 1) := zo_3 (zi_at zh_dX13_pointsByText_16_16 11 rfl)
theorem dX13_pointsByText_28 : decode cX13_pointsByText 28 = .ok (.istore 6, 2) := zo_54 (zi_at zh_dX13_pointsByText_16_16 12 rfl) (zi_at zh_dX13_pointsByText_16_16 13 rfl)
theorem dX13_pointsByText_30 : decode cX13_pointsByText 30 = .ok (.iconst 0, 1) := zo_3 (zi_at zh_dX13_pointsByText_16_16 14 rfl)
theorem dX13_pointsByText_31 : decode cX13_pointsByText 31 = .ok (.istore 7, 2) := zo_54 (zi_at zh_dX13_pointsByText_16_16 15 rfl) (zi_at zh_dX13_pointsByText_31_32 0 rfl)
theorem dX13_pointsByText_33 : decode cX13_pointsByText 33 = .ok (.iconst 0, 1) := zo_3 (zi_at zh_dX13_pointsByText_31_32 1 rfl)
theorem dX13_pointsByText_34 : decode cX13_pointsByText 34 = .ok (.istore 8, 2) := zo_54 (zi_at zh_dX13_pointsByText_31_32 2 rfl) (zi_at zh_dX13_pointsByText_31_32 3 rfl)
theorem dX13_pointsByText_36 : decode cX13_pointsByText 36 = .ok (.iload 8, 2) := zo_21 (zi_at zh_dX13_pointsByText_31_32 4 rfl) (zi_at zh_dX13_pointsByText_31_32 5 rfl)
theorem dX13_pointsByText_38 : decode cX13_pointsByText 38 = .ok (.aload_n 0, 1) := zo_42 (zi_at zh_dX13_pointsByText_31_32 6 rfl)
theorem dX13_pointsByText_39 : decode cX13_pointsByText 39 = .ok (.getfield 239, 3) := zo_180 (zi_at zh_dX13_pointsByText_31_32 7 rfl) (zi_at zh_dX13_pointsByText_31_32 8 rfl) (zi_at zh_dX13_pointsByText_31_32 9 rfl) rfl
theorem dX13_pointsByText_42 : decode cX13_pointsByText 42 = .ok (.if_icmp .ge 51, 3) := zo_162 (zi_at zh_dX13_pointsByText_31_32 10 rfl) (zi_at zh_dX13_pointsByText_31_32 11 rfl) (zi_at zh_dX13_pointsByText_31_32 12 rfl) rfl
theorem dX13_pointsByText_45 : decode cX13_pointsByText 45 = .ok (.iload 6, 2) := zo_21 (zi_at zh_dX13_pointsByText_31_32 13 rfl) (zi_at zh_dX13_pointsByText_31_32 14 rfl)
theorem dX13_pointsByText_47 : decode cX13_pointsByText 47 = .ok (.aload_n 0, 1) := zo_42 (zi_at zh_dX13_pointsByText_31_32 15 rfl)
theorem dX13_pointsByText_48 : decode cX13_pointsByText 48 = .ok (.iload_n 1, 1) := zo_27 (zi_at zh_dX13_pointsByText_48_48 0 rfl)
theorem dX13_pointsByText_49 : decode cX13_pointsByText 49 = .ok (.iload 8, 2) := zo_21 (zi_at zh_dX13_pointsByText_48_48 1 rfl) (zi_at zh_dX13_pointsByText_48_48 2 rfl)
theorem dX13_pointsByText_51 : decode cX13_pointsByText 51 = .ok (.iload_n 3, 1) := zo_29 (zi_at zh_dX13_pointsByText_48_48 3 rfl)
theorem dX13_pointsByText_52 : decode cX13_pointsByText 52 = .ok (.invokevirtual 396, 3) := zo_182 (zi_at zh_dX13_pointsByText_48_48 4 rfl) (zi_at zh_dX13_pointsByText_48_48 5 rfl) (zi_at zh_dX13_pointsByText_48_48 6 rfl) rfl
theorem dX13_pointsByText_55 : decode cX13_pointsByText 55 = .ok (.ifCond .eq 7, 3) := zo_153 (zi_at zh_dX13_pointsByText_48_48 7 rfl) (zi_at zh_dX13_pointsByText_48_48 8 rfl) (zi_at zh_dX13_pointsByText_48_48 9 rfl) rfl
theorem dX13_pointsByText_58 : decode cX13_pointsByText 58 = .ok (.iconst 1, 1) := zo_4 (zi_at zh_dX13_pointsByText_48_48 10 rfl)
theorem dX13_pointsByText_59 : decode cX13_pointsByText 59 = .ok (.goto 4, 3) := zo_167 (zi_at zh_dX13_pointsByText_48_48 11 rfl) (zi_at zh_dX13_pointsByText_48_48 12 rfl) (zi_at zh_dX13_pointsByText_48_48 13 rfl) rfl
theorem dX13_pointsByText_62 : decode cX13_pointsByText 62 = .ok (.iconst 0, 1) := zo_3 (zi_at zh_dX13_pointsByText_48_48 14 rfl)
theorem dX13_pointsByText_63 : decode cX13_pointsByText 63 = .ok (.iadd, 1) := zo_96 (zi_at zh_dX13_pointsByText_48_48 15 rfl)
theorem dX13_pointsByText_64 : decode cX13_pointsByText 64 = .ok (.istore 6, 2) := zo_54 (zi_at zh_dX13_pointsByText_64_64 0 rfl) (zi_at zh_dX13_pointsByText_64_64 1 rfl)
theorem dX13_pointsByText_66 : decode cX13_pointsByText 66 = .ok (.iload 7, 2) := zo_21 (zi_at zh_dX13_pointsByText_64_64 2 rfl) (zi_at zh_dX13_pointsByText_64_64 3 rfl)
theorem dX13_pointsByText_68 : decode cX13_pointsByText 68 = .ok (.aload_n 0, 1) := zo_42 (zi_at zh_dX13_pointsByText_64_64 4 rfl)
theorem dX13_pointsByText_69 : decode cX13_pointsByText 69 = .ok (.iload_n 1, 1) := zo_27 (zi_at zh_dX13_pointsByText_64_64 5 rfl)
theorem dX13_pointsByText_70 : decode cX13_pointsByText 70 = .ok (.iload 8, 2) := zo_21 (zi_at zh_dX13_pointsByText_64_64 6 rfl) (zi_at zh_dX13_pointsByText_64_64 7 rfl)
theorem dX13_pointsByText_72 : decode cX13_pointsByText 72 = .ok (.iload_n 3, 1) := zo_29 (zi_at zh_dX13_pointsByText_64_64 8 rfl)
theorem dX13_pointsByText_73 : decode cX13_pointsByText 73 = .ok (.invokevirtual 419, 3) := zo_182 (zi_at zh_dX13_pointsByText_64_64 9 rfl) (zi_at zh_dX13_pointsByText_64_64 10 rfl) (zi_at zh_dX13_pointsByText_64_64 11 rfl) rfl
theorem dX13_pointsByText_76 : decode cX13_pointsByText 76 = .ok (.ifCond .ne 7, 3) := zo_154 (zi_at zh_dX13_pointsByText_64_64 12 rfl) (zi_at zh_dX13_pointsByText_64_64 13 rfl) (zi_at zh_dX13_pointsByText_64_64 14 rfl) rfl
theorem dX13_pointsByText_79 : decode cX13_pointsByText 79 = .ok (.iconst 1, 1) := zo_4 (zi_at zh_dX13_pointsByText_64_64 15 rfl)
theorem dX13_pointsByText_80 : decode cX13_pointsByText 80 = .ok (.goto 4, 3) := zo_167 (zi_at zh_dX13_pointsByText_80_80 0 rfl) (zi_at zh_dX13_pointsByText_80_80 1 rfl) (zi_at zh_dX13_pointsByText_80_80 2 rfl) rfl
theorem dX13_pointsByText_83 : decode cX13_pointsByText 83 = .ok (.iconst 0, 1) := zo_3 (zi_at zh_dX13_pointsByText_80_80 3 rfl)
theorem dX13_pointsByText_84 : decode cX13_pointsByText 84 = .ok (.iadd, 1) := zo_96 (zi_at zh_dX13_pointsByText_80_80 4 rfl)
theorem dX13_pointsByText_85 : decode cX13_pointsByText 85 = .ok (.istore 7, 2) := zo_54 (zi_at zh_dX13_pointsByText_80_80 5 rfl) (zi_at zh_dX13_pointsByText_80_80 6 rfl)
theorem dX13_pointsByText_87 : decode cX13_pointsByText 87 = .ok (.iinc 8 1, 3) := zo_132 (zi_at zh_dX13_pointsByText_80_80 7 rfl) (zi_at zh_dX13_pointsByText_80_80 8 rfl) (zi_at zh_dX13_pointsByText_80_80 9 rfl) rfl
theorem dX13_pointsByText_90 : decode cX13_pointsByText 90 = .ok (.goto (-54), 3) := zo_167 (zi_at zh_dX13_pointsByText_80_80 10 rfl) (zi_at zh_dX13_pointsByText_80_80 11 rfl) (zi_at zh_dX13_pointsByText_80_80 12 rfl) rfl
theorem dX13_pointsByText_93 : decode cX13_pointsByText 93 = .ok (.aload_n 0, 1) := zo_42 (zi_at zh_dX13_pointsByText_80_80 13 rfl)
theorem dX13_pointsByText_94 : decode cX13_pointsByText 94 = .ok (.invokevirtual 377, 3) := zo_182 (zi_at zh_dX13_pointsByText_80_80 14 rfl) (zi_at zh_dX13_pointsByText_80_80 15 rfl) (zi_at zh_dX13_pointsByText_94_96 0 rfl) rfl
theorem dX13_pointsByText_97 : decode cX13_pointsByText 97 = .ok (.aload_n 0, 1) := zo_42 (zi_at zh_dX13_pointsByText_94_96 1 rfl)
theorem dX13_pointsByText_98 : decode cX13_pointsByText 98 = .ok (.getfield 44, 3) := zo_180 (zi_at zh_dX13_pointsByText_94_96 2 rfl) (zi_at zh_dX13_pointsByText_94_96 3 rfl) (zi_at zh_dX13_pointsByText_94_96 4 rfl) rfl
theorem dX13_pointsByText_101 : decode cX13_pointsByText 101 = .ok (.bipush 107, 2) := zo_16 (zi_at zh_dX13_pointsByText_94_96 5 rfl) (zi_at zh_dX13_pointsByText_94_96 6 rfl) rfl
theorem dX13_pointsByText_103 : decode cX13_pointsByText 103 = .ok (.iload 4, 2) := zo_21 (zi_at zh_dX13_pointsByText_94_96 7 rfl) (zi_at zh_dX13_pointsByText_94_96 8 rfl)
theorem dX13_pointsByText_105 : decode cX13_pointsByText 105 = .ok (.iastore, 1) := zo_79 (zi_at zh_dX13_pointsByText_94_96 9 rfl)
theorem dX13_pointsByText_106 : decode cX13_pointsByText 106 = .ok (.aload_n 0, 1) := zo_42 (zi_at zh_dX13_pointsByText_94_96 10 rfl)
theorem dX13_pointsByText_107 : decode cX13_pointsByText 107 = .ok (.getfield 44, 3) := zo_180 (zi_at zh_dX13_pointsByText_94_96 11 rfl) (zi_at zh_dX13_pointsByText_94_96 12 rfl) (zi_at zh_dX13_pointsByText_94_96 13 rfl) rfl
theorem dX13_pointsByText_110 : decode cX13_pointsByText 110 = .ok (.bipush 114, 2) := zo_16 (zi_at zh_dX13_pointsByText_94_96 14 rfl) (zi_at zh_dX13_pointsByText_94_96 15 rfl) rfl
theorem dX13_pointsByText_112 : decode cX13_pointsByText 112 = .ok (.iload 5, 2) := zo_21 (zi_at zh_dX13_pointsByText_112_112 0 rfl) (zi_at zh_dX13_pointsByText_112_112 1 rfl)
theorem dX13_pointsByText_114 : decode cX13_pointsByText 114 = .ok (.iastore, 1) := zo_79 (zi_at zh_dX13_pointsByText_112_112 2 rfl)
theorem dX13_pointsByText_115 : decode cX13_pointsByText 115 = .ok (.aload_n 0, 1) := zo_42 (zi_at zh_dX13_pointsByText_112_112 3 rfl)
theorem dX13_pointsByText_116 : decode cX13_pointsByText 116 = .ok (.getfield 44, 3) := zo_180 (zi_at zh_dX13_pointsByText_112_112 4 rfl) (zi_at zh_dX13_pointsByText_112_112 5 rfl) (zi_at zh_dX13_pointsByText_112_112 6 rfl) rfl
theorem dX13_pointsByText_119 : decode cX13_pointsByText 119 = .ok (.bipush 101, 2) := zo_16 (zi_at zh_dX13_pointsByText_112_112 7 rfl) (zi_at zh_dX13_pointsByText_112_112 8 rfl) rfl
theorem dX13_pointsByText_121 : decode cX13_pointsByText 121 = .ok (.iload 6, 2) := zo_21 (zi_at zh_dX13_pointsByText_112_112 9 rfl) (zi_at zh_dX13_pointsByText_112_112 10 rfl)
theorem dX13_pointsByText_123 : decode cX13_pointsByText 123 = .ok (.iastore, 1) := zo_79 (zi_at zh_dX13_pointsByText_112_112 11 rfl)
theorem dX13_pointsByText_124 : decode cX13_pointsByText 124 = .ok (.aload_n 0, 1) := zo_42 (zi_at zh_dX13_pointsByText_112_112 12 rfl)
theorem dX13_pointsByText_125 : decode cX13_pointsByText 125 = .ok (.getfield 44, 3) := zo_180 (zi_at zh_dX13_pointsByText_112_112 13 rfl) (zi_at zh_dX13_pointsByText_112_112 14 rfl) (zi_at zh_dX13_pointsByText_112_112 15 rfl) rfl
theorem dX13_pointsByText_128 : decode cX13_pointsByText 128 = .ok (.bipush 102, 2) := zo_16 (zi_at zh_dX13_pointsByText_128_128 0 rfl) (zi_at zh_dX13_pointsByText_128_128 1 rfl) rfl
theorem dX13_pointsByText_130 : decode cX13_pointsByText 130 = .ok (.iload 7, 2) := zo_21 (zi_at zh_dX13_pointsByText_128_128 2 rfl) (zi_at zh_dX13_pointsByText_128_128 3 rfl)
theorem dX13_pointsByText_132 : decode cX13_pointsByText 132 = .ok (.iastore, 1) := zo_79 (zi_at zh_dX13_pointsByText_128_128 4 rfl)
theorem dX13_pointsByText_133 : decode cX13_pointsByText 133 = .ok (.iconst 0, 1) := zo_3 (zi_at zh_dX13_pointsByText_128_128 5 rfl)
theorem dX13_pointsByText_134 : decode cX13_pointsByText 134 = .ok (.sipush 10000, 3) := zo_17 (zi_at zh_dX13_pointsByText_128_128 6 rfl) (zi_at zh_dX13_pointsByText_128_128 7 rfl) (zi_at zh_dX13_pointsByText_128_128 8 rfl) rfl
theorem dX13_pointsByText_137 : decode cX13_pointsByText 137 = .ok (.aload_n 0, 1) := zo_42 (zi_at zh_dX13_pointsByText_128_128 9 rfl)
theorem dX13_pointsByText_138 : decode cX13_pointsByText 138 = .ok (.bipush 112, 2) := zo_16 (zi_at zh_dX13_pointsByText_128_128 10 rfl) (zi_at zh_dX13_pointsByText_128_128 11 rfl) rfl
theorem dX13_pointsByText_140 : decode cX13_pointsByText 140 = .ok (.aload_n 0, 1) := zo_42 (zi_at zh_dX13_pointsByText_128_128 12 rfl)
theorem dX13_pointsByText_141 : decode cX13_pointsByText 141 = .ok (.getfield 50, 3) := zo_180 (zi_at zh_dX13_pointsByText_128_128 13 rfl) (zi_at zh_dX13_pointsByText_128_128 14 rfl) (zi_at zh_dX13_pointsByText_128_128 15 rfl) rfl
theorem dX13_pointsByText_144 : decode cX13_pointsByText 144 = .ok (.iload_n 1, 1) := zo_27 (zi_at zh_dX13_pointsByText_144_144 0 rfl)
theorem dX13_pointsByText_145 : decode cX13_pointsByText 145 = .ok (.iaload, 1) := zo_46 (zi_at zh_dX13_pointsByText_144_144 1 rfl)
theorem dX13_pointsByText_146 : decode cX13_pointsByText 146 = .ok (.iload_n 3, 1) := zo_29 (zi_at zh_dX13_pointsByText_144_144 2 rfl)
theorem dX13_pointsByText_147 : decode cX13_pointsByText 147 = .ok (.invokevirtual 380, 3) := zo_182 (zi_at zh_dX13_pointsByText_144_144 3 rfl) (zi_at zh_dX13_pointsByText_144_144 4 rfl) (zi_at zh_dX13_pointsByText_144_144 5 rfl) rfl
theorem dX13_pointsByText_150 : decode cX13_pointsByText 150 = .ok (.invokestatic 383, 3) := zo_184 (zi_at zh_dX13_pointsByText_144_144 6 rfl) (zi_at zh_dX13_pointsByText_144_144 7 rfl) (zi_at zh_dX13_pointsByText_144_144 8 rfl) rfl
theorem dX13_pointsByText_153 : decode cX13_pointsByText 153 = .ok (.invokestatic 385, 3) := zo_184 (zi_at zh_dX13_pointsByText_144_144 9 rfl) (zi_at zh_dX13_pointsByText_144_144 10 rfl) (zi_at zh_dX13_pointsByText_144_144 11 rfl) rfl
theorem dX13_pointsByText_156 : decode cX13_pointsByText 156 = .ok (.ireturn, 1) := zo_172 (zi_at zh_dX13_pointsByText_144_144 12 rfl)
theorem dX13_pointsOf_0 : decode cX13_pointsOf 0 = .ok (.aload_n 0, 1) := zo_42 (zi_at zh_dX13_pointsOf_0_0 0 rfl)
theorem dX13_pointsOf_1 : decode cX13_pointsOf 1 = .ok (.iload_n 1, 1) := zo_27 (zi_at zh_dX13_pointsOf_0_0 1 rfl)
theorem dX13_pointsOf_2 : decode cX13_pointsOf 2 = .ok (.iload_n 2, 1) := zo_28 (zi_at zh_dX13_pointsOf_0_0 2 rfl)
theorem dX13_pointsOf_3 : decode cX13_pointsOf 3 = .ok (.iload_n 3, 1) := zo_29 (zi_at zh_dX13_pointsOf_0_0 3 rfl)
theorem dX13_pointsOf_4 : decode cX13_pointsOf 4 = .ok (.invokevirtual 438, 3) := zo_182 (zi_at zh_dX13_pointsOf_0_0 4 rfl) (zi_at zh_dX13_pointsOf_0_0 5 rfl) (zi_at zh_dX13_pointsOf_0_0 6 rfl) rfl
theorem dX13_pointsOf_7 : decode cX13_pointsOf 7 = .ok (.ifCond .ne 11, 3) := zo_154 (zi_at zh_dX13_pointsOf_0_0 7 rfl) (zi_at zh_dX13_pointsOf_0_0 8 rfl) (zi_at zh_dX13_pointsOf_0_0 9 rfl) rfl
theorem dX13_pointsOf_10 : decode cX13_pointsOf 10 = .ok (.aload_n 0, 1) := zo_42 (zi_at zh_dX13_pointsOf_0_0 10 rfl)
theorem dX13_pointsOf_11 : decode cX13_pointsOf 11 = .ok (.iload_n 1, 1) := zo_27 (zi_at zh_dX13_pointsOf_0_0 11 rfl)
theorem dX13_pointsOf_12 : decode cX13_pointsOf 12 = .ok (.iload_n 2, 1) := zo_28 (zi_at zh_dX13_pointsOf_0_0 12 rfl)
theorem dX13_pointsOf_13 : decode cX13_pointsOf 13 = .ok (.iload_n 3, 1) := zo_29 (zi_at zh_dX13_pointsOf_0_0 13 rfl)
theorem dX13_pointsOf_14 : decode cX13_pointsOf 14 = .ok (.invokevirtual 441, 3) := zo_182 (zi_at zh_dX13_pointsOf_0_0 14 rfl) (zi_at zh_dX13_pointsOf_0_0 15 rfl) (zi_at zh_dX13_pointsOf_14_16 0 rfl) rfl
theorem dX13_pointsOf_17 : decode cX13_pointsOf 17 = .ok (.ireturn, 1) := zo_172 (zi_at zh_dX13_pointsOf_14_16 1 rfl)
theorem dX13_pointsOf_18 : decode cX13_pointsOf 18 = .ok (.iconst 0, 1) := zo_3 (zi_at zh_dX13_pointsOf_14_16 2 rfl)
theorem dX13_pointsOf_19 : decode cX13_pointsOf 19 = .ok (.istore 4, 2) := zo_54 (zi_at zh_dX13_pointsOf_14_16 3 rfl) (zi_at zh_dX13_pointsOf_14_16 4 rfl)
theorem dX13_pointsOf_21 : decode cX13_pointsOf 21 = .ok (.iconst 0, 1) := zo_3 (zi_at zh_dX13_pointsOf_14_16 5 rfl)
theorem dX13_pointsOf_22 : decode cX13_pointsOf 22 = .ok (.istore 5, 2) := zo_54 (zi_at zh_dX13_pointsOf_14_16 6 rfl) (zi_at zh_dX13_pointsOf_14_16 7 rfl)
theorem dX13_pointsOf_24 : decode cX13_pointsOf 24 = .ok (.iconst 0, 1) := zo_3 (zi_at zh_dX13_pointsOf_14_16 8 rfl)
theorem dX13_pointsOf_25 : decode cX13_pointsOf 25 = .ok (.istore 6, 2) := zo_54 (zi_at zh_dX13_pointsOf_14_16 9 rfl) (zi_at zh_dX13_pointsOf_14_16 10 rfl)
theorem dX13_pointsOf_27 : decode cX13_pointsOf 27 = .ok (.iload 6, 2) := zo_21 (zi_at zh_dX13_pointsOf_14_16 11 rfl) (zi_at zh_dX13_pointsOf_14_16 12 rfl)
theorem dX13_pointsOf_29 : decode cX13_pointsOf 29 = .ok (.aload_n 0, 1) := zo_42 (zi_at zh_dX13_pointsOf_14_16 13 rfl)
theorem dX13_pointsOf_30 : decode cX13_pointsOf 30 = .ok (.getfield 390, 3) := zo_180 (zi_at zh_dX13_pointsOf_14_16 14 rfl) (zi_at zh_dX13_pointsOf_14_16 15 rfl) (zi_at zh_dX13_pointsOf_30_32 0 rfl) rfl
theorem dX13_pointsOf_33 : decode cX13_pointsOf 33 = .ok (.if_icmp .ge 56, 3) := zo_162 (zi_at zh_dX13_pointsOf_30_32 1 rfl) (zi_at zh_dX13_pointsOf_30_32 2 rfl) (zi_at zh_dX13_pointsOf_30_32 3 rfl) rfl
theorem dX13_pointsOf_36 : decode cX13_pointsOf 36 = .ok (.iload 6, 2) := zo_21 (zi_at zh_dX13_pointsOf_30_32 4 rfl) (zi_at zh_dX13_pointsOf_30_32 5 rfl)
theorem dX13_pointsOf_38 : decode cX13_pointsOf 38 = .ok (.iload_n 1, 1) := zo_27 (zi_at zh_dX13_pointsOf_30_32 6 rfl)
theorem dX13_pointsOf_39 : decode cX13_pointsOf 39 = .ok (.if_icmp .eq 44, 3) := zo_159 (zi_at zh_dX13_pointsOf_30_32 7 rfl) (zi_at zh_dX13_pointsOf_30_32 8 rfl) (zi_at zh_dX13_pointsOf_30_32 9 rfl) rfl
theorem dX13_pointsOf_42 : decode cX13_pointsOf 42 = .ok (.aload_n 0, 1) := zo_42 (zi_at zh_dX13_pointsOf_30_32 10 rfl)
theorem dX13_pointsOf_43 : decode cX13_pointsOf 43 = .ok (.getfield 71, 3) := zo_180 (zi_at zh_dX13_pointsOf_30_32 11 rfl) (zi_at zh_dX13_pointsOf_30_32 12 rfl) (zi_at zh_dX13_pointsOf_30_32 13 rfl) rfl
theorem dX13_pointsOf_46 : decode cX13_pointsOf 46 = .ok (.iload 6, 2) := zo_21 (zi_at zh_dX13_pointsOf_30_32 14 rfl) (zi_at zh_dX13_pointsOf_30_32 15 rfl)
theorem dX13_pointsOf_48 : decode cX13_pointsOf 48 = .ok (.iaload, 1) := zo_46 (zi_at zh_dX13_pointsOf_48_48 0 rfl)
theorem dX13_pointsOf_49 : decode cX13_pointsOf 49 = .ok (.iload_n 3, 1) := zo_29 (zi_at zh_dX13_pointsOf_48_48 1 rfl)
theorem dX13_pointsOf_50 : decode cX13_pointsOf 50 = .ok (.if_icmp .gt 33, 3) := zo_163 (zi_at zh_dX13_pointsOf_48_48 2 rfl) (zi_at zh_dX13_pointsOf_48_48 3 rfl) (zi_at zh_dX13_pointsOf_48_48 4 rfl) rfl
theorem dX13_pointsOf_53 : decode cX13_pointsOf 53 = .ok (.aload_n 0, 1) := zo_42 (zi_at zh_dX13_pointsOf_48_48 5 rfl)
theorem dX13_pointsOf_54 : decode cX13_pointsOf 54 = .ok (.iload 6, 2) := zo_21 (zi_at zh_dX13_pointsOf_48_48 6 rfl) (zi_at zh_dX13_pointsOf_48_48 7 rfl)
theorem dX13_pointsOf_56 : decode cX13_pointsOf 56 = .ok (.iload_n 2, 1) := zo_28 (zi_at zh_dX13_pointsOf_48_48 8 rfl)
theorem dX13_pointsOf_57 : decode cX13_pointsOf 57 = .ok (.iload_n 3, 1) := zo_29 (zi_at zh_dX13_pointsOf_48_48 9 rfl)
theorem dX13_pointsOf_58 : decode cX13_pointsOf 58 = .ok (.invokevirtual 438, 3) := zo_182 (zi_at zh_dX13_pointsOf_48_48 10 rfl) (zi_at zh_dX13_pointsOf_48_48 11 rfl) (zi_at zh_dX13_pointsOf_48_48 12 rfl) rfl
theorem dX13_pointsOf_61 : decode cX13_pointsOf 61 = .ok (.ifCond .eq 6, 3) := zo_153 (zi_at zh_dX13_pointsOf_48_48 13 rfl) (zi_at zh_dX13_pointsOf_48_48 14 rfl) (zi_at zh_dX13_pointsOf_48_48 15 rfl) rfl
theorem dX13_pointsOf_64 : decode cX13_pointsOf 64 = .ok (.goto 19, 3) := zo_167 (zi_at zh_dX13_pointsOf_64_64 0 rfl) (zi_at zh_dX13_pointsOf_64_64 1 rfl) (zi_at zh_dX13_pointsOf_64_64 2 rfl) rfl
theorem dX13_pointsOf_67 : decode cX13_pointsOf 67 = .ok (.iload 4, 2) := zo_21 (zi_at zh_dX13_pointsOf_64_64 3 rfl) (zi_at zh_dX13_pointsOf_64_64 4 rfl)
theorem dX13_pointsOf_69 : decode cX13_pointsOf 69 = .ok (.aload_n 0, 1) := zo_42 (zi_at zh_dX13_pointsOf_64_64 5 rfl)
theorem dX13_pointsOf_70 : decode cX13_pointsOf 70 = .ok (.iload 6, 2) := zo_21 (zi_at zh_dX13_pointsOf_64_64 6 rfl) (zi_at zh_dX13_pointsOf_64_64 7 rfl)
theorem dX13_pointsOf_72 : decode cX13_pointsOf 72 = .ok (.iload_n 2, 1) := zo_28 (zi_at zh_dX13_pointsOf_64_64 8 rfl)
theorem dX13_pointsOf_73 : decode cX13_pointsOf 73 = .ok (.iload_n 3, 1) := zo_29 (zi_at zh_dX13_pointsOf_64_64 9 rfl)
theorem dX13_pointsOf_74 : decode cX13_pointsOf 74 = .ok (.invokevirtual 441, 3) := zo_182 (zi_at zh_dX13_pointsOf_64_64 10 rfl) (zi_at zh_dX13_pointsOf_64_64 11 rfl) (zi_at zh_dX13_pointsOf_64_64 12 rfl) rfl
theorem dX13_pointsOf_77 : decode cX13_pointsOf 77 = .ok (.iadd, 1) := zo_96 (zi_at zh_dX13_pointsOf_64_64 13 rfl)
theorem dX13_pointsOf_78 : decode cX13_pointsOf 78 = .ok (.istore 4, 2) := zo_54 (zi_at zh_dX13_pointsOf_64_64 14 rfl) (zi_at zh_dX13_pointsOf_64_64 15 rfl)
theorem dX13_pointsOf_80 : decode cX13_pointsOf 80 = .ok (.iinc 5 1, 3) := zo_132 (zi_at zh_dX13_pointsOf_80_80 0 rfl) (zi_at zh_dX13_pointsOf_80_80 1 rfl) (zi_at zh_dX13_pointsOf_80_80 2 rfl) rfl
theorem dX13_pointsOf_83 : decode cX13_pointsOf 83 = .ok (.iinc 6 1, 3) := zo_132 (zi_at zh_dX13_pointsOf_80_80 3 rfl) (zi_at zh_dX13_pointsOf_80_80 4 rfl) (zi_at zh_dX13_pointsOf_80_80 5 rfl) rfl
theorem dX13_pointsOf_86 : decode cX13_pointsOf 86 = .ok (.goto (-59), 3) := zo_167 (zi_at zh_dX13_pointsOf_80_80 6 rfl) (zi_at zh_dX13_pointsOf_80_80 7 rfl) (zi_at zh_dX13_pointsOf_80_80 8 rfl) rfl
theorem dX13_pointsOf_89 : decode cX13_pointsOf 89 = .ok (.iload 5, 2) := zo_21 (zi_at zh_dX13_pointsOf_80_80 9 rfl) (zi_at zh_dX13_pointsOf_80_80 10 rfl)
theorem dX13_pointsOf_91 : decode cX13_pointsOf 91 = .ok (.ifCond .ne 7, 3) := zo_154 (zi_at zh_dX13_pointsOf_80_80 11 rfl) (zi_at zh_dX13_pointsOf_80_80 12 rfl) (zi_at zh_dX13_pointsOf_80_80 13 rfl) rfl
theorem dX13_pointsOf_94 : decode cX13_pointsOf 94 = .ok (.iconst 0, 1) := zo_3 (zi_at zh_dX13_pointsOf_80_80 14 rfl)
theorem dX13_pointsOf_95 : decode cX13_pointsOf 95 = .ok (.goto 8, 3) := zo_167 (zi_at zh_dX13_pointsOf_80_80 15 rfl) (zi_at zh_dX13_pointsOf_95_96 0 rfl) (zi_at zh_dX13_pointsOf_95_96 1 rfl) rfl
theorem dX13_pointsOf_98 : decode cX13_pointsOf 98 = .ok (.iload 4, 2) := zo_21 (zi_at zh_dX13_pointsOf_95_96 2 rfl) (zi_at zh_dX13_pointsOf_95_96 3 rfl)
theorem dX13_pointsOf_100 : decode cX13_pointsOf 100 = .ok (.iload 5, 2) := zo_21 (zi_at zh_dX13_pointsOf_95_96 4 rfl) (zi_at zh_dX13_pointsOf_95_96 5 rfl)
theorem dX13_pointsOf_102 : decode cX13_pointsOf 102 = .ok (.idiv, 1) := zo_108 (zi_at zh_dX13_pointsOf_95_96 6 rfl)
theorem dX13_pointsOf_103 : decode cX13_pointsOf 103 = .ok (.ireturn, 1) := zo_172 (zi_at zh_dX13_pointsOf_95_96 7 rfl)
theorem dX13_points_0 : decode cX13_points 0 = .ok (.aload_n 0, 1) := zo_42 (zi_at zh_dX13_points_0_0 0 rfl)
theorem dX13_points_1 : decode cX13_points 1 = .ok (.iload_n 1, 1) := zo_27 (zi_at zh_dX13_points_0_0 1 rfl)
theorem dX13_points_2 : decode cX13_points 2 = .ok (.iload_n 2, 1) := zo_28 (zi_at zh_dX13_points_0_0 2 rfl)
theorem dX13_points_3 : decode cX13_points 3 = .ok (.iload_n 3, 1) := zo_29 (zi_at zh_dX13_points_0_0 3 rfl)
theorem dX13_points_4 : decode cX13_points 4 = .ok (.invokevirtual 413, 3) := zo_182 (zi_at zh_dX13_points_0_0 4 rfl) (zi_at zh_dX13_points_0_0 5 rfl) (zi_at zh_dX13_points_0_0 6 rfl) rfl
theorem dX13_points_7 : decode cX13_points 7 = .ok (.ifCond .eq 13, 3) := zo_153 (zi_at zh_dX13_points_0_0 7 rfl) (zi_at zh_dX13_points_0_0 8 rfl) (zi_at zh_dX13_points_0_0 9 rfl) rfl
theorem dX13_points_10 : decode cX13_points 10 = .ok (.aload_n 0, 1) := zo_42 (zi_at zh_dX13_points_0_0 10 rfl)
theorem dX13_points_11 : decode cX13_points 11 = .ok (.iload_n 1, 1) := zo_27 (zi_at zh_dX13_points_0_0 11 rfl)
theorem dX13_points_12 : decode cX13_points 12 = .ok (.iload_n 2, 1) := zo_28 (zi_at zh_dX13_points_0_0 12 rfl)
theorem dX13_points_13 : decode cX13_points 13 = .ok (.iload_n 3, 1) := zo_29 (zi_at zh_dX13_points_0_0 13 rfl)
theorem dX13_points_14 : decode cX13_points 14 = .ok (.invokevirtual 444, 3) := zo_182 (zi_at zh_dX13_points_0_0 14 rfl) (zi_at zh_dX13_points_0_0 15 rfl) (zi_at zh_dX13_points_14_16 0 rfl) rfl
theorem dX13_points_17 : decode cX13_points 17 = .ok (.goto 4, 3) := zo_167 (zi_at zh_dX13_points_14_16 1 rfl) (zi_at zh_dX13_points_14_16 2 rfl) (zi_at zh_dX13_points_14_16 3 rfl) rfl
theorem dX13_points_20 : decode cX13_points 20 = .ok (.iconst (-1), 1) := zo_2 (zi_at zh_dX13_points_14_16 4 rfl)
theorem dX13_points_21 : decode cX13_points 21 = .ok (.ireturn, 1) := zo_172 (zi_at zh_dX13_points_14_16 5 rfl)
theorem hz_yX13_pointsByText_3 : yX13_pointsByText.cls ≠ "java/lang/invoke/MethodHandle" ∧ yX13_pointsByText.cls ≠ "java/lang/invoke/VarHandle" ∧ (parseMethodDescriptor yX13_pointsByText.desc).map (fun d => d.parameters.length) = some 3 := by decide +kernel
theorem hz_yX13_pointsOf_3 : yX13_pointsOf.cls ≠ "java/lang/invoke/MethodHandle" ∧ yX13_pointsOf.cls ≠ "java/lang/invoke/VarHandle" ∧ (parseMethodDescriptor yX13_pointsOf.desc).map (fun d => d.parameters.length) = some 3 := by decide +kernel

def v_pointsByTextM : List Cond := .code yX13_pointsByText cX13_pointsByText 9 (some .int) :: vA
abbrev rm_pointsByTextM : Room := { frames := 74, cells := 0, slots := 0, locals := 2960 }
def w_pointsByTextM : Nat → Nat → Bool := wl [12] [(0, 18), (0, 19), (0, 20), (0, 21), (0, 22), (0, 23), (0, 24), (0, 25), (0, 26)]
set_option maxHeartbeats 4000000 in
set_option maxRecDepth 100000 in
theorem q_pointsByTextM (l : Launch) (dC : Nat → ClassId) (dI : Nat → Nat → Nat) (cT : Nat → ClassId) (ad : Nat → Nat) (E : Nat → va_E) (sz : Nat) (a0 : Int32) (a1 : Int32) (a2 : Int32) (hI0 : IX cT shM spM 72 ad E) (hh0 : 0 ≤ a0.toInt ∧ a0.toInt ≤ 19) (hh1 : 0 ≤ a1.toInt ∧ a1.toInt ≤ 15) (hh2 : TXM E) : Met l yX13_pointsByText v_pointsByTextM rm_pointsByTextM (va_Pc [.ref (ad 0), .int a0, .int a1, .int a2] (HW dC dI (TYM cT) 72 ad E sz)) (va_Qi (S := Nat → va_E) (fun r u => IX cT shM spM 72 ad u ∧ Kp w_pointsByTextM E u ∧ ((PpM E a0 a1 a2 r.toInt))) (HB dC dI 72 ad) (va_A (WX 72 ad E) sz)) 0 0 (va_A (WX 72 ad E) sz) := by
  refine Met.ofW (cc := cX13_pointsByText) (maxL := 9) (ret := (some .int)) (by decide) rfl ?_
  intro p e s m args below meth c s₁ B hml hv
  obtain ⟨hargs, hsz, hP, hK, hD0, hEV⟩ := hv
  subst hsz
  have hx := B.exec
  have hb := B.bytes
  have hr := B.returns
  have hts := atoms_spec (ws := v_pointsByTextM) B.pre
  have hown : s.vm.findClass RX13 = some m.cls := findClass_of_methodNamed B.named
  have hlocks := B.notSynchronized
  have hinX13 : ∀ w ∈ u_ws RX13 TX13 97, w ∈ v_pointsByTextM := fun w h => vA_in _ w (in_X13 w h)
  generalize hAe : va_A (WX 72 ad E) s.heap.size = A at hEV ⊢
  have hA : ∀ q : Nat, s.heap.size ≤ q → A q := fun q h => by rw [← hAe]; exact Or.inr h
  have hD : va_D A (WX 72 ad E) := by rw [← hAe]; exact hD0.self
  have hS : va_S A s.heap s.heap [] := va_S.rf
  have hI := hI0
  have hKp : Kp w_pointsByTextM E E := Kp.rf
  have hl := lv_entry ([.ref (ad 0), .int a0, .int a1, .int a2]) (n := 9) (Nat.le_of_ble_eq_true rfl)
  obtain ⟨Q, hQ⟩ : ∃ Q, Q = MQ below (va_Qi (S := Nat → va_E) (fun r u => IX cT shM spM 72 ad u ∧ Kp w_pointsByTextM E u ∧ ((PpM E a0 a1 a2 r.toInt))) (HB dC dI 72 ad) (A)) args s 0 0 (A) := ⟨_, rfl⟩
  rw [← hQ, show entryFrame m args 9 = _ from (congrArg (fun z => entryFrame m z 9) hargs).trans (lg_entry_eq _ _ _)]
  generalize (lg_sl ([.ref (ad 0), .int a0, .int a1, .int a2]) ++ List.replicate (9 - (lg_sl ([.ref (ad 0), .int a0, .int a1, .int a2])).length) Slot.unset).toArray = ls at hl ⊢
  have hl : lv_has ls 9 [(0, .ref (ad 0)), (1, .int a0), (2, .int a1), (3, .int a2)] := hl
  have z0z : (0 : Int32).toInt = 0 := rfl
  have ib8 : 0 ≤ (xi (E 0) 8).toInt ∧ (xi (E 0) 8).toInt ≤ 16 := hI0.iv 0 (Nat.le_of_ble_eq_true rfl) rfl (Nat.le_of_ble_eq_true rfl) rfl
  have z0 := ln_0
  have z1 := ln_1
  refine lv_aload_n hx hb dX13_pointsByText_0 rfl (lv_at hl 0 rfl) ?_
  refine lv_iload_n hx hb dX13_pointsByText_1 rfl (lv_at hl 1 rfl) ?_
  refine lv_iload_n hx hb dX13_pointsByText_2 rfl (lv_at hl 2 rfl) ?_
  refine lv_iload_n hx hb dX13_pointsByText_3 rfl (lv_at hl 3 rfl) ?_
  refine th_ri (va_runV (As := [.int a0, .int a1, .int a2]) (rest := []) ⟨hx, hb, hml, hown, hts⟩ (q_codeOfM l dC dI cT ad E s.heap.size a0 a1 a2 hI hh0 hh1) (cwV 3 hts (gi_V (in_27 _ (zs16 (zs16 (zs4 (zs0))))) (in_27 _ (zs16 (zs16 (zs4 (zs1 (zs0)))))) (in_27 _ (zs16 (zs16 (zs4 (zs1 (zs1 (zs0))))))) (in_24 _ (zs4 (zs4 (zs4 (zs1 (zs1 (zs1 (zs0)))))))) (in_27 _ (zs16 (zs16 (zs4 (zs1 (zs1 (zs1 (zs0))))))))) rfl rfl rfl ⟨rfl, hz_yX13_codeOf_3⟩ ⟨Nat.le_of_ble_eq_true rfl, Nat.le_of_ble_eq_true rfl⟩) ⟨HW_bl, va_recv hK hP (ci := 14) (q0 := 0) rfl (hI.ob 0 (Nat.le_of_ble_eq_true rfl) rfl), (HW_wi hP hK (WX_D hD) hS hA hEV)⟩ rfl rfl hl.1 rfl (lv_room (Nat.le_of_ble_eq_true rfl)) dX13_pointsByText_4 ⟨Nat.le_of_ble_eq_true rfl, Nat.le_of_ble_eq_true rfl⟩) hS hP (fun r1 H locs hw hP hS => ?_)
  obtain ⟨f2, f3⟩ := hw
  have i4 : 0 ≤ (xi (E 0) 47).toInt ∧ (xi (E 0) 47).toInt ≤ 300 := (show 0 ≤ (xi (E 0) 47).toInt ∧ (xi (E 0) 47).toInt ≤ 300 from hI0.iv 0 (Nat.le_of_ble_eq_true rfl) rfl (Nat.le_of_ble_eq_true rfl) rfl)
  refine lv_istore (lv' := [(4, .int r1), (0, .ref (ad 0)), (1, .int a0), (2, .int a1), (3, .int a2)]) hx hb dX13_pointsByText_7 hl (by decide) rfl (fun ls hl => ?_)
  refine lv_iload hx hb dX13_pointsByText_9 (lv_at hl 0 rfl) ?_
  refine lv_if_ne (tgt := 24) hx hb dX13_pointsByText_11 (by decide) (fun c5 => ?_) (fun c5 => ?_)
  · --11 taken
    have t6 : ¬ r1.toInt = 0 := ti_ne c5
    have i7 : 1 ≤ r1.toInt ∧ r1.toInt ≤ 5 := iv_ne_l t6 f2 (il_ 0)
    refine lv_iconst (v := 0) hx hb dX13_pointsByText_24 (by decide) ?_
    refine lv_istore (lv' := [(5, .int 0), (4, .int r1), (0, .ref (ad 0)), (1, .int a0), (2, .int a1), (3, .int a2)]) hx hb dX13_pointsByText_25 hl (by decide) rfl (fun ls hl => ?_)
    refine lv_iconst (v := 0) hx hb dX13_pointsByText_27 (by decide) ?_
    refine lv_istore (lv' := [(6, .int 0), (5, .int 0), (4, .int r1), (0, .ref (ad 0)), (1, .int a0), (2, .int a1), (3, .int a2)]) hx hb dX13_pointsByText_28 hl (by decide) rfl (fun ls hl => ?_)
    refine lv_iconst (v := 0) hx hb dX13_pointsByText_30 (by decide) ?_
    refine lv_istore (lv' := [(7, .int 0), (6, .int 0), (5, .int 0), (4, .int r1), (0, .ref (ad 0)), (1, .int a0), (2, .int a1), (3, .int a2)]) hx hb dX13_pointsByText_31 hl (by decide) rfl (fun ls hl => ?_)
    refine lv_iconst (v := 0) hx hb dX13_pointsByText_33 (by decide) ?_
    refine lv_istore (lv' := [(8, .int 0), (7, .int 0), (6, .int 0), (5, .int 0), (4, .int r1), (0, .ref (ad 0)), (1, .int a0), (2, .int a1), (3, .int a2)]) hx hb dX13_pointsByText_34 hl (by decide) rfl (fun ls hl => ?_)
    have hL36 : ∀ d : Nat, ∀ (v36_8 : Int32) (v36_7 : Int32) (v36_6 : Int32) (H : Heap) (locs : List Loc) (ls : Array Slot), 0 ≤ v36_8.toInt ∧ v36_8.toInt ≤ 16 → 0 ≤ v36_7.toInt ∧ v36_7.toInt ≤ 16 → 0 ≤ v36_6.toInt ∧ v36_6.toInt ≤ 16 → CnR (fun o9 => entMd E a0.toInt ((o9 : Nat) : Int) a2.toInt) v36_8.toNatClampNeg v36_6.toInt → CnR (fun o9 => CdM E a0 (nI o9) a2 0) v36_8.toNatClampNeg v36_7.toInt → v36_8.toInt ≤ (xi (E 0) 8).toInt → 0 ≤ v36_6.toInt ∧ v36_6.toInt ≤ v36_8.toInt → 0 ≤ v36_7.toInt ∧ v36_7.toInt ≤ v36_8.toInt → 16 - v36_8.toInt < (d : Int) → va_P (dC, dI) vwCl (WX 72 ad E) H → va_S A s.heap H locs → lv_has ls 9 [(8, .int v36_8), (7, .int v36_7), (6, .int v36_6), (5, .int 0), (4, .int r1), (0, .ref (ad 0)), (1, .int a0), (2, .int a1), (3, .int a2)] → W p l e (headSpec v_pointsByTextM rm_pointsByTextM).room s m args below meth c H locs 0 0 Q (F0 m 36 ls []) := by
      intro d
      induction d with
      | zero =>
        intro v36_8 v36_7 v36_6 H locs ls hv36_8 hv36_7 hv36_6 hx36_0 hx36_1 hx36_2 hx36_3 hx36_4 hx36_5 hP hS hl
        exact absurd hx36_5 (by first | exact ms_zu hv36_8.2 | omega)
      | succ d ih36 =>
        intro v36_8 v36_7 v36_6 H locs ls hv36_8 hv36_7 hv36_6 hx36_0 hx36_1 hx36_2 hx36_3 hx36_4 hx36_5 hP hS hl
        refine lv_iload hx hb dX13_pointsByText_36 (lv_at hl 0 rfl) ?_
        refine lv_aload_n hx hb dX13_pointsByText_38 rfl (lv_at hl 5 rfl) ?_
        have i8 : 0 ≤ (xi (E 0) 8).toInt ∧ (xi (E 0) 8).toInt ≤ 16 := hI0.iv 0 (Nat.le_of_ble_eq_true rfl) rfl (Nat.le_of_ble_eq_true rfl) rfl
        refine th_get (ci := 14) (C := RX13) (T := TX13) (N := 97) (v := .int (xi (E 0) 8)) hx hb hts hinX13 hown hK hP hI 0 (Nat.le_of_ble_eq_true rfl) rfl rfl 8 (Nat.le_of_ble_eq_true rfl) (hts _ (vA_in _ _ (in_24 _ (zs16 (zs4 (zs1 (zs1 (zs0)))))))) (fun _ h9 => h9) (th_v0 hKp hI0 0 (Nat.le_of_ble_eq_true rfl) rfl (Nat.le_of_ble_eq_true rfl) rfl rfl) dX13_pointsByText_39 ?_
        refine lv_icmp_ge (tgt := 93) hx hb dX13_pointsByText_42 (by decide) (fun c9 => ?_) (fun c9 => ?_)
        · --42 taken
          have t10 : (xi (E 0) 8).toInt ≤ v36_8.toInt := ti_le c9
          refine lv_aload_n hx hb dX13_pointsByText_93 rfl (lv_at hl 5 rfl) ?_
          refine th_v (va_runV (As := []) (rest := []) ⟨hx, hb, hml, hown, hts⟩ (q_clearX l dC dI cT ad E H.size hI) (cwV 0 hts (gi_V (in_28 _ (zs16 (zs4 (zs4 (zs4 (zs1 (zs1 (zs0)))))))) (in_28 _ (zs16 (zs4 (zs4 (zs4 (zs1 (zs1 (zs1 (zs0))))))))) (in_28 _ (zs16 (zs16 (zs0)))) (in_24 _ (zs4 (zs4 (zs4 (zs1 (zs1 (zs1 (zs0)))))))) (in_28 _ (zs16 (zs16 (zs1 (zs0)))))) rfl rfl rfl ⟨rfl, hz_yX13_clear_0⟩ ⟨Nat.le_of_ble_eq_true rfl, Nat.le_of_ble_eq_true rfl⟩) ⟨HW_bl, va_recv hK hP (ci := 14) (q0 := 0) rfl (hI.ob 0 (Nat.le_of_ble_eq_true rfl) rfl), (HW_wi hP hK (WX_D hD) hS hA hEV)⟩ rfl rfl hl.1 rfl (lv_room (Nat.le_of_ble_eq_true rfl)) dX13_pointsByText_94 ⟨Nat.le_of_ble_eq_true rfl, Nat.le_of_ble_eq_true rfl⟩) (WX_D hD) hS hA (fun E12 H locs hw hP hS => ?_)
          obtain ⟨hI, kq13, hw⟩ := hw
          have hKb := hKp
          have hKp := hKp.tr kq13 (wl_sub rfl rfl)
          have f14 := hw
          refine lv_aload_n hx hb dX13_pointsByText_97 rfl (lv_at hl 5 rfl) ?_
          refine th_get (ci := 14) (C := RX13) (T := TX13) (N := 97) (v := .ref (ad 12)) hx hb hts hinX13 hown hK hP hI 0 (Nat.le_of_ble_eq_true rfl) rfl rfl 15 (Nat.le_of_ble_eq_true rfl) (hts _ (vA_in _ _ (in_25 _ (zs16 (zs16 (zs4 (zs1 (zs0)))))))) (fun _ h9 => h9) (hI.fr 0 (Nat.le_of_ble_eq_true rfl) rfl (Nat.le_of_ble_eq_true rfl) 12 rfl) dX13_pointsByText_98 ?_
          refine lv_bipush (v := 107) hx hb dX13_pointsByText_101 (by decide) ?_
          refine lv_iload hx hb dX13_pointsByText_103 (lv_at hl 4 rfl) ?_
          have n15 : vp_in (107 : Int32) 128 := (iv_in (n := 128) ln_107 (by decide))
          refine th_iast hx hb hK hP (WX_D hD) hS hI 12 (Nat.le_of_ble_eq_true rfl) rfl rfl n15 (okI rfl (iv_w i7 (by decide))) dX13_pointsByText_105 (fun H locs E16 pw17 hI hP hS => ?_)
          have hKp := hKp.pw pw17 rfl
          have k18 : mLt E16 = lset lz 3 r1 := (mL_set (k := 3) pw17 (by decide) rfl).trans (by rw [f14])
          refine lv_aload_n hx hb dX13_pointsByText_106 rfl (lv_at hl 5 rfl) ?_
          refine th_get (ci := 14) (C := RX13) (T := TX13) (N := 97) (v := .ref (ad 12)) hx hb hts hinX13 hown hK hP hI 0 (Nat.le_of_ble_eq_true rfl) rfl rfl 15 (Nat.le_of_ble_eq_true rfl) (hts _ (vA_in _ _ (in_25 _ (zs16 (zs16 (zs4 (zs1 (zs0)))))))) (fun _ h9 => h9) (hI.fr 0 (Nat.le_of_ble_eq_true rfl) rfl (Nat.le_of_ble_eq_true rfl) 12 rfl) dX13_pointsByText_107 ?_
          refine lv_bipush (v := 114) hx hb dX13_pointsByText_110 (by decide) ?_
          refine lv_iload hx hb dX13_pointsByText_112 (lv_at hl 3 rfl) ?_
          have n19 : vp_in (114 : Int32) 128 := (iv_in (n := 128) ln_114 (by decide))
          refine th_iast hx hb hK hP (WX_D hD) hS hI 12 (Nat.le_of_ble_eq_true rfl) rfl rfl n19 (okI rfl (iv_w ln_0 (by decide))) dX13_pointsByText_114 (fun H locs E20 pw21 hI hP hS => ?_)
          have hKp := hKp.pw pw21 rfl
          have k22 : mLt E20 = lset (lset lz 3 r1) 4 ((0 : Int32)) := (mL_set (k := 4) pw21 (by decide) rfl).trans (by rw [k18])
          refine lv_aload_n hx hb dX13_pointsByText_115 rfl (lv_at hl 5 rfl) ?_
          refine th_get (ci := 14) (C := RX13) (T := TX13) (N := 97) (v := .ref (ad 12)) hx hb hts hinX13 hown hK hP hI 0 (Nat.le_of_ble_eq_true rfl) rfl rfl 15 (Nat.le_of_ble_eq_true rfl) (hts _ (vA_in _ _ (in_25 _ (zs16 (zs16 (zs4 (zs1 (zs0)))))))) (fun _ h9 => h9) (hI.fr 0 (Nat.le_of_ble_eq_true rfl) rfl (Nat.le_of_ble_eq_true rfl) 12 rfl) dX13_pointsByText_116 ?_
          refine lv_bipush (v := 101) hx hb dX13_pointsByText_119 (by decide) ?_
          refine lv_iload hx hb dX13_pointsByText_121 (lv_at hl 2 rfl) ?_
          have n23 : vp_in (101 : Int32) 128 := (iv_in (n := 128) ln_101 (by decide))
          refine th_iast hx hb hK hP (WX_D hD) hS hI 12 (Nat.le_of_ble_eq_true rfl) rfl rfl n23 (okI rfl (iv_w hv36_6 (by decide))) dX13_pointsByText_123 (fun H locs E24 pw25 hI hP hS => ?_)
          have hKp := hKp.pw pw25 rfl
          have k26 : mLt E24 = lset (lset (lset lz 3 r1) 4 ((0 : Int32))) 5 v36_6 := (mL_set (k := 5) pw25 (by decide) rfl).trans (by rw [k22])
          refine lv_aload_n hx hb dX13_pointsByText_124 rfl (lv_at hl 5 rfl) ?_
          refine th_get (ci := 14) (C := RX13) (T := TX13) (N := 97) (v := .ref (ad 12)) hx hb hts hinX13 hown hK hP hI 0 (Nat.le_of_ble_eq_true rfl) rfl rfl 15 (Nat.le_of_ble_eq_true rfl) (hts _ (vA_in _ _ (in_25 _ (zs16 (zs16 (zs4 (zs1 (zs0)))))))) (fun _ h9 => h9) (hI.fr 0 (Nat.le_of_ble_eq_true rfl) rfl (Nat.le_of_ble_eq_true rfl) 12 rfl) dX13_pointsByText_125 ?_
          refine lv_bipush (v := 102) hx hb dX13_pointsByText_128 (by decide) ?_
          refine lv_iload hx hb dX13_pointsByText_130 (lv_at hl 1 rfl) ?_
          have n27 : vp_in (102 : Int32) 128 := (iv_in (n := 128) ln_102 (by decide))
          refine th_iast hx hb hK hP (WX_D hD) hS hI 12 (Nat.le_of_ble_eq_true rfl) rfl rfl n27 (okI rfl (iv_w hv36_7 (by decide))) dX13_pointsByText_132 (fun H locs E28 pw29 hI hP hS => ?_)
          have hKp := hKp.pw pw29 rfl
          have k30 : mLt E28 = lset (lset (lset (lset lz 3 r1) 4 ((0 : Int32))) 5 v36_6) 6 v36_7 := (mL_set (k := 6) pw29 (by decide) rfl).trans (by rw [k26])
          refine lv_iconst (v := 0) hx hb dX13_pointsByText_133 (by decide) ?_
          refine lv_sipush (v := 10000) hx hb dX13_pointsByText_134 (by decide) ?_
          refine lv_aload_n hx hb dX13_pointsByText_137 rfl (lv_at hl 5 rfl) ?_
          refine lv_bipush (v := 112) hx hb dX13_pointsByText_138 (by decide) ?_
          refine lv_aload_n hx hb dX13_pointsByText_140 rfl (lv_at hl 5 rfl) ?_
          refine th_get (ci := 14) (C := RX13) (T := TX13) (N := 97) (v := .ref (ad 13)) hx hb hts hinX13 hown hK hP hI 0 (Nat.le_of_ble_eq_true rfl) rfl rfl 27 (Nat.le_of_ble_eq_true rfl) (hts _ (vA_in _ _ (in_27 _ (zs16 (zs16 (zs0)))))) (fun _ h9 => h9) (hI.fr 0 (Nat.le_of_ble_eq_true rfl) rfl (Nat.le_of_ble_eq_true rfl) 13 rfl) dX13_pointsByText_141 ?_
          refine lv_iload_n hx hb dX13_pointsByText_144 rfl (lv_at hl 6 rfl) ?_
          have n32 : vp_in a0 20 := (iv_in (n := 20) hh0 (by decide))
          refine th_iald hx hb hK hP hI 13 (Nat.le_of_ble_eq_true rfl) rfl rfl n32 dX13_pointsByText_145 (fun y31 ey31 => ?_)
          have iy31 : 0 ≤ y31.toInt ∧ y31.toInt ≤ 400 := hI.el 13 (Nat.le_of_ble_eq_true rfl) rfl n32 (fun _ => rfl) ey31
          have ey31 := ey31.trans (hKp.ei 13 _ rfl)
          refine lv_iload_n hx hb dX13_pointsByText_146 rfl (lv_at hl 8 rfl) ?_
          have z112 := ln_112
          refine th_i (va_runV (As := [.int 112, .int y31, .int a2]) (rest := [.int 10000, .int 0]) ⟨hx, hb, hml, hown, hts⟩ (q_worthM l dC dI cT ad E28 H.size (112 : Int32) y31 a2 hI (iv_w ln_112 (by decide)) (by exact hh2.cg (fun j9 => hKp.ei 8 j9 rfl) (fun j9 => hKp.ei 9 j9 rfl) (hKp.ei 0 17 rfl))) (cwV 3 hts (gi_V (in_28 _ (zs16 (zs16 (zs1 (zs1 (zs0)))))) (in_28 _ (zs16 (zs16 (zs1 (zs1 (zs1 (zs0))))))) (in_28 _ (zs16 (zs16 (zs4 (zs0))))) (in_24 _ (zs4 (zs4 (zs4 (zs1 (zs1 (zs1 (zs0)))))))) (in_28 _ (zs16 (zs16 (zs4 (zs1 (zs0))))))) rfl rfl rfl ⟨rfl, hz_yX13_worth_3⟩ ⟨Nat.le_of_ble_eq_true rfl, Nat.le_of_ble_eq_true rfl⟩) ⟨HW_bl, va_recv hK hP (ci := 14) (q0 := 0) rfl (hI.ob 0 (Nat.le_of_ble_eq_true rfl) rfl), (HW_wi hP hK (WX_D hD) hS hA hEV)⟩ rfl rfl hl.1 rfl (lv_room (Nat.le_of_ble_eq_true rfl)) dX13_pointsByText_147 ⟨Nat.le_of_ble_eq_true rfl, Nat.le_of_ble_eq_true rfl⟩) (WX_D hD) hS hA (fun r33 E34 H locs hw hP hS => ?_)
          obtain ⟨hI, kq35, hw⟩ := hw
          have hKb := hKp
          have hKp := hKp.tr kq35 (wl_sub rfl rfl)
          have f36 := hw
          have i37 : 0 ≤ (xi (E 0) 17).toInt ∧ (xi (E 0) 17).toInt ≤ 16 := (show 0 ≤ (xi (E 0) 17).toInt ∧ (xi (E 0) 17).toInt ≤ 16 from hI0.iv 0 (Nat.le_of_ble_eq_true rfl) rfl (Nat.le_of_ble_eq_true rfl) rfl)
          have k39 : KdN E E28 := KdN.of hKb rfl rfl rfl rfl rfl
          have k38 : r33 = wML (ptL r1.toInt ((0 : Int32)).toInt v36_6.toInt v36_7.toInt) E 112 (lawM E (xi (E 13) a0.toNatClampNeg) a2) := f36.trans (by rw [k30, ptL_of, k39.wml, k39.law, ey31]; rfl)
          refine va_mmin hx hb (by rw [hml]; exact hl.1.symm) hown (hts _ (vA_in _ _ (in_28 _ (zs16 (zs4 (zs4 (zs1 (zs1 (zs0))))))))) (hts _ (vA_in _ _ (in_0 _ (zs16 (zs16 (zs4 (zs0))))))) (hts _ (vA_in _ _ (in_0 _ (zs16 (zs16 (zs1 (zs0))))))) (hts _ (vA_in _ _ (in_0 _ (zs16 (zs16 (zs4 (zs1 (zs0)))))))) (Nat.le_of_ble_eq_true rfl) (Nat.le_of_ble_eq_true rfl) (Nat.le_of_ble_eq_true rfl) (Nat.le_of_ble_eq_true rfl) dX13_pointsByText_150 ?_
          have z10000 := ln_10000
          refine lv_topi (fun y40 ey40 => ?_)
          obtain ⟨ty40, iy40⟩ := ti_min (e := (-2147483648)) (f := 10000) ln_10000 (iv_all _) ey40 (by decide)
          have iy40 : -2147483648 ≤ y40.toInt ∧ y40.toInt ≤ 10000 := iy40
          refine va_mmax hx hb (by rw [hml]; exact hl.1.symm) hown (hts _ (vA_in _ _ (in_25 _ (zs16 (zs4 (zs4 (zs1 (zs1 (zs1 (zs0)))))))))) (hts _ (vA_in _ _ (in_0 _ (zs16 (zs16 (zs0)))))) (hts _ (vA_in _ _ (in_0 _ (zs16 (zs16 (zs1 (zs0))))))) (hts _ (vA_in _ _ (in_0 _ (zs16 (zs16 (zs1 (zs1 (zs0)))))))) (Nat.le_of_ble_eq_true rfl) (Nat.le_of_ble_eq_true rfl) (Nat.le_of_ble_eq_true rfl) (Nat.le_of_ble_eq_true rfl) dX13_pointsByText_153 ?_
          refine lv_topi (fun y41 ey41 => ?_)
          obtain ⟨ty41, iy41⟩ := ti_max (e := 0) (f := 10000) ln_0 iy40 ey41 (by decide)
          have iy41 : 0 ≤ y41.toInt ∧ y41.toInt ≤ 10000 := iy41
          rw [hQ]
          exact W.iret (v := y41) hx hb hr (fun t ht hW => ⟨⟨y41, E34, rfl, ⟨hI, hKp, ⟨r1.toInt, ((0 : Int32)).toInt, v36_6.toInt, v36_7.toInt, f3, (fun z9 => absurd z9 (by omega)), (fun _ => rfl), (by have h9 := hx36_0; rw [show v36_8.toNatClampNeg = (xi (E 0) 8).toNatClampNeg by rw [tn_, tn_]; omega] at h9; exact h9), (by have h9 := hx36_1; rw [show v36_8.toNatClampNeg = (xi (E 0) 8).toNatClampNeg by rw [tn_, tn_]; omega] at h9; exact h9), (by unfold clamp; rw [← k38]; have z0 := ln_0; have z1 := ln_10000; omega)⟩⟩, by show va_P (dC, dI) vwCl (WX 72 ad E34) t.heap; rw [ht]; exact hP⟩, hS.F ht⟩) hS.2.2 dX13_pointsByText_156
        · --42 not
          have t42 : v36_8.toInt < (xi (E 0) 8).toInt := ti_nle c9
          have i43 : 0 ≤ v36_8.toInt ∧ v36_8.toInt ≤ 15 := iv_lt_l t42 hv36_8 i8 (by decide)
          have i44 : 1 ≤ (xi (E 0) 8).toInt ∧ (xi (E 0) 8).toInt ≤ 16 := iv_lt_r t42 hv36_8 i8 (by decide)
          have i45 : 0 ≤ v36_6.toInt ∧ v36_6.toInt ≤ 15 := by omega
          have i46 : 0 ≤ v36_7.toInt ∧ v36_7.toInt ≤ 15 := by omega
          refine lv_iload hx hb dX13_pointsByText_45 (lv_at hl 2 rfl) ?_
          refine lv_aload_n hx hb dX13_pointsByText_47 rfl (lv_at hl 5 rfl) ?_
          refine lv_iload_n hx hb dX13_pointsByText_48 rfl (lv_at hl 6 rfl) ?_
          refine lv_iload hx hb dX13_pointsByText_49 (lv_at hl 0 rfl) ?_
          refine lv_iload_n hx hb dX13_pointsByText_51 rfl (lv_at hl 8 rfl) ?_
          refine th_ri (va_runV (As := [.int a0, .int v36_8, .int a2]) (rest := [.int v36_6]) ⟨hx, hb, hml, hown, hts⟩ (q_isEntered l dC dI cT ad E H.size a0 v36_8 a2 hI hh0 i43) (cwV 3 hts (gi_V (in_24 _ (zs16 (zs16 (zs1 (zs1 (zs1 (zs0))))))) (in_24 _ (zs16 (zs16 (zs4 (zs0))))) (in_24 _ (zs16 (zs16 (zs4 (zs1 (zs0)))))) (in_24 _ (zs4 (zs4 (zs4 (zs1 (zs1 (zs1 (zs0)))))))) (in_24 _ (zs16 (zs16 (zs4 (zs1 (zs1 (zs0)))))))) rfl rfl rfl ⟨rfl, hz_yX13_isEntered_3⟩ ⟨Nat.le_of_ble_eq_true rfl, Nat.le_of_ble_eq_true rfl⟩) ⟨HW_bl, va_recv hK hP (ci := 14) (q0 := 0) rfl (hI.ob 0 (Nat.le_of_ble_eq_true rfl) rfl), (HW_wi hP hK (WX_D hD) hS hA hEV)⟩ rfl rfl hl.1 rfl (lv_room (Nat.le_of_ble_eq_true rfl)) dX13_pointsByText_52 ⟨Nat.le_of_ble_eq_true rfl, Nat.le_of_ble_eq_true rfl⟩) hS hP (fun r47 H locs hw hP hS => ?_)
          rcases hw with hw | hw
          · -- isEntered, case 0
            obtain ⟨rfl, f48⟩ := hw
            have k49 : entMd E a0.toInt ((v36_8.toNatClampNeg : Nat) : Int) a2.toInt := by rw [show ((v36_8.toNatClampNeg : Nat) : Int) = v36_8.toInt by rw [tn_]; omega]; exact f48
            refine lv_if_eq (tgt := 62) hx hb dX13_pointsByText_55 (by decide) (fun c50 => ?_) (fun c50 => ?_)
            · --55 taken
              exact absurd c50 (by decide)
            · --55 not
              refine lv_iconst (v := 1) hx hb dX13_pointsByText_58 (by decide) ?_
              refine lv_goto (tgt := 63) hx hb dX13_pointsByText_59 (by decide) ?_
              refine lv_iadd hx hb dX13_pointsByText_63 ?_
              refine lv_topi (fun y51 ey51 => ?_)
              obtain ⟨ty51, iy51⟩ := ti_add (e := 1) (f := 16) i45 ln_1 ey51 (by decide)
              have ty51 : y51.toInt = v36_6.toInt + 1 := ty51
              have iy51 : 1 ≤ y51.toInt ∧ y51.toInt ≤ 16 := iy51
              refine lv_istore (lv' := [(6, .int y51), (8, .int v36_8), (7, .int v36_7), (5, .int 0), (4, .int r1), (0, .ref (ad 0)), (1, .int a0), (2, .int a1), (3, .int a2)]) hx hb dX13_pointsByText_64 hl (by decide) rfl (fun ls hl => ?_)
              refine lv_iload hx hb dX13_pointsByText_66 (lv_at hl 2 rfl) ?_
              refine lv_aload_n hx hb dX13_pointsByText_68 rfl (lv_at hl 5 rfl) ?_
              refine lv_iload_n hx hb dX13_pointsByText_69 rfl (lv_at hl 6 rfl) ?_
              refine lv_iload hx hb dX13_pointsByText_70 (lv_at hl 1 rfl) ?_
              refine lv_iload_n hx hb dX13_pointsByText_72 rfl (lv_at hl 8 rfl) ?_
              refine th_ri (va_runV (As := [.int a0, .int v36_8, .int a2]) (rest := [.int v36_7]) ⟨hx, hb, hml, hown, hts⟩ (q_codeOfM l dC dI cT ad E H.size a0 v36_8 a2 hI hh0 i43) (cwV 3 hts (gi_V (in_27 _ (zs16 (zs16 (zs4 (zs0))))) (in_27 _ (zs16 (zs16 (zs4 (zs1 (zs0)))))) (in_27 _ (zs16 (zs16 (zs4 (zs1 (zs1 (zs0))))))) (in_24 _ (zs4 (zs4 (zs4 (zs1 (zs1 (zs1 (zs0)))))))) (in_27 _ (zs16 (zs16 (zs4 (zs1 (zs1 (zs1 (zs0))))))))) rfl rfl rfl ⟨rfl, hz_yX13_codeOf_3⟩ ⟨Nat.le_of_ble_eq_true rfl, Nat.le_of_ble_eq_true rfl⟩) ⟨HW_bl, va_recv hK hP (ci := 14) (q0 := 0) rfl (hI.ob 0 (Nat.le_of_ble_eq_true rfl) rfl), (HW_wi hP hK (WX_D hD) hS hA hEV)⟩ rfl rfl hl.1 rfl (lv_room (Nat.le_of_ble_eq_true rfl)) dX13_pointsByText_73 ⟨Nat.le_of_ble_eq_true rfl, Nat.le_of_ble_eq_true rfl⟩) hS hP (fun r52 H locs hw hP hS => ?_)
              obtain ⟨f53, f54⟩ := hw
              have k56 : KdN E E := KdN.of hKp rfl rfl rfl rfl rfl
              have k55 : CdM E a0 (nI v36_8.toNatClampNeg) a2 r52.toInt := by rw [nI_tn (show 0 ≤ v36_8.toInt by omega)]; exact k56.cd.mp f54
              refine lv_if_ne (tgt := 83) hx hb dX13_pointsByText_76 (by decide) (fun c57 => ?_) (fun c57 => ?_)
              · --76 taken
                have t58 : ¬ r52.toInt = 0 := ti_ne c57
                have i59 : 1 ≤ r52.toInt ∧ r52.toInt ≤ 5 := iv_ne_l t58 f53 (il_ 0)
                refine lv_iconst (v := 0) hx hb dX13_pointsByText_83 (by decide) ?_
                refine lv_iadd hx hb dX13_pointsByText_84 ?_
                refine lv_topi (fun y60 ey60 => ?_)
                obtain ⟨ty60, iy60⟩ := ti_add (e := 0) (f := 15) i46 ln_0 ey60 (by decide)
                have ty60 : y60.toInt = v36_7.toInt + 0 := ty60
                have iy60 : 0 ≤ y60.toInt ∧ y60.toInt ≤ 15 := iy60
                refine lv_istore (lv' := [(7, .int y60), (6, .int y51), (8, .int v36_8), (5, .int 0), (4, .int r1), (0, .ref (ad 0)), (1, .int a0), (2, .int a1), (3, .int a2)]) hx hb dX13_pointsByText_85 hl (by decide) rfl (fun ls hl => ?_)
                obtain ⟨y61, ey61⟩ : ∃ y : Int32, y = v36_8 + (1 : Int32) := ⟨_, rfl⟩
                obtain ⟨ty61, iy61⟩ := ti_add (e := 1) (f := 16) i43 ln_1 ey61 (by decide)
                have ty61 : y61.toInt = v36_8.toInt + 1 := ty61
                have iy61 : 1 ≤ y61.toInt ∧ y61.toInt ≤ 16 := iy61
                refine lv_iinc (v := y61) (lv' := [(8, .int y61), (7, .int y60), (6, .int y51), (5, .int 0), (4, .int r1), (0, .ref (ad 0)), (1, .int a0), (2, .int a1), (3, .int a2)]) hx hb dX13_pointsByText_87 hl (k := 2) rfl (by rw [ey61]; rfl) (by decide) rfl (fun ls hl => ?_)
                refine lv_goto (tgt := 36) hx hb dX13_pointsByText_90 (by decide) ?_
                exact ih36 y61 y60 y51 _ _ _ (iv_w iy61 (by decide)) (iv_w iy60 (by decide)) (iv_w iy51 (by decide)) (hx36_0.one k49 (by omega) (by rw [tn_ y61, tn_ v36_8]; omega)) (hx36_1.no (fun q9 => absurd (k55.fn q9) (by omega)) (by omega) (by rw [tn_ y61, tn_ v36_8]; omega)) (by omega) (by omega) (by omega) (by first | exact ms_su hx36_5 ty61 (by decide) | omega) hP hS (lv_sub hl [0, 1, 2, 3, 4, 5, 6, 7, 8] rfl)
              · --76 not
                have t62 : r52.toInt = 0 := ti_eq c57
                have i63 : 0 ≤ r52.toInt ∧ r52.toInt ≤ 0 := iv_eqi t62 f53 (il_ 0) (by decide)
                refine lv_iconst (v := 1) hx hb dX13_pointsByText_79 (by decide) ?_
                refine lv_goto (tgt := 84) hx hb dX13_pointsByText_80 (by decide) ?_
                refine lv_iadd hx hb dX13_pointsByText_84 ?_
                refine lv_topi (fun y64 ey64 => ?_)
                obtain ⟨ty64, iy64⟩ := ti_add (e := 1) (f := 16) i46 ln_1 ey64 (by decide)
                have ty64 : y64.toInt = v36_7.toInt + 1 := ty64
                have iy64 : 1 ≤ y64.toInt ∧ y64.toInt ≤ 16 := iy64
                refine lv_istore (lv' := [(7, .int y64), (6, .int y51), (8, .int v36_8), (5, .int 0), (4, .int r1), (0, .ref (ad 0)), (1, .int a0), (2, .int a1), (3, .int a2)]) hx hb dX13_pointsByText_85 hl (by decide) rfl (fun ls hl => ?_)
                obtain ⟨y65, ey65⟩ : ∃ y : Int32, y = v36_8 + (1 : Int32) := ⟨_, rfl⟩
                obtain ⟨ty65, iy65⟩ := ti_add (e := 1) (f := 16) i43 ln_1 ey65 (by decide)
                have ty65 : y65.toInt = v36_8.toInt + 1 := ty65
                have iy65 : 1 ≤ y65.toInt ∧ y65.toInt ≤ 16 := iy65
                refine lv_iinc (v := y65) (lv' := [(8, .int y65), (7, .int y64), (6, .int y51), (5, .int 0), (4, .int r1), (0, .ref (ad 0)), (1, .int a0), (2, .int a1), (3, .int a2)]) hx hb dX13_pointsByText_87 hl (k := 2) rfl (by rw [ey65]; rfl) (by decide) rfl (fun ls hl => ?_)
                refine lv_goto (tgt := 36) hx hb dX13_pointsByText_90 (by decide) ?_
                exact ih36 y65 y64 y51 _ _ _ (iv_w iy65 (by decide)) (iv_w iy64 (by decide)) (iv_w iy51 (by decide)) (hx36_0.one k49 (by omega) (by rw [tn_ y65, tn_ v36_8]; omega)) (hx36_1.one (by have h9 := k55; rw [show r52.toInt = 0 by omega] at h9; exact h9) (by omega) (by rw [tn_ y65, tn_ v36_8]; omega)) (by omega) (by omega) (by omega) (by first | exact ms_su hx36_5 ty65 (by decide) | omega) hP hS (lv_sub hl [0, 1, 2, 3, 4, 5, 6, 7, 8] rfl)
          · -- isEntered, case 1
            obtain ⟨rfl, f66⟩ := hw
            have k67 : ¬ entMd E a0.toInt ((v36_8.toNatClampNeg : Nat) : Int) a2.toInt := by rw [show ((v36_8.toNatClampNeg : Nat) : Int) = v36_8.toInt by rw [tn_]; omega]; exact f66
            refine lv_if_eq (tgt := 62) hx hb dX13_pointsByText_55 (by decide) (fun c68 => ?_) (fun c68 => ?_)
            · --55 taken
              refine lv_iconst (v := 0) hx hb dX13_pointsByText_62 (by decide) ?_
              refine lv_iadd hx hb dX13_pointsByText_63 ?_
              refine lv_topi (fun y69 ey69 => ?_)
              obtain ⟨ty69, iy69⟩ := ti_add (e := 0) (f := 15) i45 ln_0 ey69 (by decide)
              have ty69 : y69.toInt = v36_6.toInt + 0 := ty69
              have iy69 : 0 ≤ y69.toInt ∧ y69.toInt ≤ 15 := iy69
              refine lv_istore (lv' := [(6, .int y69), (8, .int v36_8), (7, .int v36_7), (5, .int 0), (4, .int r1), (0, .ref (ad 0)), (1, .int a0), (2, .int a1), (3, .int a2)]) hx hb dX13_pointsByText_64 hl (by decide) rfl (fun ls hl => ?_)
              refine lv_iload hx hb dX13_pointsByText_66 (lv_at hl 2 rfl) ?_
              refine lv_aload_n hx hb dX13_pointsByText_68 rfl (lv_at hl 5 rfl) ?_
              refine lv_iload_n hx hb dX13_pointsByText_69 rfl (lv_at hl 6 rfl) ?_
              refine lv_iload hx hb dX13_pointsByText_70 (lv_at hl 1 rfl) ?_
              refine lv_iload_n hx hb dX13_pointsByText_72 rfl (lv_at hl 8 rfl) ?_
              refine th_ri (va_runV (As := [.int a0, .int v36_8, .int a2]) (rest := [.int v36_7]) ⟨hx, hb, hml, hown, hts⟩ (q_codeOfM l dC dI cT ad E H.size a0 v36_8 a2 hI hh0 i43) (cwV 3 hts (gi_V (in_27 _ (zs16 (zs16 (zs4 (zs0))))) (in_27 _ (zs16 (zs16 (zs4 (zs1 (zs0)))))) (in_27 _ (zs16 (zs16 (zs4 (zs1 (zs1 (zs0))))))) (in_24 _ (zs4 (zs4 (zs4 (zs1 (zs1 (zs1 (zs0)))))))) (in_27 _ (zs16 (zs16 (zs4 (zs1 (zs1 (zs1 (zs0))))))))) rfl rfl rfl ⟨rfl, hz_yX13_codeOf_3⟩ ⟨Nat.le_of_ble_eq_true rfl, Nat.le_of_ble_eq_true rfl⟩) ⟨HW_bl, va_recv hK hP (ci := 14) (q0 := 0) rfl (hI.ob 0 (Nat.le_of_ble_eq_true rfl) rfl), (HW_wi hP hK (WX_D hD) hS hA hEV)⟩ rfl rfl hl.1 rfl (lv_room (Nat.le_of_ble_eq_true rfl)) dX13_pointsByText_73 ⟨Nat.le_of_ble_eq_true rfl, Nat.le_of_ble_eq_true rfl⟩) hS hP (fun r70 H locs hw hP hS => ?_)
              obtain ⟨f71, f72⟩ := hw
              have k74 : KdN E E := KdN.of hKp rfl rfl rfl rfl rfl
              have k73 : CdM E a0 (nI v36_8.toNatClampNeg) a2 r70.toInt := by rw [nI_tn (show 0 ≤ v36_8.toInt by omega)]; exact k74.cd.mp f72
              refine lv_if_ne (tgt := 83) hx hb dX13_pointsByText_76 (by decide) (fun c75 => ?_) (fun c75 => ?_)
              · --76 taken
                have t76 : ¬ r70.toInt = 0 := ti_ne c75
                have i77 : 1 ≤ r70.toInt ∧ r70.toInt ≤ 5 := iv_ne_l t76 f71 (il_ 0)
                refine lv_iconst (v := 0) hx hb dX13_pointsByText_83 (by decide) ?_
                refine lv_iadd hx hb dX13_pointsByText_84 ?_
                refine lv_topi (fun y78 ey78 => ?_)
                obtain ⟨ty78, iy78⟩ := ti_add (e := 0) (f := 15) i46 ln_0 ey78 (by decide)
                have ty78 : y78.toInt = v36_7.toInt + 0 := ty78
                have iy78 : 0 ≤ y78.toInt ∧ y78.toInt ≤ 15 := iy78
                refine lv_istore (lv' := [(7, .int y78), (6, .int y69), (8, .int v36_8), (5, .int 0), (4, .int r1), (0, .ref (ad 0)), (1, .int a0), (2, .int a1), (3, .int a2)]) hx hb dX13_pointsByText_85 hl (by decide) rfl (fun ls hl => ?_)
                obtain ⟨y79, ey79⟩ : ∃ y : Int32, y = v36_8 + (1 : Int32) := ⟨_, rfl⟩
                obtain ⟨ty79, iy79⟩ := ti_add (e := 1) (f := 16) i43 ln_1 ey79 (by decide)
                have ty79 : y79.toInt = v36_8.toInt + 1 := ty79
                have iy79 : 1 ≤ y79.toInt ∧ y79.toInt ≤ 16 := iy79
                refine lv_iinc (v := y79) (lv' := [(8, .int y79), (7, .int y78), (6, .int y69), (5, .int 0), (4, .int r1), (0, .ref (ad 0)), (1, .int a0), (2, .int a1), (3, .int a2)]) hx hb dX13_pointsByText_87 hl (k := 2) rfl (by rw [ey79]; rfl) (by decide) rfl (fun ls hl => ?_)
                refine lv_goto (tgt := 36) hx hb dX13_pointsByText_90 (by decide) ?_
                exact ih36 y79 y78 y69 _ _ _ (iv_w iy79 (by decide)) (iv_w iy78 (by decide)) (iv_w iy69 (by decide)) (hx36_0.no k67 (by omega) (by rw [tn_ y79, tn_ v36_8]; omega)) (hx36_1.no (fun q9 => absurd (k73.fn q9) (by omega)) (by omega) (by rw [tn_ y79, tn_ v36_8]; omega)) (by omega) (by omega) (by omega) (by first | exact ms_su hx36_5 ty79 (by decide) | omega) hP hS (lv_sub hl [0, 1, 2, 3, 4, 5, 6, 7, 8] rfl)
              · --76 not
                have t80 : r70.toInt = 0 := ti_eq c75
                have i81 : 0 ≤ r70.toInt ∧ r70.toInt ≤ 0 := iv_eqi t80 f71 (il_ 0) (by decide)
                refine lv_iconst (v := 1) hx hb dX13_pointsByText_79 (by decide) ?_
                refine lv_goto (tgt := 84) hx hb dX13_pointsByText_80 (by decide) ?_
                refine lv_iadd hx hb dX13_pointsByText_84 ?_
                refine lv_topi (fun y82 ey82 => ?_)
                obtain ⟨ty82, iy82⟩ := ti_add (e := 1) (f := 16) i46 ln_1 ey82 (by decide)
                have ty82 : y82.toInt = v36_7.toInt + 1 := ty82
                have iy82 : 1 ≤ y82.toInt ∧ y82.toInt ≤ 16 := iy82
                refine lv_istore (lv' := [(7, .int y82), (6, .int y69), (8, .int v36_8), (5, .int 0), (4, .int r1), (0, .ref (ad 0)), (1, .int a0), (2, .int a1), (3, .int a2)]) hx hb dX13_pointsByText_85 hl (by decide) rfl (fun ls hl => ?_)
                obtain ⟨y83, ey83⟩ : ∃ y : Int32, y = v36_8 + (1 : Int32) := ⟨_, rfl⟩
                obtain ⟨ty83, iy83⟩ := ti_add (e := 1) (f := 16) i43 ln_1 ey83 (by decide)
                have ty83 : y83.toInt = v36_8.toInt + 1 := ty83
                have iy83 : 1 ≤ y83.toInt ∧ y83.toInt ≤ 16 := iy83
                refine lv_iinc (v := y83) (lv' := [(8, .int y83), (7, .int y82), (6, .int y69), (5, .int 0), (4, .int r1), (0, .ref (ad 0)), (1, .int a0), (2, .int a1), (3, .int a2)]) hx hb dX13_pointsByText_87 hl (k := 2) rfl (by rw [ey83]; rfl) (by decide) rfl (fun ls hl => ?_)
                refine lv_goto (tgt := 36) hx hb dX13_pointsByText_90 (by decide) ?_
                exact ih36 y83 y82 y69 _ _ _ (iv_w iy83 (by decide)) (iv_w iy82 (by decide)) (iv_w iy69 (by decide)) (hx36_0.no k67 (by omega) (by rw [tn_ y83, tn_ v36_8]; omega)) (hx36_1.one (by have h9 := k73; rw [show r70.toInt = 0 by omega] at h9; exact h9) (by omega) (by rw [tn_ y83, tn_ v36_8]; omega)) (by omega) (by omega) (by omega) (by first | exact ms_su hx36_5 ty83 (by decide) | omega) hP hS (lv_sub hl [0, 1, 2, 3, 4, 5, 6, 7, 8] rfl)
            · --55 not
              exact absurd c68 (by decide)
    exact hL36 (17) (0 : Int32) (0 : Int32) (0 : Int32) _ _ _ (iv_w ln_0 (by decide)) (iv_w ln_0 (by decide)) (iv_w ln_0 (by decide)) (show CnR _ 0 0 from rfl) (show CnR _ 0 0 from rfl) (by have z9 := ln_0; omega) (by have z9 := ln_0; omega) (by have z9 := ln_0; omega) (by have h9 := ln_0; first | exact ms_bu h9.1 (by decide) | omega) hP hS (lv_sub hl [0, 1, 2, 3, 4, 5, 6, 7, 8] rfl)
  · --11 not
    have t84 : r1.toInt = 0 := ti_eq c5
    have i85 : 0 ≤ r1.toInt ∧ r1.toInt ≤ 0 := iv_eqi t84 f2 (il_ 0) (by decide)
    refine lv_aload_n hx hb dX13_pointsByText_14 rfl (lv_at hl 1 rfl) ?_
    refine lv_iload_n hx hb dX13_pointsByText_15 rfl (lv_at hl 2 rfl) ?_
    refine lv_iload_n hx hb dX13_pointsByText_16 rfl (lv_at hl 3 rfl) ?_
    refine lv_iload_n hx hb dX13_pointsByText_17 rfl (lv_at hl 4 rfl) ?_
    refine th_i (va_runV (As := [.int a0, .int a1, .int a2]) (rest := []) ⟨hx, hb, hml, hown, hts⟩ (q_placeOfM l dC dI cT ad E H.size a0 a1 a2 hI hh0 hh1 (by have h9 := f3; rw [show r1.toInt = 0 by omega] at h9; exact h9) (by exact hh2)) (cwV 3 hts (gi_V (in_32 _ (zs16 (zs4 (zs4 (zs4 (zs1 (zs1 (zs1 (zs0))))))))) (in_32 _ (zs16 (zs16 (zs0)))) (in_32 _ (zs16 (zs16 (zs1 (zs0))))) (in_24 _ (zs4 (zs4 (zs4 (zs1 (zs1 (zs1 (zs0)))))))) (in_32 _ (zs16 (zs4 (zs4 (zs4 (zs1 (zs0)))))))) rfl rfl rfl ⟨rfl, hz_yX13_placeOf_3⟩ ⟨Nat.le_of_ble_eq_true rfl, Nat.le_of_ble_eq_true rfl⟩) ⟨HW_bl, va_recv hK hP (ci := 14) (q0 := 0) rfl (hI.ob 0 (Nat.le_of_ble_eq_true rfl) rfl), (HW_wi hP hK (WX_D hD) hS hA hEV)⟩ rfl rfl hl.1 rfl (lv_room (Nat.le_of_ble_eq_true rfl)) dX13_pointsByText_18 ⟨Nat.le_of_ble_eq_true rfl, Nat.le_of_ble_eq_true rfl⟩) (WX_D hD) hS hA (fun r86 E87 H locs hw hP hS => ?_)
    obtain ⟨hI, kq88, hw⟩ := hw
    have hKb := hKp
    have hKp := hKp.tr kq88 (wl_sub rfl rfl)
    have f89 := hw
    have i90 : 0 ≤ (xi (E 0) 8).toInt ∧ (xi (E 0) 8).toInt ≤ 16 := (show 0 ≤ (xi (E 0) 8).toInt ∧ (xi (E 0) 8).toInt ≤ 16 from hI0.iv 0 (Nat.le_of_ble_eq_true rfl) rfl (Nat.le_of_ble_eq_true rfl) rfl)
    refine lv_goto (tgt := 25) hx hb dX13_pointsByText_21 (by decide) ?_
    refine lv_istore (lv' := [(5, .int r86), (4, .int r1), (0, .ref (ad 0)), (1, .int a0), (2, .int a1), (3, .int a2)]) hx hb dX13_pointsByText_25 hl (by decide) rfl (fun ls hl => ?_)
    refine lv_iconst (v := 0) hx hb dX13_pointsByText_27 (by decide) ?_
    refine lv_istore (lv' := [(6, .int 0), (5, .int r86), (4, .int r1), (0, .ref (ad 0)), (1, .int a0), (2, .int a1), (3, .int a2)]) hx hb dX13_pointsByText_28 hl (by decide) rfl (fun ls hl => ?_)
    refine lv_iconst (v := 0) hx hb dX13_pointsByText_30 (by decide) ?_
    refine lv_istore (lv' := [(7, .int 0), (6, .int 0), (5, .int r86), (4, .int r1), (0, .ref (ad 0)), (1, .int a0), (2, .int a1), (3, .int a2)]) hx hb dX13_pointsByText_31 hl (by decide) rfl (fun ls hl => ?_)
    refine lv_iconst (v := 0) hx hb dX13_pointsByText_33 (by decide) ?_
    refine lv_istore (lv' := [(8, .int 0), (7, .int 0), (6, .int 0), (5, .int r86), (4, .int r1), (0, .ref (ad 0)), (1, .int a0), (2, .int a1), (3, .int a2)]) hx hb dX13_pointsByText_34 hl (by decide) rfl (fun ls hl => ?_)
    have hL36 : ∀ d : Nat, ∀ (v36_8 : Int32) (v36_7 : Int32) (v36_6 : Int32) (H : Heap) (locs : List Loc) (ls : Array Slot), 0 ≤ v36_8.toInt ∧ v36_8.toInt ≤ 16 → 0 ≤ v36_7.toInt ∧ v36_7.toInt ≤ 16 → 0 ≤ v36_6.toInt ∧ v36_6.toInt ≤ 16 → CnR (fun o9 => entMd E a0.toInt ((o9 : Nat) : Int) a2.toInt) v36_8.toNatClampNeg v36_6.toInt → CnR (fun o9 => CdM E a0 (nI o9) a2 0) v36_8.toNatClampNeg v36_7.toInt → v36_8.toInt ≤ (xi (E 0) 8).toInt → 0 ≤ v36_6.toInt ∧ v36_6.toInt ≤ v36_8.toInt → 0 ≤ v36_7.toInt ∧ v36_7.toInt ≤ v36_8.toInt → 16 - v36_8.toInt < (d : Int) → va_P (dC, dI) vwCl (WX 72 ad E87) H → va_S A s.heap H locs → lv_has ls 9 [(8, .int v36_8), (7, .int v36_7), (6, .int v36_6), (5, .int r86), (4, .int r1), (0, .ref (ad 0)), (1, .int a0), (2, .int a1), (3, .int a2)] → W p l e (headSpec v_pointsByTextM rm_pointsByTextM).room s m args below meth c H locs 0 0 Q (F0 m 36 ls []) := by
      intro d
      induction d with
      | zero =>
        intro v36_8 v36_7 v36_6 H locs ls hv36_8 hv36_7 hv36_6 hx36_0 hx36_1 hx36_2 hx36_3 hx36_4 hx36_5 hP hS hl
        exact absurd hx36_5 (by first | exact ms_zu hv36_8.2 | omega)
      | succ d ih36 =>
        intro v36_8 v36_7 v36_6 H locs ls hv36_8 hv36_7 hv36_6 hx36_0 hx36_1 hx36_2 hx36_3 hx36_4 hx36_5 hP hS hl
        refine lv_iload hx hb dX13_pointsByText_36 (lv_at hl 0 rfl) ?_
        refine lv_aload_n hx hb dX13_pointsByText_38 rfl (lv_at hl 5 rfl) ?_
        refine th_get (ci := 14) (C := RX13) (T := TX13) (N := 97) (v := .int (xi (E 0) 8)) hx hb hts hinX13 hown hK hP hI 0 (Nat.le_of_ble_eq_true rfl) rfl rfl 8 (Nat.le_of_ble_eq_true rfl) (hts _ (vA_in _ _ (in_24 _ (zs16 (zs4 (zs1 (zs1 (zs0)))))))) (fun _ h9 => h9) (th_v0 hKp hI0 0 (Nat.le_of_ble_eq_true rfl) rfl (Nat.le_of_ble_eq_true rfl) rfl rfl) dX13_pointsByText_39 ?_
        refine lv_icmp_ge (tgt := 93) hx hb dX13_pointsByText_42 (by decide) (fun c91 => ?_) (fun c91 => ?_)
        · --42 taken
          have t92 : (xi (E 0) 8).toInt ≤ v36_8.toInt := ti_le c91
          refine lv_aload_n hx hb dX13_pointsByText_93 rfl (lv_at hl 5 rfl) ?_
          refine th_v (va_runV (As := []) (rest := []) ⟨hx, hb, hml, hown, hts⟩ (q_clearX l dC dI cT ad E87 H.size hI) (cwV 0 hts (gi_V (in_28 _ (zs16 (zs4 (zs4 (zs4 (zs1 (zs1 (zs0)))))))) (in_28 _ (zs16 (zs4 (zs4 (zs4 (zs1 (zs1 (zs1 (zs0))))))))) (in_28 _ (zs16 (zs16 (zs0)))) (in_24 _ (zs4 (zs4 (zs4 (zs1 (zs1 (zs1 (zs0)))))))) (in_28 _ (zs16 (zs16 (zs1 (zs0)))))) rfl rfl rfl ⟨rfl, hz_yX13_clear_0⟩ ⟨Nat.le_of_ble_eq_true rfl, Nat.le_of_ble_eq_true rfl⟩) ⟨HW_bl, va_recv hK hP (ci := 14) (q0 := 0) rfl (hI.ob 0 (Nat.le_of_ble_eq_true rfl) rfl), (HW_wi hP hK (WX_D hD) hS hA hEV)⟩ rfl rfl hl.1 rfl (lv_room (Nat.le_of_ble_eq_true rfl)) dX13_pointsByText_94 ⟨Nat.le_of_ble_eq_true rfl, Nat.le_of_ble_eq_true rfl⟩) (WX_D hD) hS hA (fun E94 H locs hw hP hS => ?_)
          obtain ⟨hI, kq95, hw⟩ := hw
          have hKb := hKp
          have hKp := hKp.tr kq95 (wl_sub rfl rfl)
          have f96 := hw
          refine lv_aload_n hx hb dX13_pointsByText_97 rfl (lv_at hl 5 rfl) ?_
          refine th_get (ci := 14) (C := RX13) (T := TX13) (N := 97) (v := .ref (ad 12)) hx hb hts hinX13 hown hK hP hI 0 (Nat.le_of_ble_eq_true rfl) rfl rfl 15 (Nat.le_of_ble_eq_true rfl) (hts _ (vA_in _ _ (in_25 _ (zs16 (zs16 (zs4 (zs1 (zs0)))))))) (fun _ h9 => h9) (hI.fr 0 (Nat.le_of_ble_eq_true rfl) rfl (Nat.le_of_ble_eq_true rfl) 12 rfl) dX13_pointsByText_98 ?_
          refine lv_bipush (v := 107) hx hb dX13_pointsByText_101 (by decide) ?_
          refine lv_iload hx hb dX13_pointsByText_103 (lv_at hl 4 rfl) ?_
          have n97 : vp_in (107 : Int32) 128 := (iv_in (n := 128) ln_107 (by decide))
          refine th_iast hx hb hK hP (WX_D hD) hS hI 12 (Nat.le_of_ble_eq_true rfl) rfl rfl n97 (okI rfl (iv_w i85 (by decide))) dX13_pointsByText_105 (fun H locs E98 pw99 hI hP hS => ?_)
          have hKp := hKp.pw pw99 rfl
          have k100 : mLt E98 = lset lz 3 r1 := (mL_set (k := 3) pw99 (by decide) rfl).trans (by rw [f96])
          refine lv_aload_n hx hb dX13_pointsByText_106 rfl (lv_at hl 5 rfl) ?_
          refine th_get (ci := 14) (C := RX13) (T := TX13) (N := 97) (v := .ref (ad 12)) hx hb hts hinX13 hown hK hP hI 0 (Nat.le_of_ble_eq_true rfl) rfl rfl 15 (Nat.le_of_ble_eq_true rfl) (hts _ (vA_in _ _ (in_25 _ (zs16 (zs16 (zs4 (zs1 (zs0)))))))) (fun _ h9 => h9) (hI.fr 0 (Nat.le_of_ble_eq_true rfl) rfl (Nat.le_of_ble_eq_true rfl) 12 rfl) dX13_pointsByText_107 ?_
          refine lv_bipush (v := 114) hx hb dX13_pointsByText_110 (by decide) ?_
          refine lv_iload hx hb dX13_pointsByText_112 (lv_at hl 3 rfl) ?_
          have n101 : vp_in (114 : Int32) 128 := (iv_in (n := 128) ln_114 (by decide))
          refine th_iast hx hb hK hP (WX_D hD) hS hI 12 (Nat.le_of_ble_eq_true rfl) rfl rfl n101 (okI rfl (iv_all _)) dX13_pointsByText_114 (fun H locs E102 pw103 hI hP hS => ?_)
          have hKp := hKp.pw pw103 rfl
          have k104 : mLt E102 = lset (lset lz 3 r1) 4 r86 := (mL_set (k := 4) pw103 (by decide) rfl).trans (by rw [k100])
          refine lv_aload_n hx hb dX13_pointsByText_115 rfl (lv_at hl 5 rfl) ?_
          refine th_get (ci := 14) (C := RX13) (T := TX13) (N := 97) (v := .ref (ad 12)) hx hb hts hinX13 hown hK hP hI 0 (Nat.le_of_ble_eq_true rfl) rfl rfl 15 (Nat.le_of_ble_eq_true rfl) (hts _ (vA_in _ _ (in_25 _ (zs16 (zs16 (zs4 (zs1 (zs0)))))))) (fun _ h9 => h9) (hI.fr 0 (Nat.le_of_ble_eq_true rfl) rfl (Nat.le_of_ble_eq_true rfl) 12 rfl) dX13_pointsByText_116 ?_
          refine lv_bipush (v := 101) hx hb dX13_pointsByText_119 (by decide) ?_
          refine lv_iload hx hb dX13_pointsByText_121 (lv_at hl 2 rfl) ?_
          have n105 : vp_in (101 : Int32) 128 := (iv_in (n := 128) ln_101 (by decide))
          refine th_iast hx hb hK hP (WX_D hD) hS hI 12 (Nat.le_of_ble_eq_true rfl) rfl rfl n105 (okI rfl (iv_w hv36_6 (by decide))) dX13_pointsByText_123 (fun H locs E106 pw107 hI hP hS => ?_)
          have hKp := hKp.pw pw107 rfl
          have k108 : mLt E106 = lset (lset (lset lz 3 r1) 4 r86) 5 v36_6 := (mL_set (k := 5) pw107 (by decide) rfl).trans (by rw [k104])
          refine lv_aload_n hx hb dX13_pointsByText_124 rfl (lv_at hl 5 rfl) ?_
          refine th_get (ci := 14) (C := RX13) (T := TX13) (N := 97) (v := .ref (ad 12)) hx hb hts hinX13 hown hK hP hI 0 (Nat.le_of_ble_eq_true rfl) rfl rfl 15 (Nat.le_of_ble_eq_true rfl) (hts _ (vA_in _ _ (in_25 _ (zs16 (zs16 (zs4 (zs1 (zs0)))))))) (fun _ h9 => h9) (hI.fr 0 (Nat.le_of_ble_eq_true rfl) rfl (Nat.le_of_ble_eq_true rfl) 12 rfl) dX13_pointsByText_125 ?_
          refine lv_bipush (v := 102) hx hb dX13_pointsByText_128 (by decide) ?_
          refine lv_iload hx hb dX13_pointsByText_130 (lv_at hl 1 rfl) ?_
          have n109 : vp_in (102 : Int32) 128 := (iv_in (n := 128) ln_102 (by decide))
          refine th_iast hx hb hK hP (WX_D hD) hS hI 12 (Nat.le_of_ble_eq_true rfl) rfl rfl n109 (okI rfl (iv_w hv36_7 (by decide))) dX13_pointsByText_132 (fun H locs E110 pw111 hI hP hS => ?_)
          have hKp := hKp.pw pw111 rfl
          have k112 : mLt E110 = lset (lset (lset (lset lz 3 r1) 4 r86) 5 v36_6) 6 v36_7 := (mL_set (k := 6) pw111 (by decide) rfl).trans (by rw [k108])
          refine lv_iconst (v := 0) hx hb dX13_pointsByText_133 (by decide) ?_
          refine lv_sipush (v := 10000) hx hb dX13_pointsByText_134 (by decide) ?_
          refine lv_aload_n hx hb dX13_pointsByText_137 rfl (lv_at hl 5 rfl) ?_
          refine lv_bipush (v := 112) hx hb dX13_pointsByText_138 (by decide) ?_
          refine lv_aload_n hx hb dX13_pointsByText_140 rfl (lv_at hl 5 rfl) ?_
          refine th_get (ci := 14) (C := RX13) (T := TX13) (N := 97) (v := .ref (ad 13)) hx hb hts hinX13 hown hK hP hI 0 (Nat.le_of_ble_eq_true rfl) rfl rfl 27 (Nat.le_of_ble_eq_true rfl) (hts _ (vA_in _ _ (in_27 _ (zs16 (zs16 (zs0)))))) (fun _ h9 => h9) (hI.fr 0 (Nat.le_of_ble_eq_true rfl) rfl (Nat.le_of_ble_eq_true rfl) 13 rfl) dX13_pointsByText_141 ?_
          refine lv_iload_n hx hb dX13_pointsByText_144 rfl (lv_at hl 6 rfl) ?_
          have n114 : vp_in a0 20 := (iv_in (n := 20) hh0 (by decide))
          refine th_iald hx hb hK hP hI 13 (Nat.le_of_ble_eq_true rfl) rfl rfl n114 dX13_pointsByText_145 (fun y113 ey113 => ?_)
          have iy113 : 0 ≤ y113.toInt ∧ y113.toInt ≤ 400 := hI.el 13 (Nat.le_of_ble_eq_true rfl) rfl n114 (fun _ => rfl) ey113
          have ey113 := ey113.trans (hKp.ei 13 _ rfl)
          refine lv_iload_n hx hb dX13_pointsByText_146 rfl (lv_at hl 8 rfl) ?_
          have z112 := ln_112
          refine th_i (va_runV (As := [.int 112, .int y113, .int a2]) (rest := [.int 10000, .int 0]) ⟨hx, hb, hml, hown, hts⟩ (q_worthM l dC dI cT ad E110 H.size (112 : Int32) y113 a2 hI (iv_w ln_112 (by decide)) (by exact hh2.cg (fun j9 => hKp.ei 8 j9 rfl) (fun j9 => hKp.ei 9 j9 rfl) (hKp.ei 0 17 rfl))) (cwV 3 hts (gi_V (in_28 _ (zs16 (zs16 (zs1 (zs1 (zs0)))))) (in_28 _ (zs16 (zs16 (zs1 (zs1 (zs1 (zs0))))))) (in_28 _ (zs16 (zs16 (zs4 (zs0))))) (in_24 _ (zs4 (zs4 (zs4 (zs1 (zs1 (zs1 (zs0)))))))) (in_28 _ (zs16 (zs16 (zs4 (zs1 (zs0))))))) rfl rfl rfl ⟨rfl, hz_yX13_worth_3⟩ ⟨Nat.le_of_ble_eq_true rfl, Nat.le_of_ble_eq_true rfl⟩) ⟨HW_bl, va_recv hK hP (ci := 14) (q0 := 0) rfl (hI.ob 0 (Nat.le_of_ble_eq_true rfl) rfl), (HW_wi hP hK (WX_D hD) hS hA hEV)⟩ rfl rfl hl.1 rfl (lv_room (Nat.le_of_ble_eq_true rfl)) dX13_pointsByText_147 ⟨Nat.le_of_ble_eq_true rfl, Nat.le_of_ble_eq_true rfl⟩) (WX_D hD) hS hA (fun r115 E116 H locs hw hP hS => ?_)
          obtain ⟨hI, kq117, hw⟩ := hw
          have hKb := hKp
          have hKp := hKp.tr kq117 (wl_sub rfl rfl)
          have f118 := hw
          have i119 : 0 ≤ (xi (E 0) 17).toInt ∧ (xi (E 0) 17).toInt ≤ 16 := (show 0 ≤ (xi (E 0) 17).toInt ∧ (xi (E 0) 17).toInt ≤ 16 from hI0.iv 0 (Nat.le_of_ble_eq_true rfl) rfl (Nat.le_of_ble_eq_true rfl) rfl)
          have k121 : KdN E E110 := KdN.of hKb rfl rfl rfl rfl rfl
          have k120 : r115 = wML (ptL r1.toInt r86.toInt v36_6.toInt v36_7.toInt) E 112 (lawM E (xi (E 13) a0.toNatClampNeg) a2) := f118.trans (by rw [k112, ptL_of, k121.wml, k121.law, ey113]; rfl)
          refine va_mmin hx hb (by rw [hml]; exact hl.1.symm) hown (hts _ (vA_in _ _ (in_28 _ (zs16 (zs4 (zs4 (zs1 (zs1 (zs0))))))))) (hts _ (vA_in _ _ (in_0 _ (zs16 (zs16 (zs4 (zs0))))))) (hts _ (vA_in _ _ (in_0 _ (zs16 (zs16 (zs1 (zs0))))))) (hts _ (vA_in _ _ (in_0 _ (zs16 (zs16 (zs4 (zs1 (zs0)))))))) (Nat.le_of_ble_eq_true rfl) (Nat.le_of_ble_eq_true rfl) (Nat.le_of_ble_eq_true rfl) (Nat.le_of_ble_eq_true rfl) dX13_pointsByText_150 ?_
          have z10000 := ln_10000
          refine lv_topi (fun y122 ey122 => ?_)
          obtain ⟨ty122, iy122⟩ := ti_min (e := (-2147483648)) (f := 10000) ln_10000 (iv_all _) ey122 (by decide)
          have iy122 : -2147483648 ≤ y122.toInt ∧ y122.toInt ≤ 10000 := iy122
          refine va_mmax hx hb (by rw [hml]; exact hl.1.symm) hown (hts _ (vA_in _ _ (in_25 _ (zs16 (zs4 (zs4 (zs1 (zs1 (zs1 (zs0)))))))))) (hts _ (vA_in _ _ (in_0 _ (zs16 (zs16 (zs0)))))) (hts _ (vA_in _ _ (in_0 _ (zs16 (zs16 (zs1 (zs0))))))) (hts _ (vA_in _ _ (in_0 _ (zs16 (zs16 (zs1 (zs1 (zs0)))))))) (Nat.le_of_ble_eq_true rfl) (Nat.le_of_ble_eq_true rfl) (Nat.le_of_ble_eq_true rfl) (Nat.le_of_ble_eq_true rfl) dX13_pointsByText_153 ?_
          refine lv_topi (fun y123 ey123 => ?_)
          obtain ⟨ty123, iy123⟩ := ti_max (e := 0) (f := 10000) ln_0 iy122 ey123 (by decide)
          have iy123 : 0 ≤ y123.toInt ∧ y123.toInt ≤ 10000 := iy123
          rw [hQ]
          exact W.iret (v := y123) hx hb hr (fun t ht hW => ⟨⟨y123, E116, rfl, ⟨hI, hKp, ⟨r1.toInt, r86.toInt, v36_6.toInt, v36_7.toInt, f3, (fun _ => f89), (fun z9 => absurd (show r1.toInt = 0 by omega) z9), (by have h9 := hx36_0; rw [show v36_8.toNatClampNeg = (xi (E 0) 8).toNatClampNeg by rw [tn_, tn_]; omega] at h9; exact h9), (by have h9 := hx36_1; rw [show v36_8.toNatClampNeg = (xi (E 0) 8).toNatClampNeg by rw [tn_, tn_]; omega] at h9; exact h9), (by unfold clamp; rw [← k120]; have z0 := ln_0; have z1 := ln_10000; omega)⟩⟩, by show va_P (dC, dI) vwCl (WX 72 ad E116) t.heap; rw [ht]; exact hP⟩, hS.F ht⟩) hS.2.2 dX13_pointsByText_156
        · --42 not
          have t124 : v36_8.toInt < (xi (E 0) 8).toInt := ti_nle c91
          have i125 : 0 ≤ v36_8.toInt ∧ v36_8.toInt ≤ 15 := iv_lt_l t124 hv36_8 i90 (by decide)
          have i126 : 1 ≤ (xi (E 0) 8).toInt ∧ (xi (E 0) 8).toInt ≤ 16 := iv_lt_r t124 hv36_8 i90 (by decide)
          have i127 : 0 ≤ v36_6.toInt ∧ v36_6.toInt ≤ 15 := by omega
          have i128 : 0 ≤ v36_7.toInt ∧ v36_7.toInt ≤ 15 := by omega
          refine lv_iload hx hb dX13_pointsByText_45 (lv_at hl 2 rfl) ?_
          refine lv_aload_n hx hb dX13_pointsByText_47 rfl (lv_at hl 5 rfl) ?_
          refine lv_iload_n hx hb dX13_pointsByText_48 rfl (lv_at hl 6 rfl) ?_
          refine lv_iload hx hb dX13_pointsByText_49 (lv_at hl 0 rfl) ?_
          refine lv_iload_n hx hb dX13_pointsByText_51 rfl (lv_at hl 8 rfl) ?_
          refine th_ri (va_runV (As := [.int a0, .int v36_8, .int a2]) (rest := [.int v36_6]) ⟨hx, hb, hml, hown, hts⟩ (q_isEntered l dC dI cT ad E87 H.size a0 v36_8 a2 hI hh0 i125) (cwV 3 hts (gi_V (in_24 _ (zs16 (zs16 (zs1 (zs1 (zs1 (zs0))))))) (in_24 _ (zs16 (zs16 (zs4 (zs0))))) (in_24 _ (zs16 (zs16 (zs4 (zs1 (zs0)))))) (in_24 _ (zs4 (zs4 (zs4 (zs1 (zs1 (zs1 (zs0)))))))) (in_24 _ (zs16 (zs16 (zs4 (zs1 (zs1 (zs0)))))))) rfl rfl rfl ⟨rfl, hz_yX13_isEntered_3⟩ ⟨Nat.le_of_ble_eq_true rfl, Nat.le_of_ble_eq_true rfl⟩) ⟨HW_bl, va_recv hK hP (ci := 14) (q0 := 0) rfl (hI.ob 0 (Nat.le_of_ble_eq_true rfl) rfl), (HW_wi hP hK (WX_D hD) hS hA hEV)⟩ rfl rfl hl.1 rfl (lv_room (Nat.le_of_ble_eq_true rfl)) dX13_pointsByText_52 ⟨Nat.le_of_ble_eq_true rfl, Nat.le_of_ble_eq_true rfl⟩) hS hP (fun r129 H locs hw hP hS => ?_)
          rcases hw with hw | hw
          · -- isEntered, case 0
            obtain ⟨rfl, f130⟩ := hw
            try rw [hKp.ef 21 (fun _ => rfl)] at f130
            have k131 : entMd E a0.toInt ((v36_8.toNatClampNeg : Nat) : Int) a2.toInt := by rw [show ((v36_8.toNatClampNeg : Nat) : Int) = v36_8.toInt by rw [tn_]; omega]; exact f130
            refine lv_if_eq (tgt := 62) hx hb dX13_pointsByText_55 (by decide) (fun c132 => ?_) (fun c132 => ?_)
            · --55 taken
              exact absurd c132 (by decide)
            · --55 not
              refine lv_iconst (v := 1) hx hb dX13_pointsByText_58 (by decide) ?_
              refine lv_goto (tgt := 63) hx hb dX13_pointsByText_59 (by decide) ?_
              refine lv_iadd hx hb dX13_pointsByText_63 ?_
              refine lv_topi (fun y133 ey133 => ?_)
              obtain ⟨ty133, iy133⟩ := ti_add (e := 1) (f := 16) i127 ln_1 ey133 (by decide)
              have ty133 : y133.toInt = v36_6.toInt + 1 := ty133
              have iy133 : 1 ≤ y133.toInt ∧ y133.toInt ≤ 16 := iy133
              refine lv_istore (lv' := [(6, .int y133), (8, .int v36_8), (7, .int v36_7), (5, .int r86), (4, .int r1), (0, .ref (ad 0)), (1, .int a0), (2, .int a1), (3, .int a2)]) hx hb dX13_pointsByText_64 hl (by decide) rfl (fun ls hl => ?_)
              refine lv_iload hx hb dX13_pointsByText_66 (lv_at hl 2 rfl) ?_
              refine lv_aload_n hx hb dX13_pointsByText_68 rfl (lv_at hl 5 rfl) ?_
              refine lv_iload_n hx hb dX13_pointsByText_69 rfl (lv_at hl 6 rfl) ?_
              refine lv_iload hx hb dX13_pointsByText_70 (lv_at hl 1 rfl) ?_
              refine lv_iload_n hx hb dX13_pointsByText_72 rfl (lv_at hl 8 rfl) ?_
              refine th_ri (va_runV (As := [.int a0, .int v36_8, .int a2]) (rest := [.int v36_7]) ⟨hx, hb, hml, hown, hts⟩ (q_codeOfM l dC dI cT ad E87 H.size a0 v36_8 a2 hI hh0 i125) (cwV 3 hts (gi_V (in_27 _ (zs16 (zs16 (zs4 (zs0))))) (in_27 _ (zs16 (zs16 (zs4 (zs1 (zs0)))))) (in_27 _ (zs16 (zs16 (zs4 (zs1 (zs1 (zs0))))))) (in_24 _ (zs4 (zs4 (zs4 (zs1 (zs1 (zs1 (zs0)))))))) (in_27 _ (zs16 (zs16 (zs4 (zs1 (zs1 (zs1 (zs0))))))))) rfl rfl rfl ⟨rfl, hz_yX13_codeOf_3⟩ ⟨Nat.le_of_ble_eq_true rfl, Nat.le_of_ble_eq_true rfl⟩) ⟨HW_bl, va_recv hK hP (ci := 14) (q0 := 0) rfl (hI.ob 0 (Nat.le_of_ble_eq_true rfl) rfl), (HW_wi hP hK (WX_D hD) hS hA hEV)⟩ rfl rfl hl.1 rfl (lv_room (Nat.le_of_ble_eq_true rfl)) dX13_pointsByText_73 ⟨Nat.le_of_ble_eq_true rfl, Nat.le_of_ble_eq_true rfl⟩) hS hP (fun r134 H locs hw hP hS => ?_)
              obtain ⟨f135, f136⟩ := hw
              have k138 : KdN E E87 := KdN.of hKp rfl rfl rfl rfl rfl
              have k137 : CdM E a0 (nI v36_8.toNatClampNeg) a2 r134.toInt := by rw [nI_tn (show 0 ≤ v36_8.toInt by omega)]; exact k138.cd.mp f136
              refine lv_if_ne (tgt := 83) hx hb dX13_pointsByText_76 (by decide) (fun c139 => ?_) (fun c139 => ?_)
              · --76 taken
                have t140 : ¬ r134.toInt = 0 := ti_ne c139
                have i141 : 1 ≤ r134.toInt ∧ r134.toInt ≤ 5 := iv_ne_l t140 f135 (il_ 0)
                refine lv_iconst (v := 0) hx hb dX13_pointsByText_83 (by decide) ?_
                refine lv_iadd hx hb dX13_pointsByText_84 ?_
                refine lv_topi (fun y142 ey142 => ?_)
                obtain ⟨ty142, iy142⟩ := ti_add (e := 0) (f := 15) i128 ln_0 ey142 (by decide)
                have ty142 : y142.toInt = v36_7.toInt + 0 := ty142
                have iy142 : 0 ≤ y142.toInt ∧ y142.toInt ≤ 15 := iy142
                refine lv_istore (lv' := [(7, .int y142), (6, .int y133), (8, .int v36_8), (5, .int r86), (4, .int r1), (0, .ref (ad 0)), (1, .int a0), (2, .int a1), (3, .int a2)]) hx hb dX13_pointsByText_85 hl (by decide) rfl (fun ls hl => ?_)
                obtain ⟨y143, ey143⟩ : ∃ y : Int32, y = v36_8 + (1 : Int32) := ⟨_, rfl⟩
                obtain ⟨ty143, iy143⟩ := ti_add (e := 1) (f := 16) i125 ln_1 ey143 (by decide)
                have ty143 : y143.toInt = v36_8.toInt + 1 := ty143
                have iy143 : 1 ≤ y143.toInt ∧ y143.toInt ≤ 16 := iy143
                refine lv_iinc (v := y143) (lv' := [(8, .int y143), (7, .int y142), (6, .int y133), (5, .int r86), (4, .int r1), (0, .ref (ad 0)), (1, .int a0), (2, .int a1), (3, .int a2)]) hx hb dX13_pointsByText_87 hl (k := 2) rfl (by rw [ey143]; rfl) (by decide) rfl (fun ls hl => ?_)
                refine lv_goto (tgt := 36) hx hb dX13_pointsByText_90 (by decide) ?_
                exact ih36 y143 y142 y133 _ _ _ (iv_w iy143 (by decide)) (iv_w iy142 (by decide)) (iv_w iy133 (by decide)) (hx36_0.one k131 (by omega) (by rw [tn_ y143, tn_ v36_8]; omega)) (hx36_1.no (fun q9 => absurd (k137.fn q9) (by omega)) (by omega) (by rw [tn_ y143, tn_ v36_8]; omega)) (by omega) (by omega) (by omega) (by first | exact ms_su hx36_5 ty143 (by decide) | omega) hP hS (lv_sub hl [0, 1, 2, 3, 4, 5, 6, 7, 8] rfl)
              · --76 not
                have t144 : r134.toInt = 0 := ti_eq c139
                have i145 : 0 ≤ r134.toInt ∧ r134.toInt ≤ 0 := iv_eqi t144 f135 (il_ 0) (by decide)
                refine lv_iconst (v := 1) hx hb dX13_pointsByText_79 (by decide) ?_
                refine lv_goto (tgt := 84) hx hb dX13_pointsByText_80 (by decide) ?_
                refine lv_iadd hx hb dX13_pointsByText_84 ?_
                refine lv_topi (fun y146 ey146 => ?_)
                obtain ⟨ty146, iy146⟩ := ti_add (e := 1) (f := 16) i128 ln_1 ey146 (by decide)
                have ty146 : y146.toInt = v36_7.toInt + 1 := ty146
                have iy146 : 1 ≤ y146.toInt ∧ y146.toInt ≤ 16 := iy146
                refine lv_istore (lv' := [(7, .int y146), (6, .int y133), (8, .int v36_8), (5, .int r86), (4, .int r1), (0, .ref (ad 0)), (1, .int a0), (2, .int a1), (3, .int a2)]) hx hb dX13_pointsByText_85 hl (by decide) rfl (fun ls hl => ?_)
                obtain ⟨y147, ey147⟩ : ∃ y : Int32, y = v36_8 + (1 : Int32) := ⟨_, rfl⟩
                obtain ⟨ty147, iy147⟩ := ti_add (e := 1) (f := 16) i125 ln_1 ey147 (by decide)
                have ty147 : y147.toInt = v36_8.toInt + 1 := ty147
                have iy147 : 1 ≤ y147.toInt ∧ y147.toInt ≤ 16 := iy147
                refine lv_iinc (v := y147) (lv' := [(8, .int y147), (7, .int y146), (6, .int y133), (5, .int r86), (4, .int r1), (0, .ref (ad 0)), (1, .int a0), (2, .int a1), (3, .int a2)]) hx hb dX13_pointsByText_87 hl (k := 2) rfl (by rw [ey147]; rfl) (by decide) rfl (fun ls hl => ?_)
                refine lv_goto (tgt := 36) hx hb dX13_pointsByText_90 (by decide) ?_
                exact ih36 y147 y146 y133 _ _ _ (iv_w iy147 (by decide)) (iv_w iy146 (by decide)) (iv_w iy133 (by decide)) (hx36_0.one k131 (by omega) (by rw [tn_ y147, tn_ v36_8]; omega)) (hx36_1.one (by have h9 := k137; rw [show r134.toInt = 0 by omega] at h9; exact h9) (by omega) (by rw [tn_ y147, tn_ v36_8]; omega)) (by omega) (by omega) (by omega) (by first | exact ms_su hx36_5 ty147 (by decide) | omega) hP hS (lv_sub hl [0, 1, 2, 3, 4, 5, 6, 7, 8] rfl)
          · -- isEntered, case 1
            obtain ⟨rfl, f148⟩ := hw
            try rw [hKp.ef 21 (fun _ => rfl)] at f148
            have k149 : ¬ entMd E a0.toInt ((v36_8.toNatClampNeg : Nat) : Int) a2.toInt := by rw [show ((v36_8.toNatClampNeg : Nat) : Int) = v36_8.toInt by rw [tn_]; omega]; exact f148
            refine lv_if_eq (tgt := 62) hx hb dX13_pointsByText_55 (by decide) (fun c150 => ?_) (fun c150 => ?_)
            · --55 taken
              refine lv_iconst (v := 0) hx hb dX13_pointsByText_62 (by decide) ?_
              refine lv_iadd hx hb dX13_pointsByText_63 ?_
              refine lv_topi (fun y151 ey151 => ?_)
              obtain ⟨ty151, iy151⟩ := ti_add (e := 0) (f := 15) i127 ln_0 ey151 (by decide)
              have ty151 : y151.toInt = v36_6.toInt + 0 := ty151
              have iy151 : 0 ≤ y151.toInt ∧ y151.toInt ≤ 15 := iy151
              refine lv_istore (lv' := [(6, .int y151), (8, .int v36_8), (7, .int v36_7), (5, .int r86), (4, .int r1), (0, .ref (ad 0)), (1, .int a0), (2, .int a1), (3, .int a2)]) hx hb dX13_pointsByText_64 hl (by decide) rfl (fun ls hl => ?_)
              refine lv_iload hx hb dX13_pointsByText_66 (lv_at hl 2 rfl) ?_
              refine lv_aload_n hx hb dX13_pointsByText_68 rfl (lv_at hl 5 rfl) ?_
              refine lv_iload_n hx hb dX13_pointsByText_69 rfl (lv_at hl 6 rfl) ?_
              refine lv_iload hx hb dX13_pointsByText_70 (lv_at hl 1 rfl) ?_
              refine lv_iload_n hx hb dX13_pointsByText_72 rfl (lv_at hl 8 rfl) ?_
              refine th_ri (va_runV (As := [.int a0, .int v36_8, .int a2]) (rest := [.int v36_7]) ⟨hx, hb, hml, hown, hts⟩ (q_codeOfM l dC dI cT ad E87 H.size a0 v36_8 a2 hI hh0 i125) (cwV 3 hts (gi_V (in_27 _ (zs16 (zs16 (zs4 (zs0))))) (in_27 _ (zs16 (zs16 (zs4 (zs1 (zs0)))))) (in_27 _ (zs16 (zs16 (zs4 (zs1 (zs1 (zs0))))))) (in_24 _ (zs4 (zs4 (zs4 (zs1 (zs1 (zs1 (zs0)))))))) (in_27 _ (zs16 (zs16 (zs4 (zs1 (zs1 (zs1 (zs0))))))))) rfl rfl rfl ⟨rfl, hz_yX13_codeOf_3⟩ ⟨Nat.le_of_ble_eq_true rfl, Nat.le_of_ble_eq_true rfl⟩) ⟨HW_bl, va_recv hK hP (ci := 14) (q0 := 0) rfl (hI.ob 0 (Nat.le_of_ble_eq_true rfl) rfl), (HW_wi hP hK (WX_D hD) hS hA hEV)⟩ rfl rfl hl.1 rfl (lv_room (Nat.le_of_ble_eq_true rfl)) dX13_pointsByText_73 ⟨Nat.le_of_ble_eq_true rfl, Nat.le_of_ble_eq_true rfl⟩) hS hP (fun r152 H locs hw hP hS => ?_)
              obtain ⟨f153, f154⟩ := hw
              have k156 : KdN E E87 := KdN.of hKp rfl rfl rfl rfl rfl
              have k155 : CdM E a0 (nI v36_8.toNatClampNeg) a2 r152.toInt := by rw [nI_tn (show 0 ≤ v36_8.toInt by omega)]; exact k156.cd.mp f154
              refine lv_if_ne (tgt := 83) hx hb dX13_pointsByText_76 (by decide) (fun c157 => ?_) (fun c157 => ?_)
              · --76 taken
                have t158 : ¬ r152.toInt = 0 := ti_ne c157
                have i159 : 1 ≤ r152.toInt ∧ r152.toInt ≤ 5 := iv_ne_l t158 f153 (il_ 0)
                refine lv_iconst (v := 0) hx hb dX13_pointsByText_83 (by decide) ?_
                refine lv_iadd hx hb dX13_pointsByText_84 ?_
                refine lv_topi (fun y160 ey160 => ?_)
                obtain ⟨ty160, iy160⟩ := ti_add (e := 0) (f := 15) i128 ln_0 ey160 (by decide)
                have ty160 : y160.toInt = v36_7.toInt + 0 := ty160
                have iy160 : 0 ≤ y160.toInt ∧ y160.toInt ≤ 15 := iy160
                refine lv_istore (lv' := [(7, .int y160), (6, .int y151), (8, .int v36_8), (5, .int r86), (4, .int r1), (0, .ref (ad 0)), (1, .int a0), (2, .int a1), (3, .int a2)]) hx hb dX13_pointsByText_85 hl (by decide) rfl (fun ls hl => ?_)
                obtain ⟨y161, ey161⟩ : ∃ y : Int32, y = v36_8 + (1 : Int32) := ⟨_, rfl⟩
                obtain ⟨ty161, iy161⟩ := ti_add (e := 1) (f := 16) i125 ln_1 ey161 (by decide)
                have ty161 : y161.toInt = v36_8.toInt + 1 := ty161
                have iy161 : 1 ≤ y161.toInt ∧ y161.toInt ≤ 16 := iy161
                refine lv_iinc (v := y161) (lv' := [(8, .int y161), (7, .int y160), (6, .int y151), (5, .int r86), (4, .int r1), (0, .ref (ad 0)), (1, .int a0), (2, .int a1), (3, .int a2)]) hx hb dX13_pointsByText_87 hl (k := 2) rfl (by rw [ey161]; rfl) (by decide) rfl (fun ls hl => ?_)
                refine lv_goto (tgt := 36) hx hb dX13_pointsByText_90 (by decide) ?_
                exact ih36 y161 y160 y151 _ _ _ (iv_w iy161 (by decide)) (iv_w iy160 (by decide)) (iv_w iy151 (by decide)) (hx36_0.no k149 (by omega) (by rw [tn_ y161, tn_ v36_8]; omega)) (hx36_1.no (fun q9 => absurd (k155.fn q9) (by omega)) (by omega) (by rw [tn_ y161, tn_ v36_8]; omega)) (by omega) (by omega) (by omega) (by first | exact ms_su hx36_5 ty161 (by decide) | omega) hP hS (lv_sub hl [0, 1, 2, 3, 4, 5, 6, 7, 8] rfl)
              · --76 not
                have t162 : r152.toInt = 0 := ti_eq c157
                have i163 : 0 ≤ r152.toInt ∧ r152.toInt ≤ 0 := iv_eqi t162 f153 (il_ 0) (by decide)
                refine lv_iconst (v := 1) hx hb dX13_pointsByText_79 (by decide) ?_
                refine lv_goto (tgt := 84) hx hb dX13_pointsByText_80 (by decide) ?_
                refine lv_iadd hx hb dX13_pointsByText_84 ?_
                refine lv_topi (fun y164 ey164 => ?_)
                obtain ⟨ty164, iy164⟩ := ti_add (e := 1) (f := 16) i128 ln_1 ey164 (by decide)
                have ty164 : y164.toInt = v36_7.toInt + 1 := ty164
                have iy164 : 1 ≤ y164.toInt ∧ y164.toInt ≤ 16 := iy164
                refine lv_istore (lv' := [(7, .int y164), (6, .int y151), (8, .int v36_8), (5, .int r86), (4, .int r1), (0, .ref (ad 0)), (1, .int a0), (2, .int a1), (3, .int a2)]) hx hb dX13_pointsByText_85 hl (by decide) rfl (fun ls hl => ?_)
                obtain ⟨y165, ey165⟩ : ∃ y : Int32, y = v36_8 + (1 : Int32) := ⟨_, rfl⟩
                obtain ⟨ty165, iy165⟩ := ti_add (e := 1) (f := 16) i125 ln_1 ey165 (by decide)
                have ty165 : y165.toInt = v36_8.toInt + 1 := ty165
                have iy165 : 1 ≤ y165.toInt ∧ y165.toInt ≤ 16 := iy165
                refine lv_iinc (v := y165) (lv' := [(8, .int y165), (7, .int y164), (6, .int y151), (5, .int r86), (4, .int r1), (0, .ref (ad 0)), (1, .int a0), (2, .int a1), (3, .int a2)]) hx hb dX13_pointsByText_87 hl (k := 2) rfl (by rw [ey165]; rfl) (by decide) rfl (fun ls hl => ?_)
                refine lv_goto (tgt := 36) hx hb dX13_pointsByText_90 (by decide) ?_
                exact ih36 y165 y164 y151 _ _ _ (iv_w iy165 (by decide)) (iv_w iy164 (by decide)) (iv_w iy151 (by decide)) (hx36_0.no k149 (by omega) (by rw [tn_ y165, tn_ v36_8]; omega)) (hx36_1.one (by have h9 := k155; rw [show r152.toInt = 0 by omega] at h9; exact h9) (by omega) (by rw [tn_ y165, tn_ v36_8]; omega)) (by omega) (by omega) (by omega) (by first | exact ms_su hx36_5 ty165 (by decide) | omega) hP hS (lv_sub hl [0, 1, 2, 3, 4, 5, 6, 7, 8] rfl)
            · --55 not
              exact absurd c150 (by decide)
    exact hL36 (17) (0 : Int32) (0 : Int32) (0 : Int32) _ _ _ (iv_w ln_0 (by decide)) (iv_w ln_0 (by decide)) (iv_w ln_0 (by decide)) (show CnR _ 0 0 from rfl) (show CnR _ 0 0 from rfl) (by have z9 := ln_0; omega) (by have z9 := ln_0; omega) (by have z9 := ln_0; omega) (by have h9 := ln_0; first | exact ms_bu h9.1 (by decide) | omega) hP hS (lv_sub hl [0, 1, 2, 3, 4, 5, 6, 7, 8] rfl)
def v_pointsOfM : List Cond := .code yX13_pointsOf cX13_pointsOf 7 (some .int) :: vA
abbrev rm_pointsOfM : Room := { frames := 75, cells := 0, slots := 0, locals := 3000 }
def w_pointsOfM : Nat → Nat → Bool := wl [12] [(0, 18), (0, 19), (0, 20), (0, 21), (0, 22), (0, 23), (0, 24), (0, 25), (0, 26)]
set_option maxHeartbeats 4000000 in
set_option maxRecDepth 100000 in
theorem q_pointsOfM (l : Launch) (dC : Nat → ClassId) (dI : Nat → Nat → Nat) (cT : Nat → ClassId) (ad : Nat → Nat) (E : Nat → va_E) (sz : Nat) (a0 : Int32) (a1 : Int32) (a2 : Int32) (hI0 : IX cT shM spM 72 ad E) (hh0 : 0 ≤ a0.toInt ∧ a0.toInt ≤ 19) (hh1 : 0 ≤ a1.toInt ∧ a1.toInt ≤ 15) (hh2 : TXM E) : Met l yX13_pointsOf v_pointsOfM rm_pointsOfM (va_Pc [.ref (ad 0), .int a0, .int a1, .int a2] (HW dC dI (TYM cT) 72 ad E sz)) (va_Qi (S := Nat → va_E) (fun r u => IX cT shM spM 72 ad u ∧ Kp w_pointsOfM E u ∧ ((PtM E a0 a1 a2 r.toInt))) (HB dC dI 72 ad) (va_A (WX 72 ad E) sz)) 0 0 (va_A (WX 72 ad E) sz) := by
  refine Met.ofW (cc := cX13_pointsOf) (maxL := 7) (ret := (some .int)) (by decide) rfl ?_
  intro p e s m args below meth c s₁ B hml hv
  obtain ⟨hargs, hsz, hP, hK, hD0, hEV⟩ := hv
  subst hsz
  have hx := B.exec
  have hb := B.bytes
  have hr := B.returns
  have hts := atoms_spec (ws := v_pointsOfM) B.pre
  have hown : s.vm.findClass RX13 = some m.cls := findClass_of_methodNamed B.named
  have hlocks := B.notSynchronized
  have hinX13 : ∀ w ∈ u_ws RX13 TX13 97, w ∈ v_pointsOfM := fun w h => vA_in _ w (in_X13 w h)
  generalize hAe : va_A (WX 72 ad E) s.heap.size = A at hEV ⊢
  have hA : ∀ q : Nat, s.heap.size ≤ q → A q := fun q h => by rw [← hAe]; exact Or.inr h
  have hD : va_D A (WX 72 ad E) := by rw [← hAe]; exact hD0.self
  have hS : va_S A s.heap s.heap [] := va_S.rf
  have hI := hI0
  have hKp : Kp w_pointsOfM E E := Kp.rf
  have hl := lv_entry ([.ref (ad 0), .int a0, .int a1, .int a2]) (n := 7) (Nat.le_of_ble_eq_true rfl)
  obtain ⟨Q, hQ⟩ : ∃ Q, Q = MQ below (va_Qi (S := Nat → va_E) (fun r u => IX cT shM spM 72 ad u ∧ Kp w_pointsOfM E u ∧ ((PtM E a0 a1 a2 r.toInt))) (HB dC dI 72 ad) (A)) args s 0 0 (A) := ⟨_, rfl⟩
  rw [← hQ, show entryFrame m args 7 = _ from (congrArg (fun z => entryFrame m z 7) hargs).trans (lg_entry_eq _ _ _)]
  generalize (lg_sl ([.ref (ad 0), .int a0, .int a1, .int a2]) ++ List.replicate (7 - (lg_sl ([.ref (ad 0), .int a0, .int a1, .int a2])).length) Slot.unset).toArray = ls at hl ⊢
  have hl : lv_has ls 7 [(0, .ref (ad 0)), (1, .int a0), (2, .int a1), (3, .int a2)] := hl
  have z0z : (0 : Int32).toInt = 0 := rfl
  have ib46 : 0 ≤ (xi (E 0) 46).toInt ∧ (xi (E 0) 46).toInt ≤ 20 := hI0.iv 0 (Nat.le_of_ble_eq_true rfl) rfl (Nat.le_of_ble_eq_true rfl) rfl
  have z0 := ln_0
  have z1 := ln_1
  refine lv_aload_n hx hb dX13_pointsOf_0 rfl (lv_at hl 0 rfl) ?_
  refine lv_iload_n hx hb dX13_pointsOf_1 rfl (lv_at hl 1 rfl) ?_
  refine lv_iload_n hx hb dX13_pointsOf_2 rfl (lv_at hl 2 rfl) ?_
  refine lv_iload_n hx hb dX13_pointsOf_3 rfl (lv_at hl 3 rfl) ?_
  refine th_ri (va_runV (As := [.int a0, .int a1, .int a2]) (rest := []) ⟨hx, hb, hml, hown, hts⟩ (q_hasRedressX l dC dI cT ad E s.heap.size a0 a1 a2 hI) (cwV 3 hts (gi_V (in_32 _ (zs16 (zs16 (zs4 (zs1 (zs1 (zs1 (zs0)))))))) (in_33 _ zs0) (in_33 _ (zs1 (zs0))) (in_24 _ (zs4 (zs4 (zs4 (zs1 (zs1 (zs1 (zs0)))))))) (in_32 _ zs0)) rfl rfl rfl ⟨rfl, hz_yX13_hasRedress_3⟩ ⟨Nat.le_of_ble_eq_true rfl, Nat.le_of_ble_eq_true rfl⟩) ⟨HW_bl, va_recv hK hP (ci := 14) (q0 := 0) rfl (hI.ob 0 (Nat.le_of_ble_eq_true rfl) rfl), (HW_wi hP hK (WX_D hD) hS hA hEV)⟩ rfl rfl hl.1 rfl (lv_room (Nat.le_of_ble_eq_true rfl)) dX13_pointsOf_4 ⟨Nat.le_of_ble_eq_true rfl, Nat.le_of_ble_eq_true rfl⟩) hS hP (fun r1 H locs hw hP hS => ?_)
  rcases hw with hw | hw
  · -- hasRedressX, case 0
    obtain ⟨rfl, f2⟩ := hw
    have i3 : 0 ≤ (xi (E 0) 48).toInt ∧ (xi (E 0) 48).toInt ≤ 20 := (show 0 ≤ (xi (E 0) 48).toInt ∧ (xi (E 0) 48).toInt ≤ 20 from hI0.iv 0 (Nat.le_of_ble_eq_true rfl) rfl (Nat.le_of_ble_eq_true rfl) rfl)
    have k4 : redM E a0.toInt a1.toInt a2.toInt := by have h9 := f2; exact h9
    refine lv_if_ne (tgt := 18) hx hb dX13_pointsOf_7 (by decide) (fun c5 => ?_) (fun c5 => ?_)
    · --7 taken
      refine lv_iconst (v := 0) hx hb dX13_pointsOf_18 (by decide) ?_
      refine lv_istore (lv' := [(4, .int 0), (0, .ref (ad 0)), (1, .int a0), (2, .int a1), (3, .int a2)]) hx hb dX13_pointsOf_19 hl (by decide) rfl (fun ls hl => ?_)
      refine lv_iconst (v := 0) hx hb dX13_pointsOf_21 (by decide) ?_
      refine lv_istore (lv' := [(5, .int 0), (4, .int 0), (0, .ref (ad 0)), (1, .int a0), (2, .int a1), (3, .int a2)]) hx hb dX13_pointsOf_22 hl (by decide) rfl (fun ls hl => ?_)
      refine lv_iconst (v := 0) hx hb dX13_pointsOf_24 (by decide) ?_
      refine lv_istore (lv' := [(6, .int 0), (5, .int 0), (4, .int 0), (0, .ref (ad 0)), (1, .int a0), (2, .int a1), (3, .int a2)]) hx hb dX13_pointsOf_25 hl (by decide) rfl (fun ls hl => ?_)
      have hL27 : ∀ d : Nat, ∀ (v27_6 : Int32) (v27_5 : Int32) (v27_4 : Int32) (E27_ : Nat → va_E) (H : Heap) (locs : List Loc) (ls : Array Slot), 0 ≤ v27_6.toInt ∧ v27_6.toInt ≤ 20 → 0 ≤ v27_5.toInt ∧ v27_5.toInt ≤ 20 → 0 ≤ v27_4.toInt ∧ v27_4.toInt ≤ 200000 → SmR (PMr E a0 a1 a2) (fun o9 v9 => PpM E (nI o9) a1 a2 v9) v27_6.toNatClampNeg v27_4.toInt → CnR (PMr E a0 a1 a2) v27_6.toNatClampNeg v27_5.toInt → v27_6.toInt ≤ (xi (E 0) 46).toInt → 0 ≤ v27_5.toInt ∧ v27_5.toInt ≤ v27_6.toInt → 0 ≤ v27_4.toInt ∧ v27_4.toInt ≤ 10000 * v27_5.toInt → 20 - v27_6.toInt < (d : Int) → IX cT shM spM 72 ad E27_ → Kp w_pointsOfM E E27_ → va_P (dC, dI) vwCl (WX 72 ad E27_) H → va_S A s.heap H locs → lv_has ls 7 [(6, .int v27_6), (5, .int v27_5), (4, .int v27_4), (0, .ref (ad 0)), (1, .int a0), (2, .int a1), (3, .int a2)] → W p l e (headSpec v_pointsOfM rm_pointsOfM).room s m args below meth c H locs 0 0 Q (F0 m 27 ls []) := by
        intro d
        induction d with
        | zero =>
          intro v27_6 v27_5 v27_4 E27_ H locs ls hv27_6 hv27_5 hv27_4 hx27_0 hx27_1 hx27_2 hx27_3 hx27_4 hx27_5 hI hKp hP hS hl
          exact absurd hx27_5 (by first | exact ms_zu hv27_6.2 | omega)
        | succ d ih27 =>
          intro v27_6 v27_5 v27_4 E27_ H locs ls hv27_6 hv27_5 hv27_4 hx27_0 hx27_1 hx27_2 hx27_3 hx27_4 hx27_5 hI hKp hP hS hl
          refine lv_iload hx hb dX13_pointsOf_27 (lv_at hl 0 rfl) ?_
          refine lv_aload_n hx hb dX13_pointsOf_29 rfl (lv_at hl 3 rfl) ?_
          have i6 : 0 ≤ (xi (E 0) 46).toInt ∧ (xi (E 0) 46).toInt ≤ 20 := hI0.iv 0 (Nat.le_of_ble_eq_true rfl) rfl (Nat.le_of_ble_eq_true rfl) rfl
          refine th_get (ci := 14) (C := RX13) (T := TX13) (N := 97) (v := .int (xi (E 0) 46)) hx hb hts hinX13 hown hK hP hI 0 (Nat.le_of_ble_eq_true rfl) rfl rfl 46 (Nat.le_of_ble_eq_true rfl) (hts _ (vA_in _ _ (in_24 _ (zs16 (zs1 (zs0)))))) (fun _ h9 => h9) (th_v0 hKp hI0 0 (Nat.le_of_ble_eq_true rfl) rfl (Nat.le_of_ble_eq_true rfl) rfl rfl) dX13_pointsOf_30 ?_
          refine lv_icmp_ge (tgt := 89) hx hb dX13_pointsOf_33 (by decide) (fun c7 => ?_) (fun c7 => ?_)
          · --33 taken
            have t8 : (xi (E 0) 46).toInt ≤ v27_6.toInt := ti_le c7
            refine lv_iload hx hb dX13_pointsOf_89 (lv_at hl 1 rfl) ?_
            refine lv_if_ne (tgt := 98) hx hb dX13_pointsOf_91 (by decide) (fun c9 => ?_) (fun c9 => ?_)
            · --91 taken
              have t10 : ¬ v27_5.toInt = 0 := ti_ne c9
              have i11 : 1 ≤ v27_5.toInt ∧ v27_5.toInt ≤ 20 := iv_ne_l t10 hv27_5 (il_ 0)
              refine lv_iload hx hb dX13_pointsOf_98 (lv_at hl 2 rfl) ?_
              refine lv_iload hx hb dX13_pointsOf_100 (lv_at hl 1 rfl) ?_
              refine lv_idiv hx hb dX13_pointsOf_102 (iv_n0 i11 (by decide)) ?_
              refine lv_topi (fun y12 ey12 => ?_)
              rw [hQ]
              exact W.iret (v := y12) hx hb hr (fun t ht hW => ⟨⟨y12, E27_, rfl, ⟨hI, hKp, ⟨fun z9 => absurd k4 z9, fun _ => ⟨v27_4.toInt, v27_5.toInt, (by have h9 := hx27_0; rw [show v27_6.toNatClampNeg = (xi (E 0) 46).toNatClampNeg by rw [tn_, tn_]; omega] at h9; exact h9), (by have h9 := hx27_1; rw [show v27_6.toNatClampNeg = (xi (E 0) 46).toNatClampNeg by rw [tn_, tn_]; omega] at h9; exact h9), by unfold meanI; rw [if_neg (by omega)]; exact (ti_div (a := 0) (b := 200000) (c := 1) (d := 20) (e := 0) (f := 200000) (by omega) (by omega) ey12 (by decide)).1⟩⟩⟩, by show va_P (dC, dI) vwCl (WX 72 ad E27_) t.heap; rw [ht]; exact hP⟩, hS.F ht⟩) hS.2.2 dX13_pointsOf_103
            · --91 not
              have t13 : v27_5.toInt = 0 := ti_eq c9
              have i14 : 0 ≤ v27_5.toInt ∧ v27_5.toInt ≤ 0 := iv_eqi t13 hv27_5 (il_ 0) (by decide)
              refine lv_iconst (v := 0) hx hb dX13_pointsOf_94 (by decide) ?_
              refine lv_goto (tgt := 103) hx hb dX13_pointsOf_95 (by decide) ?_
              rw [hQ]
              exact W.iret (v := 0) hx hb hr (fun t ht hW => ⟨⟨0, E27_, rfl, ⟨hI, hKp, ⟨fun z9 => absurd k4 z9, fun _ => ⟨v27_4.toInt, v27_5.toInt, (by have h9 := hx27_0; rw [show v27_6.toNatClampNeg = (xi (E 0) 46).toNatClampNeg by rw [tn_, tn_]; omega] at h9; exact h9), (by have h9 := hx27_1; rw [show v27_6.toNatClampNeg = (xi (E 0) 46).toNatClampNeg by rw [tn_, tn_]; omega] at h9; exact h9), by unfold meanI; rw [if_pos (by omega)]; rfl⟩⟩⟩, by show va_P (dC, dI) vwCl (WX 72 ad E27_) t.heap; rw [ht]; exact hP⟩, hS.F ht⟩) hS.2.2 dX13_pointsOf_103
          · --33 not
            have t15 : v27_6.toInt < (xi (E 0) 46).toInt := ti_nle c7
            have i16 : 0 ≤ v27_6.toInt ∧ v27_6.toInt ≤ 19 := iv_lt_l t15 hv27_6 i6 (by decide)
            have i17 : 1 ≤ (xi (E 0) 46).toInt ∧ (xi (E 0) 46).toInt ≤ 20 := iv_lt_r t15 hv27_6 i6 (by decide)
            have i18 : 0 ≤ v27_5.toInt ∧ v27_5.toInt ≤ 19 := by omega
            have i19 : 0 ≤ v27_4.toInt ∧ v27_4.toInt ≤ 190000 := by omega
            refine lv_iload hx hb dX13_pointsOf_36 (lv_at hl 0 rfl) ?_
            refine lv_iload_n hx hb dX13_pointsOf_38 rfl (lv_at hl 4 rfl) ?_
            refine lv_icmp_eq (tgt := 83) hx hb dX13_pointsOf_39 (by decide) (fun c20 => ?_) (fun c20 => ?_)
            · --39 taken
              have t21 : v27_6.toInt = a0.toInt := ti_eq c20
              obtain ⟨y22, ey22⟩ : ∃ y : Int32, y = v27_6 + (1 : Int32) := ⟨_, rfl⟩
              obtain ⟨ty22, iy22⟩ := ti_add (e := 1) (f := 20) i16 ln_1 ey22 (by decide)
              have ty22 : y22.toInt = v27_6.toInt + 1 := ty22
              have iy22 : 1 ≤ y22.toInt ∧ y22.toInt ≤ 20 := iy22
              refine lv_iinc (v := y22) (lv' := [(6, .int y22), (5, .int v27_5), (4, .int v27_4), (0, .ref (ad 0)), (1, .int a0), (2, .int a1), (3, .int a2)]) hx hb dX13_pointsOf_83 hl (k := 0) rfl (by rw [ey22]; rfl) (by decide) rfl (fun ls hl => ?_)
              refine lv_goto (tgt := 27) hx hb dX13_pointsOf_86 (by decide) ?_
              exact ih27 y22 v27_5 v27_4 E27_ _ _ _ (iv_w iy22 (by decide)) (iv_w i18 (by decide)) (iv_w i19 (by decide)) (hx27_0.no (fun q9 => by have q8 := q9.1; rw [show ((v27_6.toNatClampNeg : Nat) : Int) = v27_6.toInt by rw [tn_]; omega] at q8; omega) rfl (by rw [tn_ y22, tn_ v27_6]; omega)) (hx27_1.no (fun q9 => by have q8 := q9.1; rw [show ((v27_6.toNatClampNeg : Nat) : Int) = v27_6.toInt by rw [tn_]; omega] at q8; omega) rfl (by rw [tn_ y22, tn_ v27_6]; omega)) (by omega) (by omega) (by omega) (by first | exact ms_su hx27_5 ty22 (by decide) | omega) hI hKp hP hS (lv_sub hl [0, 1, 2, 3, 4, 5, 6] rfl)
            · --39 not
              have t23 : ¬ v27_6.toInt = a0.toInt := ti_ne c20
              refine lv_aload_n hx hb dX13_pointsOf_42 rfl (lv_at hl 3 rfl) ?_
              refine th_get (ci := 14) (C := RX13) (T := TX13) (N := 97) (v := .ref (ad 20)) hx hb hts hinX13 hown hK hP hI 0 (Nat.le_of_ble_eq_true rfl) rfl rfl 34 (Nat.le_of_ble_eq_true rfl) (hts _ (vA_in _ _ (in_24 _ (zs4 (zs4 (zs1 (zs1 (zs1 (zs0))))))))) (fun _ h9 => h9) (hI.fr 0 (Nat.le_of_ble_eq_true rfl) rfl (Nat.le_of_ble_eq_true rfl) 20 rfl) dX13_pointsOf_43 ?_
              refine lv_iload hx hb dX13_pointsOf_46 (lv_at hl 0 rfl) ?_
              have n25 : vp_in v27_6 20 := (iv_in (n := 20) i16 (by decide))
              refine th_iald hx hb hK hP hI 20 (Nat.le_of_ble_eq_true rfl) rfl rfl n25 dX13_pointsOf_48 (fun y24 ey24 => ?_)
              have iy24 : 0 ≤ y24.toInt ∧ y24.toInt ≤ 400 := hI.el 20 (Nat.le_of_ble_eq_true rfl) rfl n25 (fun _ => rfl) ey24
              have ey24 := ey24.trans (hKp.ei 20 _ rfl)
              refine lv_iload_n hx hb dX13_pointsOf_49 rfl (lv_at hl 6 rfl) ?_
              refine lv_icmp_gt (tgt := 83) hx hb dX13_pointsOf_50 (by decide) (fun c26 => ?_) (fun c26 => ?_)
              · --50 taken
                have t27 : a2.toInt < y24.toInt := ti_lt c26
                have i28 : -2147483648 ≤ a2.toInt ∧ a2.toInt ≤ 399 := iv_lt_l t27 (iv_all _) iy24 (by decide)
                obtain ⟨y29, ey29⟩ : ∃ y : Int32, y = v27_6 + (1 : Int32) := ⟨_, rfl⟩
                obtain ⟨ty29, iy29⟩ := ti_add (e := 1) (f := 20) i16 ln_1 ey29 (by decide)
                have ty29 : y29.toInt = v27_6.toInt + 1 := ty29
                have iy29 : 1 ≤ y29.toInt ∧ y29.toInt ≤ 20 := iy29
                refine lv_iinc (v := y29) (lv' := [(6, .int y29), (5, .int v27_5), (4, .int v27_4), (0, .ref (ad 0)), (1, .int a0), (2, .int a1), (3, .int a2)]) hx hb dX13_pointsOf_83 hl (k := 0) rfl (by rw [ey29]; rfl) (by decide) rfl (fun ls hl => ?_)
                refine lv_goto (tgt := 27) hx hb dX13_pointsOf_86 (by decide) ?_
                exact ih27 y29 v27_5 v27_4 E27_ _ _ _ (iv_w iy29 (by decide)) (iv_w i18 (by decide)) (iv_w i19 (by decide)) (hx27_0.no (fun q9 => by have q8 := q9.2.1; have gy24 := congrArg Int32.toInt ey24; omega) rfl (by rw [tn_ y29, tn_ v27_6]; omega)) (hx27_1.no (fun q9 => by have q8 := q9.2.1; have gy24 := congrArg Int32.toInt ey24; omega) rfl (by rw [tn_ y29, tn_ v27_6]; omega)) (by omega) (by omega) (by omega) (by first | exact ms_su hx27_5 ty29 (by decide) | omega) hI hKp hP hS (lv_sub hl [0, 1, 2, 3, 4, 5, 6] rfl)
              · --50 not
                have t30 : y24.toInt ≤ a2.toInt := ti_nlt c26
                have i31 : 0 ≤ a2.toInt ∧ a2.toInt ≤ 2147483647 := iv_le_r t30 iy24 (iv_all _) (by decide)
                refine lv_aload_n hx hb dX13_pointsOf_53 rfl (lv_at hl 3 rfl) ?_
                refine lv_iload hx hb dX13_pointsOf_54 (lv_at hl 0 rfl) ?_
                refine lv_iload_n hx hb dX13_pointsOf_56 rfl (lv_at hl 5 rfl) ?_
                refine lv_iload_n hx hb dX13_pointsOf_57 rfl (lv_at hl 6 rfl) ?_
                refine th_ri (va_runV (As := [.int v27_6, .int a1, .int a2]) (rest := []) ⟨hx, hb, hml, hown, hts⟩ (q_hasRedressX l dC dI cT ad E27_ H.size v27_6 a1 a2 hI) (cwV 3 hts (gi_V (in_32 _ (zs16 (zs16 (zs4 (zs1 (zs1 (zs1 (zs0)))))))) (in_33 _ zs0) (in_33 _ (zs1 (zs0))) (in_24 _ (zs4 (zs4 (zs4 (zs1 (zs1 (zs1 (zs0)))))))) (in_32 _ zs0)) rfl rfl rfl ⟨rfl, hz_yX13_hasRedress_3⟩ ⟨Nat.le_of_ble_eq_true rfl, Nat.le_of_ble_eq_true rfl⟩) ⟨HW_bl, va_recv hK hP (ci := 14) (q0 := 0) rfl (hI.ob 0 (Nat.le_of_ble_eq_true rfl) rfl), (HW_wi hP hK (WX_D hD) hS hA hEV)⟩ rfl rfl hl.1 rfl (lv_room (Nat.le_of_ble_eq_true rfl)) dX13_pointsOf_58 ⟨Nat.le_of_ble_eq_true rfl, Nat.le_of_ble_eq_true rfl⟩) hS hP (fun r32 H locs hw hP hS => ?_)
                rcases hw with hw | hw
                · -- hasRedressX, case 0
                  obtain ⟨rfl, f33⟩ := hw
                  try rw [hKp.ei 0 48 rfl] at f33
                  have k34 : redM E v27_6.toInt a1.toInt a2.toInt := by have h9 := f33; rw [show xi (E27_ 29) = xi (E 29) from hKp.ef 29 (fun _ => rfl), show xi (E27_ 30) = xi (E 30) from hKp.ef 30 (fun _ => rfl), show xi (E27_ 31) = xi (E 31) from hKp.ef 31 (fun _ => rfl)] at h9; exact h9
                  refine lv_if_eq (tgt := 67) hx hb dX13_pointsOf_61 (by decide) (fun c35 => ?_) (fun c35 => ?_)
                  · --61 taken
                    exact absurd c35 (by decide)
                  · --61 not
                    refine lv_goto (tgt := 83) hx hb dX13_pointsOf_64 (by decide) ?_
                    obtain ⟨y36, ey36⟩ : ∃ y : Int32, y = v27_6 + (1 : Int32) := ⟨_, rfl⟩
                    obtain ⟨ty36, iy36⟩ := ti_add (e := 1) (f := 20) i16 ln_1 ey36 (by decide)
                    have ty36 : y36.toInt = v27_6.toInt + 1 := ty36
                    have iy36 : 1 ≤ y36.toInt ∧ y36.toInt ≤ 20 := iy36
                    refine lv_iinc (v := y36) (lv' := [(6, .int y36), (5, .int v27_5), (4, .int v27_4), (0, .ref (ad 0)), (1, .int a0), (2, .int a1), (3, .int a2)]) hx hb dX13_pointsOf_83 hl (k := 0) rfl (by rw [ey36]; rfl) (by decide) rfl (fun ls hl => ?_)
                    refine lv_goto (tgt := 27) hx hb dX13_pointsOf_86 (by decide) ?_
                    exact ih27 y36 v27_5 v27_4 E27_ _ _ _ (iv_w iy36 (by decide)) (iv_w i18 (by decide)) (iv_w i19 (by decide)) (hx27_0.no (fun q9 => by have q8 := q9.2.2; rw [show ((v27_6.toNatClampNeg : Nat) : Int) = v27_6.toInt by rw [tn_]; omega] at q8; exact q8 k34) rfl (by rw [tn_ y36, tn_ v27_6]; omega)) (hx27_1.no (fun q9 => by have q8 := q9.2.2; rw [show ((v27_6.toNatClampNeg : Nat) : Int) = v27_6.toInt by rw [tn_]; omega] at q8; exact q8 k34) rfl (by rw [tn_ y36, tn_ v27_6]; omega)) (by omega) (by omega) (by omega) (by first | exact ms_su hx27_5 ty36 (by decide) | omega) hI hKp hP hS (lv_sub hl [0, 1, 2, 3, 4, 5, 6] rfl)
                · -- hasRedressX, case 1
                  obtain ⟨rfl, f37⟩ := hw
                  try rw [hKp.ei 0 48 rfl] at f37
                  have k38 : ¬ redM E v27_6.toInt a1.toInt a2.toInt := by have h9 := f37; rw [show xi (E27_ 29) = xi (E 29) from hKp.ef 29 (fun _ => rfl), show xi (E27_ 30) = xi (E 30) from hKp.ef 30 (fun _ => rfl), show xi (E27_ 31) = xi (E 31) from hKp.ef 31 (fun _ => rfl)] at h9; exact fun ⟨k8, g8, g9⟩ => h9 k8 g8 g9
                  refine lv_if_eq (tgt := 67) hx hb dX13_pointsOf_61 (by decide) (fun c39 => ?_) (fun c39 => ?_)
                  · --61 taken
                    refine lv_iload hx hb dX13_pointsOf_67 (lv_at hl 2 rfl) ?_
                    refine lv_aload_n hx hb dX13_pointsOf_69 rfl (lv_at hl 3 rfl) ?_
                    refine lv_iload hx hb dX13_pointsOf_70 (lv_at hl 0 rfl) ?_
                    refine lv_iload_n hx hb dX13_pointsOf_72 rfl (lv_at hl 5 rfl) ?_
                    refine lv_iload_n hx hb dX13_pointsOf_73 rfl (lv_at hl 6 rfl) ?_
                    refine th_i (va_runV (As := [.int v27_6, .int a1, .int a2]) (rest := [.int v27_4]) ⟨hx, hb, hml, hown, hts⟩ (q_pointsByTextM l dC dI cT ad E27_ H.size v27_6 a1 a2 hI i16 hh1 (by exact hh2.cg (fun j9 => hKp.ei 8 j9 rfl) (fun j9 => hKp.ei 9 j9 rfl) (hKp.ei 0 17 rfl))) (cwV 3 hts (gi_V (in_33 _ (zs1 (zs1 (zs0)))) (in_33 _ (zs1 (zs1 (zs1 (zs0))))) (in_33 _ (zs4 (zs0))) (in_24 _ (zs4 (zs4 (zs4 (zs1 (zs1 (zs1 (zs0)))))))) (in_33 _ (zs4 (zs1 (zs0))))) rfl rfl rfl ⟨rfl, hz_yX13_pointsByText_3⟩ ⟨Nat.le_of_ble_eq_true rfl, Nat.le_of_ble_eq_true rfl⟩) ⟨HW_bl, va_recv hK hP (ci := 14) (q0 := 0) rfl (hI.ob 0 (Nat.le_of_ble_eq_true rfl) rfl), (HW_wi hP hK (WX_D hD) hS hA hEV)⟩ rfl rfl hl.1 rfl (lv_room (Nat.le_of_ble_eq_true rfl)) dX13_pointsOf_74 ⟨Nat.le_of_ble_eq_true rfl, Nat.le_of_ble_eq_true rfl⟩) (WX_D hD) hS hA (fun r40 E41 H locs hw hP hS => ?_)
                    obtain ⟨hI, kq42, hw⟩ := hw
                    have hKb := hKp
                    have hKp := hKp.tr kq42 (wl_sub rfl rfl)
                    have f43 := hw
                    have i44 : 0 ≤ (xi (E 0) 8).toInt ∧ (xi (E 0) 8).toInt ≤ 16 := (show 0 ≤ (xi (E 0) 8).toInt ∧ (xi (E 0) 8).toInt ≤ 16 from hI0.iv 0 (Nat.le_of_ble_eq_true rfl) rfl (Nat.le_of_ble_eq_true rfl) rfl)
                    have k46 : KdN E E27_ := KdN.of hKb rfl rfl rfl rfl rfl
                    have k45 : PpM E (nI v27_6.toNatClampNeg) a1 a2 r40.toInt := by rw [nI_tn (show 0 ≤ v27_6.toInt by omega)]; exact PpM_kd k46 (hKb.ei 0 8 rfl) (by have h9 := f43; exact h9)
                    have i47 : 0 ≤ r40.toInt ∧ r40.toInt ≤ 10000 := by obtain ⟨c9, p9, e9, f9, -, -, -, -, -, h9⟩ := k45; rw [h9]; unfold clamp; omega
                    refine lv_iadd hx hb dX13_pointsOf_77 ?_
                    refine lv_topi (fun y48 ey48 => ?_)
                    obtain ⟨ty48, iy48⟩ := ti_add (e := 0) (f := 200000) i19 i47 ey48 (by decide)
                    have ty48 : y48.toInt = v27_4.toInt + r40.toInt := ty48
                    have iy48 : 0 ≤ y48.toInt ∧ y48.toInt ≤ 200000 := iy48
                    refine lv_istore (lv' := [(4, .int y48), (6, .int v27_6), (5, .int v27_5), (0, .ref (ad 0)), (1, .int a0), (2, .int a1), (3, .int a2)]) hx hb dX13_pointsOf_78 hl (by decide) rfl (fun ls hl => ?_)
                    obtain ⟨y49, ey49⟩ : ∃ y : Int32, y = v27_5 + (1 : Int32) := ⟨_, rfl⟩
                    obtain ⟨ty49, iy49⟩ := ti_add (e := 1) (f := 20) i18 ln_1 ey49 (by decide)
                    have ty49 : y49.toInt = v27_5.toInt + 1 := ty49
                    have iy49 : 1 ≤ y49.toInt ∧ y49.toInt ≤ 20 := iy49
                    refine lv_iinc (v := y49) (lv' := [(5, .int y49), (4, .int y48), (6, .int v27_6), (0, .ref (ad 0)), (1, .int a0), (2, .int a1), (3, .int a2)]) hx hb dX13_pointsOf_80 hl (k := 2) rfl (by rw [ey49]; rfl) (by decide) rfl (fun ls hl => ?_)
                    obtain ⟨y50, ey50⟩ : ∃ y : Int32, y = v27_6 + (1 : Int32) := ⟨_, rfl⟩
                    obtain ⟨ty50, iy50⟩ := ti_add (e := 1) (f := 20) i16 ln_1 ey50 (by decide)
                    have ty50 : y50.toInt = v27_6.toInt + 1 := ty50
                    have iy50 : 1 ≤ y50.toInt ∧ y50.toInt ≤ 20 := iy50
                    refine lv_iinc (v := y50) (lv' := [(6, .int y50), (5, .int y49), (4, .int y48), (0, .ref (ad 0)), (1, .int a0), (2, .int a1), (3, .int a2)]) hx hb dX13_pointsOf_83 hl (k := 2) rfl (by rw [ey50]; rfl) (by decide) rfl (fun ls hl => ?_)
                    refine lv_goto (tgt := 27) hx hb dX13_pointsOf_86 (by decide) ?_
                    exact ih27 y50 y49 y48 E41 _ _ _ (iv_w iy50 (by decide)) (iv_w iy49 (by decide)) iy48 (hx27_0.one (show PMr E a0 a1 a2 v27_6.toNatClampNeg from ⟨(by rw [show ((v27_6.toNatClampNeg : Nat) : Int) = v27_6.toInt by rw [tn_]; omega]; omega), (by have gy24 := congrArg Int32.toInt ey24; omega), (by rw [show ((v27_6.toNatClampNeg : Nat) : Int) = v27_6.toInt by rw [tn_]; omega]; exact k38)⟩) k45 (by omega) (by rw [tn_ y50, tn_ v27_6]; omega)) (hx27_1.one (show PMr E a0 a1 a2 v27_6.toNatClampNeg from ⟨(by rw [show ((v27_6.toNatClampNeg : Nat) : Int) = v27_6.toInt by rw [tn_]; omega]; omega), (by have gy24 := congrArg Int32.toInt ey24; omega), (by rw [show ((v27_6.toNatClampNeg : Nat) : Int) = v27_6.toInt by rw [tn_]; omega]; exact k38)⟩) (by omega) (by rw [tn_ y50, tn_ v27_6]; omega)) (by omega) (by omega) (by omega) (by first | exact ms_su hx27_5 ty50 (by decide) | omega) hI hKp hP hS (lv_sub hl [0, 1, 2, 3, 4, 5, 6] rfl)
                  · --61 not
                    exact absurd c39 (by decide)
      exact hL27 (21) (0 : Int32) (0 : Int32) (0 : Int32) E _ _ _ (iv_w ln_0 (by decide)) (iv_w ln_0 (by decide)) (iv_w ln_0 (by decide)) (show SmR _ _ 0 0 from rfl) (show CnR _ 0 0 from rfl) (by have z9 := ln_0; omega) (by have z9 := ln_0; omega) (by have z9 := ln_0; omega) (by have h9 := ln_0; first | exact ms_bu h9.1 (by decide) | omega) hI hKp hP hS (lv_sub hl [0, 1, 2, 3, 4, 5, 6] rfl)
    · --7 not
      exact absurd c5 (by decide)
  · -- hasRedressX, case 1
    obtain ⟨rfl, f51⟩ := hw
    have i52 : 0 ≤ (xi (E 0) 48).toInt ∧ (xi (E 0) 48).toInt ≤ 20 := (show 0 ≤ (xi (E 0) 48).toInt ∧ (xi (E 0) 48).toInt ≤ 20 from hI0.iv 0 (Nat.le_of_ble_eq_true rfl) rfl (Nat.le_of_ble_eq_true rfl) rfl)
    have k53 : ¬ redM E a0.toInt a1.toInt a2.toInt := by have h9 := f51; exact fun ⟨k8, g8, g9⟩ => h9 k8 g8 g9
    refine lv_if_ne (tgt := 18) hx hb dX13_pointsOf_7 (by decide) (fun c54 => ?_) (fun c54 => ?_)
    · --7 taken
      exact absurd c54 (by decide)
    · --7 not
      refine lv_aload_n hx hb dX13_pointsOf_10 rfl (lv_at hl 0 rfl) ?_
      refine lv_iload_n hx hb dX13_pointsOf_11 rfl (lv_at hl 1 rfl) ?_
      refine lv_iload_n hx hb dX13_pointsOf_12 rfl (lv_at hl 2 rfl) ?_
      refine lv_iload_n hx hb dX13_pointsOf_13 rfl (lv_at hl 3 rfl) ?_
      refine th_i (va_runV (As := [.int a0, .int a1, .int a2]) (rest := []) ⟨hx, hb, hml, hown, hts⟩ (q_pointsByTextM l dC dI cT ad E H.size a0 a1 a2 hI hh0 hh1 (by exact hh2)) (cwV 3 hts (gi_V (in_33 _ (zs1 (zs1 (zs0)))) (in_33 _ (zs1 (zs1 (zs1 (zs0))))) (in_33 _ (zs4 (zs0))) (in_24 _ (zs4 (zs4 (zs4 (zs1 (zs1 (zs1 (zs0)))))))) (in_33 _ (zs4 (zs1 (zs0))))) rfl rfl rfl ⟨rfl, hz_yX13_pointsByText_3⟩ ⟨Nat.le_of_ble_eq_true rfl, Nat.le_of_ble_eq_true rfl⟩) ⟨HW_bl, va_recv hK hP (ci := 14) (q0 := 0) rfl (hI.ob 0 (Nat.le_of_ble_eq_true rfl) rfl), (HW_wi hP hK (WX_D hD) hS hA hEV)⟩ rfl rfl hl.1 rfl (lv_room (Nat.le_of_ble_eq_true rfl)) dX13_pointsOf_14 ⟨Nat.le_of_ble_eq_true rfl, Nat.le_of_ble_eq_true rfl⟩) (WX_D hD) hS hA (fun r55 E56 H locs hw hP hS => ?_)
      obtain ⟨hI, kq57, hw⟩ := hw
      have hKb := hKp
      have hKp := hKp.tr kq57 (wl_sub rfl rfl)
      have f58 := hw
      have i59 : 0 ≤ (xi (E 0) 8).toInt ∧ (xi (E 0) 8).toInt ≤ 16 := (show 0 ≤ (xi (E 0) 8).toInt ∧ (xi (E 0) 8).toInt ≤ 16 from hI0.iv 0 (Nat.le_of_ble_eq_true rfl) rfl (Nat.le_of_ble_eq_true rfl) rfl)
      rw [hQ]
      exact W.iret (v := r55) hx hb hr (fun t ht hW => ⟨⟨r55, E56, rfl, ⟨hI, hKp, ⟨fun _ => f58, fun z9 => absurd z9 k53⟩⟩, by show va_P (dC, dI) vwCl (WX 72 ad E56) t.heap; rw [ht]; exact hP⟩, hS.F ht⟩) hS.2.2 dX13_pointsOf_17
def v_pointsM : List Cond := .code yX13_points cX13_points 4 (some .int) :: vA
abbrev rm_pointsM : Room := { frames := 76, cells := 0, slots := 0, locals := 3040 }
def w_pointsM : Nat → Nat → Bool := wl [12] [(0, 0), (0, 18), (0, 19), (0, 20), (0, 21), (0, 22), (0, 23), (0, 24), (0, 25), (0, 26)]
set_option maxHeartbeats 4000000 in
set_option maxRecDepth 100000 in
theorem q_pointsM (l : Launch) (dC : Nat → ClassId) (dI : Nat → Nat → Nat) (cT : Nat → ClassId) (ad : Nat → Nat) (E : Nat → va_E) (sz : Nat) (a0 : Int32) (a1 : Int32) (a2 : Int32) (hI0 : IX cT shM spM 72 ad E) (hh0 : TXM E) : Met l yX13_points v_pointsM rm_pointsM (va_Pc [.ref (ad 0), .int a0, .int a1, .int a2] (HW dC dI (TYM cT) 72 ad E sz)) (va_Qi (S := Nat → va_E) (fun r u => IX cT shM spM 72 ad u ∧ Kp w_pointsM E u ∧ ((((((0 ≤ a0.toInt ∧ a0.toInt < (xi (E 0) 46).toInt) ∧ (0 ≤ a1.toInt ∧ a1.toInt < (xi (E 0) 8).toInt) ∧ (0 ≤ a2.toInt ∧ a2.toInt ≤ (xi (E 0) 1).toInt) ∧ (xi (E 20) a0.toInt.toNat).toInt ≤ a2.toInt) → (PtM E a0 a1 a2 r.toInt)) ∧ (¬ ((0 ≤ a0.toInt ∧ a0.toInt < (xi (E 0) 46).toInt) ∧ (0 ≤ a1.toInt ∧ a1.toInt < (xi (E 0) 8).toInt) ∧ (0 ≤ a2.toInt ∧ a2.toInt ≤ (xi (E 0) 1).toInt) ∧ (xi (E 20) a0.toInt.toNat).toInt ≤ a2.toInt) → (r.toInt = -1)))))) (HB dC dI 72 ad) (va_A (WX 72 ad E) sz)) 0 0 (va_A (WX 72 ad E) sz) := by
  refine Met.ofW (cc := cX13_points) (maxL := 4) (ret := (some .int)) (by decide) rfl ?_
  intro p e s m args below meth c s₁ B hml hv
  obtain ⟨hargs, hsz, hP, hK, hD0, hEV⟩ := hv
  subst hsz
  have hx := B.exec
  have hb := B.bytes
  have hr := B.returns
  have hts := atoms_spec (ws := v_pointsM) B.pre
  have hown : s.vm.findClass RX13 = some m.cls := findClass_of_methodNamed B.named
  have hlocks := B.notSynchronized
  have hinX13 : ∀ w ∈ u_ws RX13 TX13 97, w ∈ v_pointsM := fun w h => vA_in _ w (in_X13 w h)
  generalize hAe : va_A (WX 72 ad E) s.heap.size = A at hEV ⊢
  have hA : ∀ q : Nat, s.heap.size ≤ q → A q := fun q h => by rw [← hAe]; exact Or.inr h
  have hD : va_D A (WX 72 ad E) := by rw [← hAe]; exact hD0.self
  have hS : va_S A s.heap s.heap [] := va_S.rf
  have hI := hI0
  have hKp : Kp w_pointsM E E := Kp.rf
  have hl := lv_entry ([.ref (ad 0), .int a0, .int a1, .int a2]) (n := 4) (Nat.le_of_ble_eq_true rfl)
  obtain ⟨Q, hQ⟩ : ∃ Q, Q = MQ below (va_Qi (S := Nat → va_E) (fun r u => IX cT shM spM 72 ad u ∧ Kp w_pointsM E u ∧ ((((((0 ≤ a0.toInt ∧ a0.toInt < (xi (E 0) 46).toInt) ∧ (0 ≤ a1.toInt ∧ a1.toInt < (xi (E 0) 8).toInt) ∧ (0 ≤ a2.toInt ∧ a2.toInt ≤ (xi (E 0) 1).toInt) ∧ (xi (E 20) a0.toInt.toNat).toInt ≤ a2.toInt) → (PtM E a0 a1 a2 r.toInt)) ∧ (¬ ((0 ≤ a0.toInt ∧ a0.toInt < (xi (E 0) 46).toInt) ∧ (0 ≤ a1.toInt ∧ a1.toInt < (xi (E 0) 8).toInt) ∧ (0 ≤ a2.toInt ∧ a2.toInt ≤ (xi (E 0) 1).toInt) ∧ (xi (E 20) a0.toInt.toNat).toInt ≤ a2.toInt) → (r.toInt = -1)))))) (HB dC dI 72 ad) (A)) args s 0 0 (A) := ⟨_, rfl⟩
  rw [← hQ, show entryFrame m args 4 = _ from (congrArg (fun z => entryFrame m z 4) hargs).trans (lg_entry_eq _ _ _)]
  generalize (lg_sl ([.ref (ad 0), .int a0, .int a1, .int a2]) ++ List.replicate (4 - (lg_sl ([.ref (ad 0), .int a0, .int a1, .int a2])).length) Slot.unset).toArray = ls at hl ⊢
  have hl : lv_has ls 4 [(0, .ref (ad 0)), (1, .int a0), (2, .int a1), (3, .int a2)] := hl
  refine lv_aload_n hx hb dX13_points_0 rfl (lv_at hl 0 rfl) ?_
  refine lv_iload_n hx hb dX13_points_1 rfl (lv_at hl 1 rfl) ?_
  refine lv_iload_n hx hb dX13_points_2 rfl (lv_at hl 2 rfl) ?_
  refine lv_iload_n hx hb dX13_points_3 rfl (lv_at hl 3 rfl) ?_
  refine th_i (va_runV (As := [.int a0, .int a1, .int a2]) (rest := []) ⟨hx, hb, hml, hown, hts⟩ (q_asks l dC dI cT ad E s.heap.size a0 a1 a2 hI) (cwV 3 hts (gi_V (in_24 _ (zs16 (zs16 (zs0)))) (in_24 _ (zs16 (zs16 (zs1 (zs0))))) (in_24 _ (zs16 (zs16 (zs1 (zs1 (zs0)))))) (in_24 _ (zs4 (zs4 (zs4 (zs1 (zs1 (zs1 (zs0)))))))) (in_24 _ (zs4 (zs4 (zs1 (zs0)))))) rfl rfl rfl ⟨rfl, hz_yX13_asks_3⟩ ⟨Nat.le_of_ble_eq_true rfl, Nat.le_of_ble_eq_true rfl⟩) ⟨HW_bl, va_recv hK hP (ci := 14) (q0 := 0) rfl (hI.ob 0 (Nat.le_of_ble_eq_true rfl) rfl), (HW_wi hP hK (WX_D hD) hS hA hEV)⟩ rfl rfl hl.1 rfl (lv_room (Nat.le_of_ble_eq_true rfl)) dX13_points_4 ⟨Nat.le_of_ble_eq_true rfl, Nat.le_of_ble_eq_true rfl⟩) (WX_D hD) hS hA (fun r1 E2 H locs hw hP hS => ?_)
  obtain ⟨hI, kq3, hw⟩ := hw
  have hKb := hKp
  have hKp := hKp.tr kq3 (wl_sub rfl rfl)
  rcases hw with hw | hw
  · -- asks, case 0
    obtain ⟨rfl, f4, f5, f6, f7⟩ := hw
    have i8 : 0 ≤ (xi (E 0) 46).toInt ∧ (xi (E 0) 46).toInt ≤ 20 := (show 0 ≤ (xi (E 0) 46).toInt ∧ (xi (E 0) 46).toInt ≤ 20 from hI0.iv 0 (Nat.le_of_ble_eq_true rfl) rfl (Nat.le_of_ble_eq_true rfl) rfl)
    have i9 : 0 ≤ (xi (E 0) 8).toInt ∧ (xi (E 0) 8).toInt ≤ 16 := (show 0 ≤ (xi (E 0) 8).toInt ∧ (xi (E 0) 8).toInt ≤ 16 from hI0.iv 0 (Nat.le_of_ble_eq_true rfl) rfl (Nat.le_of_ble_eq_true rfl) rfl)
    have i10 : 0 ≤ (xi (E 0) 1).toInt ∧ (xi (E 0) 1).toInt ≤ 400 := (show 0 ≤ (xi (E 0) 1).toInt ∧ (xi (E 0) 1).toInt ≤ 400 from hI0.iv 0 (Nat.le_of_ble_eq_true rfl) rfl (Nat.le_of_ble_eq_true rfl) rfl)
    refine lv_if_eq (tgt := 20) hx hb dX13_points_7 (by decide) (fun c11 => ?_) (fun c11 => ?_)
    · --7 taken
      exact absurd c11 (by decide)
    · --7 not
      refine lv_aload_n hx hb dX13_points_10 rfl (lv_at hl 0 rfl) ?_
      refine lv_iload_n hx hb dX13_points_11 rfl (lv_at hl 1 rfl) ?_
      refine lv_iload_n hx hb dX13_points_12 rfl (lv_at hl 2 rfl) ?_
      refine lv_iload_n hx hb dX13_points_13 rfl (lv_at hl 3 rfl) ?_
      refine th_i (va_runV (As := [.int a0, .int a1, .int a2]) (rest := []) ⟨hx, hb, hml, hown, hts⟩ (q_pointsOfM l dC dI cT ad E2 H.size a0 a1 a2 hI f5 f6 (by exact hh0.cg (fun j9 => hKp.ei 8 j9 rfl) (fun j9 => hKp.ei 9 j9 rfl) (hKp.ei 0 17 rfl))) (cwV 3 hts (gi_V (in_32 _ (zs16 (zs16 (zs1 (zs1 (zs1 (zs0))))))) (in_32 _ (zs16 (zs16 (zs4 (zs0))))) (in_32 _ (zs16 (zs16 (zs4 (zs1 (zs0)))))) (in_24 _ (zs4 (zs4 (zs4 (zs1 (zs1 (zs1 (zs0)))))))) (in_32 _ (zs16 (zs16 (zs4 (zs1 (zs1 (zs0)))))))) rfl rfl rfl ⟨rfl, hz_yX13_pointsOf_3⟩ ⟨Nat.le_of_ble_eq_true rfl, Nat.le_of_ble_eq_true rfl⟩) ⟨HW_bl, va_recv hK hP (ci := 14) (q0 := 0) rfl (hI.ob 0 (Nat.le_of_ble_eq_true rfl) rfl), (HW_wi hP hK (WX_D hD) hS hA hEV)⟩ rfl rfl hl.1 rfl (lv_room (Nat.le_of_ble_eq_true rfl)) dX13_points_14 ⟨Nat.le_of_ble_eq_true rfl, Nat.le_of_ble_eq_true rfl⟩) (WX_D hD) hS hA (fun r12 E13 H locs hw hP hS => ?_)
      obtain ⟨hI, kq14, hw⟩ := hw
      have hKb := hKp
      have hKp := hKp.tr kq14 (wl_sub rfl rfl)
      have f15 := hw
      have k16 : PtM E a0 a1 a2 r12.toInt := PtM_kd (KdN.of hKb rfl rfl rfl rfl rfl) (fun o9 ho9 j9 => by simp only [kd9, List.mem_cons, List.not_mem_nil, or_false] at ho9; rcases ho9 with rfl | rfl | rfl | rfl <;> exact hKb.ei _ j9 rfl) (hKb.ei 0 8 rfl) (hKb.ei 0 46 rfl) (hKb.ei 0 48 rfl) f15
      refine lv_goto (tgt := 21) hx hb dX13_points_17 (by decide) ?_
      rw [hQ]
      exact W.iret (v := r12) hx hb hr (fun t ht hW => ⟨⟨r12, E13, rfl, ⟨hI, hKp, ⟨fun _ => k16, fun q9 => absurd f4 q9⟩⟩, by show va_P (dC, dI) vwCl (WX 72 ad E13) t.heap; rw [ht]; exact hP⟩, hS.F ht⟩) hS.2.2 dX13_points_21
  · -- asks, case 1
    obtain ⟨rfl, f17⟩ := hw
    have i18 : 0 ≤ (xi (E 0) 46).toInt ∧ (xi (E 0) 46).toInt ≤ 20 := (show 0 ≤ (xi (E 0) 46).toInt ∧ (xi (E 0) 46).toInt ≤ 20 from hI0.iv 0 (Nat.le_of_ble_eq_true rfl) rfl (Nat.le_of_ble_eq_true rfl) rfl)
    have i19 : 0 ≤ (xi (E 0) 8).toInt ∧ (xi (E 0) 8).toInt ≤ 16 := (show 0 ≤ (xi (E 0) 8).toInt ∧ (xi (E 0) 8).toInt ≤ 16 from hI0.iv 0 (Nat.le_of_ble_eq_true rfl) rfl (Nat.le_of_ble_eq_true rfl) rfl)
    have i20 : 0 ≤ (xi (E 0) 1).toInt ∧ (xi (E 0) 1).toInt ≤ 400 := (show 0 ≤ (xi (E 0) 1).toInt ∧ (xi (E 0) 1).toInt ≤ 400 from hI0.iv 0 (Nat.le_of_ble_eq_true rfl) rfl (Nat.le_of_ble_eq_true rfl) rfl)
    refine lv_if_eq (tgt := 20) hx hb dX13_points_7 (by decide) (fun c21 => ?_) (fun c21 => ?_)
    · --7 taken
      refine lv_iconst (v := -1) hx hb dX13_points_20 (by decide) ?_
      rw [hQ]
      exact W.iret (v := (-1)) hx hb hr (fun t ht hW => ⟨⟨(-1), E2, rfl, ⟨hI, hKp, ⟨fun q9 => absurd q9 f17, fun _ => rfl⟩⟩, by show va_P (dC, dI) vwCl (WX 72 ad E2) t.heap; rw [ht]; exact hP⟩, hS.F ht⟩) hS.2.2 dX13_points_21
    · --7 not
      exact absurd c21 (by decide)
