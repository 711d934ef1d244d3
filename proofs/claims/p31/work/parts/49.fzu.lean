set_option maxRecDepth 100000 in
theorem zh_dX13_middleOf_0_0 : zc cX13_middleOf 0 [42, 180, 0, 56, 27, 46, 154, 0, 16, 42, 27, 28, 42, 180, 0, 232] = true := by decide +kernel
set_option maxRecDepth 100000 in
theorem zh_dX13_middleOf_16_16 : zc cX13_middleOf 16 [182, 1, 163, 153, 0, 7, 19, 1, 175, 172, 3, 62, 3, 54, 4, 21] = true := by decide +kernel
set_option maxRecDepth 100000 in
theorem zh_dX13_middleOf_31_32 : zc cX13_middleOf 32 [4, 42, 180, 0, 239, 162, 0, 101, 21, 4, 28, 159, 0, 89, 42, 27] = true := by decide +kernel
set_option maxRecDepth 100000 in
theorem zh_dX13_middleOf_48_48 : zc cX13_middleOf 48 [21, 4, 42, 180, 0, 232, 182, 1, 163, 153, 0, 6, 167, 0, 72, 42] = true := by decide +kernel
set_option maxRecDepth 100000 in
theorem zh_dX13_middleOf_64_64 : zc cX13_middleOf 64 [27, 21, 4, 42, 180, 0, 232, 182, 1, 172, 54, 5, 29, 54, 6, 21] = true := by decide +kernel
set_option maxRecDepth 100000 in
theorem zh_dX13_middleOf_79_80 : zc cX13_middleOf 80 [6, 158, 0, 39, 42, 180, 0, 210, 21, 6, 4, 100, 46, 21, 5, 164] = true := by decide +kernel
set_option maxRecDepth 100000 in
theorem zh_dX13_middleOf_95_96 : zc cX13_middleOf 96 [0, 25, 42, 180, 0, 210, 21, 6, 42, 180, 0, 210, 21, 6, 4, 100] = true := by decide +kernel
set_option maxRecDepth 100000 in
theorem zh_dX13_middleOf_112_112 : zc cX13_middleOf 112 [46, 79, 132, 6, 255, 167, 255, 218, 42, 180, 0, 210, 21, 6, 21, 5] = true := by decide +kernel
set_option maxRecDepth 100000 in
theorem zh_dX13_middleOf_128_128 : zc cX13_middleOf 128 [79, 132, 3, 1, 132, 4, 1, 167, 255, 152, 29, 154, 0, 9, 19, 1] = true := by decide +kernel
set_option maxRecDepth 100000 in
theorem zh_dX13_middleOf_142_144 : zc cX13_middleOf 144 [175, 167, 0, 13, 42, 180, 0, 210, 29, 4, 100, 5, 108, 46, 172] = true := by decide +kernel
set_option maxRecDepth 100000 in
theorem zh_dX13_middle_0_0 : zc cX13_middle 0 [42, 3, 181, 0, 228, 42, 27, 182, 1, 137, 153, 0, 20, 42, 28, 182] = true := by decide +kernel
set_option maxRecDepth 100000 in
theorem zh_dX13_middle_15_16 : zc cX13_middle 16 [0, 245, 153, 0, 12, 42, 27, 28, 182, 2, 16, 167, 0, 6, 19, 1] = true := by decide +kernel
set_option maxRecDepth 100000 in
theorem zh_dX13_middle_30_32 : zc cX13_middle 32 [175, 172] = true := by decide +kernel
theorem dX13_middleOf_0 : decode cX13_middleOf 0 = .ok (.aload_n 0, 1) := zo_42 (zi_at zh_dX13_middleOf_0_0 0 rfl)
theorem dX13_middleOf_1 : decode cX13_middleOf 1 = .ok (.getfield 56, 3) := zo_180 (zi_at zh_dX13_middleOf_0_0 1 rfl) (zi_at zh_dX13_middleOf_0_0 2 rfl) (zi_at zh_dX13_middleOf_0_0 3 rfl) rfl
theorem dX13_middleOf_4 : decode cX13_middleOf 4 = .ok (.iload_n 1, 1) := zo_27 (zi_at zh_dX13_middleOf_0_0 4 rfl)
theorem dX13_middleOf_5 : decode cX13_middleOf 5 = .ok (.iaload, 1) := zo_46 (zi_at zh_dX13_middleOf_0_0 5 rfl)
theorem dX13_middleOf_6 : decode cX13_middleOf 6 = .ok (.ifCond .ne 16, 3) := zo_154 (zi_at zh_dX13_middleOf_0_0 6 rfl) (zi_at zh_dX13_middleOf_0_0 7 rfl) (zi_at zh_dX13_middleOf_0_0 8 rfl) rfl
theorem dX13_middleOf_9 : decode cX13_middleOf 9 = .ok (.aload_n 0, 1) := zo_42 (zi_at zh_dX13_middleOf_0_0 9 rfl)
theorem dX13_middleOf_10 : decode cX13_middleOf 10 = .ok (.iload_n 1, 1) := zo_27 (zi_at zh_dX13_middleOf_0_0 10 rfl)
theorem dX13_middleOf_11 : decode cX13_middleOf 11 = .ok (.iload_n 2, 1) := zo_28 (zi_at zh_dX13_middleOf_0_0 11 rfl)
theorem dX13_middleOf_12 : decode cX13_middleOf 12 = .ok (.aload_n 0, 1) := zo_42 (zi_at zh_dX13_middleOf_0_0 12 rfl)
theorem dX13_middleOf_13 : decode cX13_middleOf 13 = .ok (.getfield 232, 3) := zo_180 (zi_at zh_dX13_middleOf_0_0 13 rfl) (zi_at zh_dX13_middleOf_0_0 14 rfl) (zi_at zh_dX13_middleOf_0_0 15 rfl) rfl
theorem dX13_middleOf_16 : decode cX13_middleOf 16 = .ok (.invokevirtual 419, 3) := zo_182 (zi_at zh_dX13_middleOf_16_16 0 rfl) (zi_at zh_dX13_middleOf_16_16 1 rfl) (zi_at zh_dX13_middleOf_16_16 2 rfl) rfl
theorem dX13_middleOf_19 : decode cX13_middleOf 19 = .ok (.ifCond .eq 7, 3) := zo_153 (zi_at zh_dX13_middleOf_16_16 3 rfl) (zi_at zh_dX13_middleOf_16_16 4 rfl) (zi_at zh_dX13_middleOf_16_16 5 rfl) rfl
theorem dX13_middleOf_22 : decode cX13_middleOf 22 = .ok (.ldc_w 431, 3) := zo_19 (zi_at zh_dX13_middleOf_16_16 6 rfl) (zi_at zh_dX13_middleOf_16_16 7 rfl) (zi_at zh_dX13_middleOf_16_16 8 rfl) rfl
theorem dX13_middleOf_25 : decode cX13_middleOf 25 = .ok (.ireturn, 1) := zo_172 (zi_at zh_dX13_middleOf_16_16 9 rfl)
theorem dX13_middleOf_26 : decode cX13_middleOf 26 = .ok (.iconst 0, 1) := zo_3 (zi_at zh_dX13_middleOf_16_16 10 rfl)
theorem dX13_middleOf_27 : decode cX13_middleOf 27 = .ok (.istore_n 3, 1) := zo_62 (zi_at zh_dX13_middleOf_16_16 11 rfl)
theorem dX13_middleOf_28 : decode cX13_middleOf 28 = .ok (.iconst 0, 1) := zo_3 (zi_at zh_dX13_middleOf_16_16 12 rfl)
theorem dX13_middleOf_29 : decode cX13_middleOf 29 = .ok (.istore 4, 2) := zo_54 (zi_at zh_dX13_middleOf_16_16 13 rfl) (zi_at zh_dX13_middleOf_16_16 14 rfl)
theorem dX13_middleOf_31 : decode cX13_middleOf 31 = .ok (.iload 4, 2) := zo_21 (zi_at zh_dX13_middleOf_16_16 15 rfl) (zi_at zh_dX13_middleOf_31_32 0 rfl)
theorem dX13_middleOf_33 : decode cX13_middleOf 33 = .ok (.aload_n 0, 1) := zo_42 (zi_at zh_dX13_middleOf_31_32 1 rfl)
theorem dX13_middleOf_34 : decode cX13_middleOf 34 = .ok (.getfield 239, 3) := zo_180 (zi_at zh_dX13_middleOf_31_32 2 rfl) (zi_at zh_dX13_middleOf_31_32 3 rfl) (zi_at zh_dX13_middleOf_31_32 4 rfl) rfl
theorem dX13_middleOf_37 : decode cX13_middleOf 37 = .ok (.if_icmp .ge 101, 3) := zo_162 (zi_at zh_dX13_middleOf_31_32 5 rfl) (zi_at zh_dX13_middleOf_31_32 6 rfl) (zi_at zh_dX13_middleOf_31_32 7 rfl) rfl
theorem dX13_middleOf_40 : decode cX13_middleOf 40 = .ok (.iload 4, 2) := zo_21 (zi_at zh_dX13_middleOf_31_32 8 rfl) (zi_at zh_dX13_middleOf_31_32 9 rfl)
theorem dX13_middleOf_42 : decode cX13_middleOf 42 = .ok (.iload_n 2, 1) := zo_28 (zi_at zh_dX13_middleOf_31_32 10 rfl)
theorem dX13_middleOf_43 : decode cX13_middleOf 43 = .ok (.if_icmp .eq 89, 3) := zo_159 (zi_at zh_dX13_middleOf_31_32 11 rfl) (zi_at zh_dX13_middleOf_31_32 12 rfl) (zi_at zh_dX13_middleOf_31_32 13 rfl) rfl
theorem dX13_middleOf_46 : decode cX13_middleOf 46 = .ok (.aload_n 0, 1) := zo_42 (zi_at zh_dX13_middleOf_31_32 14 rfl)
theorem dX13_middleOf_47 : decode cX13_middleOf 47 = .ok (.iload_n 1, 1) := zo_27 (zi_at zh_dX13_middleOf_31_32 15 rfl)
theorem dX13_middleOf_48 : decode cX13_middleOf 48 = .ok (.iload 4, 2) := zo_21 (zi_at zh_dX13_middleOf_48_48 0 rfl) (zi_at zh_dX13_middleOf_48_48 1 rfl)
theorem dX13_middleOf_50 : decode cX13_middleOf 50 = .ok (.aload_n 0, 1) := zo_42 (zi_at zh_dX13_middleOf_48_48 2 rfl)
theorem dX13_middleOf_51 : decode cX13_middleOf 51 = .ok (.getfield 232, 3) := zo_180 (zi_at zh_dX13_middleOf_48_48 3 rfl) (zi_at zh_dX13_middleOf_48_48 4 rfl) (zi_at zh_dX13_middleOf_48_48 5 rfl) rfl
theorem dX13_middleOf_54 : decode cX13_middleOf 54 = .ok (.invokevirtual 419, 3) := zo_182 (zi_at zh_dX13_middleOf_48_48 6 rfl) (zi_at zh_dX13_middleOf_48_48 7 rfl) (zi_at zh_dX13_middleOf_48_48 8 rfl) rfl
theorem dX13_middleOf_57 : decode cX13_middleOf 57 = .ok (.ifCond .eq 6, 3) := zo_153 (zi_at zh_dX13_middleOf_48_48 9 rfl) (zi_at zh_dX13_middleOf_48_48 10 rfl) (zi_at zh_dX13_middleOf_48_48 11 rfl) rfl
theorem dX13_middleOf_60 : decode cX13_middleOf 60 = .ok (.goto 72, 3) := zo_167 (zi_at zh_dX13_middleOf_48_48 12 rfl) (zi_at zh_dX13_middleOf_48_48 13 rfl) (zi_at zh_dX13_middleOf_48_48 14 rfl) rfl
theorem dX13_middleOf_63 : decode cX13_middleOf 63 = .ok (.aload_n 0, 1) := zo_42 (zi_at zh_dX13_middleOf_48_48 15 rfl)
theorem dX13_middleOf_64 : decode cX13_middleOf 64 = .ok (.iload_n 1, 1) := zo_27 (zi_at zh_dX13_middleOf_64_64 0 rfl)
theorem dX13_middleOf_65 : decode cX13_middleOf 65 = .ok (.iload 4, 2) := zo_21 (zi_at zh_dX13_middleOf_64_64 1 rfl) (zi_at zh_dX13_middleOf_64_64 2 rfl)
theorem dX13_middleOf_67 : decode cX13_middleOf 67 = .ok (.aload_n 0, 1) := zo_42 (zi_at zh_dX13_middleOf_64_64 3 rfl)
theorem dX13_middleOf_68 : decode cX13_middleOf 68 = .ok (.getfield 232, 3) := zo_180 (zi_at zh_dX13_middleOf_64_64 4 rfl) (zi_at zh_dX13_middleOf_64_64 5 rfl) (zi_at zh_dX13_middleOf_64_64 6 rfl) rfl
theorem dX13_middleOf_71 : decode cX13_middleOf 71 = .ok (.invokevirtual 428, 3) := zo_182 (zi_at zh_dX13_middleOf_64_64 7 rfl) (zi_at zh_dX13_middleOf_64_64 8 rfl) (zi_at zh_dX13_middleOf_64_64 9 rfl) rfl
theorem dX13_middleOf_74 : decode cX13_middleOf 74 = .ok (.istore 5, 2) := zo_54 (zi_at zh_dX13_middleOf_64_64 10 rfl) (zi_at zh_dX13_middleOf_64_64 11 rfl)
theorem dX13_middleOf_76 : decode cX13_middleOf 76 = .ok (.iload_n 3, 1) := zo_29 (zi_at zh_dX13_middleOf_64_64 12 rfl)
theorem dX13_middleOf_77 : decode cX13_middleOf 77 = .ok (.istore 6, 2) := zo_54 (zi_at zh_dX13_middleOf_64_64 13 rfl) (zi_at zh_dX13_middleOf_64_64 14 rfl)
theorem dX13_middleOf_79 : decode cX13_middleOf 79 = .ok (.iload 6, 2) := zo_21 (zi_at zh_dX13_middleOf_64_64 15 rfl) (zi_at zh_dX13_middleOf_79_80 0 rfl)
theorem dX13_middleOf_81 : decode cX13_middleOf 81 = .ok (.ifCond .le 39, 3) := zo_158 (zi_at zh_dX13_middleOf_79_80 1 rfl) (zi_at zh_dX13_middleOf_79_80 2 rfl) (zi_at zh_dX13_middleOf_79_80 3 rfl) rfl
theorem dX13_middleOf_84 : decode cX13_middleOf 84 = .ok (.aload_n 0, 1) := zo_42 (zi_at zh_dX13_middleOf_79_80 4 rfl)
theorem dX13_middleOf_85 : decode cX13_middleOf 85 = .ok (.getfield 210, 3) := zo_180 (zi_at zh_dX13_middleOf_79_80 5 rfl) (zi_at zh_dX13_middleOf_79_80 6 rfl) (zi_at zh_dX13_middleOf_79_80 7 rfl) rfl
theorem dX13_middleOf_88 : decode cX13_middleOf 88 = .ok (.iload 6, 2) := zo_21 (zi_at zh_dX13_middleOf_79_80 8 rfl) (zi_at zh_dX13_middleOf_79_80 9 rfl)
theorem dX13_middleOf_90 : decode cX13_middleOf 90 = .ok (.iconst 1, 1) := zo_4 (zi_at zh_dX13_middleOf_79_80 10 rfl)
theorem dX13_middleOf_91 : decode cX13_middleOf 91 = .ok (.isub, 1) := zo_100 (zi_at zh_dX13_middleOf_79_80 11 rfl)
theorem dX13_middleOf_92 : decode cX13_middleOf 92 = .ok (.iaload, 1) := zo_46 (zi_at zh_dX13_middleOf_79_80 12 rfl)
theorem dX13_middleOf_93 : decode cX13_middleOf 93 = .ok (.iload 5, 2) := zo_21 (zi_at zh_dX13_middleOf_79_80 13 rfl) (zi_at zh_dX13_middleOf_79_80 14 rfl)
theorem dX13_middleOf_95 : decode cX13_middleOf 95 = .ok (.if_icmp .le 25, 3) := zo_164 (zi_at zh_dX13_middleOf_79_80 15 rfl) (zi_at zh_dX13_middleOf_95_96 0 rfl) (zi_at zh_dX13_middleOf_95_96 1 rfl) rfl
theorem dX13_middleOf_98 : decode cX13_middleOf 98 = .ok (.aload_n 0, 1) := zo_42 (zi_at zh_dX13_middleOf_95_96 2 rfl)
theorem dX13_middleOf_99 : decode cX13_middleOf 99 = .ok (.getfield 210, 3) := zo_180 (zi_at zh_dX13_middleOf_95_96 3 rfl) (zi_at zh_dX13_middleOf_95_96 4 rfl) (zi_at zh_dX13_middleOf_95_96 5 rfl) rfl
theorem dX13_middleOf_102 : decode cX13_middleOf 102 = .ok (.iload 6, 2) := zo_21 (zi_at zh_dX13_middleOf_95_96 6 rfl) (zi_at zh_dX13_middleOf_95_96 7 rfl)
theorem dX13_middleOf_104 : decode cX13_middleOf 104 = .ok (.aload_n 0, 1) := zo_42 (zi_at zh_dX13_middleOf_95_96 8 rfl)
theorem dX13_middleOf_105 : decode cX13_middleOf 105 = .ok (.getfield 210, 3) := zo_180 (zi_at zh_dX13_middleOf_95_96 9 rfl) (zi_at zh_dX13_middleOf_95_96 10 rfl) (zi_at zh_dX13_middleOf_95_96 11 rfl) rfl
theorem dX13_middleOf_108 : decode cX13_middleOf 108 = .ok (.iload 6, 2) := zo_21 (zi_at zh_dX13_middleOf_95_96 12 rfl) (zi_at zh_dX13_middleOf_95_96 13 rfl)
theorem dX13_middleOf_110 : decode cX13_middleOf 110 = .ok (.iconst 1, 1) := zo_4 (zi_at zh_dX13_middleOf_95_96 14 rfl)
theorem dX13_middleOf_111 : decode cX13_middleOf 111 = .ok (.isub, 1) := zo_100 (zi_at zh_dX13_middleOf_95_96 15 rfl)
theorem dX13_middleOf_112 : decode cX13_middleOf 112 = .ok (.iaload, 1) := zo_46 (zi_at zh_dX13_middleOf_112_112 0 rfl)
theorem dX13_middleOf_113 : decode cX13_middleOf 113 = .ok (.iastore, 1) := zo_79 (zi_at zh_dX13_middleOf_112_112 1 rfl)
theorem dX13_middleOf_114 : decode cX13_middleOf 114 = .ok (.iinc 6 (-1), 3) := zo_132 (zi_at zh_dX13_middleOf_112_112 2 rfl) (zi_at zh_dX13_middleOf_112_112 3 rfl) (zi_at zh_dX13_middleOf_112_112 4 rfl) rfl
theorem dX13_middleOf_117 : decode cX13_middleOf 117 = .ok (.goto (-38), 3) := zo_167 (zi_at zh_dX13_middleOf_112_112 5 rfl) (zi_at zh_dX13_middleOf_112_112 6 rfl) (zi_at zh_dX13_middleOf_112_112 7 rfl) rfl
theorem dX13_middleOf_120 : decode cX13_middleOf 120 = .ok (.aload_n 0, 1) := zo_42 (zi_at zh_dX13_middleOf_112_112 8 rfl)
theorem dX13_middleOf_121 : decode cX13_middleOf 121 = .ok (.getfield 210, 3) := zo_180 (zi_at zh_dX13_middleOf_112_112 9 rfl) (zi_at zh_dX13_middleOf_112_112 10 rfl) (zi_at zh_dX13_middleOf_112_112 11 rfl) rfl
theorem dX13_middleOf_124 : decode cX13_middleOf 124 = .ok (.iload 6, 2) := zo_21 (zi_at zh_dX13_middleOf_112_112 12 rfl) (zi_at zh_dX13_middleOf_112_112 13 rfl)
theorem dX13_middleOf_126 : decode cX13_middleOf 126 = .ok (.iload 5, 2) := zo_21 (zi_at zh_dX13_middleOf_112_112 14 rfl) (zi_at zh_dX13_middleOf_112_112 15 rfl)
theorem dX13_middleOf_128 : decode cX13_middleOf 128 = .ok (.iastore, 1) := zo_79 (zi_at zh_dX13_middleOf_128_128 0 rfl)
theorem dX13_middleOf_129 : decode cX13_middleOf 129 = .ok (.iinc 3 1, 3) := zo_132 (zi_at zh_dX13_middleOf_128_128 1 rfl) (zi_at zh_dX13_middleOf_128_128 2 rfl) (zi_at zh_dX13_middleOf_128_128 3 rfl) rfl
theorem dX13_middleOf_132 : decode cX13_middleOf 132 = .ok (.iinc 4 1, 3) := zo_132 (zi_at zh_dX13_middleOf_128_128 4 rfl) (zi_at zh_dX13_middleOf_128_128 5 rfl) (zi_at zh_dX13_middleOf_128_128 6 rfl) rfl
theorem dX13_middleOf_135 : decode cX13_middleOf 135 = .ok (.goto (-104), 3) := zo_167 (zi_at zh_dX13_middleOf_128_128 7 rfl) (zi_at zh_dX13_middleOf_128_128 8 rfl) (zi_at zh_dX13_middleOf_128_128 9 rfl) rfl
theorem dX13_middleOf_138 : decode cX13_middleOf 138 = .ok (.iload_n 3, 1) := zo_29 (zi_at zh_dX13_middleOf_128_128 10 rfl)
theorem dX13_middleOf_139 : decode cX13_middleOf 139 = .ok (.ifCond .ne 9, 3) := zo_154 (zi_at zh_dX13_middleOf_128_128 11 rfl) (zi_at zh_dX13_middleOf_128_128 12 rfl) (zi_at zh_dX13_middleOf_128_128 13 rfl) rfl
theorem dX13_middleOf_142 : decode cX13_middleOf 142 = .ok (.ldc_w 431, 3) := zo_19 (zi_at zh_dX13_middleOf_128_128 14 rfl) (zi_at zh_dX13_middleOf_128_128 15 rfl) (zi_at zh_dX13_middleOf_142_144 0 rfl) rfl
theorem dX13_middleOf_145 : decode cX13_middleOf 145 = .ok (.goto 13, 3) := zo_167 (zi_at zh_dX13_middleOf_142_144 1 rfl) (zi_at zh_dX13_middleOf_142_144 2 rfl) (zi_at zh_dX13_middleOf_142_144 3 rfl) rfl
theorem dX13_middleOf_148 : decode cX13_middleOf 148 = .ok (.aload_n 0, 1) := zo_42 (zi_at zh_dX13_middleOf_142_144 4 rfl)
theorem dX13_middleOf_149 : decode cX13_middleOf 149 = .ok (.getfield 210, 3) := zo_180 (zi_at zh_dX13_middleOf_142_144 5 rfl) (zi_at zh_dX13_middleOf_142_144 6 rfl) (zi_at zh_dX13_middleOf_142_144 7 rfl) rfl
theorem dX13_middleOf_152 : decode cX13_middleOf 152 = .ok (.iload_n 3, 1) := zo_29 (zi_at zh_dX13_middleOf_142_144 8 rfl)
theorem dX13_middleOf_153 : decode cX13_middleOf 153 = .ok (.iconst 1, 1) := zo_4 (zi_at zh_dX13_middleOf_142_144 9 rfl)
theorem dX13_middleOf_154 : decode cX13_middleOf 154 = .ok (.isub, 1) := zo_100 (zi_at zh_dX13_middleOf_142_144 10 rfl)
theorem dX13_middleOf_155 : decode cX13_middleOf 155 = .ok (.iconst 2, 1) := zo_5 (zi_at zh_dX13_middleOf_142_144 11 rfl)
theorem dX13_middleOf_156 : decode cX13_middleOf 156 = .ok (.idiv, 1) := zo_108 (zi_at zh_dX13_middleOf_142_144 12 rfl)
theorem dX13_middleOf_157 : decode cX13_middleOf 157 = .ok (.iaload, 1) := zo_46 (zi_at zh_dX13_middleOf_142_144 13 rfl)
theorem dX13_middleOf_158 : decode cX13_middleOf 158 = .ok (.ireturn, 1) := zo_172 (zi_at zh_dX13_middleOf_142_144 14 rfl)
theorem dX13_middle_0 : decode cX13_middle 0 = .ok (.aload_n 0, 1) := zo_42 (zi_at zh_dX13_middle_0_0 0 rfl)
theorem dX13_middle_1 : decode cX13_middle 1 = .ok (.iconst 0, 1) := zo_3 (zi_at zh_dX13_middle_0_0 1 rfl)
theorem dX13_middle_2 : decode cX13_middle 2 = .ok (.putfield 228, 3) := zo_181 (zi_at zh_dX13_middle_0_0 2 rfl) (zi_at zh_dX13_middle_0_0 3 rfl) (zi_at zh_dX13_middle_0_0 4 rfl) rfl
theorem dX13_middle_5 : decode cX13_middle 5 = .ok (.aload_n 0, 1) := zo_42 (zi_at zh_dX13_middle_0_0 5 rfl)
theorem dX13_middle_6 : decode cX13_middle 6 = .ok (.iload_n 1, 1) := zo_27 (zi_at zh_dX13_middle_0_0 6 rfl)
theorem dX13_middle_7 : decode cX13_middle 7 = .ok (.invokevirtual 393, 3) := zo_182 (zi_at zh_dX13_middle_0_0 7 rfl) (zi_at zh_dX13_middle_0_0 8 rfl) (zi_at zh_dX13_middle_0_0 9 rfl) rfl
theorem dX13_middle_10 : decode cX13_middle 10 = .ok (.ifCond .eq 20, 3) := zo_153 (zi_at zh_dX13_middle_0_0 10 rfl) (zi_at zh_dX13_middle_0_0 11 rfl) (zi_at zh_dX13_middle_0_0 12 rfl) rfl
theorem dX13_middle_13 : decode cX13_middle 13 = .ok (.aload_n 0, 1) := zo_42 (zi_at zh_dX13_middle_0_0 13 rfl)
theorem dX13_middle_14 : decode cX13_middle 14 = .ok (.iload_n 2, 1) := zo_28 (zi_at zh_dX13_middle_0_0 14 rfl)
theorem dX13_middle_15 : decode cX13_middle 15 = .ok (.invokevirtual 245, 3) := zo_182 (zi_at zh_dX13_middle_0_0 15 rfl) (zi_at zh_dX13_middle_15_16 0 rfl) (zi_at zh_dX13_middle_15_16 1 rfl) rfl
theorem dX13_middle_18 : decode cX13_middle 18 = .ok (.ifCond .eq 12, 3) := zo_153 (zi_at zh_dX13_middle_15_16 2 rfl) (zi_at zh_dX13_middle_15_16 3 rfl) (zi_at zh_dX13_middle_15_16 4 rfl) rfl
theorem dX13_middle_21 : decode cX13_middle 21 = .ok (.aload_n 0, 1) := zo_42 (zi_at zh_dX13_middle_15_16 5 rfl)
theorem dX13_middle_22 : decode cX13_middle 22 = .ok (.iload_n 1, 1) := zo_27 (zi_at zh_dX13_middle_15_16 6 rfl)
theorem dX13_middle_23 : decode cX13_middle 23 = .ok (.iload_n 2, 1) := zo_28 (zi_at zh_dX13_middle_15_16 7 rfl)
theorem dX13_middle_24 : decode cX13_middle 24 = .ok (.invokevirtual 528, 3) := zo_182 (zi_at zh_dX13_middle_15_16 8 rfl) (zi_at zh_dX13_middle_15_16 9 rfl) (zi_at zh_dX13_middle_15_16 10 rfl) rfl
theorem dX13_middle_27 : decode cX13_middle 27 = .ok (.goto 6, 3) := zo_167 (zi_at zh_dX13_middle_15_16 11 rfl) (zi_at zh_dX13_middle_15_16 12 rfl) (zi_at zh_dX13_middle_15_16 13 rfl) rfl
theorem dX13_middle_30 : decode cX13_middle 30 = .ok (.ldc_w 431, 3) := zo_19 (zi_at zh_dX13_middle_15_16 14 rfl) (zi_at zh_dX13_middle_15_16 15 rfl) (zi_at zh_dX13_middle_30_32 0 rfl) rfl
theorem dX13_middle_33 : decode cX13_middle 33 = .ok (.ireturn, 1) := zo_172 (zi_at zh_dX13_middle_30_32 1 rfl)
theorem hz_yX13_middleOf_2 : yX13_middleOf.cls ≠ "java/lang/invoke/MethodHandle" ∧ yX13_middleOf.cls ≠ "java/lang/invoke/VarHandle" ∧ (parseMethodDescriptor yX13_middleOf.desc).map (fun d => d.parameters.length) = some 2 := by decide +kernel

/-! ===== MIDDLE of the reference where nothing of it is written ===== -/
theorem MdV_kd {E E' : Nat → va_E} {race boat q r : Int32} {K sk : Nat} (k : KdN E E') (h : MdV (fun o9 => CdM E' race (nI o9) q 0) (tmM E' race q) K sk ((xi (E' 15) race.toNatClampNeg).toInt = 0 ∧ CdM E' race boat q 0) r) : MdV (fun o9 => CdM E race (nI o9) q 0) (tmM E race q) K sk ((xi (E 15) race.toNatClampNeg).toInt = 0 ∧ CdM E race boat q 0) r := h.cg (by rw [k.rw_ 15 (by decide), k.cd]) (fun i _ => k.cd) (fun i _ _ => k.tm race (nI i) q)
section
def v_middleOfM : List Cond := .code yX13_middleOf cX13_middleOf 7 (some .int) :: vA
abbrev rm_middleOfM : Room := { frames := 73, cells := 0, slots := 0, locals := 2920 }
def w_middleOfM : Nat → Nat → Bool := wl [12, 66] [(0, 18), (0, 19), (0, 20), (0, 21), (0, 22), (0, 23), (0, 24), (0, 25), (0, 26)]
set_option maxHeartbeats 4000000 in
set_option maxRecDepth 100000 in
theorem q_middleOfM (l : Launch) (dC : Nat → ClassId) (dI : Nat → Nat → Nat) (cT : Nat → ClassId) (ad : Nat → Nat) (E : Nat → va_E) (sz : Nat) (a0 : Int32) (a1 : Int32) (hI0 : IX cT shM spM 72 ad E) (hh0 : 0 ≤ a0.toInt ∧ a0.toInt ≤ 19) (hh1 : 0 ≤ a1.toInt ∧ a1.toInt ≤ 15) (hh2 : TXM E) : Met l yX13_middleOf v_middleOfM rm_middleOfM (va_Pc [.ref (ad 0), .int a0, .int a1] (HW dC dI (TYM cT) 72 ad E sz)) (va_Qi (S := Nat → va_E) (fun r u => IX cT shM spM 72 ad u ∧ Kp w_middleOfM E u ∧ ((MdV (fun o9 => CdM E a0 (nI o9) (xi (E 0) 1) 0) (tmM E a0 (xi (E 0) 1)) (xi (E 0) 8).toNatClampNeg a1.toNatClampNeg ((xi (E 15) a0.toNatClampNeg).toInt = 0 ∧ CdM E a0 a1 (xi (E 0) 1) 0) r))) (HB dC dI 72 ad) (va_A (WX 72 ad E) sz)) 0 0 (va_A (WX 72 ad E) sz) := by
  refine Met.ofW (cc := cX13_middleOf) (maxL := 7) (ret := (some .int)) (by decide) rfl ?_
  intro p e s m args below meth c s₁ B hml hv
  obtain ⟨hargs, hsz, hP, hK, hD0, hEV⟩ := hv
  subst hsz
  have hx := B.exec
  have hb := B.bytes
  have hr := B.returns
  have hts := atoms_spec (ws := v_middleOfM) B.pre
  have hown : s.vm.findClass RX13 = some m.cls := findClass_of_methodNamed B.named
  have hlocks := B.notSynchronized
  have hinX13 : ∀ w ∈ u_ws RX13 TX13 97, w ∈ v_middleOfM := fun w h => vA_in _ w (in_X13 w h)
  generalize hAe : va_A (WX 72 ad E) s.heap.size = A at hEV ⊢
  have hA : ∀ q : Nat, s.heap.size ≤ q → A q := fun q h => by rw [← hAe]; exact Or.inr h
  have hD : va_D A (WX 72 ad E) := by rw [← hAe]; exact hD0.self
  have hS : va_S A s.heap s.heap [] := va_S.rf
  have hI := hI0
  have hKp : Kp w_middleOfM E E := Kp.rf
  have hl := lv_entry ([.ref (ad 0), .int a0, .int a1]) (n := 7) (Nat.le_of_ble_eq_true rfl)
  obtain ⟨Q, hQ⟩ : ∃ Q, Q = MQ below (va_Qi (S := Nat → va_E) (fun r u => IX cT shM spM 72 ad u ∧ Kp w_middleOfM E u ∧ ((MdV (fun o9 => CdM E a0 (nI o9) (xi (E 0) 1) 0) (tmM E a0 (xi (E 0) 1)) (xi (E 0) 8).toNatClampNeg a1.toNatClampNeg ((xi (E 15) a0.toNatClampNeg).toInt = 0 ∧ CdM E a0 a1 (xi (E 0) 1) 0) r))) (HB dC dI 72 ad) (A)) args s 0 0 (A) := ⟨_, rfl⟩
  rw [← hQ, show entryFrame m args 7 = _ from (congrArg (fun z => entryFrame m z 7) hargs).trans (lg_entry_eq _ _ _)]
  generalize (lg_sl ([.ref (ad 0), .int a0, .int a1]) ++ List.replicate (7 - (lg_sl ([.ref (ad 0), .int a0, .int a1])).length) Slot.unset).toArray = ls at hl ⊢
  have hl : lv_has ls 7 [(0, .ref (ad 0)), (1, .int a0), (2, .int a1)] := hl
  obtain ⟨g1, hg1⟩ : ∃ g, xi (E 66) = g := ⟨_, rfl⟩
  have z0z : (0 : Int32).toInt = 0 := rfl
  have ib8 : 0 ≤ (xi (E 0) 8).toInt ∧ (xi (E 0) 8).toInt ≤ 16 := hI0.iv 0 (Nat.le_of_ble_eq_true rfl) rfl (Nat.le_of_ble_eq_true rfl) rfl
  have z0 := ln_0
  have z1 := ln_1
  refine lv_aload_n hx hb dX13_middleOf_0 rfl (lv_at hl 0 rfl) ?_
  refine th_get (ci := 14) (C := RX13) (T := TX13) (N := 97) (v := .ref (ad 15)) hx hb hts hinX13 hown hK hP hI 0 (Nat.le_of_ble_eq_true rfl) rfl rfl 29 (Nat.le_of_ble_eq_true rfl) (hts _ (vA_in _ _ (in_27 _ (zs16 (zs16 (zs1 (zs0))))))) (fun _ h9 => h9) (hI.fr 0 (Nat.le_of_ble_eq_true rfl) rfl (Nat.le_of_ble_eq_true rfl) 15 rfl) dX13_middleOf_1 ?_
  refine lv_iload_n hx hb dX13_middleOf_4 rfl (lv_at hl 1 rfl) ?_
  have n3 : vp_in a0 20 := (iv_in (n := 20) hh0 (by decide))
  refine th_iald hx hb hK hP hI 15 (Nat.le_of_ble_eq_true rfl) rfl rfl n3 dX13_middleOf_5 (fun y2 ey2 => ?_)
  have iy2 : 0 ≤ y2.toInt ∧ y2.toInt ≤ 1 := hI.el 15 (Nat.le_of_ble_eq_true rfl) rfl n3 (fun _ => rfl) ey2
  have ey2 := ey2.trans (hKp.ei 15 _ rfl)
  refine lv_if_ne (tgt := 22) hx hb dX13_middleOf_6 (by decide) (fun c4 => ?_) (fun c4 => ?_)
  · --6 taken
    have t5 : ¬ y2.toInt = 0 := ti_ne c4
    have i6 : 1 ≤ y2.toInt ∧ y2.toInt ≤ 1 := iv_ne_l t5 iy2 (il_ 0)
    refine lv_ldcw hx hb hown (hts _ (vA_in _ _ (in_27 _ (zs16 (zs4 (zs1 (zs0))))))) dX13_middleOf_22 ?_
    rw [hQ]
    exact W.iret (v := (-1000000000)) hx hb hr (fun t ht hW => ⟨⟨(-1000000000), E, rfl, ⟨hI, hKp, ⟨fun _ => rfl, fun q9 => by exfalso; have q8 : (xi (E 15) a0.toNatClampNeg).toInt = 0 := q9.1; rw [← ey2] at q8; omega⟩⟩, by show va_P (dC, dI) vwCl (WX 72 ad E) t.heap; rw [ht]; exact hP⟩, hS.F ht⟩) hS.2.2 dX13_middleOf_25
  · --6 not
    have t7 : y2.toInt = 0 := ti_eq c4
    have i8 : 0 ≤ y2.toInt ∧ y2.toInt ≤ 0 := iv_eqi t7 iy2 (il_ 0) (by decide)
    refine lv_aload_n hx hb dX13_middleOf_9 rfl (lv_at hl 0 rfl) ?_
    refine lv_iload_n hx hb dX13_middleOf_10 rfl (lv_at hl 1 rfl) ?_
    refine lv_iload_n hx hb dX13_middleOf_11 rfl (lv_at hl 2 rfl) ?_
    refine lv_aload_n hx hb dX13_middleOf_12 rfl (lv_at hl 0 rfl) ?_
    have i9 : 0 ≤ (xi (E 0) 1).toInt ∧ (xi (E 0) 1).toInt ≤ 400 := hI0.iv 0 (Nat.le_of_ble_eq_true rfl) rfl (Nat.le_of_ble_eq_true rfl) rfl
    refine th_get (ci := 14) (C := RX13) (T := TX13) (N := 97) (v := .int (xi (E 0) 1)) hx hb hts hinX13 hown hK hP hI 0 (Nat.le_of_ble_eq_true rfl) rfl rfl 1 (Nat.le_of_ble_eq_true rfl) (hts _ (vA_in _ _ (in_24 _ (zs16 (zs4 (zs4 (zs1 (zs1 (zs1 (zs0)))))))))) (fun _ h9 => h9) (th_v0 hKp hI0 0 (Nat.le_of_ble_eq_true rfl) rfl (Nat.le_of_ble_eq_true rfl) rfl rfl) dX13_middleOf_13 ?_
    refine th_ri (va_runV (As := [.int a0, .int a1, .int (xi (E 0) 1)]) (rest := []) ⟨hx, hb, hml, hown, hts⟩ (q_codeOfM l dC dI cT ad E s.heap.size a0 a1 (xi (E 0) 1) hI hh0 hh1) (cwV 3 hts (gi_V (in_27 _ (zs16 (zs16 (zs4 (zs0))))) (in_27 _ (zs16 (zs16 (zs4 (zs1 (zs0)))))) (in_27 _ (zs16 (zs16 (zs4 (zs1 (zs1 (zs0))))))) (in_24 _ (zs4 (zs4 (zs4 (zs1 (zs1 (zs1 (zs0)))))))) (in_27 _ (zs16 (zs16 (zs4 (zs1 (zs1 (zs1 (zs0))))))))) rfl rfl rfl ⟨rfl, hz_yX13_codeOf_3⟩ ⟨Nat.le_of_ble_eq_true rfl, Nat.le_of_ble_eq_true rfl⟩) ⟨HW_bl, va_recv hK hP (ci := 14) (q0 := 0) rfl (hI.ob 0 (Nat.le_of_ble_eq_true rfl) rfl), (HW_wi hP hK (WX_D hD) hS hA hEV)⟩ rfl rfl hl.1 rfl (lv_room (Nat.le_of_ble_eq_true rfl)) dX13_middleOf_16 ⟨Nat.le_of_ble_eq_true rfl, Nat.le_of_ble_eq_true rfl⟩) hS hP (fun r10 H locs hw hP hS => ?_)
    obtain ⟨f11, f12⟩ := hw
    have i13 : 0 ≤ (xi (E 0) 47).toInt ∧ (xi (E 0) 47).toInt ≤ 300 := (show 0 ≤ (xi (E 0) 47).toInt ∧ (xi (E 0) 47).toInt ≤ 300 from hI0.iv 0 (Nat.le_of_ble_eq_true rfl) rfl (Nat.le_of_ble_eq_true rfl) rfl)
    refine lv_if_eq (tgt := 26) hx hb dX13_middleOf_19 (by decide) (fun c14 => ?_) (fun c14 => ?_)
    · --19 taken
      have t15 : r10.toInt = 0 := ti_eq c14
      have i16 : 0 ≤ r10.toInt ∧ r10.toInt ≤ 0 := iv_eqi t15 f11 (il_ 0) (by decide)
      refine lv_iconst (v := 0) hx hb dX13_middleOf_26 (by decide) ?_
      refine lv_istore_n (lv' := [(3, .int 0), (0, .ref (ad 0)), (1, .int a0), (2, .int a1)]) hx hb dX13_middleOf_27 rfl hl (by decide) rfl (fun ls hl => ?_)
      refine lv_iconst (v := 0) hx hb dX13_middleOf_28 (by decide) ?_
      refine lv_istore (lv' := [(4, .int 0), (3, .int 0), (0, .ref (ad 0)), (1, .int a0), (2, .int a1)]) hx hb dX13_middleOf_29 hl (by decide) rfl (fun ls hl => ?_)
      have hL31 : ∀ d : Nat, ∀ (g31_66 : Nat → Int32) (v31_4 : Int32) (v31_3 : Int32) (E31_ : Nat → va_E) (H : Heap) (locs : List Loc) (ls : Array Slot), 0 ≤ v31_4.toInt ∧ v31_4.toInt ≤ 16 → 0 ≤ v31_3.toInt ∧ v31_3.toInt ≤ 16 → MR (fun o9 => CdM E a0 (nI o9) (xi (E 0) 1) 0) (tmM E a0 (xi (E 0) 1)) a1.toNatClampNeg v31_4.toNatClampNeg v31_3.toNatClampNeg g31_66 → v31_4.toInt ≤ (xi (E 0) 8).toInt → v31_3.toInt ≤ v31_4.toInt → 16 - v31_4.toInt < (d : Int) → IX cT shM spM 72 ad E31_ → Kp w_middleOfM E E31_ → xi (E31_ 66) = g31_66 → va_P (dC, dI) vwCl (WX 72 ad E31_) H → va_S A s.heap H locs → lv_has ls 7 [(4, .int v31_4), (3, .int v31_3), (0, .ref (ad 0)), (1, .int a0), (2, .int a1)] → W p l e (headSpec v_middleOfM rm_middleOfM).room s m args below meth c H locs 0 0 Q (F0 m 31 ls []) := by
        intro d
        induction d with
        | zero =>
          intro g31_66 v31_4 v31_3 E31_ H locs ls hv31_4 hv31_3 hx31_0 hx31_1 hx31_2 hx31_3 hI hKp hr31_66 hP hS hl
          exact absurd hx31_3 (by first | exact ms_zu hv31_4.2 | omega)
        | succ d ih31 =>
          intro g31_66 v31_4 v31_3 E31_ H locs ls hv31_4 hv31_3 hx31_0 hx31_1 hx31_2 hx31_3 hI hKp hr31_66 hP hS hl
          refine lv_iload hx hb dX13_middleOf_31 (lv_at hl 0 rfl) ?_
          refine lv_aload_n hx hb dX13_middleOf_33 rfl (lv_at hl 2 rfl) ?_
          have i17 : 0 ≤ (xi (E 0) 8).toInt ∧ (xi (E 0) 8).toInt ≤ 16 := hI0.iv 0 (Nat.le_of_ble_eq_true rfl) rfl (Nat.le_of_ble_eq_true rfl) rfl
          refine th_get (ci := 14) (C := RX13) (T := TX13) (N := 97) (v := .int (xi (E 0) 8)) hx hb hts hinX13 hown hK hP hI 0 (Nat.le_of_ble_eq_true rfl) rfl rfl 8 (Nat.le_of_ble_eq_true rfl) (hts _ (vA_in _ _ (in_24 _ (zs16 (zs4 (zs1 (zs1 (zs0)))))))) (fun _ h9 => h9) (th_v0 hKp hI0 0 (Nat.le_of_ble_eq_true rfl) rfl (Nat.le_of_ble_eq_true rfl) rfl rfl) dX13_middleOf_34 ?_
          refine lv_icmp_ge (tgt := 138) hx hb dX13_middleOf_37 (by decide) (fun c18 => ?_) (fun c18 => ?_)
          · --37 taken
            have t19 : (xi (E 0) 8).toInt ≤ v31_4.toInt := ti_le c18
            refine lv_iload_n hx hb dX13_middleOf_138 rfl (lv_at hl 1 rfl) ?_
            refine lv_if_ne (tgt := 148) hx hb dX13_middleOf_139 (by decide) (fun c20 => ?_) (fun c20 => ?_)
            · --139 taken
              have t21 : ¬ v31_3.toInt = 0 := ti_ne c20
              have i22 : 1 ≤ v31_3.toInt ∧ v31_3.toInt ≤ 16 := iv_ne_l t21 hv31_3 (il_ 0)
              refine lv_aload_n hx hb dX13_middleOf_148 rfl (lv_at hl 2 rfl) ?_
              refine th_get (ci := 14) (C := RX13) (T := TX13) (N := 97) (v := .ref (ad 66)) hx hb hts hinX13 hown hK hP hI 0 (Nat.le_of_ble_eq_true rfl) rfl rfl 90 (Nat.le_of_ble_eq_true rfl) (hts _ (vA_in _ _ (in_31 _ (zs16 (zs4 (zs4 (zs0))))))) (fun _ h9 => h9) (hI.fr 0 (Nat.le_of_ble_eq_true rfl) rfl (Nat.le_of_ble_eq_true rfl) 66 rfl) dX13_middleOf_149 ?_
              refine lv_iload_n hx hb dX13_middleOf_152 rfl (lv_at hl 1 rfl) ?_
              refine lv_iconst (v := 1) hx hb dX13_middleOf_153 (by decide) ?_
              refine lv_isub hx hb dX13_middleOf_154 ?_
              refine lv_topi (fun y23 ey23 => ?_)
              obtain ⟨ty23, iy23⟩ := ti_sub (e := 0) (f := 15) i22 ln_1 ey23 (by decide)
              have ty23 : y23.toInt = v31_3.toInt - 1 := ty23
              have iy23 : 0 ≤ y23.toInt ∧ y23.toInt ≤ 15 := iy23
              refine lv_iconst (v := 2) hx hb dX13_middleOf_155 (by decide) ?_
              refine lv_idiv hx hb dX13_middleOf_156 (by decide) ?_
              refine lv_topi (fun y24 ey24 => ?_)
              obtain ⟨ty24, iy24⟩ := ti_div (e := 0) (f := 7) iy23 ln_2 ey24 (by decide)
              have iy24 : 0 ≤ y24.toInt ∧ y24.toInt ≤ 7 := iy24
              have n26 : vp_in y24 16 := (iv_in (n := 16) iy24 (by decide))
              refine th_iald hx hb hK hP hI 66 (Nat.le_of_ble_eq_true rfl) rfl rfl n26 dX13_middleOf_157 (fun y25 ey25 => ?_)
              have ey25 := ey25.trans (congrFun hr31_66 _)
              rw [hQ]
              exact W.iret (v := y25) hx hb hr (fun t ht hW => ⟨⟨y25, E31_, rfl, ⟨hI, hKp, ⟨fun q9 => absurd (show (xi (E 15) a0.toNatClampNeg).toInt = 0 ∧ CdM E a0 a1 (xi (E 0) 1) 0 from ⟨by rw [← ey2]; omega, by have h9 := f12; rw [show r10.toInt = 0 by omega] at h9; exact h9⟩) q9, fun _ => by have h8 := hx31_0; rw [show v31_4.toNatClampNeg = (xi (E 0) 8).toNatClampNeg by rw [tn_, tn_]; omega] at h8; exact ⟨_, _, h8, fun z9 => by exfalso; rw [tn_] at z9; omega, fun _ => by rw [ey25, show y24.toNatClampNeg = (v31_3.toNatClampNeg - 1) / 2 by have q7 := ty24; rw [show (2 : Int32).toInt = 2 from rfl] at q7; rw [tn_ y24, tn_ v31_3]; omega]⟩⟩⟩, by show va_P (dC, dI) vwCl (WX 72 ad E31_) t.heap; rw [ht]; exact hP⟩, hS.F ht⟩) hS.2.2 dX13_middleOf_158
            · --139 not
              have t27 : v31_3.toInt = 0 := ti_eq c20
              have i28 : 0 ≤ v31_3.toInt ∧ v31_3.toInt ≤ 0 := iv_eqi t27 hv31_3 (il_ 0) (by decide)
              refine lv_ldcw hx hb hown (hts _ (vA_in _ _ (in_27 _ (zs16 (zs4 (zs1 (zs0))))))) dX13_middleOf_142 ?_
              refine lv_goto (tgt := 158) hx hb dX13_middleOf_145 (by decide) ?_
              rw [hQ]
              exact W.iret (v := (-1000000000)) hx hb hr (fun t ht hW => ⟨⟨(-1000000000), E31_, rfl, ⟨hI, hKp, ⟨fun q9 => absurd (show (xi (E 15) a0.toNatClampNeg).toInt = 0 ∧ CdM E a0 a1 (xi (E 0) 1) 0 from ⟨by rw [← ey2]; omega, by have h9 := f12; rw [show r10.toInt = 0 by omega] at h9; exact h9⟩) q9, fun _ => by have h8 := hx31_0; rw [show v31_4.toNatClampNeg = (xi (E 0) 8).toNatClampNeg by rw [tn_, tn_]; omega] at h8; exact ⟨_, _, h8, fun _ => rfl, fun z9 => by exfalso; rw [tn_] at z9; omega⟩⟩⟩, by show va_P (dC, dI) vwCl (WX 72 ad E31_) t.heap; rw [ht]; exact hP⟩, hS.F ht⟩) hS.2.2 dX13_middleOf_158
          · --37 not
            have t29 : v31_4.toInt < (xi (E 0) 8).toInt := ti_nle c18
            have i30 : 0 ≤ v31_4.toInt ∧ v31_4.toInt ≤ 15 := iv_lt_l t29 hv31_4 i17 (by decide)
            have i31 : 1 ≤ (xi (E 0) 8).toInt ∧ (xi (E 0) 8).toInt ≤ 16 := iv_lt_r t29 hv31_4 i17 (by decide)
            have i32 : 0 ≤ v31_3.toInt ∧ v31_3.toInt ≤ 15 := by omega
            refine lv_iload hx hb dX13_middleOf_40 (lv_at hl 0 rfl) ?_
            refine lv_iload_n hx hb dX13_middleOf_42 rfl (lv_at hl 4 rfl) ?_
            refine lv_icmp_eq (tgt := 132) hx hb dX13_middleOf_43 (by decide) (fun c33 => ?_) (fun c33 => ?_)
            · --43 taken
              have t34 : v31_4.toInt = a1.toInt := ti_eq c33
              obtain ⟨y35, ey35⟩ : ∃ y : Int32, y = v31_4 + (1 : Int32) := ⟨_, rfl⟩
              obtain ⟨ty35, iy35⟩ := ti_add (e := 1) (f := 16) i30 ln_1 ey35 (by decide)
              have ty35 : y35.toInt = v31_4.toInt + 1 := ty35
              have iy35 : 1 ≤ y35.toInt ∧ y35.toInt ≤ 16 := iy35
              refine lv_iinc (v := y35) (lv' := [(4, .int y35), (3, .int v31_3), (0, .ref (ad 0)), (1, .int a0), (2, .int a1)]) hx hb dX13_middleOf_132 hl (k := 0) rfl (by rw [ey35]; rfl) (by decide) rfl (fun ls hl => ?_)
              refine lv_goto (tgt := 31) hx hb dX13_middleOf_135 (by decide) ?_
              exact ih31 g31_66 y35 v31_3 E31_ _ _ _ (iv_w iy35 (by decide)) (iv_w i32 (by decide)) (hx31_0.no (fun q9 => q9.1 (by rw [tn_, tn_]; omega)) (by rw [tn_ y35, tn_ v31_4]; omega)) (by omega) (by omega) (by first | exact ms_su hx31_3 ty35 (by decide) | omega) hI hKp hr31_66 hP hS (lv_sub hl [0, 1, 2, 3, 4] rfl)
            · --43 not
              have t36 : ¬ v31_4.toInt = a1.toInt := ti_ne c33
              refine lv_aload_n hx hb dX13_middleOf_46 rfl (lv_at hl 2 rfl) ?_
              refine lv_iload_n hx hb dX13_middleOf_47 rfl (lv_at hl 3 rfl) ?_
              refine lv_iload hx hb dX13_middleOf_48 (lv_at hl 0 rfl) ?_
              refine lv_aload_n hx hb dX13_middleOf_50 rfl (lv_at hl 2 rfl) ?_
              refine th_get (ci := 14) (C := RX13) (T := TX13) (N := 97) (v := .int (xi (E 0) 1)) hx hb hts hinX13 hown hK hP hI 0 (Nat.le_of_ble_eq_true rfl) rfl rfl 1 (Nat.le_of_ble_eq_true rfl) (hts _ (vA_in _ _ (in_24 _ (zs16 (zs4 (zs4 (zs1 (zs1 (zs1 (zs0)))))))))) (fun _ h9 => h9) (th_v0 hKp hI0 0 (Nat.le_of_ble_eq_true rfl) rfl (Nat.le_of_ble_eq_true rfl) rfl rfl) dX13_middleOf_51 ?_
              refine th_ri (va_runV (As := [.int a0, .int v31_4, .int (xi (E 0) 1)]) (rest := []) ⟨hx, hb, hml, hown, hts⟩ (q_codeOfM l dC dI cT ad E31_ H.size a0 v31_4 (xi (E 0) 1) hI hh0 i30) (cwV 3 hts (gi_V (in_27 _ (zs16 (zs16 (zs4 (zs0))))) (in_27 _ (zs16 (zs16 (zs4 (zs1 (zs0)))))) (in_27 _ (zs16 (zs16 (zs4 (zs1 (zs1 (zs0))))))) (in_24 _ (zs4 (zs4 (zs4 (zs1 (zs1 (zs1 (zs0)))))))) (in_27 _ (zs16 (zs16 (zs4 (zs1 (zs1 (zs1 (zs0))))))))) rfl rfl rfl ⟨rfl, hz_yX13_codeOf_3⟩ ⟨Nat.le_of_ble_eq_true rfl, Nat.le_of_ble_eq_true rfl⟩) ⟨HW_bl, va_recv hK hP (ci := 14) (q0 := 0) rfl (hI.ob 0 (Nat.le_of_ble_eq_true rfl) rfl), (HW_wi hP hK (WX_D hD) hS hA hEV)⟩ rfl rfl hl.1 rfl (lv_room (Nat.le_of_ble_eq_true rfl)) dX13_middleOf_54 ⟨Nat.le_of_ble_eq_true rfl, Nat.le_of_ble_eq_true rfl⟩) hS hP (fun r37 H locs hw hP hS => ?_)
              obtain ⟨f38, f39⟩ := hw
              have k41 : KdN E E31_ := KdN.of hKp rfl rfl rfl rfl rfl
              have k40 : CdM E a0 (nI v31_4.toNatClampNeg) (xi (E 0) 1) r37.toInt := by rw [nI_tn (show 0 ≤ v31_4.toInt by omega)]; exact k41.cd.mp f39
              refine lv_if_eq (tgt := 63) hx hb dX13_middleOf_57 (by decide) (fun c42 => ?_) (fun c42 => ?_)
              · --57 taken
                have t43 : r37.toInt = 0 := ti_eq c42
                have i44 : 0 ≤ r37.toInt ∧ r37.toInt ≤ 0 := iv_eqi t43 f38 (il_ 0) (by decide)
                refine lv_aload_n hx hb dX13_middleOf_63 rfl (lv_at hl 2 rfl) ?_
                refine lv_iload_n hx hb dX13_middleOf_64 rfl (lv_at hl 3 rfl) ?_
                refine lv_iload hx hb dX13_middleOf_65 (lv_at hl 0 rfl) ?_
                refine lv_aload_n hx hb dX13_middleOf_67 rfl (lv_at hl 2 rfl) ?_
                refine th_get (ci := 14) (C := RX13) (T := TX13) (N := 97) (v := .int (xi (E 0) 1)) hx hb hts hinX13 hown hK hP hI 0 (Nat.le_of_ble_eq_true rfl) rfl rfl 1 (Nat.le_of_ble_eq_true rfl) (hts _ (vA_in _ _ (in_24 _ (zs16 (zs4 (zs4 (zs1 (zs1 (zs1 (zs0)))))))))) (fun _ h9 => h9) (th_v0 hKp hI0 0 (Nat.le_of_ble_eq_true rfl) rfl (Nat.le_of_ble_eq_true rfl) rfl rfl) dX13_middleOf_68 ?_
                refine th_i (va_runV (As := [.int a0, .int v31_4, .int (xi (E 0) 1)]) (rest := []) ⟨hx, hb, hml, hown, hts⟩ (q_correctedOfM l dC dI cT ad E31_ H.size a0 v31_4 (xi (E 0) 1) hI hh0 (by rw [k41.lr]; exact CdM_0 (by have h9 := k40; rw [nI_tn (show 0 ≤ v31_4.toInt by omega), show r37.toInt = 0 by omega] at h9; exact h9)) (by exact k41.txm hh2)) (cwV 3 hts (gi_V (in_30 _ (zs4 (zs4 (zs4 (zs0))))) (in_30 _ (zs4 (zs4 (zs4 (zs1 (zs0)))))) (in_30 _ (zs4 (zs4 (zs4 (zs1 (zs1 (zs0))))))) (in_24 _ (zs4 (zs4 (zs4 (zs1 (zs1 (zs1 (zs0)))))))) (in_30 _ (zs4 (zs4 (zs4 (zs1 (zs1 (zs1 (zs0))))))))) rfl rfl rfl ⟨rfl, hz_yX13_correctedOf_3⟩ ⟨Nat.le_of_ble_eq_true rfl, Nat.le_of_ble_eq_true rfl⟩) ⟨HW_bl, va_recv hK hP (ci := 14) (q0 := 0) rfl (hI.ob 0 (Nat.le_of_ble_eq_true rfl) rfl), (HW_wi hP hK (WX_D hD) hS hA hEV)⟩ rfl rfl hl.1 rfl (lv_room (Nat.le_of_ble_eq_true rfl)) dX13_middleOf_71 ⟨Nat.le_of_ble_eq_true rfl, Nat.le_of_ble_eq_true rfl⟩) (WX_D hD) hS hA (fun r45 E46 H locs hw hP hS => ?_)
                obtain ⟨hI, kq47, hw⟩ := hw
                have hKb := hKp
                have hKp := hKp.tr kq47 (wl_sub rfl rfl)
                have f48 := hw
                have k49 : r45 = tmM E a0 (xi (E 0) 1) v31_4.toNatClampNeg := by show r45 = tmB E a0 (nI v31_4.toNatClampNeg) (xi (E 0) 1); rw [nI_tn (show 0 ≤ v31_4.toInt by omega)]; exact f48.trans (k41.tm a0 v31_4 (xi (E 0) 1))
                refine lv_istore (lv' := [(5, .int r45), (4, .int v31_4), (3, .int v31_3), (0, .ref (ad 0)), (1, .int a0), (2, .int a1)]) hx hb dX13_middleOf_74 hl (by decide) rfl (fun ls hl => ?_)
                refine lv_iload_n hx hb dX13_middleOf_76 rfl (lv_at hl 2 rfl) ?_
                refine lv_istore (lv' := [(6, .int v31_3), (5, .int r45), (4, .int v31_4), (3, .int v31_3), (0, .ref (ad 0)), (1, .int a0), (2, .int a1)]) hx hb dX13_middleOf_77 hl (by decide) rfl (fun ls hl => ?_)
                have hL79 : ∀ d : Nat, ∀ (g79_66 : Nat → Int32) (v79_6 : Int32) (E79_ : Nat → va_E) (H : Heap) (locs : List Loc) (ls : Array Slot), 0 ≤ v79_6.toInt ∧ v79_6.toInt ≤ 15 → shf g31_66 r45 v31_3.toNatClampNeg = shf g79_66 r45 v79_6.toNatClampNeg → v79_6.toInt ≤ v31_3.toInt → v79_6.toInt - 0 < (d : Int) → IX cT shM spM 72 ad E79_ → Kp w_middleOfM E E79_ → xi (E79_ 66) = g79_66 → va_P (dC, dI) vwCl (WX 72 ad E79_) H → va_S A s.heap H locs → lv_has ls 7 [(6, .int v79_6), (5, .int r45), (4, .int v31_4), (3, .int v31_3), (0, .ref (ad 0)), (1, .int a0), (2, .int a1)] → W p l e (headSpec v_middleOfM rm_middleOfM).room s m args below meth c H locs 0 0 Q (F0 m 79 ls []) := by
                  intro d
                  induction d with
                  | zero =>
                    intro g79_66 v79_6 E79_ H locs ls hv79_6 hx79_0 hx79_1 hx79_2 hI hKp hr79_66 hP hS hl
                    exact absurd hx79_2 (by first | exact ms_zd hv79_6.1 | omega)
                  | succ d ih79 =>
                    intro g79_66 v79_6 E79_ H locs ls hv79_6 hx79_0 hx79_1 hx79_2 hI hKp hr79_66 hP hS hl
                    refine lv_iload hx hb dX13_middleOf_79 (lv_at hl 0 rfl) ?_
                    refine lv_if_le (tgt := 120) hx hb dX13_middleOf_81 (by decide) (fun c50 => ?_) (fun c50 => ?_)
                    · --81 taken
                      have t51 : v79_6.toInt ≤ 0 := ti_le c50
                      have i52 : 0 ≤ v79_6.toInt ∧ v79_6.toInt ≤ 0 := iv_le_l t51 hv79_6 (il_ 0) (by decide)
                      refine lv_aload_n hx hb dX13_middleOf_120 rfl (lv_at hl 4 rfl) ?_
                      refine th_get (ci := 14) (C := RX13) (T := TX13) (N := 97) (v := .ref (ad 66)) hx hb hts hinX13 hown hK hP hI 0 (Nat.le_of_ble_eq_true rfl) rfl rfl 90 (Nat.le_of_ble_eq_true rfl) (hts _ (vA_in _ _ (in_31 _ (zs16 (zs4 (zs4 (zs0))))))) (fun _ h9 => h9) (hI.fr 0 (Nat.le_of_ble_eq_true rfl) rfl (Nat.le_of_ble_eq_true rfl) 66 rfl) dX13_middleOf_121 ?_
                      refine lv_iload hx hb dX13_middleOf_124 (lv_at hl 0 rfl) ?_
                      refine lv_iload hx hb dX13_middleOf_126 (lv_at hl 1 rfl) ?_
                      have n53 : vp_in v79_6 16 := (iv_in (n := 16) i52 (by decide))
                      refine th_iast hx hb hK hP (WX_D hD) hS hI 66 (Nat.le_of_ble_eq_true rfl) rfl rfl n53 (okI rfl (iv_all _)) dX13_middleOf_128 (fun H locs E54 pw55 hI hP hS => ?_)
                      have hKp := hKp.pw pw55 rfl
                      obtain ⟨g56, eg56⟩ : ∃ z : Nat → Int32, z = upd g79_66 v79_6.toNatClampNeg r45 := ⟨_, rfl⟩
                      have hg56 : xi (E54 66) = g56 := by rw [pw55.eu, hr79_66, eg56]
                      obtain ⟨y57, ey57⟩ : ∃ y : Int32, y = v31_3 + (1 : Int32) := ⟨_, rfl⟩
                      obtain ⟨ty57, iy57⟩ := ti_add (e := 1) (f := 16) i32 ln_1 ey57 (by decide)
                      have ty57 : y57.toInt = v31_3.toInt + 1 := ty57
                      have iy57 : 1 ≤ y57.toInt ∧ y57.toInt ≤ 16 := iy57
                      refine lv_iinc (v := y57) (lv' := [(3, .int y57), (6, .int v79_6), (5, .int r45), (4, .int v31_4), (0, .ref (ad 0)), (1, .int a0), (2, .int a1)]) hx hb dX13_middleOf_129 hl (k := 3) rfl (by rw [ey57]; rfl) (by decide) rfl (fun ls hl => ?_)
                      obtain ⟨y58, ey58⟩ : ∃ y : Int32, y = v31_4 + (1 : Int32) := ⟨_, rfl⟩
                      obtain ⟨ty58, iy58⟩ := ti_add (e := 1) (f := 16) i30 ln_1 ey58 (by decide)
                      have ty58 : y58.toInt = v31_4.toInt + 1 := ty58
                      have iy58 : 1 ≤ y58.toInt ∧ y58.toInt ≤ 16 := iy58
                      refine lv_iinc (v := y58) (lv' := [(4, .int y58), (3, .int y57), (6, .int v79_6), (5, .int r45), (0, .ref (ad 0)), (1, .int a0), (2, .int a1)]) hx hb dX13_middleOf_132 hl (k := 3) rfl (by rw [ey58]; rfl) (by decide) rfl (fun ls hl => ?_)
                      refine lv_goto (tgt := 31) hx hb dX13_middleOf_135 (by decide) ?_
                      exact ih31 g56 y58 y57 E54 _ _ _ (iv_w iy58 (by decide)) (iv_w iy57 (by decide)) (hx31_0.one ⟨(fun q9 => by rw [tn_, tn_] at q9; omega), (by have h9 := k40; rw [show r37.toInt = 0 by omega] at h9; exact h9)⟩ (fun i9 _ => by rw [(show g56 = shf g31_66 r45 v31_3.toNatClampNeg by rw [eg56]; exact Eq.symm (by rw [hx79_0]; rw [show v79_6.toNatClampNeg = 0 by rw [tn_]; omega]; exact shf_0)), k49]) (by rw [tn_ y57, tn_ v31_3]; omega) (by rw [tn_ y58, tn_ v31_4]; omega)) (by omega) (by omega) (by first | exact ms_su hx31_3 ty58 (by decide) | omega) hI hKp hg56 hP hS (lv_sub hl [0, 1, 4, 5, 6] rfl)
                    · --81 not
                      have t59 : (0 : Int) < v79_6.toInt := ti_nle c50
                      have i60 : 1 ≤ v79_6.toInt ∧ v79_6.toInt ≤ 15 := iv_lt_r t59 (il_ 0) hv79_6 (by decide)
                      refine lv_aload_n hx hb dX13_middleOf_84 rfl (lv_at hl 4 rfl) ?_
                      refine th_get (ci := 14) (C := RX13) (T := TX13) (N := 97) (v := .ref (ad 66)) hx hb hts hinX13 hown hK hP hI 0 (Nat.le_of_ble_eq_true rfl) rfl rfl 90 (Nat.le_of_ble_eq_true rfl) (hts _ (vA_in _ _ (in_31 _ (zs16 (zs4 (zs4 (zs0))))))) (fun _ h9 => h9) (hI.fr 0 (Nat.le_of_ble_eq_true rfl) rfl (Nat.le_of_ble_eq_true rfl) 66 rfl) dX13_middleOf_85 ?_
                      refine lv_iload hx hb dX13_middleOf_88 (lv_at hl 0 rfl) ?_
                      refine lv_iconst (v := 1) hx hb dX13_middleOf_90 (by decide) ?_
                      refine lv_isub hx hb dX13_middleOf_91 ?_
                      refine lv_topi (fun y61 ey61 => ?_)
                      obtain ⟨ty61, iy61⟩ := ti_sub (e := 0) (f := 14) i60 ln_1 ey61 (by decide)
                      have ty61 : y61.toInt = v79_6.toInt - 1 := ty61
                      have iy61 : 0 ≤ y61.toInt ∧ y61.toInt ≤ 14 := iy61
                      have n63 : vp_in y61 16 := (iv_in (n := 16) iy61 (by decide))
                      refine th_iald hx hb hK hP hI 66 (Nat.le_of_ble_eq_true rfl) rfl rfl n63 dX13_middleOf_92 (fun y62 ey62 => ?_)
                      have ey62 := ey62.trans (congrFun hr79_66 _)
                      refine lv_iload hx hb dX13_middleOf_93 (lv_at hl 1 rfl) ?_
                      refine lv_icmp_le (tgt := 120) hx hb dX13_middleOf_95 (by decide) (fun c64 => ?_) (fun c64 => ?_)
                      · --95 taken
                        have t65 : y62.toInt ≤ r45.toInt := ti_le c64
                        refine lv_aload_n hx hb dX13_middleOf_120 rfl (lv_at hl 4 rfl) ?_
                        refine th_get (ci := 14) (C := RX13) (T := TX13) (N := 97) (v := .ref (ad 66)) hx hb hts hinX13 hown hK hP hI 0 (Nat.le_of_ble_eq_true rfl) rfl rfl 90 (Nat.le_of_ble_eq_true rfl) (hts _ (vA_in _ _ (in_31 _ (zs16 (zs4 (zs4 (zs0))))))) (fun _ h9 => h9) (hI.fr 0 (Nat.le_of_ble_eq_true rfl) rfl (Nat.le_of_ble_eq_true rfl) 66 rfl) dX13_middleOf_121 ?_
                        refine lv_iload hx hb dX13_middleOf_124 (lv_at hl 0 rfl) ?_
                        refine lv_iload hx hb dX13_middleOf_126 (lv_at hl 1 rfl) ?_
                        have n66 : vp_in v79_6 16 := (iv_in (n := 16) i60 (by decide))
                        refine th_iast hx hb hK hP (WX_D hD) hS hI 66 (Nat.le_of_ble_eq_true rfl) rfl rfl n66 (okI rfl (iv_all _)) dX13_middleOf_128 (fun H locs E67 pw68 hI hP hS => ?_)
                        have hKp := hKp.pw pw68 rfl
                        obtain ⟨g69, eg69⟩ : ∃ z : Nat → Int32, z = upd g79_66 v79_6.toNatClampNeg r45 := ⟨_, rfl⟩
                        have hg69 : xi (E67 66) = g69 := by rw [pw68.eu, hr79_66, eg69]
                        obtain ⟨y70, ey70⟩ : ∃ y : Int32, y = v31_3 + (1 : Int32) := ⟨_, rfl⟩
                        obtain ⟨ty70, iy70⟩ := ti_add (e := 1) (f := 16) i32 ln_1 ey70 (by decide)
                        have ty70 : y70.toInt = v31_3.toInt + 1 := ty70
                        have iy70 : 1 ≤ y70.toInt ∧ y70.toInt ≤ 16 := iy70
                        refine lv_iinc (v := y70) (lv' := [(3, .int y70), (6, .int v79_6), (5, .int r45), (4, .int v31_4), (0, .ref (ad 0)), (1, .int a0), (2, .int a1)]) hx hb dX13_middleOf_129 hl (k := 3) rfl (by rw [ey70]; rfl) (by decide) rfl (fun ls hl => ?_)
                        obtain ⟨y71, ey71⟩ : ∃ y : Int32, y = v31_4 + (1 : Int32) := ⟨_, rfl⟩
                        obtain ⟨ty71, iy71⟩ := ti_add (e := 1) (f := 16) i30 ln_1 ey71 (by decide)
                        have ty71 : y71.toInt = v31_4.toInt + 1 := ty71
                        have iy71 : 1 ≤ y71.toInt ∧ y71.toInt ≤ 16 := iy71
                        refine lv_iinc (v := y71) (lv' := [(4, .int y71), (3, .int y70), (6, .int v79_6), (5, .int r45), (0, .ref (ad 0)), (1, .int a0), (2, .int a1)]) hx hb dX13_middleOf_132 hl (k := 3) rfl (by rw [ey71]; rfl) (by decide) rfl (fun ls hl => ?_)
                        refine lv_goto (tgt := 31) hx hb dX13_middleOf_135 (by decide) ?_
                        exact ih31 g69 y71 y70 E67 _ _ _ (iv_w iy71 (by decide)) (iv_w iy70 (by decide)) (hx31_0.one ⟨(fun q9 => by rw [tn_, tn_] at q9; omega), (by have h9 := k40; rw [show r37.toInt = 0 by omega] at h9; exact h9)⟩ (fun i9 _ => by rw [(show g69 = shf g31_66 r45 v31_3.toNatClampNeg by rw [eg69]; exact Eq.symm (by rw [hx79_0]; rw [(show v79_6.toNatClampNeg = y61.toNatClampNeg + 1 by rw [tn_ v79_6, tn_ y61]; omega)]; exact shf_e (by rw [← ey62]; omega))), k49]) (by rw [tn_ y70, tn_ v31_3]; omega) (by rw [tn_ y71, tn_ v31_4]; omega)) (by omega) (by omega) (by first | exact ms_su hx31_3 ty71 (by decide) | omega) hI hKp hg69 hP hS (lv_sub hl [0, 1, 4, 5, 6] rfl)
                      · --95 not
                        have t72 : r45.toInt < y62.toInt := ti_nle c64
                        have i73 : -2147483648 ≤ r45.toInt ∧ r45.toInt ≤ 2147483646 := iv_lt_l t72 (iv_all _) (iv_all _) (by decide)
                        have i74 : -2147483647 ≤ y62.toInt ∧ y62.toInt ≤ 2147483647 := iv_lt_r t72 (iv_all _) (iv_all _) (by decide)
                        refine lv_aload_n hx hb dX13_middleOf_98 rfl (lv_at hl 4 rfl) ?_
                        refine th_get (ci := 14) (C := RX13) (T := TX13) (N := 97) (v := .ref (ad 66)) hx hb hts hinX13 hown hK hP hI 0 (Nat.le_of_ble_eq_true rfl) rfl rfl 90 (Nat.le_of_ble_eq_true rfl) (hts _ (vA_in _ _ (in_31 _ (zs16 (zs4 (zs4 (zs0))))))) (fun _ h9 => h9) (hI.fr 0 (Nat.le_of_ble_eq_true rfl) rfl (Nat.le_of_ble_eq_true rfl) 66 rfl) dX13_middleOf_99 ?_
                        refine lv_iload hx hb dX13_middleOf_102 (lv_at hl 0 rfl) ?_
                        refine lv_aload_n hx hb dX13_middleOf_104 rfl (lv_at hl 4 rfl) ?_
                        refine th_get (ci := 14) (C := RX13) (T := TX13) (N := 97) (v := .ref (ad 66)) hx hb hts hinX13 hown hK hP hI 0 (Nat.le_of_ble_eq_true rfl) rfl rfl 90 (Nat.le_of_ble_eq_true rfl) (hts _ (vA_in _ _ (in_31 _ (zs16 (zs4 (zs4 (zs0))))))) (fun _ h9 => h9) (hI.fr 0 (Nat.le_of_ble_eq_true rfl) rfl (Nat.le_of_ble_eq_true rfl) 66 rfl) dX13_middleOf_105 ?_
                        refine lv_iload hx hb dX13_middleOf_108 (lv_at hl 0 rfl) ?_
                        refine lv_iconst (v := 1) hx hb dX13_middleOf_110 (by decide) ?_
                        refine lv_isub hx hb dX13_middleOf_111 ?_
                        refine lv_topi (fun y75 ey75 => ?_)
                        obtain ⟨ty75, iy75⟩ := ti_sub (e := 0) (f := 14) i60 ln_1 ey75 (by decide)
                        have ty75 : y75.toInt = v79_6.toInt - 1 := ty75
                        have iy75 : 0 ≤ y75.toInt ∧ y75.toInt ≤ 14 := iy75
                        have n77 : vp_in y75 16 := (iv_in (n := 16) iy75 (by decide))
                        refine th_iald hx hb hK hP hI 66 (Nat.le_of_ble_eq_true rfl) rfl rfl n77 dX13_middleOf_112 (fun y76 ey76 => ?_)
                        have ey76 := ey76.trans (congrFun hr79_66 _)
                        have n78 : vp_in v79_6 16 := (iv_in (n := 16) i60 (by decide))
                        refine th_iast hx hb hK hP (WX_D hD) hS hI 66 (Nat.le_of_ble_eq_true rfl) rfl rfl n78 (okI rfl (iv_all _)) dX13_middleOf_113 (fun H locs E79 pw80 hI hP hS => ?_)
                        have hKp := hKp.pw pw80 rfl
                        obtain ⟨g81, eg81⟩ : ∃ z : Nat → Int32, z = upd g79_66 v79_6.toNatClampNeg y76 := ⟨_, rfl⟩
                        have hg81 : xi (E79 66) = g81 := by rw [pw80.eu, hr79_66, eg81]
                        obtain ⟨y82, ey82⟩ : ∃ y : Int32, y = v79_6 + (-1 : Int32) := ⟨_, rfl⟩
                        obtain ⟨ty82, iy82⟩ := ti_add (e := 0) (f := 14) i60 ln_m1 ey82 (by decide)
                        have ty82 : y82.toInt = v79_6.toInt + (-1) := ty82
                        have iy82 : 0 ≤ y82.toInt ∧ y82.toInt ≤ 14 := iy82
                        refine lv_iinc (v := y82) (lv' := [(6, .int y82), (5, .int r45), (4, .int v31_4), (3, .int v31_3), (0, .ref (ad 0)), (1, .int a0), (2, .int a1)]) hx hb dX13_middleOf_114 hl (k := 0) rfl (by rw [ey82]; rfl) (by decide) rfl (fun ls hl => ?_)
                        refine lv_goto (tgt := 79) hx hb dX13_middleOf_117 (by decide) ?_
                        exact ih79 g81 y82 E79 _ _ _ (iv_w iy82 (by decide)) (by rw [hx79_0, (show v79_6.toNatClampNeg = y82.toNatClampNeg + 1 by rw [tn_ v79_6, tn_ y82]; omega), shf_s (show r45.toInt < (g79_66 y82.toNatClampNeg).toInt by rw [← (show y61.toNatClampNeg = y82.toNatClampNeg by rw [tn_ y61, tn_ y82]; omega), ← ey62]; omega)]; congr 1; rw [eg81, (show v79_6.toNatClampNeg = y82.toNatClampNeg + 1 by rw [tn_ v79_6, tn_ y82]; omega), ey76, (show y75.toNatClampNeg = y82.toNatClampNeg by rw [tn_ y75, tn_ y82]; omega)]) (by omega) (by first | exact ms_sd hx79_2 ty82 (by decide) | exact ms_sd2 hx79_2 ty82 | omega) hI hKp hg81 hP hS (lv_sub hl [0, 1, 2, 3, 4, 5, 6] rfl)
                exact hL79 (16) g31_66 v31_3 E46 _ _ _ i32 rfl (by omega) (by have h9 := i32; first | exact ms_bd h9.2 (by decide) | omega) hI hKp ((kq47.ef 66 (fun _ => rfl)).trans hr31_66) hP hS (lv_sub hl [0, 1, 2, 3, 4, 5, 6] rfl)
              · --57 not
                have t83 : ¬ r37.toInt = 0 := ti_ne c42
                have i84 : 1 ≤ r37.toInt ∧ r37.toInt ≤ 5 := iv_ne_l t83 f38 (il_ 0)
                refine lv_goto (tgt := 132) hx hb dX13_middleOf_60 (by decide) ?_
                obtain ⟨y85, ey85⟩ : ∃ y : Int32, y = v31_4 + (1 : Int32) := ⟨_, rfl⟩
                obtain ⟨ty85, iy85⟩ := ti_add (e := 1) (f := 16) i30 ln_1 ey85 (by decide)
                have ty85 : y85.toInt = v31_4.toInt + 1 := ty85
                have iy85 : 1 ≤ y85.toInt ∧ y85.toInt ≤ 16 := iy85
                refine lv_iinc (v := y85) (lv' := [(4, .int y85), (3, .int v31_3), (0, .ref (ad 0)), (1, .int a0), (2, .int a1)]) hx hb dX13_middleOf_132 hl (k := 0) rfl (by rw [ey85]; rfl) (by decide) rfl (fun ls hl => ?_)
                refine lv_goto (tgt := 31) hx hb dX13_middleOf_135 (by decide) ?_
                exact ih31 g31_66 y85 v31_3 E31_ _ _ _ (iv_w iy85 (by decide)) (iv_w i32 (by decide)) (hx31_0.no (fun q9 => absurd (k40.fn q9.2) (by omega)) (by rw [tn_ y85, tn_ v31_4]; omega)) (by omega) (by omega) (by first | exact ms_su hx31_3 ty85 (by decide) | omega) hI hKp hr31_66 hP hS (lv_sub hl [0, 1, 2, 3, 4] rfl)
      exact hL31 (17) g1 (0 : Int32) (0 : Int32) E _ _ _ (iv_w ln_0 (by decide)) (iv_w ln_0 (by decide)) (show MR (fun o9 => CdM E a0 (nI o9) (xi (E 0) 1) 0) (tmM E a0 (xi (E 0) 1)) a1.toNatClampNeg 0 0 _ from rfl) (by have z9 := ln_0; omega) (by have z9 := ln_0; omega) (by have h9 := ln_0; first | exact ms_bu h9.1 (by decide) | omega) hI hKp hg1 hP hS (lv_sub hl [0, 1, 2, 3, 4] rfl)
    · --19 not
      have t86 : ¬ r10.toInt = 0 := ti_ne c14
      have i87 : 1 ≤ r10.toInt ∧ r10.toInt ≤ 5 := iv_ne_l t86 f11 (il_ 0)
      refine lv_ldcw hx hb hown (hts _ (vA_in _ _ (in_27 _ (zs16 (zs4 (zs1 (zs0))))))) dX13_middleOf_22 ?_
      rw [hQ]
      exact W.iret (v := (-1000000000)) hx hb hr (fun t ht hW => ⟨⟨(-1000000000), E, rfl, ⟨hI, hKp, ⟨fun _ => rfl, fun q9 => absurd (f12.fn q9.2) (by omega)⟩⟩, by show va_P (dC, dI) vwCl (WX 72 ad E) t.heap; rw [ht]; exact hP⟩, hS.F ht⟩) hS.2.2 dX13_middleOf_25
def v_middleM : List Cond := .code yX13_middle cX13_middle 3 (some .int) :: vA
abbrev rm_middleM : Room := { frames := 74, cells := 0, slots := 0, locals := 2960 }
def w_middleM : Nat → Nat → Bool := wl [12, 66] [(0, 0), (0, 18), (0, 19), (0, 20), (0, 21), (0, 22), (0, 23), (0, 24), (0, 25), (0, 26)]
set_option maxHeartbeats 4000000 in
set_option maxRecDepth 100000 in
theorem q_middleM (l : Launch) (dC : Nat → ClassId) (dI : Nat → Nat → Nat) (cT : Nat → ClassId) (ad : Nat → Nat) (E : Nat → va_E) (sz : Nat) (a0 : Int32) (a1 : Int32) (hI0 : IX cT shM spM 72 ad E) (hh0 : TXM E) : Met l yX13_middle v_middleM rm_middleM (va_Pc [.ref (ad 0), .int a0, .int a1] (HW dC dI (TYM cT) 72 ad E sz)) (va_Qi (S := Nat → va_E) (fun r u => IX cT shM spM 72 ad u ∧ Kp w_middleM E u ∧ ((((((0 ≤ a0.toInt ∧ a0.toInt < (xi (E 0) 46).toInt) ∧ (0 ≤ a1.toInt ∧ a1.toInt < (xi (E 0) 8).toInt)) → (MdV (fun o9 => CdM E a0 (nI o9) (xi (E 0) 1) 0) (tmM E a0 (xi (E 0) 1)) (xi (E 0) 8).toNatClampNeg a1.toNatClampNeg ((xi (E 15) a0.toNatClampNeg).toInt = 0 ∧ CdM E a0 a1 (xi (E 0) 1) 0) r)) ∧ (¬ ((0 ≤ a0.toInt ∧ a0.toInt < (xi (E 0) 46).toInt) ∧ (0 ≤ a1.toInt ∧ a1.toInt < (xi (E 0) 8).toInt)) → (r.toInt = -1000000000)))))) (HB dC dI 72 ad) (va_A (WX 72 ad E) sz)) 0 0 (va_A (WX 72 ad E) sz) := by
  refine Met.ofW (cc := cX13_middle) (maxL := 3) (ret := (some .int)) (by decide) rfl ?_
  intro p e s m args below meth c s₁ B hml hv
  obtain ⟨hargs, hsz, hP, hK, hD0, hEV⟩ := hv
  subst hsz
  have hx := B.exec
  have hb := B.bytes
  have hr := B.returns
  have hts := atoms_spec (ws := v_middleM) B.pre
  have hown : s.vm.findClass RX13 = some m.cls := findClass_of_methodNamed B.named
  have hlocks := B.notSynchronized
  have hinX13 : ∀ w ∈ u_ws RX13 TX13 97, w ∈ v_middleM := fun w h => vA_in _ w (in_X13 w h)
  generalize hAe : va_A (WX 72 ad E) s.heap.size = A at hEV ⊢
  have hA : ∀ q : Nat, s.heap.size ≤ q → A q := fun q h => by rw [← hAe]; exact Or.inr h
  have hD : va_D A (WX 72 ad E) := by rw [← hAe]; exact hD0.self
  have hS : va_S A s.heap s.heap [] := va_S.rf
  have hI := hI0
  have hKp : Kp w_middleM E E := Kp.rf
  have hl := lv_entry ([.ref (ad 0), .int a0, .int a1]) (n := 3) (Nat.le_of_ble_eq_true rfl)
  obtain ⟨Q, hQ⟩ : ∃ Q, Q = MQ below (va_Qi (S := Nat → va_E) (fun r u => IX cT shM spM 72 ad u ∧ Kp w_middleM E u ∧ ((((((0 ≤ a0.toInt ∧ a0.toInt < (xi (E 0) 46).toInt) ∧ (0 ≤ a1.toInt ∧ a1.toInt < (xi (E 0) 8).toInt)) → (MdV (fun o9 => CdM E a0 (nI o9) (xi (E 0) 1) 0) (tmM E a0 (xi (E 0) 1)) (xi (E 0) 8).toNatClampNeg a1.toNatClampNeg ((xi (E 15) a0.toNatClampNeg).toInt = 0 ∧ CdM E a0 a1 (xi (E 0) 1) 0) r)) ∧ (¬ ((0 ≤ a0.toInt ∧ a0.toInt < (xi (E 0) 46).toInt) ∧ (0 ≤ a1.toInt ∧ a1.toInt < (xi (E 0) 8).toInt)) → (r.toInt = -1000000000)))))) (HB dC dI 72 ad) (A)) args s 0 0 (A) := ⟨_, rfl⟩
  rw [← hQ, show entryFrame m args 3 = _ from (congrArg (fun z => entryFrame m z 3) hargs).trans (lg_entry_eq _ _ _)]
  generalize (lg_sl ([.ref (ad 0), .int a0, .int a1]) ++ List.replicate (3 - (lg_sl ([.ref (ad 0), .int a0, .int a1])).length) Slot.unset).toArray = ls at hl ⊢
  have hl : lv_has ls 3 [(0, .ref (ad 0)), (1, .int a0), (2, .int a1)] := hl
  refine lv_aload_n hx hb dX13_middle_0 rfl (lv_at hl 0 rfl) ?_
  refine lv_iconst (v := 0) hx hb dX13_middle_1 (by decide) ?_
  refine th_put (ci := 14) (C := RX13) (T := TX13) (N := 97) (v := .int 0) (ty := .int) hx hb hts hinX13 tyX13 tyX13_ok nmX13 hown hK hP (WX_D hD) hS hI 0 (Nat.le_of_ble_eq_true rfl) rfl rfl 0 (Nat.le_of_ble_eq_true rfl) (hts _ (vA_in _ _ (in_24 _ (zs4 (zs4 (zs1 (zs1 (zs0)))))))) (fun _ h9 => h9) rfl (by decide +kernel) rfl rfl (okI rfl (iv_w ln_0 (by decide))) dX13_middle_2 (fun H locs E1 pw2 hI hP hS => ?_)
  have hKp := hKp.pw pw2 rfl
  refine lv_aload_n hx hb dX13_middle_5 rfl (lv_at hl 0 rfl) ?_
  refine lv_iload_n hx hb dX13_middle_6 rfl (lv_at hl 1 rfl) ?_
  refine th_ri (va_runV (As := [.int a0]) (rest := []) ⟨hx, hb, hml, hown, hts⟩ (q_isRace l dC dI cT ad E1 H.size a0 hI) (cwV 1 hts (gi_V (in_24 _ (zs4 (zs4 (zs4 (zs0))))) (in_24 _ (zs4 (zs4 (zs4 (zs1 (zs0)))))) (in_24 _ (zs4 (zs4 (zs4 (zs1 (zs1 (zs0))))))) (in_24 _ (zs4 (zs4 (zs4 (zs1 (zs1 (zs1 (zs0)))))))) (in_24 _ (zs16 (zs0)))) rfl rfl rfl ⟨rfl, hz_yX13_isRace_1⟩ ⟨Nat.le_of_ble_eq_true rfl, Nat.le_of_ble_eq_true rfl⟩) ⟨HW_bl, va_recv hK hP (ci := 14) (q0 := 0) rfl (hI.ob 0 (Nat.le_of_ble_eq_true rfl) rfl), (HW_wi hP hK (WX_D hD) hS hA hEV)⟩ rfl rfl hl.1 rfl (lv_room (Nat.le_of_ble_eq_true rfl)) dX13_middle_7 ⟨Nat.le_of_ble_eq_true rfl, Nat.le_of_ble_eq_true rfl⟩) hS hP (fun r3 H locs hw hP hS => ?_)
  rcases hw with hw | hw
  · -- isRace, case 0
    obtain ⟨rfl, f4, f5⟩ := hw
    have i6 : 0 ≤ (xi (E 0) 46).toInt ∧ (xi (E 0) 46).toInt ≤ 20 := (show 0 ≤ (xi (E 0) 46).toInt ∧ (xi (E 0) 46).toInt ≤ 20 from hI0.iv 0 (Nat.le_of_ble_eq_true rfl) rfl (Nat.le_of_ble_eq_true rfl) rfl)
    try rw [hKp.ei 0 46 rfl] at f4
    refine lv_if_eq (tgt := 30) hx hb dX13_middle_10 (by decide) (fun c7 => ?_) (fun c7 => ?_)
    · --10 taken
      exact absurd c7 (by decide)
    · --10 not
      refine lv_aload_n hx hb dX13_middle_13 rfl (lv_at hl 0 rfl) ?_
      refine lv_iload_n hx hb dX13_middle_14 rfl (lv_at hl 2 rfl) ?_
      refine th_ri (va_runV (As := [.int a1]) (rest := []) ⟨hx, hb, hml, hown, hts⟩ (q_isBoat l dC dI cT ad E1 H.size a1 hI) (cwV 1 hts (gi_V (in_24 _ (zs16 (zs1 (zs1 (zs0))))) (in_24 _ (zs16 (zs1 (zs1 (zs1 (zs0)))))) (in_24 _ (zs16 (zs4 (zs0)))) (in_24 _ (zs4 (zs4 (zs4 (zs1 (zs1 (zs1 (zs0)))))))) (in_24 _ (zs16 (zs4 (zs1 (zs0)))))) rfl rfl rfl ⟨rfl, hz_yX13_isBoat_1⟩ ⟨Nat.le_of_ble_eq_true rfl, Nat.le_of_ble_eq_true rfl⟩) ⟨HW_bl, va_recv hK hP (ci := 14) (q0 := 0) rfl (hI.ob 0 (Nat.le_of_ble_eq_true rfl) rfl), (HW_wi hP hK (WX_D hD) hS hA hEV)⟩ rfl rfl hl.1 rfl (lv_room (Nat.le_of_ble_eq_true rfl)) dX13_middle_15 ⟨Nat.le_of_ble_eq_true rfl, Nat.le_of_ble_eq_true rfl⟩) hS hP (fun r8 H locs hw hP hS => ?_)
      rcases hw with hw | hw
      · -- isBoat, case 0
        obtain ⟨rfl, f9, f10⟩ := hw
        have i11 : 0 ≤ (xi (E 0) 8).toInt ∧ (xi (E 0) 8).toInt ≤ 16 := (show 0 ≤ (xi (E 0) 8).toInt ∧ (xi (E 0) 8).toInt ≤ 16 from hI0.iv 0 (Nat.le_of_ble_eq_true rfl) rfl (Nat.le_of_ble_eq_true rfl) rfl)
        try rw [hKp.ei 0 8 rfl] at f9
        refine lv_if_eq (tgt := 30) hx hb dX13_middle_18 (by decide) (fun c12 => ?_) (fun c12 => ?_)
        · --18 taken
          exact absurd c12 (by decide)
        · --18 not
          refine lv_aload_n hx hb dX13_middle_21 rfl (lv_at hl 0 rfl) ?_
          refine lv_iload_n hx hb dX13_middle_22 rfl (lv_at hl 1 rfl) ?_
          refine lv_iload_n hx hb dX13_middle_23 rfl (lv_at hl 2 rfl) ?_
          refine th_i (va_runV (As := [.int a0, .int a1]) (rest := []) ⟨hx, hb, hml, hown, hts⟩ (q_middleOfM l dC dI cT ad E1 H.size a0 a1 hI f5 f10 (by exact hh0.cg (fun j9 => hKp.ei 8 j9 rfl) (fun j9 => hKp.ei 9 j9 rfl) (hKp.ei 0 17 rfl))) (cwV 2 hts (gi_V (in_31 _ (zs16 (zs4 (zs0)))) (in_31 _ (zs16 (zs4 (zs1 (zs0))))) (in_31 _ (zs16 (zs4 (zs1 (zs1 (zs0)))))) (in_24 _ (zs4 (zs4 (zs4 (zs1 (zs1 (zs1 (zs0)))))))) (in_31 _ (zs16 (zs4 (zs1 (zs1 (zs1 (zs0)))))))) rfl rfl rfl ⟨rfl, hz_yX13_middleOf_2⟩ ⟨Nat.le_of_ble_eq_true rfl, Nat.le_of_ble_eq_true rfl⟩) ⟨HW_bl, va_recv hK hP (ci := 14) (q0 := 0) rfl (hI.ob 0 (Nat.le_of_ble_eq_true rfl) rfl), (HW_wi hP hK (WX_D hD) hS hA hEV)⟩ rfl rfl hl.1 rfl (lv_room (Nat.le_of_ble_eq_true rfl)) dX13_middle_24 ⟨Nat.le_of_ble_eq_true rfl, Nat.le_of_ble_eq_true rfl⟩) (WX_D hD) hS hA (fun r13 E14 H locs hw hP hS => ?_)
          obtain ⟨hI, kq15, hw⟩ := hw
          have hKb := hKp
          have hKp := hKp.tr kq15 (wl_sub rfl rfl)
          have f16 := hw
          have i17 : 0 ≤ (xi (E 0) 1).toInt ∧ (xi (E 0) 1).toInt ≤ 400 := (show 0 ≤ (xi (E 0) 1).toInt ∧ (xi (E 0) 1).toInt ≤ 400 from hI0.iv 0 (Nat.le_of_ble_eq_true rfl) rfl (Nat.le_of_ble_eq_true rfl) rfl)
          try rw [hKb.ei 0 1 rfl] at f16
          try rw [hKb.ei 0 8 rfl] at f16
          have k19 : KdN E E1 := KdN.of hKb rfl rfl rfl rfl rfl
          have k18 : MdV (fun o9 => CdM E a0 (nI o9) (xi (E 0) 1) 0) (tmM E a0 (xi (E 0) 1)) (xi (E 0) 8).toNatClampNeg a1.toNatClampNeg ((xi (E 15) a0.toNatClampNeg).toInt = 0 ∧ CdM E a0 a1 (xi (E 0) 1) 0) r13 := MdV_kd k19 f16
          refine lv_goto (tgt := 33) hx hb dX13_middle_27 (by decide) ?_
          rw [hQ]
          exact W.iret (v := r13) hx hb hr (fun t ht hW => ⟨⟨r13, E14, rfl, ⟨hI, hKp, ⟨fun _ => k18, fun q9 => by exfalso; omega⟩⟩, by show va_P (dC, dI) vwCl (WX 72 ad E14) t.heap; rw [ht]; exact hP⟩, hS.F ht⟩) hS.2.2 dX13_middle_33
      · -- isBoat, case 1
        obtain ⟨rfl, f20⟩ := hw
        have i21 : 0 ≤ (xi (E 0) 8).toInt ∧ (xi (E 0) 8).toInt ≤ 16 := (show 0 ≤ (xi (E 0) 8).toInt ∧ (xi (E 0) 8).toInt ≤ 16 from hI0.iv 0 (Nat.le_of_ble_eq_true rfl) rfl (Nat.le_of_ble_eq_true rfl) rfl)
        try rw [hKp.ei 0 8 rfl] at f20
        refine lv_if_eq (tgt := 30) hx hb dX13_middle_18 (by decide) (fun c22 => ?_) (fun c22 => ?_)
        · --18 taken
          refine lv_ldcw hx hb hown (hts _ (vA_in _ _ (in_27 _ (zs16 (zs4 (zs1 (zs0))))))) dX13_middle_30 ?_
          rw [hQ]
          exact W.iret (v := (-1000000000)) hx hb hr (fun t ht hW => ⟨⟨(-1000000000), E1, rfl, ⟨hI, hKp, ⟨fun q9 => by exfalso; omega, fun _ => rfl⟩⟩, by show va_P (dC, dI) vwCl (WX 72 ad E1) t.heap; rw [ht]; exact hP⟩, hS.F ht⟩) hS.2.2 dX13_middle_33
        · --18 not
          exact absurd c22 (by decide)
  · -- isRace, case 1
    obtain ⟨rfl, f23⟩ := hw
    have i24 : 0 ≤ (xi (E 0) 46).toInt ∧ (xi (E 0) 46).toInt ≤ 20 := (show 0 ≤ (xi (E 0) 46).toInt ∧ (xi (E 0) 46).toInt ≤ 20 from hI0.iv 0 (Nat.le_of_ble_eq_true rfl) rfl (Nat.le_of_ble_eq_true rfl) rfl)
    try rw [hKp.ei 0 46 rfl] at f23
    refine lv_if_eq (tgt := 30) hx hb dX13_middle_10 (by decide) (fun c25 => ?_) (fun c25 => ?_)
    · --10 taken
      refine lv_ldcw hx hb hown (hts _ (vA_in _ _ (in_27 _ (zs16 (zs4 (zs1 (zs0))))))) dX13_middle_30 ?_
      rw [hQ]
      exact W.iret (v := (-1000000000)) hx hb hr (fun t ht hW => ⟨⟨(-1000000000), E1, rfl, ⟨hI, hKp, ⟨fun q9 => by exfalso; omega, fun _ => rfl⟩⟩, by show va_P (dC, dI) vwCl (WX 72 ad E1) t.heap; rw [ht]; exact hP⟩, hS.F ht⟩) hS.2.2 dX13_middle_33
    · --10 not
      exact absurd c25 (by decide)
end
section
/-! ===== sums and enumerations (pure) ===== -/
def sumF (f : Nat → Int) : Nat → Int
  | 0 => 0
  | n + 1 => sumF f n + f n
theorem sumF_cg {f g : Nat → Int} : ∀ n : Nat, (∀ i, i < n → f i = g i) → sumF f n = sumF g n := by
  intro n
  induction n with
  | zero => exact fun _ => rfl
  | succ n ih =>
    intro h
    show sumF f n + f n = sumF g n + g n
    rw [ih (fun i hi => h i (by omega)), h n (by omega)]
theorem sumF_z {f : Nat → Int} : ∀ n : Nat, (∀ i, i < n → f i = 0) → sumF f n = 0 := by
  intro n
  induction n with
  | zero => exact fun _ => rfl
  | succ n ih =>
    intro h
    show sumF f n + f n = 0
    rw [ih (fun i hi => h i (by omega)), h n (by omega)]
    rfl
theorem sumF_o {f : Nat → Int} {k : Nat} : ∀ n : Nat, k < n → (∀ i, i < n → ¬ i = k → f i = 0) → sumF f n = f k := by
  intro n
  induction n with
  | zero => exact fun h _ => absurd h (Nat.not_lt_zero k)
  | succ n ih =>
    intro hk h
    show sumF f n + f n = f k
    by_cases e : k = n
    · subst e
      rw [sumF_z k (fun i hi => h i (by omega) (by omega))]
      omega
    · rw [ih (by omega) (fun i hi hne => h i (by omega) hne), h n (by omega) (by omega)]
      omega
theorem sumF_a {f g : Nat → Int} : ∀ n : Nat, sumF (fun i => f i + g i) n = sumF f n + sumF g n := by
  intro n
  induction n with
  | zero => rfl
  | succ n ih =>
    show sumF (fun i => f i + g i) n + (f n + g n) = sumF f n + f n + (sumF g n + g n)
    rw [ih]
    omega
theorem sumF_nn {f : Nat → Int} : ∀ n : Nat, (∀ i, i < n → 0 ≤ f i) → 0 ≤ sumF f n := by
  intro n
  induction n with
  | zero => exact fun _ => Int.le_refl _
  | succ n ih =>
    intro h
    have h1 := ih (fun i hi => h i (by omega))
    have h2 := h n (by omega)
    show 0 ≤ sumF f n + f n
    omega
theorem sumF_mo {f : Nat → Int} {k : Nat} : ∀ d : Nat, (∀ i, i < k + d → 0 ≤ f i) → sumF f k ≤ sumF f (k + d) := by
  intro d
  induction d with
  | zero => exact fun _ => Int.le_refl _
  | succ d ih =>
    intro h
    have h1 := ih (fun i hi => h i (by omega))
    have h2 := h (k + d) (by omega)
    show sumF f k ≤ sumF f (k + d) + f (k + d)
    omega
theorem sumF_le {f : Nat → Int} {b : Int} : ∀ n : Nat, (∀ i, i < n → f i ≤ b) → sumF f n ≤ b * (n : Int) := by
  intro n
  induction n with
  | zero =>
    intro _
    show (0 : Int) ≤ b * ((0 : Nat) : Int)
    rw [show ((0 : Nat) : Int) = 0 from rfl, Int.mul_zero]
    exact Int.le_refl _
  | succ n ih =>
    intro h
    have h1 := ih (fun i hi => h i (by omega))
    have h2 := h n (by omega)
    have h3 : b * ((n + 1 : Nat) : Int) = b * (n : Int) + b := by
      rw [show ((n + 1 : Nat) : Int) = (n : Int) + 1 from rfl, Int.mul_add, Int.mul_one]
    show sumF f n + f n ≤ b * ((n + 1 : Nat) : Int)
    omega
/-- all that P holds of, once each -/
def Enm (P : Nat → Prop) (R : Nat) (c : Nat → Nat) (n : Nat) : Prop := (∀ i, i < n → c i < R ∧ P (c i)) ∧ (∀ r, r < R → P r → ∃ i, i < n ∧ c i = r) ∧ ∀ i j, i < j → j < n → ¬ c i = c j
theorem Enm.sumr {P : Nat → Prop} {R n : Nat} {c : Nat → Nat} (h : Enm P R c n) (f : Nat → Int) : ∀ R' : Nat, R' ≤ R → SmR P (fun r v => v = f r) R' (sumF (fun i => if c i < R' then f (c i) else 0) n) := by
  obtain ⟨h1, h2, h3⟩ := h
  intro R'
  induction R' with
  | zero =>
    intro _
    exact sumF_z n (fun i _ => if_neg (Nat.not_lt_zero _))
  | succ R' ih =>
    intro hR
    have i1 := ih (by omega)
    have e : sumF (fun i => if c i < R' + 1 then f (c i) else 0) n = sumF (fun i => if c i < R' then f (c i) else 0) n + sumF (fun i => if c i = R' then f (c i) else 0) n := by
      rw [← sumF_a]
      refine sumF_cg n (fun i _ => ?_)
      by_cases q : c i = R'
      · rw [if_pos (by omega), if_neg (by omega), if_pos q]
        omega
      · by_cases q2 : c i < R'
        · rw [if_pos (by omega), if_pos q2, if_neg q]
          omega
        · rw [if_neg (by omega), if_neg q2, if_neg q]
          rfl
    by_cases p : P R'
    · obtain ⟨k, hk, ek⟩ := h2 R' (by omega) p
      have o : sumF (fun i => if c i = R' then f (c i) else 0) n = f R' := by
        rw [sumF_o n hk (fun i hi hne => ?_), if_pos ek, ek]
        refine if_neg (fun z => ?_)
        rcases Nat.lt_or_gt_of_ne hne with q | q
        · exact h3 i k q hk (by omega)
        · exact h3 k i q hi (by omega)
      exact i1.one p rfl (by rw [e, o]) rfl
    · have o : sumF (fun i => if c i = R' then f (c i) else 0) n = 0 := sumF_z n (fun i hi => if_neg (fun z => p (by rw [← z]; exact (h1 i hi).2)))
      exact i1.no p (by rw [e, o]; omega) rfl
theorem Enm.sum {P : Nat → Prop} {R n : Nat} {c : Nat → Nat} (h : Enm P R c n) (f : Nat → Int) : SmR P (fun r v => v = f r) R (sumF (fun i => f (c i)) n) := by
  have h1 := h.sumr f R (Nat.le_refl R)
  rw [show sumF (fun i => if c i < R then f (c i) else 0) n = sumF (fun i => f (c i)) n from sumF_cg n (fun i hi => if_pos (h.1 i hi).1)] at h1
  exact h1
/-- by DAYS, of one DAY by numbers -/
def kLt (day : Nat → Int) (a b : Nat) : Prop := day a < day b ∨ (day a = day b ∧ a < b)
def Srt (day : Nat → Int) (c : Nat → Nat) (n : Nat) : Prop := ∀ i j, i < j → j < n → kLt day (c i) (c j)
theorem Enm.step {P P' : Nat → Prop} {R n n' : Nat} {c c' : Nat → Nat} {day : Nat → Int} (h : Enm P R c n) (s : Srt day c n) (h' : Enm P' R c' n') (s' : Srt day c' n') (e : ∀ r, r < R → (P r → P' r)) {i : Nat} (hi : i < n) (hb : ∀ j, j < i → c j = c' j) : i < n' ∧ ¬ kLt day (c i) (c' i) := by
  obtain ⟨j, hj, ej⟩ := h'.2.1 (c i) (h.1 i hi).1 (e _ (h.1 i hi).1 (h.1 i hi).2)
  have hij : i ≤ j := by
    by_cases q : j < i
    · exact absurd ((hb j q).trans ej) (h.2.2 j i q hi)
    · omega
  refine ⟨by omega, fun z => ?_⟩
  by_cases q : i = j
  · subst q
    rw [ej] at z
    unfold kLt at z
    omega
  · have h9 := s' i j (by omega) hj
    rw [ej] at h9
    unfold kLt at h9 z
    omega
theorem Enm.un {P P' : Nat → Prop} {R n n' : Nat} {c c' : Nat → Nat} {day : Nat → Int} (h : Enm P R c n) (s : Srt day c n) (h' : Enm P' R c' n') (s' : Srt day c' n') (e : ∀ r, r < R → (P r ↔ P' r)) : n = n' ∧ ∀ i, i < n → c i = c' i := by
  have key : ∀ m : Nat, ∀ i, i < m → i < n → i < n' ∧ c i = c' i := by
    intro m
    induction m with
    | zero => exact fun i hi => absurd hi (Nat.not_lt_zero i)
    | succ m ih =>
      intro i hi hn
      by_cases q : i < m
      · exact ih i q hn
      · have hb : ∀ j, j < i → c j = c' j := fun j hj => (ih j (by omega) (by omega)).2
        obtain ⟨a1, a2⟩ := h.step s h' s' (fun r hr => (e r hr).mp) hn hb
        obtain ⟨b1, b2⟩ := h'.step s' h s (fun r hr => (e r hr).mpr) a1 (fun j hj => (hb j hj).symm)
        refine ⟨a1, ?_⟩
        unfold kLt at a2 b2
        omega
  have hle : n ≤ n' := by
    by_cases q : n = 0
    · omega
    · have := (key n (n - 1) (by omega) (by omega)).1
      omega
  refine ⟨?_, fun i hi => (key n i hi hi).2⟩
  by_cases q : n < n'
  · exfalso
    obtain ⟨j, hj, ej⟩ := h.2.1 (c' n) (h'.1 n q).1 ((e _ (h'.1 n q).1).mpr (h'.1 n q).2)
    have h9 := (key n j hj hj).2
    exact h'.2.2 j n hj q (h9.symm.trans ej)
  · omega
/-- one more is put where it belongs -/
def insR (g g' : Nat → Int32) (n k : Nat) (x : Int32) : Prop := (∀ i, i < k → g' i = g i) ∧ g' k = x ∧ ∀ i, k ≤ i → i < n → g' (i + 1) = g i
theorem Enm.ins {P : Nat → Prop} {R n k : Nat} {g g' : Nat → Int32} {x : Int32} {day : Nat → Int} (h : Enm P R (fun i => (g i).toNatClampNeg) n) (s : Srt day (fun i => (g i).toNatClampNeg) n) (hk : k ≤ n) (hi : insR g g' n k x) (hx : x.toNatClampNeg = R) (hp : P R) (hl : ∀ i, i < k → day (g i).toNatClampNeg ≤ day R) (hr : ∀ i, k ≤ i → i < n → day R < day (g i).toNatClampNeg) : Enm P (R + 1) (fun i => (g' i).toNatClampNeg) (n + 1) ∧ Srt day (fun i => (g' i).toNatClampNeg) (n + 1) := by
  obtain ⟨i1, i2, i3⟩ := hi
  obtain ⟨h1, h2, h3⟩ := h
  have e1 : ∀ i, i < k → (g' i).toNatClampNeg = (g i).toNatClampNeg := fun i hi => by rw [i1 i hi]
  have e2 : (g' k).toNatClampNeg = R := by rw [i2, hx]
  have e3 : ∀ i, k < i → i < n + 1 → (g' i).toNatClampNeg = (g (i - 1)).toNatClampNeg := fun i hi hn => by
    have h9 := i3 (i - 1) (by omega) (by omega)
    rw [show i - 1 + 1 = i by omega] at h9
    rw [h9]
  have b1 : ∀ i, i < n → (g i).toNatClampNeg < R := fun i hi => (h1 i hi).1
  have hs : Srt day (fun i => (g' i).toNatClampNeg) (n + 1) := fun i j hij hj => by
    show kLt day (g' i).toNatClampNeg (g' j).toNatClampNeg
    by_cases qi : i < k
    · rw [e1 i qi]
      by_cases qj : j < k
      · rw [e1 j qj]
        exact s i j hij (by omega)
      · by_cases ej : j = k
        · rw [ej, e2]
          have a1 := hl i qi
          have a2 := b1 i (by omega)
          unfold kLt
          omega
        · rw [e3 j (by omega) hj]
          exact s i (j - 1) (by omega) (by omega)
    · by_cases ei : i = k
      · rw [ei, e2, e3 j (by omega) hj]
        exact Or.inl (hr (j - 1) (by omega) (by omega))
      · rw [e3 i (by omega) (by omega), e3 j (by omega) hj]
        exact s (i - 1) (j - 1) (by omega) (by omega)
  refine ⟨⟨fun i hi => ?_, fun r hr9 hpr => ?_, fun i j hij hj z => ?_⟩, hs⟩
  · show (g' i).toNatClampNeg < R + 1 ∧ P (g' i).toNatClampNeg
    by_cases qi : i < k
    · rw [e1 i qi]
      exact ⟨by have := b1 i (by omega); omega, (h1 i (by omega)).2⟩
    · by_cases ei : i = k
      · rw [ei, e2]
        exact ⟨by omega, hp⟩
      · rw [e3 i (by omega) hi]
        exact ⟨by have := b1 (i - 1) (by omega); omega, (h1 (i - 1) (by omega)).2⟩
  · by_cases q : r = R
    · exact ⟨k, by omega, by rw [q]; exact e2⟩
    · obtain ⟨i, hi, ei⟩ := h2 r (by omega) hpr
      by_cases qi : i < k
      · exact ⟨i, by omega, (e1 i qi).trans ei⟩
      · refine ⟨i + 1, by omega, ?_⟩
        show (g' (i + 1)).toNatClampNeg = r
        rw [e3 (i + 1) (by omega) (by omega), show i + 1 - 1 = i by omega]
        exact ei
  · have h9 := hs i j hij hj
    have z' : (g' i).toNatClampNeg = (g' j).toNatClampNeg := z
    have h9' : kLt day (g' i).toNatClampNeg (g' j).toNatClampNeg := h9
    rw [z'] at h9'
    unfold kLt at h9'
    omega
/-! ===== gather: rows shifted while a place is sought ===== -/
def shI (G g : Nat → Int32) (n k : Nat) : Prop := (∀ i, i < k → g i = G i) ∧ ∀ i, k ≤ i → i < n → g (i + 1) = G i
theorem shI.start {G : Nat → Int32} {n : Nat} : shI G G n n := ⟨fun _ _ => rfl, fun i h1 h2 => absurd h2 (Nat.not_lt.mpr h1)⟩
theorem shI.step {G g g' : Nat → Int32} {n k k' j : Nat} {v : Int32} (h : shI G g n k') (hk : k' = k + 1) (hn : k' ≤ n) (e : g' = upd g j v) (hj : j = k') (hv : v = g k) : shI G g' n k := by
  subst hk
  subst hj
  subst hv
  subst e
  refine ⟨fun i hi => ?_, fun i h1 h2 => ?_⟩
  · rw [upd_j (by omega)]
    exact h.1 i (by omega)
  · by_cases q : i = k
    · subst q
      rw [upd_i]
      exact h.1 i (by omega)
    · rw [upd_j (by omega)]
      exact h.2 i (by omega) h2
theorem shI.fin {G g g' : Nat → Int32} {n k j : Nat} {x : Int32} (h : shI G g n k) (e : g' = upd g j x) (hj : j = k) : insR G g' n k x := by
  subst hj
  subst e
  refine ⟨fun i hi => ?_, upd_i, fun i h1 h2 => ?_⟩
  · rw [upd_j (by omega)]
    exact h.1 i hi
  · rw [upd_j (by omega)]
    exact h.2 i h1 h2
theorem insR.two {G G' g g' : Nat → Int32} {n k : Nat} {x y : Int32} {Q : Nat → Int32 → Prop} (hk : k ≤ n) (h : ∀ i, i < n → Q (G i).toNatClampNeg (G' i)) (i1 : insR G g n k x) (i2 : insR G' g' n k y) (hq : Q x.toNatClampNeg y) : ∀ i, i < n + 1 → Q (g i).toNatClampNeg (g' i) := fun i hi => by
  by_cases q : i < k
  · rw [i1.1 i q, i2.1 i q]
    exact h i (by omega)
  · by_cases e : i = k
    · subst e
      rw [i1.2.1, i2.2.1]
      exact hq
    · have h1 := i1.2.2 (i - 1) (by omega) (by omega)
      have h2 := i2.2.2 (i - 1) (by omega) (by omega)
      rw [show i - 1 + 1 = i by omega] at h1 h2
      rw [h1, h2]
      exact h (i - 1) (by omega)
def dyC (E : Nat → va_E) (r : Nat) : Int := (rcS E r 1).toInt
/-- the RACES that count for a BOAT -/
def ctO (E : Nat → va_E) (b r : Nat) : Prop := ∃ x : Int32, MdO E r b x ∧ ¬ x.toInt = -1000000000
def GaG (E : Nat → va_E) (b R n : Nat) (c m : Nat → Int32) : Prop := Enm (ctO E b) R (fun i => (c i).toNatClampNeg) n ∧ Srt (dyC E) (fun i => (c i).toNatClampNeg) n ∧ ∀ i, i < n → MdO E (c i).toNatClampNeg b (m i)
theorem MdV.fn {F : Nat → Prop} {T : Nat → Int32} {K sk : Nat} {ok : Prop} {r r' : Int32} (h : MdV F T K sk ok r) (h' : MdV F T K sk ok r') : r = r' := Int32.toInt_inj.mp (MdV.un h h' (Nat.le_refl K) Iff.rfl (fun _ _ => Iff.rfl) (fun _ _ _ => rfl) (fun i h1 h2 => absurd h2 (Nat.not_lt.mpr h1)))
theorem MdO_cg {E E' : Nat → va_E} (k : K64 E E') (h3 : xi (E' 43) = xi (E 43)) (h6 : xi (E' 46) = xi (E 46)) : MdO E' = MdO E := funext (fun race => funext (fun b => funext (fun r => by
  unfold MdO
  rw [rcS_k k, h3, h6])))
theorem GaG.no {E : Nat → va_E} {b R R' n : Nat} {c m : Nat → Int32} {x : Int32} (h : GaG E b R n c m) (hx : MdO E R b x) (hh : x.toInt = -1000000000) (e : R' = R + 1) : GaG E b R' n c m := by
  subst e
  obtain ⟨⟨h1, h2, h3⟩, h4, h5⟩ := h
  refine ⟨⟨fun i hi => ⟨by have := (h1 i hi).1; omega, (h1 i hi).2⟩, fun r hr hp => ?_, h3⟩, h4, h5⟩
  by_cases q : r = R
  · subst q
    obtain ⟨y, hy, hne⟩ := hp
    rw [MdV.fn hy hx] at hne
    exact absurd hh hne
  · exact h2 r (by omega) hp
theorem GaG.yes {E : Nat → va_E} {b R R' n n' k : Nat} {c m c' m' : Nat → Int32} {x rc : Int32} (h : GaG E b R n c m) (hx : MdO E R b x) (hh : ¬ x.toInt = -1000000000) (hk : k ≤ n) (i1 : insR c c' n k rc) (i2 : insR m m' n k x) (hrc : rc.toNatClampNeg = R) (hl : ∀ i, i < k → dyC E (c i).toNatClampNeg ≤ dyC E R) (hr : ∀ i, k ≤ i → i < n → dyC E R < dyC E (c i).toNatClampNeg) (e : R' = R + 1) (en : n' = n + 1) : GaG E b R' n' c' m' := by
  subst e
  subst en
  obtain ⟨h1, h2, h3⟩ := h
  obtain ⟨a1, a2⟩ := Enm.ins h1 h2 hk i1 hrc ⟨x, hx, hh⟩ hl hr
  exact ⟨a1, a2, insR.two (Q := fun r y => MdO E r b y) hk h3 i1 i2 (by rw [hrc]; exact hx)⟩
end

