set_option maxRecDepth 100000 in
theorem zh_dX13_tryChanges_0_0 : zc cX13_tryChanges 0 [27, 42, 180, 1, 252, 162, 0, 32, 16, 253, 61, 28, 6, 163, 0, 23] = true := by decide +kernel
set_option maxRecDepth 100000 in
theorem zh_dX13_tryChanges_16_16 : zc cX13_tryChanges 16 [42, 180, 0, 204, 27, 28, 79, 42, 27, 4, 96, 182, 2, 5, 132, 2] = true := by decide +kernel
set_option maxRecDepth 100000 in
theorem zh_dX13_tryChanges_30_32 : zc cX13_tryChanges 32 [1, 167, 255, 234, 177, 3, 61, 3, 62, 3, 54, 4, 21, 4, 42, 180] = true := by decide +kernel
set_option maxRecDepth 100000 in
theorem zh_dX13_tryChanges_47_48 : zc cX13_tryChanges 48 [1, 252, 162, 0, 22, 29, 42, 180, 0, 204, 21, 4, 46, 184, 1, 218] = true := by decide +kernel
set_option maxRecDepth 100000 in
theorem zh_dX13_tryChanges_64_64 : zc cX13_tryChanges 64 [96, 62, 132, 4, 1, 167, 255, 231, 3, 54, 4, 21, 4, 42, 180, 1] = true := by decide +kernel
set_option maxRecDepth 100000 in
theorem zh_dX13_tryChanges_78_80 : zc cX13_tryChanges 80 [255, 162, 0, 124, 19, 2, 8, 54, 5, 19, 2, 9, 54, 6, 3, 54] = true := by decide +kernel
set_option maxRecDepth 100000 in
theorem zh_dX13_tryChanges_95_96 : zc cX13_tryChanges 96 [7, 21, 7, 42, 180, 1, 252, 162, 0, 88, 42, 180, 0, 198, 7, 21] = true := by decide +kernel
set_option maxRecDepth 100000 in
theorem zh_dX13_tryChanges_111_112 : zc cX13_tryChanges 112 [4, 104, 21, 7, 96, 46, 154, 0, 6, 167, 0, 64, 42, 180, 0, 198] = true := by decide +kernel
set_option maxRecDepth 100000 in
theorem zh_dX13_tryChanges_128_128 : zc cX13_tryChanges 128 [7, 21, 4, 104, 21, 7, 96, 46, 4, 42, 180, 0, 201, 7, 21, 4] = true := by decide +kernel
set_option maxRecDepth 100000 in
theorem zh_dX13_tryChanges_144_144 : zc cX13_tryChanges 144 [104, 21, 7, 96, 46, 42, 180, 0, 204, 21, 7, 46, 96, 184, 1, 129] = true := by decide +kernel
set_option maxRecDepth 100000 in
theorem zh_dX13_tryChanges_160_160 : zc cX13_tryChanges 160 [104, 17, 3, 232, 108, 54, 8, 21, 5, 21, 8, 184, 1, 127, 54, 5] = true := by decide +kernel
set_option maxRecDepth 100000 in
theorem zh_dX13_tryChanges_176_176 : zc cX13_tryChanges 176 [21, 6, 21, 8, 184, 1, 129, 54, 6, 132, 7, 1, 167, 255, 165, 28] = true := by decide +kernel
set_option maxRecDepth 100000 in
theorem zh_dX13_tryChanges_192_192 : zc cX13_tryChanges 192 [21, 6, 21, 5, 100, 96, 61, 132, 4, 1, 167, 255, 129, 42, 180, 2] = true := by decide +kernel
set_option maxRecDepth 100000 in
theorem zh_dX13_tryChanges_206_208 : zc cX13_tryChanges 208 [2, 2, 159, 0, 28, 28, 42, 180, 2, 2, 163, 0, 19, 28, 42, 180] = true := by decide +kernel
set_option maxRecDepth 100000 in
theorem zh_dX13_tryChanges_223_224 : zc cX13_tryChanges 224 [2, 2, 160, 0, 12, 29, 42, 180, 2, 10, 161, 0, 4, 177, 42, 28] = true := by decide +kernel
set_option maxRecDepth 100000 in
theorem zh_dX13_tryChanges_240_240 : zc cX13_tryChanges 240 [181, 2, 2, 42, 29, 181, 2, 10, 3, 54, 4, 21, 4, 42, 180, 1] = true := by decide +kernel
set_option maxRecDepth 100000 in
theorem zh_dX13_tryChanges_254_256 : zc cX13_tryChanges 256 [252, 162, 0, 23, 42, 180, 0, 207, 21, 4, 42, 180, 0, 204, 21, 4] = true := by decide +kernel
set_option maxRecDepth 100000 in
theorem zh_dX13_tryChanges_272_272 : zc cX13_tryChanges 272 [46, 79, 132, 4, 1, 167, 255, 230, 177] = true := by decide +kernel
theorem dX13_tryChanges_0 : decode cX13_tryChanges 0 = .ok (.iload_n 1, 1) := zo_27 (zi_at zh_dX13_tryChanges_0_0 0 rfl)
theorem dX13_tryChanges_1 : decode cX13_tryChanges 1 = .ok (.aload_n 0, 1) := zo_42 (zi_at zh_dX13_tryChanges_0_0 1 rfl)
theorem dX13_tryChanges_2 : decode cX13_tryChanges 2 = .ok (.getfield 508, 3) := zo_180 (zi_at zh_dX13_tryChanges_0_0 2 rfl) (zi_at zh_dX13_tryChanges_0_0 3 rfl) (zi_at zh_dX13_tryChanges_0_0 4 rfl) rfl
theorem dX13_tryChanges_5 : decode cX13_tryChanges 5 = .ok (.if_icmp .ge 32, 3) := zo_162 (zi_at zh_dX13_tryChanges_0_0 5 rfl) (zi_at zh_dX13_tryChanges_0_0 6 rfl) (zi_at zh_dX13_tryChanges_0_0 7 rfl) rfl
theorem dX13_tryChanges_8 : decode cX13_tryChanges 8 = .ok (.bipush (-3), 2) := zo_16 (zi_at zh_dX13_tryChanges_0_0 8 rfl) (zi_at zh_dX13_tryChanges_0_0 9 rfl) rfl
theorem dX13_tryChanges_10 : decode cX13_tryChanges 10 = .ok (.istore_n 2, 1) := zo_61 (zi_at zh_dX13_tryChanges_0_0 10 rfl)
theorem dX13_tryChanges_11 : decode cX13_tryChanges 11 = .ok (.iload_n 2, 1) := zo_28 (zi_at zh_dX13_tryChanges_0_0 11 rfl)
theorem dX13_tryChanges_12 : decode cX13_tryChanges 12 = .ok (.iconst 3, 1) := zo_6 (zi_at zh_dX13_tryChanges_0_0 12 rfl)
theorem dX13_tryChanges_13 : decode cX13_tryChanges 13 = .ok (.if_icmp .gt 23, 3) := zo_163 (zi_at zh_dX13_tryChanges_0_0 13 rfl) (zi_at zh_dX13_tryChanges_0_0 14 rfl) (zi_at zh_dX13_tryChanges_0_0 15 rfl) rfl
theorem dX13_tryChanges_16 : decode cX13_tryChanges 16 = .ok (.aload_n 0, 1) := zo_42 (zi_at zh_dX13_tryChanges_16_16 0 rfl)
theorem dX13_tryChanges_17 : decode cX13_tryChanges 17 = .ok (.getfield 204, 3) := zo_180 (zi_at zh_dX13_tryChanges_16_16 1 rfl) (zi_at zh_dX13_tryChanges_16_16 2 rfl) (zi_at zh_dX13_tryChanges_16_16 3 rfl) rfl
theorem dX13_tryChanges_20 : decode cX13_tryChanges 20 = .ok (.iload_n 1, 1) := zo_27 (zi_at zh_dX13_tryChanges_16_16 4 rfl)
theorem dX13_tryChanges_21 : decode cX13_tryChanges 21 = .ok (.iload_n 2, 1) := zo_28 (zi_at zh_dX13_tryChanges_16_16 5 rfl)
theorem dX13_tryChanges_22 : decode cX13_tryChanges 22 = .ok (.iastore, 1) := zo_79 (zi_at zh_dX13_tryChanges_16_16 6 rfl)
theorem dX13_tryChanges_23 : decode cX13_tryChanges 23 = .ok (.aload_n 0, 1) := zo_42 (zi_at zh_dX13_tryChanges_16_16 7 rfl)
theorem dX13_tryChanges_24 : decode cX13_tryChanges 24 = .ok (.iload_n 1, 1) := zo_27 (zi_at zh_dX13_tryChanges_16_16 8 rfl)
theorem dX13_tryChanges_25 : decode cX13_tryChanges 25 = .ok (.iconst 1, 1) := zo_4 (zi_at zh_dX13_tryChanges_16_16 9 rfl)
theorem dX13_tryChanges_26 : decode cX13_tryChanges 26 = .ok (.iadd, 1) := zo_96 (zi_at zh_dX13_tryChanges_16_16 10 rfl)
theorem dX13_tryChanges_27 : decode cX13_tryChanges 27 = .ok (.invokevirtual 517, 3) := zo_182 (zi_at zh_dX13_tryChanges_16_16 11 rfl) (zi_at zh_dX13_tryChanges_16_16 12 rfl) (zi_at zh_dX13_tryChanges_16_16 13 rfl) rfl
theorem dX13_tryChanges_30 : decode cX13_tryChanges 30 = .ok (.iinc 2 1, 3) := zo_132 (zi_at zh_dX13_tryChanges_16_16 14 rfl) (zi_at zh_dX13_tryChanges_16_16 15 rfl) (zi_at zh_dX13_tryChanges_30_32 0 rfl) rfl
theorem dX13_tryChanges_33 : decode cX13_tryChanges 33 = .ok (.goto (-22), 3) := zo_167 (zi_at zh_dX13_tryChanges_30_32 1 rfl) (zi_at zh_dX13_tryChanges_30_32 2 rfl) (zi_at zh_dX13_tryChanges_30_32 3 rfl) rfl
theorem dX13_tryChanges_36 : decode cX13_tryChanges 36 = .ok (.return_, 1) := zo_177 (zi_at zh_dX13_tryChanges_30_32 4 rfl)
theorem dX13_tryChanges_37 : decode cX13_tryChanges 37 = .ok (.iconst 0, 1) := zo_3 (zi_at zh_dX13_tryChanges_30_32 5 rfl)
theorem dX13_tryChanges_38 : decode cX13_tryChanges 38 = .ok (.istore_n 2, 1) := zo_61 (zi_at zh_dX13_tryChanges_30_32 6 rfl)
theorem dX13_tryChanges_39 : decode cX13_tryChanges 39 = .ok (.iconst 0, 1) := zo_3 (zi_at zh_dX13_tryChanges_30_32 7 rfl)
theorem dX13_tryChanges_40 : decode cX13_tryChanges 40 = .ok (.istore_n 3, 1) := zo_62 (zi_at zh_dX13_tryChanges_30_32 8 rfl)
theorem dX13_tryChanges_41 : decode cX13_tryChanges 41 = .ok (.iconst 0, 1) := zo_3 (zi_at zh_dX13_tryChanges_30_32 9 rfl)
theorem dX13_tryChanges_42 : decode cX13_tryChanges 42 = .ok (.istore 4, 2) := zo_54 (zi_at zh_dX13_tryChanges_30_32 10 rfl) (zi_at zh_dX13_tryChanges_30_32 11 rfl)
theorem dX13_tryChanges_44 : decode cX13_tryChanges 44 = .ok (.iload 4, 2) := zo_21 (zi_at zh_dX13_tryChanges_30_32 12 rfl) (zi_at zh_dX13_tryChanges_30_32 13 rfl)
theorem dX13_tryChanges_46 : decode cX13_tryChanges 46 = .ok (.aload_n 0, 1) := zo_42 (zi_at zh_dX13_tryChanges_30_32 14 rfl)
theorem dX13_tryChanges_47 : decode cX13_tryChanges 47 = .ok (.getfield 508, 3) := zo_180 (zi_at zh_dX13_tryChanges_30_32 15 rfl) (zi_at zh_dX13_tryChanges_47_48 0 rfl) (zi_at zh_dX13_tryChanges_47_48 1 rfl) rfl
theorem dX13_tryChanges_50 : decode cX13_tryChanges 50 = .ok (.if_icmp .ge 22, 3) := zo_162 (zi_at zh_dX13_tryChanges_47_48 2 rfl) (zi_at zh_dX13_tryChanges_47_48 3 rfl) (zi_at zh_dX13_tryChanges_47_48 4 rfl) rfl
theorem dX13_tryChanges_53 : decode cX13_tryChanges 53 = .ok (.iload_n 3, 1) := zo_29 (zi_at zh_dX13_tryChanges_47_48 5 rfl)
theorem dX13_tryChanges_54 : decode cX13_tryChanges 54 = .ok (.aload_n 0, 1) := zo_42 (zi_at zh_dX13_tryChanges_47_48 6 rfl)
theorem dX13_tryChanges_55 : decode cX13_tryChanges 55 = .ok (.getfield 204, 3) := zo_180 (zi_at zh_dX13_tryChanges_47_48 7 rfl) (zi_at zh_dX13_tryChanges_47_48 8 rfl) (zi_at zh_dX13_tryChanges_47_48 9 rfl) rfl
theorem dX13_tryChanges_58 : decode cX13_tryChanges 58 = .ok (.iload 4, 2) := zo_21 (zi_at zh_dX13_tryChanges_47_48 10 rfl) (zi_at zh_dX13_tryChanges_47_48 11 rfl)
theorem dX13_tryChanges_60 : decode cX13_tryChanges 60 = .ok (.iaload, 1) := zo_46 (zi_at zh_dX13_tryChanges_47_48 12 rfl)
theorem dX13_tryChanges_61 : decode cX13_tryChanges 61 = .ok (.invokestatic 474, 3) := zo_184 (zi_at zh_dX13_tryChanges_47_48 13 rfl) (zi_at zh_dX13_tryChanges_47_48 14 rfl) (zi_at zh_dX13_tryChanges_47_48 15 rfl) rfl
theorem dX13_tryChanges_64 : decode cX13_tryChanges 64 = .ok (.iadd, 1) := zo_96 (zi_at zh_dX13_tryChanges_64_64 0 rfl)
theorem dX13_tryChanges_65 : decode cX13_tryChanges 65 = .ok (.istore_n 3, 1) := zo_62 (zi_at zh_dX13_tryChanges_64_64 1 rfl)
theorem dX13_tryChanges_66 : decode cX13_tryChanges 66 = .ok (.iinc 4 1, 3) := zo_132 (zi_at zh_dX13_tryChanges_64_64 2 rfl) (zi_at zh_dX13_tryChanges_64_64 3 rfl) (zi_at zh_dX13_tryChanges_64_64 4 rfl) rfl
theorem dX13_tryChanges_69 : decode cX13_tryChanges 69 = .ok (.goto (-25), 3) := zo_167 (zi_at zh_dX13_tryChanges_64_64 5 rfl) (zi_at zh_dX13_tryChanges_64_64 6 rfl) (zi_at zh_dX13_tryChanges_64_64 7 rfl) rfl
theorem dX13_tryChanges_72 : decode cX13_tryChanges 72 = .ok (.iconst 0, 1) := zo_3 (zi_at zh_dX13_tryChanges_64_64 8 rfl)
theorem dX13_tryChanges_73 : decode cX13_tryChanges 73 = .ok (.istore 4, 2) := zo_54 (zi_at zh_dX13_tryChanges_64_64 9 rfl) (zi_at zh_dX13_tryChanges_64_64 10 rfl)
theorem dX13_tryChanges_75 : decode cX13_tryChanges 75 = .ok (.iload 4, 2) := zo_21 (zi_at zh_dX13_tryChanges_64_64 11 rfl) (zi_at zh_dX13_tryChanges_64_64 12 rfl)
theorem dX13_tryChanges_77 : decode cX13_tryChanges 77 = .ok (.aload_n 0, 1) := zo_42 (zi_at zh_dX13_tryChanges_64_64 13 rfl)
theorem dX13_tryChanges_78 : decode cX13_tryChanges 78 = .ok (.getfield 511, 3) := zo_180 (zi_at zh_dX13_tryChanges_64_64 14 rfl) (zi_at zh_dX13_tryChanges_64_64 15 rfl) (zi_at zh_dX13_tryChanges_78_80 0 rfl) rfl
theorem dX13_tryChanges_81 : decode cX13_tryChanges 81 = .ok (.if_icmp .ge 124, 3) := zo_162 (zi_at zh_dX13_tryChanges_78_80 1 rfl) (zi_at zh_dX13_tryChanges_78_80 2 rfl) (zi_at zh_dX13_tryChanges_78_80 3 rfl) rfl
theorem dX13_tryChanges_84 : decode cX13_tryChanges 84 = .ok (.ldc_w 520, 3) := zo_19 (zi_at zh_dX13_tryChanges_78_80 4 rfl) (zi_at zh_dX13_tryChanges_78_80 5 rfl) (zi_at zh_dX13_tryChanges_78_80 6 rfl) rfl
theorem dX13_tryChanges_87 : decode cX13_tryChanges 87 = .ok (.istore 5, 2) := zo_54 (zi_at zh_dX13_tryChanges_78_80 7 rfl) (zi_at zh_dX13_tryChanges_78_80 8 rfl)
theorem dX13_tryChanges_89 : decode cX13_tryChanges 89 = .ok (.ldc_w 521, 3) := zo_19 (zi_at zh_dX13_tryChanges_78_80 9 rfl) (zi_at zh_dX13_tryChanges_78_80 10 rfl) (zi_at zh_dX13_tryChanges_78_80 11 rfl) rfl
theorem dX13_tryChanges_92 : decode cX13_tryChanges 92 = .ok (.istore 6, 2) := zo_54 (zi_at zh_dX13_tryChanges_78_80 12 rfl) (zi_at zh_dX13_tryChanges_78_80 13 rfl)
theorem dX13_tryChanges_94 : decode cX13_tryChanges 94 = .ok (.iconst 0, 1) := zo_3 (zi_at zh_dX13_tryChanges_78_80 14 rfl)
theorem dX13_tryChanges_95 : decode cX13_tryChanges 95 = .ok (.istore 7, 2) := zo_54 (zi_at zh_dX13_tryChanges_78_80 15 rfl) (zi_at zh_dX13_tryChanges_95_96 0 rfl)
theorem dX13_tryChanges_97 : decode cX13_tryChanges 97 = .ok (.iload 7, 2) := zo_21 (zi_at zh_dX13_tryChanges_95_96 1 rfl) (zi_at zh_dX13_tryChanges_95_96 2 rfl)
theorem dX13_tryChanges_99 : decode cX13_tryChanges 99 = .ok (.aload_n 0, 1) := zo_42 (zi_at zh_dX13_tryChanges_95_96 3 rfl)
theorem dX13_tryChanges_100 : decode cX13_tryChanges 100 = .ok (.getfield 508, 3) := zo_180 (zi_at zh_dX13_tryChanges_95_96 4 rfl) (zi_at zh_dX13_tryChanges_95_96 5 rfl) (zi_at zh_dX13_tryChanges_95_96 6 rfl) rfl
theorem dX13_tryChanges_103 : decode cX13_tryChanges 103 = .ok (.if_icmp .ge 88, 3) := zo_162 (zi_at zh_dX13_tryChanges_95_96 7 rfl) (zi_at zh_dX13_tryChanges_95_96 8 rfl) (zi_at zh_dX13_tryChanges_95_96 9 rfl) rfl
theorem dX13_tryChanges_106 : decode cX13_tryChanges 106 = .ok (.aload_n 0, 1) := zo_42 (zi_at zh_dX13_tryChanges_95_96 10 rfl)
theorem dX13_tryChanges_107 : decode cX13_tryChanges 107 = .ok (.getfield 198, 3) := zo_180 (zi_at zh_dX13_tryChanges_95_96 11 rfl) (zi_at zh_dX13_tryChanges_95_96 12 rfl) (zi_at zh_dX13_tryChanges_95_96 13 rfl) rfl
theorem dX13_tryChanges_110 : decode cX13_tryChanges 110 = .ok (.iconst 4, 1) := zo_7 (zi_at zh_dX13_tryChanges_95_96 14 rfl)
theorem dX13_tryChanges_111 : decode cX13_tryChanges 111 = .ok (.iload 4, 2) := zo_21 (zi_at zh_dX13_tryChanges_95_96 15 rfl) (zi_at zh_dX13_tryChanges_111_112 0 rfl)
theorem dX13_tryChanges_113 : decode cX13_tryChanges 113 = .ok (.imul, 1) := zo_104 (zi_at zh_dX13_tryChanges_111_112 1 rfl)
theorem dX13_tryChanges_114 : decode cX13_tryChanges 114 = .ok (.iload 7, 2) := zo_21 (zi_at zh_dX13_tryChanges_111_112 2 rfl) (zi_at zh_dX13_tryChanges_111_112 3 rfl)
theorem dX13_tryChanges_116 : decode cX13_tryChanges 116 = .ok (.iadd, 1) := zo_96 (zi_at zh_dX13_tryChanges_111_112 4 rfl)
theorem dX13_tryChanges_117 : decode cX13_tryChanges 117 = .ok (.iaload, 1) := zo_46 (zi_at zh_dX13_tryChanges_111_112 5 rfl)
theorem dX13_tryChanges_118 : decode cX13_tryChanges 118 = .ok (.ifCond .ne 6, 3) := zo_154 (zi_at zh_dX13_tryChanges_111_112 6 rfl) (zi_at zh_dX13_tryChanges_111_112 7 rfl) (zi_at zh_dX13_tryChanges_111_112 8 rfl) rfl
theorem dX13_tryChanges_121 : decode cX13_tryChanges 121 = .ok (.goto 64, 3) := zo_167 (zi_at zh_dX13_tryChanges_111_112 9 rfl) (zi_at zh_dX13_tryChanges_111_112 10 rfl) (zi_at zh_dX13_tryChanges_111_112 11 rfl) rfl
theorem dX13_tryChanges_124 : decode cX13_tryChanges 124 = .ok (.aload_n 0, 1) := zo_42 (zi_at zh_dX13_tryChanges_111_112 12 rfl)
theorem dX13_tryChanges_125 : decode cX13_tryChanges 125 = .ok (.getfield 198, 3) := zo_180 (zi_at zh_dX13_tryChanges_111_112 13 rfl) (zi_at zh_dX13_tryChanges_111_112 14 rfl) (zi_at zh_dX13_tryChanges_111_112 15 rfl) rfl
theorem dX13_tryChanges_128 : decode cX13_tryChanges 128 = .ok (.iconst 4, 1) := zo_7 (zi_at zh_dX13_tryChanges_128_128 0 rfl)
theorem dX13_tryChanges_129 : decode cX13_tryChanges 129 = .ok (.iload 4, 2) := zo_21 (zi_at zh_dX13_tryChanges_128_128 1 rfl) (zi_at zh_dX13_tryChanges_128_128 2 rfl)
theorem dX13_tryChanges_131 : decode cX13_tryChanges 131 = .ok (.imul, 1) := zo_104 (zi_at zh_dX13_tryChanges_128_128 3 rfl)
theorem dX13_tryChanges_132 : decode cX13_tryChanges 132 = .ok (.iload 7, 2) := zo_21 (zi_at zh_dX13_tryChanges_128_128 4 rfl) (zi_at zh_dX13_tryChanges_128_128 5 rfl)
theorem dX13_tryChanges_134 : decode cX13_tryChanges 134 = .ok (.iadd, 1) := zo_96 (zi_at zh_dX13_tryChanges_128_128 6 rfl)
theorem dX13_tryChanges_135 : decode cX13_tryChanges 135 = .ok (.iaload, 1) := zo_46 (zi_at zh_dX13_tryChanges_128_128 7 rfl)
theorem dX13_tryChanges_136 : decode cX13_tryChanges 136 = .ok (.iconst 1, 1) := zo_4 (zi_at zh_dX13_tryChanges_128_128 8 rfl)
theorem dX13_tryChanges_137 : decode cX13_tryChanges 137 = .ok (.aload_n 0, 1) := zo_42 (zi_at zh_dX13_tryChanges_128_128 9 rfl)
theorem dX13_tryChanges_138 : decode cX13_tryChanges 138 = .ok (.getfield 201, 3) := zo_180 (zi_at zh_dX13_tryChanges_128_128 10 rfl) (zi_at zh_dX13_tryChanges_128_128 11 rfl) (zi_at zh_dX13_tryChanges_128_128 12 rfl) rfl
theorem dX13_tryChanges_141 : decode cX13_tryChanges 141 = .ok (.iconst 4, 1) := zo_7 (zi_at zh_dX13_tryChanges_128_128 13 rfl)
theorem dX13_tryChanges_142 : decode cX13_tryChanges 142 = .ok (.iload 4, 2) := zo_21 (zi_at zh_dX13_tryChanges_128_128 14 rfl) (zi_at zh_dX13_tryChanges_128_128 15 rfl)
theorem dX13_tryChanges_144 : decode cX13_tryChanges 144 = .ok (.imul, 1) := zo_104 (zi_at zh_dX13_tryChanges_144_144 0 rfl)
theorem dX13_tryChanges_145 : decode cX13_tryChanges 145 = .ok (.iload 7, 2) := zo_21 (zi_at zh_dX13_tryChanges_144_144 1 rfl) (zi_at zh_dX13_tryChanges_144_144 2 rfl)
theorem dX13_tryChanges_147 : decode cX13_tryChanges 147 = .ok (.iadd, 1) := zo_96 (zi_at zh_dX13_tryChanges_144_144 3 rfl)
theorem dX13_tryChanges_148 : decode cX13_tryChanges 148 = .ok (.iaload, 1) := zo_46 (zi_at zh_dX13_tryChanges_144_144 4 rfl)
theorem dX13_tryChanges_149 : decode cX13_tryChanges 149 = .ok (.aload_n 0, 1) := zo_42 (zi_at zh_dX13_tryChanges_144_144 5 rfl)
theorem dX13_tryChanges_150 : decode cX13_tryChanges 150 = .ok (.getfield 204, 3) := zo_180 (zi_at zh_dX13_tryChanges_144_144 6 rfl) (zi_at zh_dX13_tryChanges_144_144 7 rfl) (zi_at zh_dX13_tryChanges_144_144 8 rfl) rfl
theorem dX13_tryChanges_153 : decode cX13_tryChanges 153 = .ok (.iload 7, 2) := zo_21 (zi_at zh_dX13_tryChanges_144_144 9 rfl) (zi_at zh_dX13_tryChanges_144_144 10 rfl)
theorem dX13_tryChanges_155 : decode cX13_tryChanges 155 = .ok (.iaload, 1) := zo_46 (zi_at zh_dX13_tryChanges_144_144 11 rfl)
theorem dX13_tryChanges_156 : decode cX13_tryChanges 156 = .ok (.iadd, 1) := zo_96 (zi_at zh_dX13_tryChanges_144_144 12 rfl)
theorem dX13_tryChanges_157 : decode cX13_tryChanges 157 = .ok (.invokestatic 385, 3) := zo_184 (zi_at zh_dX13_tryChanges_144_144 13 rfl) (zi_at zh_dX13_tryChanges_144_144 14 rfl) (zi_at zh_dX13_tryChanges_144_144 15 rfl) rfl
theorem dX13_tryChanges_160 : decode cX13_tryChanges 160 = .ok (.imul, 1) := zo_104 (zi_at zh_dX13_tryChanges_160_160 0 rfl)
theorem dX13_tryChanges_161 : decode cX13_tryChanges 161 = .ok (.sipush 1000, 3) := zo_17 (zi_at zh_dX13_tryChanges_160_160 1 rfl) (zi_at zh_dX13_tryChanges_160_160 2 rfl) (zi_at zh_dX13_tryChanges_160_160 3 rfl) rfl
theorem dX13_tryChanges_164 : decode cX13_tryChanges 164 = .ok (.idiv, 1) := zo_108 (zi_at zh_dX13_tryChanges_160_160 4 rfl)
theorem dX13_tryChanges_165 : decode cX13_tryChanges 165 = .ok (.istore 8, 2) := zo_54 (zi_at zh_dX13_tryChanges_160_160 5 rfl) (zi_at zh_dX13_tryChanges_160_160 6 rfl)
theorem dX13_tryChanges_167 : decode cX13_tryChanges 167 = .ok (.iload 5, 2) := zo_21 (zi_at zh_dX13_tryChanges_160_160 7 rfl) (zi_at zh_dX13_tryChanges_160_160 8 rfl)
theorem dX13_tryChanges_169 : decode cX13_tryChanges 169 = .ok (.iload 8, 2) := zo_21 (zi_at zh_dX13_tryChanges_160_160 9 rfl) (zi_at zh_dX13_tryChanges_160_160 10 rfl)
theorem dX13_tryChanges_171 : decode cX13_tryChanges 171 = .ok (.invokestatic 383, 3) := zo_184 (zi_at zh_dX13_tryChanges_160_160 11 rfl) (zi_at zh_dX13_tryChanges_160_160 12 rfl) (zi_at zh_dX13_tryChanges_160_160 13 rfl) rfl
theorem dX13_tryChanges_174 : decode cX13_tryChanges 174 = .ok (.istore 5, 2) := zo_54 (zi_at zh_dX13_tryChanges_160_160 14 rfl) (zi_at zh_dX13_tryChanges_160_160 15 rfl)
theorem dX13_tryChanges_176 : decode cX13_tryChanges 176 = .ok (.iload 6, 2) := zo_21 (zi_at zh_dX13_tryChanges_176_176 0 rfl) (zi_at zh_dX13_tryChanges_176_176 1 rfl)
theorem dX13_tryChanges_178 : decode cX13_tryChanges 178 = .ok (.iload 8, 2) := zo_21 (zi_at zh_dX13_tryChanges_176_176 2 rfl) (zi_at zh_dX13_tryChanges_176_176 3 rfl)
theorem dX13_tryChanges_180 : decode cX13_tryChanges 180 = .ok (.invokestatic 385, 3) := zo_184 (zi_at zh_dX13_tryChanges_176_176 4 rfl) (zi_at zh_dX13_tryChanges_176_176 5 rfl) (zi_at zh_dX13_tryChanges_176_176 6 rfl) rfl
theorem dX13_tryChanges_183 : decode cX13_tryChanges 183 = .ok (.istore 6, 2) := zo_54 (zi_at zh_dX13_tryChanges_176_176 7 rfl) (zi_at zh_dX13_tryChanges_176_176 8 rfl)
theorem dX13_tryChanges_185 : decode cX13_tryChanges 185 = .ok (.iinc 7 1, 3) := zo_132 (zi_at zh_dX13_tryChanges_176_176 9 rfl) (zi_at zh_dX13_tryChanges_176_176 10 rfl) (zi_at zh_dX13_tryChanges_176_176 11 rfl) rfl
theorem dX13_tryChanges_188 : decode cX13_tryChanges 188 = .ok (.goto (-91), 3) := zo_167 (zi_at zh_dX13_tryChanges_176_176 12 rfl) (zi_at zh_dX13_tryChanges_176_176 13 rfl) (zi_at zh_dX13_tryChanges_176_176 14 rfl) rfl
theorem dX13_tryChanges_191 : decode cX13_tryChanges 191 = .ok (.iload_n 2, 1) := zo_28 (zi_at zh_dX13_tryChanges_176_176 15 rfl)
theorem dX13_tryChanges_192 : decode cX13_tryChanges 192 = .ok (.iload 6, 2) := zo_21 (zi_at zh_dX13_tryChanges_192_192 0 rfl) (zi_at zh_dX13_tryChanges_192_192 1 rfl)
theorem dX13_tryChanges_194 : decode cX13_tryChanges 194 = .ok (.iload 5, 2) := zo_21 (zi_at zh_dX13_tryChanges_192_192 2 rfl) (zi_at zh_dX13_tryChanges_192_192 3 rfl)
theorem dX13_tryChanges_196 : decode cX13_tryChanges 196 = .ok (.isub, 1) := zo_100 (zi_at zh_dX13_tryChanges_192_192 4 rfl)
theorem dX13_tryChanges_197 : decode cX13_tryChanges 197 = .ok (.iadd, 1) := zo_96 (zi_at zh_dX13_tryChanges_192_192 5 rfl)
theorem dX13_tryChanges_198 : decode cX13_tryChanges 198 = .ok (.istore_n 2, 1) := zo_61 (zi_at zh_dX13_tryChanges_192_192 6 rfl)
theorem dX13_tryChanges_199 : decode cX13_tryChanges 199 = .ok (.iinc 4 1, 3) := zo_132 (zi_at zh_dX13_tryChanges_192_192 7 rfl) (zi_at zh_dX13_tryChanges_192_192 8 rfl) (zi_at zh_dX13_tryChanges_192_192 9 rfl) rfl
theorem dX13_tryChanges_202 : decode cX13_tryChanges 202 = .ok (.goto (-127), 3) := zo_167 (zi_at zh_dX13_tryChanges_192_192 10 rfl) (zi_at zh_dX13_tryChanges_192_192 11 rfl) (zi_at zh_dX13_tryChanges_192_192 12 rfl) rfl
theorem dX13_tryChanges_205 : decode cX13_tryChanges 205 = .ok (.aload_n 0, 1) := zo_42 (zi_at zh_dX13_tryChanges_192_192 13 rfl)
theorem dX13_tryChanges_206 : decode cX13_tryChanges 206 = .ok (.getfield 514, 3) := zo_180 (zi_at zh_dX13_tryChanges_192_192 14 rfl) (zi_at zh_dX13_tryChanges_192_192 15 rfl) (zi_at zh_dX13_tryChanges_206_208 0 rfl) rfl
theorem dX13_tryChanges_209 : decode cX13_tryChanges 209 = .ok (.iconst (-1), 1) := zo_2 (zi_at zh_dX13_tryChanges_206_208 1 rfl)
theorem dX13_tryChanges_210 : decode cX13_tryChanges 210 = .ok (.if_icmp .eq 28, 3) := zo_159 (zi_at zh_dX13_tryChanges_206_208 2 rfl) (zi_at zh_dX13_tryChanges_206_208 3 rfl) (zi_at zh_dX13_tryChanges_206_208 4 rfl) rfl
theorem dX13_tryChanges_213 : decode cX13_tryChanges 213 = .ok (.iload_n 2, 1) := zo_28 (zi_at zh_dX13_tryChanges_206_208 5 rfl)
theorem dX13_tryChanges_214 : decode cX13_tryChanges 214 = .ok (.aload_n 0, 1) := zo_42 (zi_at zh_dX13_tryChanges_206_208 6 rfl)
theorem dX13_tryChanges_215 : decode cX13_tryChanges 215 = .ok (.getfield 514, 3) := zo_180 (zi_at zh_dX13_tryChanges_206_208 7 rfl) (zi_at zh_dX13_tryChanges_206_208 8 rfl) (zi_at zh_dX13_tryChanges_206_208 9 rfl) rfl
theorem dX13_tryChanges_218 : decode cX13_tryChanges 218 = .ok (.if_icmp .gt 19, 3) := zo_163 (zi_at zh_dX13_tryChanges_206_208 10 rfl) (zi_at zh_dX13_tryChanges_206_208 11 rfl) (zi_at zh_dX13_tryChanges_206_208 12 rfl) rfl
theorem dX13_tryChanges_221 : decode cX13_tryChanges 221 = .ok (.iload_n 2, 1) := zo_28 (zi_at zh_dX13_tryChanges_206_208 13 rfl)
theorem dX13_tryChanges_222 : decode cX13_tryChanges 222 = .ok (.aload_n 0, 1) := zo_42 (zi_at zh_dX13_tryChanges_206_208 14 rfl)
theorem dX13_tryChanges_223 : decode cX13_tryChanges 223 = .ok (.getfield 514, 3) := zo_180 (zi_at zh_dX13_tryChanges_206_208 15 rfl) (zi_at zh_dX13_tryChanges_223_224 0 rfl) (zi_at zh_dX13_tryChanges_223_224 1 rfl) rfl
theorem dX13_tryChanges_226 : decode cX13_tryChanges 226 = .ok (.if_icmp .ne 12, 3) := zo_160 (zi_at zh_dX13_tryChanges_223_224 2 rfl) (zi_at zh_dX13_tryChanges_223_224 3 rfl) (zi_at zh_dX13_tryChanges_223_224 4 rfl) rfl
theorem dX13_tryChanges_229 : decode cX13_tryChanges 229 = .ok (.iload_n 3, 1) := zo_29 (zi_at zh_dX13_tryChanges_223_224 5 rfl)
theorem dX13_tryChanges_230 : decode cX13_tryChanges 230 = .ok (.aload_n 0, 1) := zo_42 (zi_at zh_dX13_tryChanges_223_224 6 rfl)
theorem dX13_tryChanges_231 : decode cX13_tryChanges 231 = .ok (.getfield 522, 3) := zo_180 (zi_at zh_dX13_tryChanges_223_224 7 rfl) (zi_at zh_dX13_tryChanges_223_224 8 rfl) (zi_at zh_dX13_tryChanges_223_224 9 rfl) rfl
theorem dX13_tryChanges_234 : decode cX13_tryChanges 234 = .ok (.if_icmp .lt 4, 3) := zo_161 (zi_at zh_dX13_tryChanges_223_224 10 rfl) (zi_at zh_dX13_tryChanges_223_224 11 rfl) (zi_at zh_dX13_tryChanges_223_224 12 rfl) rfl
theorem dX13_tryChanges_237 : decode cX13_tryChanges 237 = .ok (.return_, 1) := zo_177 (zi_at zh_dX13_tryChanges_223_224 13 rfl)
theorem dX13_tryChanges_238 : decode cX13_tryChanges 238 = .ok (.aload_n 0, 1) := zo_42 (zi_at zh_dX13_tryChanges_223_224 14 rfl)
theorem dX13_tryChanges_239 : decode cX13_tryChanges 239 = .ok (.iload_n 2, 1) := zo_28 (zi_at zh_dX13_tryChanges_223_224 15 rfl)
theorem dX13_tryChanges_240 : decode cX13_tryChanges 240 = .ok (.putfield 514, 3) := zo_181 (zi_at zh_dX13_tryChanges_240_240 0 rfl) (zi_at zh_dX13_tryChanges_240_240 1 rfl) (zi_at zh_dX13_tryChanges_240_240 2 rfl) rfl
theorem dX13_tryChanges_243 : decode cX13_tryChanges 243 = .ok (.aload_n 0, 1) := zo_42 (zi_at zh_dX13_tryChanges_240_240 3 rfl)
theorem dX13_tryChanges_244 : decode cX13_tryChanges 244 = .ok (.iload_n 3, 1) := zo_29 (zi_at zh_dX13_tryChanges_240_240 4 rfl)
theorem dX13_tryChanges_245 : decode cX13_tryChanges 245 = .ok (.putfield 522, 3) := zo_181 (zi_at zh_dX13_tryChanges_240_240 5 rfl) (zi_at zh_dX13_tryChanges_240_240 6 rfl) (zi_at zh_dX13_tryChanges_240_240 7 rfl) rfl
theorem dX13_tryChanges_248 : decode cX13_tryChanges 248 = .ok (.iconst 0, 1) := zo_3 (zi_at zh_dX13_tryChanges_240_240 8 rfl)
theorem dX13_tryChanges_249 : decode cX13_tryChanges 249 = .ok (.istore 4, 2) := zo_54 (zi_at zh_dX13_tryChanges_240_240 9 rfl) (zi_at zh_dX13_tryChanges_240_240 10 rfl)
theorem dX13_tryChanges_251 : decode cX13_tryChanges 251 = .ok (.iload 4, 2) := zo_21 (zi_at zh_dX13_tryChanges_240_240 11 rfl) (zi_at zh_dX13_tryChanges_240_240 12 rfl)
theorem dX13_tryChanges_253 : decode cX13_tryChanges 253 = .ok (.aload_n 0, 1) := zo_42 (zi_at zh_dX13_tryChanges_240_240 13 rfl)
theorem dX13_tryChanges_254 : decode cX13_tryChanges 254 = .ok (.getfield 508, 3) := zo_180 (zi_at zh_dX13_tryChanges_240_240 14 rfl) (zi_at zh_dX13_tryChanges_240_240 15 rfl) (zi_at zh_dX13_tryChanges_254_256 0 rfl) rfl
theorem dX13_tryChanges_257 : decode cX13_tryChanges 257 = .ok (.if_icmp .ge 23, 3) := zo_162 (zi_at zh_dX13_tryChanges_254_256 1 rfl) (zi_at zh_dX13_tryChanges_254_256 2 rfl) (zi_at zh_dX13_tryChanges_254_256 3 rfl) rfl
theorem dX13_tryChanges_260 : decode cX13_tryChanges 260 = .ok (.aload_n 0, 1) := zo_42 (zi_at zh_dX13_tryChanges_254_256 4 rfl)
theorem dX13_tryChanges_261 : decode cX13_tryChanges 261 = .ok (.getfield 207, 3) := zo_180 (zi_at zh_dX13_tryChanges_254_256 5 rfl) (zi_at zh_dX13_tryChanges_254_256 6 rfl) (zi_at zh_dX13_tryChanges_254_256 7 rfl) rfl
theorem dX13_tryChanges_264 : decode cX13_tryChanges 264 = .ok (.iload 4, 2) := zo_21 (zi_at zh_dX13_tryChanges_254_256 8 rfl) (zi_at zh_dX13_tryChanges_254_256 9 rfl)
theorem dX13_tryChanges_266 : decode cX13_tryChanges 266 = .ok (.aload_n 0, 1) := zo_42 (zi_at zh_dX13_tryChanges_254_256 10 rfl)
theorem dX13_tryChanges_267 : decode cX13_tryChanges 267 = .ok (.getfield 204, 3) := zo_180 (zi_at zh_dX13_tryChanges_254_256 11 rfl) (zi_at zh_dX13_tryChanges_254_256 12 rfl) (zi_at zh_dX13_tryChanges_254_256 13 rfl) rfl
theorem dX13_tryChanges_270 : decode cX13_tryChanges 270 = .ok (.iload 4, 2) := zo_21 (zi_at zh_dX13_tryChanges_254_256 14 rfl) (zi_at zh_dX13_tryChanges_254_256 15 rfl)
theorem dX13_tryChanges_272 : decode cX13_tryChanges 272 = .ok (.iaload, 1) := zo_46 (zi_at zh_dX13_tryChanges_272_272 0 rfl)
theorem dX13_tryChanges_273 : decode cX13_tryChanges 273 = .ok (.iastore, 1) := zo_79 (zi_at zh_dX13_tryChanges_272_272 1 rfl)
theorem dX13_tryChanges_274 : decode cX13_tryChanges 274 = .ok (.iinc 4 1, 3) := zo_132 (zi_at zh_dX13_tryChanges_272_272 2 rfl) (zi_at zh_dX13_tryChanges_272_272 3 rfl) (zi_at zh_dX13_tryChanges_272_272 4 rfl) rfl
theorem dX13_tryChanges_277 : decode cX13_tryChanges 277 = .ok (.goto (-26), 3) := zo_167 (zi_at zh_dX13_tryChanges_272_272 5 rfl) (zi_at zh_dX13_tryChanges_272_272 6 rfl) (zi_at zh_dX13_tryChanges_272_272 7 rfl) rfl
theorem dX13_tryChanges_280 : decode cX13_tryChanges 280 = .ok (.return_, 1) := zo_177 (zi_at zh_dX13_tryChanges_272_272 8 rfl)
/-! ===== a PROTEST that is not decided was decided once at most ===== -/
def DIr (gI gD : Nat → Int32) : Prop := ∀ p : Nat, gI p = 0 → (gD p).toInt ≤ 1
theorem DIr_upd {gI gD : Nat → Int32} {k : Nat} {x : Int32} (h : DIr gI gD) : DIr (upd gI k 1) (upd gD k x) := by
  intro p hp
  by_cases e : p = k
  · subst e
    rw [pk_us] at hp
    exact absurd hp (by decide)
  · rw [pk_un e] at hp ⊢
    exact h p hp
theorem DIr_re {gI gD : Nat → Int32} {k : Nat} (h : DIr gI gD) (h1 : (gD k).toInt ≤ 1) : DIr (upd gI k 0) gD := by
  intro p hp
  by_cases e : p = k
  · subst e
    exact h1
  · rw [pk_un e] at hp
    exact h p hp
/-! ===== bits of a number ===== -/
def pcS (n : Nat) : Nat → Nat
  | 0 => 0
  | k + 1 => pcS n k + n / 2 ^ k % 2
def pcU (n : Nat) : Nat := 0 + n / 1 % 2 + n / 2 % 2 + n / 4 % 2 + n / 8 % 2 + n / 16 % 2 + n / 32 % 2 + n / 64 % 2 + n / 128 % 2 + n / 256 % 2 + n / 512 % 2 + n / 1024 % 2 + n / 2048 % 2 + n / 4096 % 2 + n / 8192 % 2 + n / 16384 % 2 + n / 32768 % 2
theorem pcU_eq (n : Nat) : pcU n = pcS n 16 := rfl
theorem pcS_mono (n : Nat) {j k : Nat} (h : j ≤ k) : pcS n j ≤ pcS n k := by
  induction k with
  | zero =>
    rw [show j = 0 by omega]
    exact Nat.le_refl _
  | succ k ih =>
    by_cases e : j = k + 1
    · rw [e]
      exact Nat.le_refl _
    · have := ih (by omega)
      simp only [pcS]
      omega
theorem nI_and (a b : Nat) : nI a &&& nI b = nI (a &&& b) := by
  apply Int32.toBitVec_inj.mp
  rw [Int32.toBitVec_and]
  show BitVec.ofNat 32 a &&& BitVec.ofNat 32 b = BitVec.ofNat 32 (a &&& b)
  exact (BitVec.ofNat_and).symm
theorem bit_at {a v y1 y2 : Int32} (h0 : 0 ≤ a.toInt) (hv : 0 ≤ v.toInt ∧ v.toInt ≤ 31) (e1 : y1 = a >>> (v &&& 31)) (e2 : y2 = y1 &&& 1) : y2 = nI (a.toNatClampNeg / 2 ^ v.toNatClampNeg % 2) := by
  have ha : a = nI a.toNatClampNeg := (nI_tn h0).symm
  have hvv : v = nI v.toNatClampNeg := (nI_tn hv.1).symm
  have hlt : a.toNatClampNeg < 2 ^ 31 := by rw [tn_]; have := (iv_all a).2; omega
  have hk : v.toNatClampNeg < 32 := by rw [tn_]; omega
  have e3 : y1 = nI (a.toNatClampNeg / 2 ^ v.toNatClampNeg) := by
    rw [e1]
    conv => lhs; rw [ha, hvv]
    exact pk_shrN hlt _ _ (s_l _ hk)
  rw [e2, e3]
  have h5 : a.toNatClampNeg / 2 ^ v.toNatClampNeg < 2 ^ 32 := Nat.lt_of_le_of_lt (Nat.div_le_self _ _) (by omega)
  exact (pk_andN h5 1 (by decide)).trans (by rw [Nat.pow_one])
def bcN (n : Nat) : Nat :=
  let i1 := n - ((n / 2) &&& 1431655765)
  let i2 := (i1 &&& 858993459) + ((i1 / 4) &&& 858993459)
  let i3 := (i2 + i2 / 16) &&& 252645135
  let i4 := i3 + i3 / 256
  let i5 := i4 + i4 / 65536
  i5 &&& 63
theorem pz_and (n m : Nat) : n &&& m = 256 * (n / 256 &&& m / 256) + (n % 256 &&& m % 256) := by
  have h := Nat.div_add_mod (n &&& m) (2 ^ 8)
  rw [Nat.and_div_two_pow, Nat.and_mod_two_pow] at h
  exact h.symm
theorem pz_lo {x : Nat} (m : Nat) (h : x < 256) : x &&& m = x &&& (m % 256) := by
  have h0 := pz_and x m
  rw [Nat.div_eq_of_lt h, Nat.zero_and, Nat.mod_eq_of_lt h] at h0
  omega
theorem pz_two (u v m : Nat) (hu : u < 256) (hv : v < 256) : (256 * u + v) &&& m = 256 * (u &&& (m / 256 % 256)) + (v &&& (m % 256)) := by
  have h0 := pz_and (256 * u + v) m
  rw [show (256 * u + v) / 256 = u by omega, show (256 * u + v) % 256 = v by omega, pz_lo (m / 256) hu] at h0
  exact h0
def pzA (b : Nat) : Nat := b - ((b / 2) &&& 85)
def pzB (y : Nat) : Nat := (y &&& 51) + ((y / 4) &&& 51)
def pz_c1 (b : Nat) : Bool := Nat.beq ((128 * 0 + b / 2) &&& 85) ((b / 2) &&& 85) && Nat.beq ((128 * 1 + b / 2) &&& 85) ((b / 2) &&& 85)
def pz_c2 (b : Nat) : Bool := (Nat.beq ((64 * 0 + b / 4) &&& 51) ((b / 4) &&& 51) && Nat.beq ((64 * 1 + b / 4) &&& 51) ((b / 4) &&& 51)) && (Nat.beq ((64 * 2 + b / 4) &&& 51) ((b / 4) &&& 51) && Nat.beq ((64 * 3 + b / 4) &&& 51) ((b / 4) &&& 51))
def pz_c3 (b : Nat) : Bool := Nat.ble (b / 2 &&& 85) b && (Nat.ble (pzA b + 1) 256 && (Nat.ble (pzB (pzA b) / 16) 4 && (Nat.ble (pzB (pzA b) % 16) 4 && Nat.beq (pzB (pzA b) / 16 + pzB (pzA b) % 16) (b / 1 % 2 + b / 2 % 2 + b / 4 % 2 + b / 8 % 2 + b / 16 % 2 + b / 32 % 2 + b / 64 % 2 + b / 128 % 2))))
theorem pz_all : (List.range 256).all (fun b => pz_c1 b && (pz_c2 b && pz_c3 b)) = true := by decide +kernel
theorem pz_c (b : Nat) (hb : b < 256) : pz_c1 b = true ∧ pz_c2 b = true ∧ pz_c3 b = true := by
  have h := List.all_eq_true.mp pz_all b (List.mem_range.mpr hb)
  simpa only [Bool.and_eq_true] using h
theorem pz_f1 (c : Nat) (hc : c < 2) (b : Nat) (hb : b < 256) : (128 * c + b / 2) &&& 85 = (b / 2) &&& 85 := by
  have h := (pz_c b hb).1
  unfold pz_c1 at h
  simp only [Bool.and_eq_true] at h
  rcases (show c = 0 ∨ c = 1 by omega) with rfl | rfl
  · exact Nat.eq_of_beq_eq_true h.1
  · exact Nat.eq_of_beq_eq_true h.2
theorem pz_f2 (c : Nat) (hc : c < 4) (b : Nat) (hb : b < 256) : (64 * c + b / 4) &&& 51 = (b / 4) &&& 51 := by
  have h := (pz_c b hb).2.1
  unfold pz_c2 at h
  simp only [Bool.and_eq_true] at h
  rcases (show c = 0 ∨ c = 1 ∨ c = 2 ∨ c = 3 by omega) with rfl | rfl | rfl | rfl
  · exact Nat.eq_of_beq_eq_true h.1.1
  · exact Nat.eq_of_beq_eq_true h.1.2
  · exact Nat.eq_of_beq_eq_true h.2.1
  · exact Nat.eq_of_beq_eq_true h.2.2
theorem pz_f3 (b : Nat) (hb : b < 256) : (b / 2 &&& 85) ≤ b ∧ pzA b < 256 ∧ pzB (pzA b) / 16 ≤ 4 ∧ pzB (pzA b) % 16 ≤ 4 ∧ pzB (pzA b) / 16 + pzB (pzA b) % 16 = b / 1 % 2 + b / 2 % 2 + b / 4 % 2 + b / 8 % 2 + b / 16 % 2 + b / 32 % 2 + b / 64 % 2 + b / 128 % 2 := by
  have h := (pz_c b hb).2.2
  unfold pz_c3 at h
  simp only [Bool.and_eq_true] at h
  exact ⟨Nat.le_of_ble_eq_true h.1, Nat.le_of_ble_eq_true h.2.1, Nat.le_of_ble_eq_true h.2.2.1, Nat.le_of_ble_eq_true h.2.2.2.1, Nat.eq_of_beq_eq_true h.2.2.2.2⟩
theorem pz_1 {a b : Nat} (ha : a < 256) (hb : b < 256) : (256 * a + b) - (((256 * a + b) / 2) &&& 1431655765) = 256 * pzA a + pzA b := by
  have h1 := pz_f1 (a % 2) (by omega) b hb
  have h2 : ((256 * a + b) / 2) = 256 * (a / 2) + (128 * (a % 2) + b / 2) := by omega
  have h3 : (256 * (a / 2) + (128 * (a % 2) + b / 2)) &&& 1431655765 = 256 * ((a / 2) &&& 85) + ((128 * (a % 2) + b / 2) &&& 85) := pz_two _ _ 1431655765 (by omega) (by omega)
  have h4 := (pz_f3 a ha).1
  have h5 := (pz_f3 b hb).1
  rw [h2, h3, h1]
  show _ = 256 * (a - ((a / 2) &&& 85)) + (b - ((b / 2) &&& 85))
  generalize (a / 2) &&& 85 = x at h4 ⊢
  generalize (b / 2) &&& 85 = y at h5 ⊢
  omega
theorem pz_2 {u v : Nat} (hu : u < 256) (hv : v < 256) : ((256 * u + v) &&& 858993459) + (((256 * u + v) / 4) &&& 858993459) = 256 * pzB u + pzB v := by
  have h1 := pz_f2 (u % 4) (by omega) v hv
  have h2 : ((256 * u + v) / 4) = 256 * (u / 4) + (64 * (u % 4) + v / 4) := by omega
  have h3 : (256 * (u / 4) + (64 * (u % 4) + v / 4)) &&& 858993459 = 256 * ((u / 4) &&& 51) + ((64 * (u % 4) + v / 4) &&& 51) := pz_two _ _ 858993459 (by omega) (by omega)
  have h4 : (256 * u + v) &&& 858993459 = 256 * (u &&& 51) + (v &&& 51) := pz_two _ _ 858993459 hu hv
  rw [h2, h3, h1, h4]
  show _ = 256 * ((u &&& 51) + ((u / 4) &&& 51)) + ((v &&& 51) + ((v / 4) &&& 51))
  generalize u &&& 51 = x1
  generalize (u / 4) &&& 51 = x2
  generalize v &&& 51 = x3
  generalize (v / 4) &&& 51 = x4
  omega
theorem pz_15 {u v : Nat} (hu : u < 256) (hv : v < 256) : (256 * u + v) &&& 252645135 = 256 * (u % 16) + v % 16 := by
  have h4 : (256 * u + v) &&& 252645135 = 256 * (u &&& 15) + (v &&& 15) := pz_two _ _ 252645135 hu hv
  have e : ∀ x : Nat, x &&& 15 = x % 16 := fun x => Nat.and_two_pow_sub_one_eq_mod x 4
  rw [h4, e, e]
theorem pz_63 (x : Nat) : x &&& 63 = x % 64 := Nat.and_two_pow_sub_one_eq_mod x 6
theorem bcN_of (n i1 i2 i3 : Nat) (h1 : n - ((n / 2) &&& 1431655765) = i1) (h2 : (i1 &&& 858993459) + ((i1 / 4) &&& 858993459) = i2) (h3 : (i2 + i2 / 16) &&& 252645135 = i3) : bcN n = (i3 + i3 / 256 + (i3 + i3 / 256) / 65536) % 64 := by
  subst h1
  subst h2
  subst h3
  exact pz_63 _
theorem pz_lo2 (a b c d : Nat) (hd : 0 < d) (e : 256 = d * (2 * c)) : (256 * a + b) / d % 2 = b / d % 2 := by
  rw [e, Nat.mul_assoc, Nat.mul_add_div hd, Nat.mul_assoc]
  omega
theorem pz_hi2 (a b d : Nat) (hb : b < 256) : (256 * a + b) / (256 * d) % 2 = a / d % 2 := by
  rw [← Nat.div_div_eq_div_mul, show (256 * a + b) / 256 = a by omega]
theorem pz_sum {a b : Nat} (hb : b < 256) : pcS (256 * a + b) 16 = (b / 1 % 2 + b / 2 % 2 + b / 4 % 2 + b / 8 % 2 + b / 16 % 2 + b / 32 % 2 + b / 64 % 2 + b / 128 % 2) + (a / 1 % 2 + a / 2 % 2 + a / 4 % 2 + a / 8 % 2 + a / 16 % 2 + a / 32 % 2 + a / 64 % 2 + a / 128 % 2) := by
  rw [← pcU_eq]
  unfold pcU
  rw [pz_lo2 a b 128 1 (by decide) (by decide)]
  rw [pz_lo2 a b 64 2 (by decide) (by decide)]
  rw [pz_lo2 a b 32 4 (by decide) (by decide)]
  rw [pz_lo2 a b 16 8 (by decide) (by decide)]
  rw [pz_lo2 a b 8 16 (by decide) (by decide)]
  rw [pz_lo2 a b 4 32 (by decide) (by decide)]
  rw [pz_lo2 a b 2 64 (by decide) (by decide)]
  rw [pz_lo2 a b 1 128 (by decide) (by decide)]
  rw [show (256 * a + b) / 256 % 2 = a / 1 % 2 from pz_hi2 a b 1 hb]
  rw [show (256 * a + b) / 512 % 2 = a / 2 % 2 from pz_hi2 a b 2 hb]
  rw [show (256 * a + b) / 1024 % 2 = a / 4 % 2 from pz_hi2 a b 4 hb]
  rw [show (256 * a + b) / 2048 % 2 = a / 8 % 2 from pz_hi2 a b 8 hb]
  rw [show (256 * a + b) / 4096 % 2 = a / 16 % 2 from pz_hi2 a b 16 hb]
  rw [show (256 * a + b) / 8192 % 2 = a / 32 % 2 from pz_hi2 a b 32 hb]
  rw [show (256 * a + b) / 16384 % 2 = a / 64 % 2 from pz_hi2 a b 64 hb]
  rw [show (256 * a + b) / 32768 % 2 = a / 128 % 2 from pz_hi2 a b 128 hb]
  simp only [Nat.zero_add, Nat.add_assoc]
theorem pz_end {u1 u0 v1 v0 : Nat} (h1 : u1 ≤ 4) (h2 : u0 ≤ 4) (h3 : v1 ≤ 4) (h4 : v0 ≤ 4) : ((256 * (16 * u1 + u0) + (16 * v1 + v0)) + (256 * (16 * u1 + u0) + (16 * v1 + v0)) / 16) &&& 252645135 = 256 * (u0 + u1) + (v0 + v1) := by
  have k0 : (256 * (16 * u1 + u0) + (16 * v1 + v0)) / 16 = 16 * (16 * u1 + u0) + v1 := by omega
  have k : (256 * (16 * u1 + u0) + (16 * v1 + v0)) + (256 * (16 * u1 + u0) + (16 * v1 + v0)) / 16 = 256 * (16 * u1 + (u0 + u1)) + (16 * (u0 + v1) + (v0 + v1)) := by rw [k0]; omega
  have k1 : (16 * u1 + (u0 + u1)) % 16 = u0 + u1 := by omega
  have k2 : (16 * (u0 + v1) + (v0 + v1)) % 16 = v0 + v1 := by omega
  rw [k]
  exact (pz_15 (by omega) (by omega)).trans (by rw [k1, k2])
theorem pz_i5 {p q : Nat} (hp : p ≤ 8) (hq : q ≤ 8) : (256 * p + q + (256 * p + q) / 256 + (256 * p + q + (256 * p + q) / 256) / 65536) % 64 = p + q := by
  have m1 : (256 * p + q) / 256 = p := by omega
  have m2 : (256 * p + q + p) / 65536 = 0 := by omega
  rw [m1, m2]
  omega
theorem pz_ac (p q r s : Nat) : (p + q) + (r + s) = (s + r) + (q + p) := by omega
theorem pz_le {x y : Nat} (h : x ≤ 4) (k : y ≤ 4) : x + y ≤ 8 := by omega
theorem bcN_ok2 {a b : Nat} (ha : a < 256) (hb : b < 256) : bcN (256 * a + b) = pcS (256 * a + b) 16 := by
  obtain ⟨-, fa1, fa2, fa3, fa4⟩ := pz_f3 a ha
  obtain ⟨-, fb1, fb2, fb3, fb4⟩ := pz_f3 b hb
  have g1 := pz_1 ha hb
  have hU := Nat.div_add_mod (pzB (pzA a)) 16
  have hV := Nat.div_add_mod (pzB (pzA b)) 16
  have g2 := (pz_2 fa1 fb1).trans (show 256 * pzB (pzA a) + pzB (pzA b) = 256 * (16 * (pzB (pzA a) / 16) + pzB (pzA a) % 16) + (16 * (pzB (pzA b) / 16) + pzB (pzA b) % 16) by rw [hU, hV])
  have g3 := pz_end fa2 fa3 fb2 fb3
  have e := (bcN_of _ _ _ _ g1 g2 g3).trans (pz_i5 (pz_le fa3 fa2) (pz_le fb3 fb2))
  have e1 := pz_sum (a := a) hb
  rw [← fa4, ← fb4] at e1
  exact e.trans ((pz_ac _ _ _ _).trans e1.symm)
theorem bcN_ok3 (n a b : Nat) (e : 256 * a + b = n) (ha : a < 256) (hb : b < 256) : bcN n = pcS n 16 := by
  subst e
  exact bcN_ok2 ha hb
theorem bcN_ok {n : Nat} (h : n < 65536) : bcN n = pcS n 16 := bcN_ok3 n (n / 256) (n % 256) (Nat.div_add_mod n 256) (by omega) (by omega)
theorem nI01 {x : Nat} (h : x < 2) : nI x = 0 ↔ x = 0 := by
  rcases (show x = 0 ∨ x = 1 by omega) with rfl | rfl <;> decide
section
def v_tryChanges : List Cond := .code yX13_tryChanges cX13_tryChanges 9 none :: vA
abbrev rm_tryChanges (n : Nat) : Room := { frames := 2 * n + 1, cells := 0, slots := 0, locals := 40 * (2 * n + 1) }
def w_tryChanges : Nat → Nat → Bool := wl [64, 65] [(0, 88), (0, 89)]
def C_tryChanges (l : Launch) (n : Nat) : Prop := ∀ (dC : Nat → ClassId) (dI : Nat → Nat → Nat) (cT : Nat → ClassId) (ad : Nat → Nat) (E : Nat → va_E) (sz : Nat) (a0 : Int32) (hI0 : IX cT shM spM 72 ad E) (hh0 : 0 ≤ a0.toInt ∧ a0.toInt ≤ 4) (hh1 : a0.toInt + (n : Int) = 4), Met l yX13_tryChanges v_tryChanges (rm_tryChanges n) (va_Pc [.ref (ad 0), .int a0] (HW dC dI (TYM cT) 72 ad E sz)) (va_Qv (S := Nat → va_E) (fun u => IX cT shM spM 72 ad u ∧ Kp w_tryChanges E u ∧ (True)) (HB dC dI 72 ad) (va_A (WX 72 ad E) sz)) 0 0 (va_A (WX 72 ad E) sz)
set_option maxHeartbeats 4000000 in
set_option maxRecDepth 100000 in
theorem q_tryChanges (l : Launch) (n : Nat) (gR : ∀ k, k < n → C_tryChanges l k) : C_tryChanges l n := by
  intro dC dI cT ad E sz a0 hI0 hh0 hh1
  refine Met.ofW (cc := cX13_tryChanges) (maxL := 9) (ret := none) (by decide) rfl ?_
  intro p e s m args below meth c s₁ B hml hv
  obtain ⟨hargs, hsz, hP, hK, hD0, hEV⟩ := hv
  subst hsz
  have hx := B.exec
  have hb := B.bytes
  have hr := B.returns
  have hts := atoms_spec (ws := v_tryChanges) B.pre
  have hown : s.vm.findClass RX13 = some m.cls := findClass_of_methodNamed B.named
  have hlocks := B.notSynchronized
  have hinX13 : ∀ w ∈ u_ws RX13 TX13 97, w ∈ v_tryChanges := fun w h => vA_in _ w (in_X13 w h)
  generalize hAe : va_A (WX 72 ad E) s.heap.size = A at hEV ⊢
  have hA : ∀ q : Nat, s.heap.size ≤ q → A q := fun q h => by rw [← hAe]; exact Or.inr h
  have hD : va_D A (WX 72 ad E) := by rw [← hAe]; exact hD0.self
  have hS : va_S A s.heap s.heap [] := va_S.rf
  have hI := hI0
  have hKp : Kp w_tryChanges E E := Kp.rf
  have hl := lv_entry ([.ref (ad 0), .int a0]) (n := 9) (Nat.le_of_ble_eq_true rfl)
  obtain ⟨Q, hQ⟩ : ∃ Q, Q = MQ below (va_Qv (S := Nat → va_E) (fun u => IX cT shM spM 72 ad u ∧ Kp w_tryChanges E u ∧ (True)) (HB dC dI 72 ad) (A)) args s 0 0 (A) := ⟨_, rfl⟩
  rw [← hQ, show entryFrame m args 9 = _ from (congrArg (fun z => entryFrame m z 9) hargs).trans (lg_entry_eq _ _ _)]
  generalize (lg_sl ([.ref (ad 0), .int a0]) ++ List.replicate (9 - (lg_sl ([.ref (ad 0), .int a0])).length) Slot.unset).toArray = ls at hl ⊢
  have hl : lv_has ls 9 [(0, .ref (ad 0)), (1, .int a0)] := hl
  refine lv_iload_n hx hb dX13_tryChanges_0 rfl (lv_at hl 1 rfl) ?_
  refine lv_aload_n hx hb dX13_tryChanges_1 rfl (lv_at hl 0 rfl) ?_
  have i1 : 0 ≤ (xi (E 0) 86).toInt ∧ (xi (E 0) 86).toInt ≤ 4 := hI0.iv 0 (Nat.le_of_ble_eq_true rfl) rfl (Nat.le_of_ble_eq_true rfl) rfl
  refine th_get (ci := 14) (C := RX13) (T := TX13) (N := 97) (v := .int (xi (E 0) 86)) hx hb hts hinX13 hown hK hP hI 0 (Nat.le_of_ble_eq_true rfl) rfl rfl 86 (Nat.le_of_ble_eq_true rfl) (hts _ (vA_in _ _ (in_27 _ (zs16 (zs4 (zs1 (zs1 (zs0)))))))) (fun _ h9 => h9) (th_v0 hKp hI0 0 (Nat.le_of_ble_eq_true rfl) rfl (Nat.le_of_ble_eq_true rfl) rfl rfl) dX13_tryChanges_2 ?_
  refine lv_icmp_ge (tgt := 37) hx hb dX13_tryChanges_5 (by decide) (fun c2 => ?_) (fun c2 => ?_)
  · --5 taken
    have t3 : (xi (E 0) 86).toInt ≤ a0.toInt := ti_le c2
    refine lv_iconst (v := 0) hx hb dX13_tryChanges_37 (by decide) ?_
    refine lv_istore_n (lv' := [(2, .int 0), (0, .ref (ad 0)), (1, .int a0)]) hx hb dX13_tryChanges_38 rfl hl (by decide) rfl (fun ls hl => ?_)
    refine lv_iconst (v := 0) hx hb dX13_tryChanges_39 (by decide) ?_
    refine lv_istore_n (lv' := [(3, .int 0), (2, .int 0), (0, .ref (ad 0)), (1, .int a0)]) hx hb dX13_tryChanges_40 rfl hl (by decide) rfl (fun ls hl => ?_)
    refine lv_iconst (v := 0) hx hb dX13_tryChanges_41 (by decide) ?_
    refine lv_istore (lv' := [(4, .int 0), (3, .int 0), (2, .int 0), (0, .ref (ad 0)), (1, .int a0)]) hx hb dX13_tryChanges_42 hl (by decide) rfl (fun ls hl => ?_)
    have hL44 : ∀ d : Nat, ∀ (v44_4 : Int32) (v44_3 : Int32) (H : Heap) (locs : List Loc) (ls : Array Slot), 0 ≤ v44_4.toInt ∧ v44_4.toInt ≤ 4 → 4 - v44_4.toInt < (d : Int) → va_P (dC, dI) vwCl (WX 72 ad E) H → va_S A s.heap H locs → lv_has ls 9 [(4, .int v44_4), (3, .int v44_3), (2, .int 0), (0, .ref (ad 0)), (1, .int a0)] → W p l e (headSpec v_tryChanges (rm_tryChanges n)).room s m args below meth c H locs 0 0 Q (F0 m 44 ls []) := by
      intro d
      induction d with
      | zero =>
        intro v44_4 v44_3 H locs ls hv44_4 hx44_0 hP hS hl
        exact absurd hx44_0 (by first | exact ms_zu hv44_4.2 | omega)
      | succ d ih44 =>
        intro v44_4 v44_3 H locs ls hv44_4 hx44_0 hP hS hl
        refine lv_iload hx hb dX13_tryChanges_44 (lv_at hl 0 rfl) ?_
        refine lv_aload_n hx hb dX13_tryChanges_46 rfl (lv_at hl 3 rfl) ?_
        refine th_get (ci := 14) (C := RX13) (T := TX13) (N := 97) (v := .int (xi (E 0) 86)) hx hb hts hinX13 hown hK hP hI 0 (Nat.le_of_ble_eq_true rfl) rfl rfl 86 (Nat.le_of_ble_eq_true rfl) (hts _ (vA_in _ _ (in_27 _ (zs16 (zs4 (zs1 (zs1 (zs0)))))))) (fun _ h9 => h9) (th_v0 hKp hI0 0 (Nat.le_of_ble_eq_true rfl) rfl (Nat.le_of_ble_eq_true rfl) rfl rfl) dX13_tryChanges_47 ?_
        refine lv_icmp_ge (tgt := 72) hx hb dX13_tryChanges_50 (by decide) (fun c4 => ?_) (fun c4 => ?_)
        · --50 taken
          have t5 : (xi (E 0) 86).toInt ≤ v44_4.toInt := ti_le c4
          refine lv_iconst (v := 0) hx hb dX13_tryChanges_72 (by decide) ?_
          refine lv_istore (lv' := [(4, .int 0), (3, .int v44_3), (2, .int 0), (0, .ref (ad 0)), (1, .int a0)]) hx hb dX13_tryChanges_73 hl (by decide) rfl (fun ls hl => ?_)
          have hL75 : ∀ d : Nat, ∀ (v75_4 : Int32) (v75_2 : Int32) (H : Heap) (locs : List Loc) (ls : Array Slot), 0 ≤ v75_4.toInt ∧ v75_4.toInt ≤ 20 → 20 - v75_4.toInt < (d : Int) → va_P (dC, dI) vwCl (WX 72 ad E) H → va_S A s.heap H locs → lv_has ls 9 [(4, .int v75_4), (3, .int v44_3), (2, .int v75_2), (0, .ref (ad 0)), (1, .int a0)] → W p l e (headSpec v_tryChanges (rm_tryChanges n)).room s m args below meth c H locs 0 0 Q (F0 m 75 ls []) := by
            intro d
            induction d with
            | zero =>
              intro v75_4 v75_2 H locs ls hv75_4 hx75_0 hP hS hl
              exact absurd hx75_0 (by first | exact ms_zu hv75_4.2 | omega)
            | succ d ih75 =>
              intro v75_4 v75_2 H locs ls hv75_4 hx75_0 hP hS hl
              refine lv_iload hx hb dX13_tryChanges_75 (lv_at hl 0 rfl) ?_
              refine lv_aload_n hx hb dX13_tryChanges_77 rfl (lv_at hl 3 rfl) ?_
              have i6 : 0 ≤ (xi (E 0) 87).toInt ∧ (xi (E 0) 87).toInt ≤ 20 := hI0.iv 0 (Nat.le_of_ble_eq_true rfl) rfl (Nat.le_of_ble_eq_true rfl) rfl
              refine th_get (ci := 14) (C := RX13) (T := TX13) (N := 97) (v := .int (xi (E 0) 87)) hx hb hts hinX13 hown hK hP hI 0 (Nat.le_of_ble_eq_true rfl) rfl rfl 87 (Nat.le_of_ble_eq_true rfl) (hts _ (vA_in _ _ (in_27 _ (zs16 (zs4 (zs4 (zs4 (zs1 (zs0))))))))) (fun _ h9 => h9) (th_v0 hKp hI0 0 (Nat.le_of_ble_eq_true rfl) rfl (Nat.le_of_ble_eq_true rfl) rfl rfl) dX13_tryChanges_78 ?_
              refine lv_icmp_ge (tgt := 205) hx hb dX13_tryChanges_81 (by decide) (fun c7 => ?_) (fun c7 => ?_)
              · --81 taken
                have t8 : (xi (E 0) 87).toInt ≤ v75_4.toInt := ti_le c7
                refine lv_aload_n hx hb dX13_tryChanges_205 rfl (lv_at hl 3 rfl) ?_
                obtain ⟨y9, ey9⟩ : ∃ y, xi (E 0) 88 = y := ⟨_, rfl⟩
                have fy9 : xv (E 0) 88 = .int y9 := (hI.fi 0 (Nat.le_of_ble_eq_true rfl) rfl (Nat.le_of_ble_eq_true rfl) rfl).trans (congrArg Value.int ey9)
                refine th_get (ci := 14) (C := RX13) (T := TX13) (N := 97) (v := .int y9) hx hb hts hinX13 hown hK hP hI 0 (Nat.le_of_ble_eq_true rfl) rfl rfl 88 (Nat.le_of_ble_eq_true rfl) (hts _ (vA_in _ _ (in_27 _ (zs16 (zs16 (zs1 (zs1 (zs0)))))))) (fun _ h9 => h9) fy9 dX13_tryChanges_206 ?_
                refine lv_iconst (v := -1) hx hb dX13_tryChanges_209 (by decide) ?_
                refine lv_icmp_eq (tgt := 238) hx hb dX13_tryChanges_210 (by decide) (fun c10 => ?_) (fun c10 => ?_)
                · --210 taken
                  have t11 : y9.toInt = -1 := ti_eq c10
                  have i12 : -1 ≤ y9.toInt ∧ y9.toInt ≤ -1 := iv_eqi t11 (iv_all _) (il_ (-1)) (by decide)
                  refine lv_aload_n hx hb dX13_tryChanges_238 rfl (lv_at hl 3 rfl) ?_
                  refine lv_iload_n hx hb dX13_tryChanges_239 rfl (lv_at hl 2 rfl) ?_
                  refine th_put (ci := 14) (C := RX13) (T := TX13) (N := 97) (v := .int v75_2) (ty := .int) hx hb hts hinX13 tyX13 tyX13_ok nmX13 hown hK hP (WX_D hD) hS hI 0 (Nat.le_of_ble_eq_true rfl) rfl rfl 88 (Nat.le_of_ble_eq_true rfl) (hts _ (vA_in _ _ (in_27 _ (zs16 (zs16 (zs1 (zs1 (zs0)))))))) (fun _ h9 => h9) rfl (by decide +kernel) rfl rfl (okI rfl (iv_all _)) dX13_tryChanges_240 (fun H locs E13 pw14 hI hP hS => ?_)
                  have hKp := hKp.pw pw14 rfl
                  refine lv_aload_n hx hb dX13_tryChanges_243 rfl (lv_at hl 3 rfl) ?_
                  refine lv_iload_n hx hb dX13_tryChanges_244 rfl (lv_at hl 1 rfl) ?_
                  refine th_put (ci := 14) (C := RX13) (T := TX13) (N := 97) (v := .int v44_3) (ty := .int) hx hb hts hinX13 tyX13 tyX13_ok nmX13 hown hK hP (WX_D hD) hS hI 0 (Nat.le_of_ble_eq_true rfl) rfl rfl 89 (Nat.le_of_ble_eq_true rfl) (hts _ (vA_in _ _ (in_30 _ (zs4 (zs0))))) (fun _ h9 => h9) rfl (by decide +kernel) rfl rfl (okI rfl (iv_all _)) dX13_tryChanges_245 (fun H locs E15 pw16 hI hP hS => ?_)
                  have hKp := hKp.pw pw16 rfl
                  refine lv_iconst (v := 0) hx hb dX13_tryChanges_248 (by decide) ?_
                  refine lv_istore (lv' := [(4, .int 0), (3, .int v44_3), (2, .int v75_2), (0, .ref (ad 0)), (1, .int a0)]) hx hb dX13_tryChanges_249 hl (by decide) rfl (fun ls hl => ?_)
                  have hL251 : ∀ d : Nat, ∀ (v251_4 : Int32) (E251_ : Nat → va_E) (H : Heap) (locs : List Loc) (ls : Array Slot), 0 ≤ v251_4.toInt ∧ v251_4.toInt ≤ 4 → 4 - v251_4.toInt < (d : Int) → IX cT shM spM 72 ad E251_ → Kp w_tryChanges E E251_ → xv (E251_ 0) 88 = .int v75_2 → xv (E251_ 0) 89 = .int v44_3 → va_P (dC, dI) vwCl (WX 72 ad E251_) H → va_S A s.heap H locs → lv_has ls 9 [(4, .int v251_4), (3, .int v44_3), (2, .int v75_2), (0, .ref (ad 0)), (1, .int a0)] → W p l e (headSpec v_tryChanges (rm_tryChanges n)).room s m args below meth c H locs 0 0 Q (F0 m 251 ls []) := by
                    intro d
                    induction d with
                    | zero =>
                      intro v251_4 E251_ H locs ls hv251_4 hx251_0 hI hKp hs251_0_88 hs251_0_89 hP hS hl
                      exact absurd hx251_0 (by first | exact ms_zu hv251_4.2 | omega)
                    | succ d ih251 =>
                      intro v251_4 E251_ H locs ls hv251_4 hx251_0 hI hKp hs251_0_88 hs251_0_89 hP hS hl
                      refine lv_iload hx hb dX13_tryChanges_251 (lv_at hl 0 rfl) ?_
                      refine lv_aload_n hx hb dX13_tryChanges_253 rfl (lv_at hl 3 rfl) ?_
                      refine th_get (ci := 14) (C := RX13) (T := TX13) (N := 97) (v := .int (xi (E 0) 86)) hx hb hts hinX13 hown hK hP hI 0 (Nat.le_of_ble_eq_true rfl) rfl rfl 86 (Nat.le_of_ble_eq_true rfl) (hts _ (vA_in _ _ (in_27 _ (zs16 (zs4 (zs1 (zs1 (zs0)))))))) (fun _ h9 => h9) (th_v0 hKp hI0 0 (Nat.le_of_ble_eq_true rfl) rfl (Nat.le_of_ble_eq_true rfl) rfl rfl) dX13_tryChanges_254 ?_
                      refine lv_icmp_ge (tgt := 280) hx hb dX13_tryChanges_257 (by decide) (fun c17 => ?_) (fun c17 => ?_)
                      · --257 taken
                        have t18 : (xi (E 0) 86).toInt ≤ v251_4.toInt := ti_le c17
                        rw [hQ]
                        exact W.vret hx hb hr (fun t ht hW => ⟨⟨E251_, rfl, ⟨hI, hKp, trivial⟩, by show va_P (dC, dI) vwCl (WX 72 ad E251_) t.heap; rw [ht]; exact hP⟩, hS.F ht⟩) hS.2.2 dX13_tryChanges_280
                      · --257 not
                        have t19 : v251_4.toInt < (xi (E 0) 86).toInt := ti_nle c17
                        have i20 : 0 ≤ v251_4.toInt ∧ v251_4.toInt ≤ 3 := iv_lt_l t19 hv251_4 i1 (by decide)
                        have i21 : 1 ≤ (xi (E 0) 86).toInt ∧ (xi (E 0) 86).toInt ≤ 4 := iv_lt_r t19 hv251_4 i1 (by decide)
                        refine lv_aload_n hx hb dX13_tryChanges_260 rfl (lv_at hl 3 rfl) ?_
                        refine th_get (ci := 14) (C := RX13) (T := TX13) (N := 97) (v := .ref (ad 65)) hx hb hts hinX13 hown hK hP hI 0 (Nat.le_of_ble_eq_true rfl) rfl rfl 85 (Nat.le_of_ble_eq_true rfl) (hts _ (vA_in _ _ (in_27 _ (zs16 (zs4 (zs4 (zs0))))))) (fun _ h9 => h9) (hI.fr 0 (Nat.le_of_ble_eq_true rfl) rfl (Nat.le_of_ble_eq_true rfl) 65 rfl) dX13_tryChanges_261 ?_
                        refine lv_iload hx hb dX13_tryChanges_264 (lv_at hl 0 rfl) ?_
                        refine lv_aload_n hx hb dX13_tryChanges_266 rfl (lv_at hl 3 rfl) ?_
                        refine th_get (ci := 14) (C := RX13) (T := TX13) (N := 97) (v := .ref (ad 64)) hx hb hts hinX13 hown hK hP hI 0 (Nat.le_of_ble_eq_true rfl) rfl rfl 84 (Nat.le_of_ble_eq_true rfl) (hts _ (vA_in _ _ (in_30 _ (zs1 (zs0))))) (fun _ h9 => h9) (hI.fr 0 (Nat.le_of_ble_eq_true rfl) rfl (Nat.le_of_ble_eq_true rfl) 64 rfl) dX13_tryChanges_267 ?_
                        refine lv_iload hx hb dX13_tryChanges_270 (lv_at hl 0 rfl) ?_
                        have n23 : vp_in v251_4 4 := (iv_in (n := 4) i20 (by decide))
                        refine th_iald hx hb hK hP hI 64 (Nat.le_of_ble_eq_true rfl) rfl rfl n23 dX13_tryChanges_272 (fun y22 ey22 => ?_)
                        have iy22 : -3 ≤ y22.toInt ∧ y22.toInt ≤ 3 := hI.el 64 (Nat.le_of_ble_eq_true rfl) rfl n23 (fun _ => rfl) ey22
                        have n24 : vp_in v251_4 4 := (iv_in (n := 4) i20 (by decide))
                        refine th_iast hx hb hK hP (WX_D hD) hS hI 65 (Nat.le_of_ble_eq_true rfl) rfl rfl n24 (okI rfl iy22) dX13_tryChanges_273 (fun H locs E25 pw26 hI hP hS => ?_)
                        have hKp := hKp.pw pw26 rfl
                        obtain ⟨y27, ey27⟩ : ∃ y : Int32, y = v251_4 + (1 : Int32) := ⟨_, rfl⟩
                        obtain ⟨ty27, iy27⟩ := ti_add (e := 1) (f := 4) i20 ln_1 ey27 (by decide)
                        have ty27 : y27.toInt = v251_4.toInt + 1 := ty27
                        have iy27 : 1 ≤ y27.toInt ∧ y27.toInt ≤ 4 := iy27
                        refine lv_iinc (v := y27) (lv' := [(4, .int y27), (3, .int v44_3), (2, .int v75_2), (0, .ref (ad 0)), (1, .int a0)]) hx hb dX13_tryChanges_274 hl (k := 0) rfl (by rw [ey27]; rfl) (by decide) rfl (fun ls hl => ?_)
                        refine lv_goto (tgt := 251) hx hb dX13_tryChanges_277 (by decide) ?_
                        exact ih251 y27 E25 _ _ _ (iv_w iy27 (by decide)) (by first | exact ms_su hx251_0 ty27 (by decide) | omega) hI hKp ((pw26.2 0 88 (fun q9 => absurd q9.1 (Nat.ne_of_beq_eq_false rfl))).trans hs251_0_88) ((pw26.2 0 89 (fun q9 => absurd q9.1 (Nat.ne_of_beq_eq_false rfl))).trans hs251_0_89) hP hS (lv_sub hl [0, 1, 2, 3, 4] rfl)
                  exact hL251 (5) (0 : Int32) E15 _ _ _ (iv_w ln_0 (by decide)) (by have h9 := ln_0; first | exact ms_bu h9.1 (by decide) | omega) hI hKp ((pw16.2 0 88 (fun q9 => absurd q9.2 (Nat.ne_of_beq_eq_false rfl))).trans pw14.1) pw16.1 hP hS (lv_sub hl [0, 1, 2, 3, 4] rfl)
                · --210 not
                  have t28 : ¬ y9.toInt = -1 := ti_ne c10
                  refine lv_iload_n hx hb dX13_tryChanges_213 rfl (lv_at hl 2 rfl) ?_
                  refine lv_aload_n hx hb dX13_tryChanges_214 rfl (lv_at hl 3 rfl) ?_
                  refine th_get (ci := 14) (C := RX13) (T := TX13) (N := 97) (v := .int y9) hx hb hts hinX13 hown hK hP hI 0 (Nat.le_of_ble_eq_true rfl) rfl rfl 88 (Nat.le_of_ble_eq_true rfl) (hts _ (vA_in _ _ (in_27 _ (zs16 (zs16 (zs1 (zs1 (zs0)))))))) (fun _ h9 => h9) fy9 dX13_tryChanges_215 ?_
                  refine lv_icmp_gt (tgt := 237) hx hb dX13_tryChanges_218 (by decide) (fun c29 => ?_) (fun c29 => ?_)
                  · --218 taken
                    have t30 : y9.toInt < v75_2.toInt := ti_lt c29
                    have i31 : -2147483648 ≤ y9.toInt ∧ y9.toInt ≤ 2147483646 := iv_lt_l t30 (iv_all _) (iv_all _) (by decide)
                    have i32 : -2147483647 ≤ v75_2.toInt ∧ v75_2.toInt ≤ 2147483647 := iv_lt_r t30 (iv_all _) (iv_all _) (by decide)
                    rw [hQ]
                    exact W.vret hx hb hr (fun t ht hW => ⟨⟨E, rfl, ⟨hI, hKp, trivial⟩, by show va_P (dC, dI) vwCl (WX 72 ad E) t.heap; rw [ht]; exact hP⟩, hS.F ht⟩) hS.2.2 dX13_tryChanges_237
                  · --218 not
                    have t33 : v75_2.toInt ≤ y9.toInt := ti_nlt c29
                    refine lv_iload_n hx hb dX13_tryChanges_221 rfl (lv_at hl 2 rfl) ?_
                    refine lv_aload_n hx hb dX13_tryChanges_222 rfl (lv_at hl 3 rfl) ?_
                    refine th_get (ci := 14) (C := RX13) (T := TX13) (N := 97) (v := .int y9) hx hb hts hinX13 hown hK hP hI 0 (Nat.le_of_ble_eq_true rfl) rfl rfl 88 (Nat.le_of_ble_eq_true rfl) (hts _ (vA_in _ _ (in_27 _ (zs16 (zs16 (zs1 (zs1 (zs0)))))))) (fun _ h9 => h9) fy9 dX13_tryChanges_223 ?_
                    refine lv_icmp_ne (tgt := 238) hx hb dX13_tryChanges_226 (by decide) (fun c34 => ?_) (fun c34 => ?_)
                    · --226 taken
                      have t35 : ¬ v75_2.toInt = y9.toInt := ti_ne c34
                      refine lv_aload_n hx hb dX13_tryChanges_238 rfl (lv_at hl 3 rfl) ?_
                      refine lv_iload_n hx hb dX13_tryChanges_239 rfl (lv_at hl 2 rfl) ?_
                      refine th_put (ci := 14) (C := RX13) (T := TX13) (N := 97) (v := .int v75_2) (ty := .int) hx hb hts hinX13 tyX13 tyX13_ok nmX13 hown hK hP (WX_D hD) hS hI 0 (Nat.le_of_ble_eq_true rfl) rfl rfl 88 (Nat.le_of_ble_eq_true rfl) (hts _ (vA_in _ _ (in_27 _ (zs16 (zs16 (zs1 (zs1 (zs0)))))))) (fun _ h9 => h9) rfl (by decide +kernel) rfl rfl (okI rfl (iv_all _)) dX13_tryChanges_240 (fun H locs E36 pw37 hI hP hS => ?_)
                      have hKp := hKp.pw pw37 rfl
                      refine lv_aload_n hx hb dX13_tryChanges_243 rfl (lv_at hl 3 rfl) ?_
                      refine lv_iload_n hx hb dX13_tryChanges_244 rfl (lv_at hl 1 rfl) ?_
                      refine th_put (ci := 14) (C := RX13) (T := TX13) (N := 97) (v := .int v44_3) (ty := .int) hx hb hts hinX13 tyX13 tyX13_ok nmX13 hown hK hP (WX_D hD) hS hI 0 (Nat.le_of_ble_eq_true rfl) rfl rfl 89 (Nat.le_of_ble_eq_true rfl) (hts _ (vA_in _ _ (in_30 _ (zs4 (zs0))))) (fun _ h9 => h9) rfl (by decide +kernel) rfl rfl (okI rfl (iv_all _)) dX13_tryChanges_245 (fun H locs E38 pw39 hI hP hS => ?_)
                      have hKp := hKp.pw pw39 rfl
                      refine lv_iconst (v := 0) hx hb dX13_tryChanges_248 (by decide) ?_
                      refine lv_istore (lv' := [(4, .int 0), (3, .int v44_3), (2, .int v75_2), (0, .ref (ad 0)), (1, .int a0)]) hx hb dX13_tryChanges_249 hl (by decide) rfl (fun ls hl => ?_)
                      have hL251 : ∀ d : Nat, ∀ (v251_4 : Int32) (E251_ : Nat → va_E) (H : Heap) (locs : List Loc) (ls : Array Slot), 0 ≤ v251_4.toInt ∧ v251_4.toInt ≤ 4 → 4 - v251_4.toInt < (d : Int) → IX cT shM spM 72 ad E251_ → Kp w_tryChanges E E251_ → xv (E251_ 0) 88 = .int v75_2 → xv (E251_ 0) 89 = .int v44_3 → va_P (dC, dI) vwCl (WX 72 ad E251_) H → va_S A s.heap H locs → lv_has ls 9 [(4, .int v251_4), (3, .int v44_3), (2, .int v75_2), (0, .ref (ad 0)), (1, .int a0)] → W p l e (headSpec v_tryChanges (rm_tryChanges n)).room s m args below meth c H locs 0 0 Q (F0 m 251 ls []) := by
                        intro d
                        induction d with
                        | zero =>
                          intro v251_4 E251_ H locs ls hv251_4 hx251_0 hI hKp hs251_0_88 hs251_0_89 hP hS hl
                          exact absurd hx251_0 (by first | exact ms_zu hv251_4.2 | omega)
                        | succ d ih251 =>
                          intro v251_4 E251_ H locs ls hv251_4 hx251_0 hI hKp hs251_0_88 hs251_0_89 hP hS hl
                          refine lv_iload hx hb dX13_tryChanges_251 (lv_at hl 0 rfl) ?_
                          refine lv_aload_n hx hb dX13_tryChanges_253 rfl (lv_at hl 3 rfl) ?_
                          refine th_get (ci := 14) (C := RX13) (T := TX13) (N := 97) (v := .int (xi (E 0) 86)) hx hb hts hinX13 hown hK hP hI 0 (Nat.le_of_ble_eq_true rfl) rfl rfl 86 (Nat.le_of_ble_eq_true rfl) (hts _ (vA_in _ _ (in_27 _ (zs16 (zs4 (zs1 (zs1 (zs0)))))))) (fun _ h9 => h9) (th_v0 hKp hI0 0 (Nat.le_of_ble_eq_true rfl) rfl (Nat.le_of_ble_eq_true rfl) rfl rfl) dX13_tryChanges_254 ?_
                          refine lv_icmp_ge (tgt := 280) hx hb dX13_tryChanges_257 (by decide) (fun c40 => ?_) (fun c40 => ?_)
                          · --257 taken
                            have t41 : (xi (E 0) 86).toInt ≤ v251_4.toInt := ti_le c40
                            rw [hQ]
                            exact W.vret hx hb hr (fun t ht hW => ⟨⟨E251_, rfl, ⟨hI, hKp, trivial⟩, by show va_P (dC, dI) vwCl (WX 72 ad E251_) t.heap; rw [ht]; exact hP⟩, hS.F ht⟩) hS.2.2 dX13_tryChanges_280
                          · --257 not
                            have t42 : v251_4.toInt < (xi (E 0) 86).toInt := ti_nle c40
                            have i43 : 0 ≤ v251_4.toInt ∧ v251_4.toInt ≤ 3 := iv_lt_l t42 hv251_4 i1 (by decide)
                            have i44 : 1 ≤ (xi (E 0) 86).toInt ∧ (xi (E 0) 86).toInt ≤ 4 := iv_lt_r t42 hv251_4 i1 (by decide)
                            refine lv_aload_n hx hb dX13_tryChanges_260 rfl (lv_at hl 3 rfl) ?_
                            refine th_get (ci := 14) (C := RX13) (T := TX13) (N := 97) (v := .ref (ad 65)) hx hb hts hinX13 hown hK hP hI 0 (Nat.le_of_ble_eq_true rfl) rfl rfl 85 (Nat.le_of_ble_eq_true rfl) (hts _ (vA_in _ _ (in_27 _ (zs16 (zs4 (zs4 (zs0))))))) (fun _ h9 => h9) (hI.fr 0 (Nat.le_of_ble_eq_true rfl) rfl (Nat.le_of_ble_eq_true rfl) 65 rfl) dX13_tryChanges_261 ?_
                            refine lv_iload hx hb dX13_tryChanges_264 (lv_at hl 0 rfl) ?_
                            refine lv_aload_n hx hb dX13_tryChanges_266 rfl (lv_at hl 3 rfl) ?_
                            refine th_get (ci := 14) (C := RX13) (T := TX13) (N := 97) (v := .ref (ad 64)) hx hb hts hinX13 hown hK hP hI 0 (Nat.le_of_ble_eq_true rfl) rfl rfl 84 (Nat.le_of_ble_eq_true rfl) (hts _ (vA_in _ _ (in_30 _ (zs1 (zs0))))) (fun _ h9 => h9) (hI.fr 0 (Nat.le_of_ble_eq_true rfl) rfl (Nat.le_of_ble_eq_true rfl) 64 rfl) dX13_tryChanges_267 ?_
                            refine lv_iload hx hb dX13_tryChanges_270 (lv_at hl 0 rfl) ?_
                            have n46 : vp_in v251_4 4 := (iv_in (n := 4) i43 (by decide))
                            refine th_iald hx hb hK hP hI 64 (Nat.le_of_ble_eq_true rfl) rfl rfl n46 dX13_tryChanges_272 (fun y45 ey45 => ?_)
                            have iy45 : -3 ≤ y45.toInt ∧ y45.toInt ≤ 3 := hI.el 64 (Nat.le_of_ble_eq_true rfl) rfl n46 (fun _ => rfl) ey45
                            have n47 : vp_in v251_4 4 := (iv_in (n := 4) i43 (by decide))
                            refine th_iast hx hb hK hP (WX_D hD) hS hI 65 (Nat.le_of_ble_eq_true rfl) rfl rfl n47 (okI rfl iy45) dX13_tryChanges_273 (fun H locs E48 pw49 hI hP hS => ?_)
                            have hKp := hKp.pw pw49 rfl
                            obtain ⟨y50, ey50⟩ : ∃ y : Int32, y = v251_4 + (1 : Int32) := ⟨_, rfl⟩
                            obtain ⟨ty50, iy50⟩ := ti_add (e := 1) (f := 4) i43 ln_1 ey50 (by decide)
                            have ty50 : y50.toInt = v251_4.toInt + 1 := ty50
                            have iy50 : 1 ≤ y50.toInt ∧ y50.toInt ≤ 4 := iy50
                            refine lv_iinc (v := y50) (lv' := [(4, .int y50), (3, .int v44_3), (2, .int v75_2), (0, .ref (ad 0)), (1, .int a0)]) hx hb dX13_tryChanges_274 hl (k := 0) rfl (by rw [ey50]; rfl) (by decide) rfl (fun ls hl => ?_)
                            refine lv_goto (tgt := 251) hx hb dX13_tryChanges_277 (by decide) ?_
                            exact ih251 y50 E48 _ _ _ (iv_w iy50 (by decide)) (by first | exact ms_su hx251_0 ty50 (by decide) | omega) hI hKp ((pw49.2 0 88 (fun q9 => absurd q9.1 (Nat.ne_of_beq_eq_false rfl))).trans hs251_0_88) ((pw49.2 0 89 (fun q9 => absurd q9.1 (Nat.ne_of_beq_eq_false rfl))).trans hs251_0_89) hP hS (lv_sub hl [0, 1, 2, 3, 4] rfl)
                      exact hL251 (5) (0 : Int32) E38 _ _ _ (iv_w ln_0 (by decide)) (by have h9 := ln_0; first | exact ms_bu h9.1 (by decide) | omega) hI hKp ((pw39.2 0 88 (fun q9 => absurd q9.2 (Nat.ne_of_beq_eq_false rfl))).trans pw37.1) pw39.1 hP hS (lv_sub hl [0, 1, 2, 3, 4] rfl)
                    · --226 not
                      have t51 : v75_2.toInt = y9.toInt := ti_eq c34
                      refine lv_iload_n hx hb dX13_tryChanges_229 rfl (lv_at hl 1 rfl) ?_
                      refine lv_aload_n hx hb dX13_tryChanges_230 rfl (lv_at hl 3 rfl) ?_
                      obtain ⟨y52, ey52⟩ : ∃ y, xi (E 0) 89 = y := ⟨_, rfl⟩
                      have fy52 : xv (E 0) 89 = .int y52 := (hI.fi 0 (Nat.le_of_ble_eq_true rfl) rfl (Nat.le_of_ble_eq_true rfl) rfl).trans (congrArg Value.int ey52)
                      refine th_get (ci := 14) (C := RX13) (T := TX13) (N := 97) (v := .int y52) hx hb hts hinX13 hown hK hP hI 0 (Nat.le_of_ble_eq_true rfl) rfl rfl 89 (Nat.le_of_ble_eq_true rfl) (hts _ (vA_in _ _ (in_30 _ (zs4 (zs0))))) (fun _ h9 => h9) fy52 dX13_tryChanges_231 ?_
                      refine lv_icmp_lt (tgt := 238) hx hb dX13_tryChanges_234 (by decide) (fun c53 => ?_) (fun c53 => ?_)
                      · --234 taken
                        have t54 : v44_3.toInt < y52.toInt := ti_lt c53
                        have i55 : -2147483648 ≤ v44_3.toInt ∧ v44_3.toInt ≤ 2147483646 := iv_lt_l t54 (iv_all _) (iv_all _) (by decide)
                        have i56 : -2147483647 ≤ y52.toInt ∧ y52.toInt ≤ 2147483647 := iv_lt_r t54 (iv_all _) (iv_all _) (by decide)
                        refine lv_aload_n hx hb dX13_tryChanges_238 rfl (lv_at hl 3 rfl) ?_
                        refine lv_iload_n hx hb dX13_tryChanges_239 rfl (lv_at hl 2 rfl) ?_
                        refine th_put (ci := 14) (C := RX13) (T := TX13) (N := 97) (v := .int v75_2) (ty := .int) hx hb hts hinX13 tyX13 tyX13_ok nmX13 hown hK hP (WX_D hD) hS hI 0 (Nat.le_of_ble_eq_true rfl) rfl rfl 88 (Nat.le_of_ble_eq_true rfl) (hts _ (vA_in _ _ (in_27 _ (zs16 (zs16 (zs1 (zs1 (zs0)))))))) (fun _ h9 => h9) rfl (by decide +kernel) rfl rfl (okI rfl (iv_all _)) dX13_tryChanges_240 (fun H locs E57 pw58 hI hP hS => ?_)
                        have hKp := hKp.pw pw58 rfl
                        refine lv_aload_n hx hb dX13_tryChanges_243 rfl (lv_at hl 3 rfl) ?_
                        refine lv_iload_n hx hb dX13_tryChanges_244 rfl (lv_at hl 1 rfl) ?_
                        refine th_put (ci := 14) (C := RX13) (T := TX13) (N := 97) (v := .int v44_3) (ty := .int) hx hb hts hinX13 tyX13 tyX13_ok nmX13 hown hK hP (WX_D hD) hS hI 0 (Nat.le_of_ble_eq_true rfl) rfl rfl 89 (Nat.le_of_ble_eq_true rfl) (hts _ (vA_in _ _ (in_30 _ (zs4 (zs0))))) (fun _ h9 => h9) rfl (by decide +kernel) rfl rfl (okI rfl (iv_w i55 (by decide))) dX13_tryChanges_245 (fun H locs E59 pw60 hI hP hS => ?_)
                        have hKp := hKp.pw pw60 rfl
                        refine lv_iconst (v := 0) hx hb dX13_tryChanges_248 (by decide) ?_
                        refine lv_istore (lv' := [(4, .int 0), (3, .int v44_3), (2, .int v75_2), (0, .ref (ad 0)), (1, .int a0)]) hx hb dX13_tryChanges_249 hl (by decide) rfl (fun ls hl => ?_)
                        have hL251 : ∀ d : Nat, ∀ (v251_4 : Int32) (E251_ : Nat → va_E) (H : Heap) (locs : List Loc) (ls : Array Slot), 0 ≤ v251_4.toInt ∧ v251_4.toInt ≤ 4 → 4 - v251_4.toInt < (d : Int) → IX cT shM spM 72 ad E251_ → Kp w_tryChanges E E251_ → xv (E251_ 0) 88 = .int v75_2 → xv (E251_ 0) 89 = .int v44_3 → va_P (dC, dI) vwCl (WX 72 ad E251_) H → va_S A s.heap H locs → lv_has ls 9 [(4, .int v251_4), (3, .int v44_3), (2, .int v75_2), (0, .ref (ad 0)), (1, .int a0)] → W p l e (headSpec v_tryChanges (rm_tryChanges n)).room s m args below meth c H locs 0 0 Q (F0 m 251 ls []) := by
                          intro d
                          induction d with
                          | zero =>
                            intro v251_4 E251_ H locs ls hv251_4 hx251_0 hI hKp hs251_0_88 hs251_0_89 hP hS hl
                            exact absurd hx251_0 (by first | exact ms_zu hv251_4.2 | omega)
                          | succ d ih251 =>
                            intro v251_4 E251_ H locs ls hv251_4 hx251_0 hI hKp hs251_0_88 hs251_0_89 hP hS hl
                            refine lv_iload hx hb dX13_tryChanges_251 (lv_at hl 0 rfl) ?_
                            refine lv_aload_n hx hb dX13_tryChanges_253 rfl (lv_at hl 3 rfl) ?_
                            refine th_get (ci := 14) (C := RX13) (T := TX13) (N := 97) (v := .int (xi (E 0) 86)) hx hb hts hinX13 hown hK hP hI 0 (Nat.le_of_ble_eq_true rfl) rfl rfl 86 (Nat.le_of_ble_eq_true rfl) (hts _ (vA_in _ _ (in_27 _ (zs16 (zs4 (zs1 (zs1 (zs0)))))))) (fun _ h9 => h9) (th_v0 hKp hI0 0 (Nat.le_of_ble_eq_true rfl) rfl (Nat.le_of_ble_eq_true rfl) rfl rfl) dX13_tryChanges_254 ?_
                            refine lv_icmp_ge (tgt := 280) hx hb dX13_tryChanges_257 (by decide) (fun c61 => ?_) (fun c61 => ?_)
                            · --257 taken
                              have t62 : (xi (E 0) 86).toInt ≤ v251_4.toInt := ti_le c61
                              rw [hQ]
                              exact W.vret hx hb hr (fun t ht hW => ⟨⟨E251_, rfl, ⟨hI, hKp, trivial⟩, by show va_P (dC, dI) vwCl (WX 72 ad E251_) t.heap; rw [ht]; exact hP⟩, hS.F ht⟩) hS.2.2 dX13_tryChanges_280
                            · --257 not
                              have t63 : v251_4.toInt < (xi (E 0) 86).toInt := ti_nle c61
                              have i64 : 0 ≤ v251_4.toInt ∧ v251_4.toInt ≤ 3 := iv_lt_l t63 hv251_4 i1 (by decide)
                              have i65 : 1 ≤ (xi (E 0) 86).toInt ∧ (xi (E 0) 86).toInt ≤ 4 := iv_lt_r t63 hv251_4 i1 (by decide)
                              refine lv_aload_n hx hb dX13_tryChanges_260 rfl (lv_at hl 3 rfl) ?_
                              refine th_get (ci := 14) (C := RX13) (T := TX13) (N := 97) (v := .ref (ad 65)) hx hb hts hinX13 hown hK hP hI 0 (Nat.le_of_ble_eq_true rfl) rfl rfl 85 (Nat.le_of_ble_eq_true rfl) (hts _ (vA_in _ _ (in_27 _ (zs16 (zs4 (zs4 (zs0))))))) (fun _ h9 => h9) (hI.fr 0 (Nat.le_of_ble_eq_true rfl) rfl (Nat.le_of_ble_eq_true rfl) 65 rfl) dX13_tryChanges_261 ?_
                              refine lv_iload hx hb dX13_tryChanges_264 (lv_at hl 0 rfl) ?_
                              refine lv_aload_n hx hb dX13_tryChanges_266 rfl (lv_at hl 3 rfl) ?_
                              refine th_get (ci := 14) (C := RX13) (T := TX13) (N := 97) (v := .ref (ad 64)) hx hb hts hinX13 hown hK hP hI 0 (Nat.le_of_ble_eq_true rfl) rfl rfl 84 (Nat.le_of_ble_eq_true rfl) (hts _ (vA_in _ _ (in_30 _ (zs1 (zs0))))) (fun _ h9 => h9) (hI.fr 0 (Nat.le_of_ble_eq_true rfl) rfl (Nat.le_of_ble_eq_true rfl) 64 rfl) dX13_tryChanges_267 ?_
                              refine lv_iload hx hb dX13_tryChanges_270 (lv_at hl 0 rfl) ?_
                              have n67 : vp_in v251_4 4 := (iv_in (n := 4) i64 (by decide))
                              refine th_iald hx hb hK hP hI 64 (Nat.le_of_ble_eq_true rfl) rfl rfl n67 dX13_tryChanges_272 (fun y66 ey66 => ?_)
                              have iy66 : -3 ≤ y66.toInt ∧ y66.toInt ≤ 3 := hI.el 64 (Nat.le_of_ble_eq_true rfl) rfl n67 (fun _ => rfl) ey66
                              have n68 : vp_in v251_4 4 := (iv_in (n := 4) i64 (by decide))
                              refine th_iast hx hb hK hP (WX_D hD) hS hI 65 (Nat.le_of_ble_eq_true rfl) rfl rfl n68 (okI rfl iy66) dX13_tryChanges_273 (fun H locs E69 pw70 hI hP hS => ?_)
                              have hKp := hKp.pw pw70 rfl
                              obtain ⟨y71, ey71⟩ : ∃ y : Int32, y = v251_4 + (1 : Int32) := ⟨_, rfl⟩
                              obtain ⟨ty71, iy71⟩ := ti_add (e := 1) (f := 4) i64 ln_1 ey71 (by decide)
                              have ty71 : y71.toInt = v251_4.toInt + 1 := ty71
                              have iy71 : 1 ≤ y71.toInt ∧ y71.toInt ≤ 4 := iy71
                              refine lv_iinc (v := y71) (lv' := [(4, .int y71), (3, .int v44_3), (2, .int v75_2), (0, .ref (ad 0)), (1, .int a0)]) hx hb dX13_tryChanges_274 hl (k := 0) rfl (by rw [ey71]; rfl) (by decide) rfl (fun ls hl => ?_)
                              refine lv_goto (tgt := 251) hx hb dX13_tryChanges_277 (by decide) ?_
                              exact ih251 y71 E69 _ _ _ (iv_w iy71 (by decide)) (by first | exact ms_su hx251_0 ty71 (by decide) | omega) hI hKp ((pw70.2 0 88 (fun q9 => absurd q9.1 (Nat.ne_of_beq_eq_false rfl))).trans hs251_0_88) ((pw70.2 0 89 (fun q9 => absurd q9.1 (Nat.ne_of_beq_eq_false rfl))).trans hs251_0_89) hP hS (lv_sub hl [0, 1, 2, 3, 4] rfl)
                        exact hL251 (5) (0 : Int32) E59 _ _ _ (iv_w ln_0 (by decide)) (by have h9 := ln_0; first | exact ms_bu h9.1 (by decide) | omega) hI hKp ((pw60.2 0 88 (fun q9 => absurd q9.2 (Nat.ne_of_beq_eq_false rfl))).trans pw58.1) pw60.1 hP hS (lv_sub hl [0, 1, 2, 3, 4] rfl)
                      · --234 not
                        have t72 : y52.toInt ≤ v44_3.toInt := ti_nlt c53
                        rw [hQ]
                        exact W.vret hx hb hr (fun t ht hW => ⟨⟨E, rfl, ⟨hI, hKp, trivial⟩, by show va_P (dC, dI) vwCl (WX 72 ad E) t.heap; rw [ht]; exact hP⟩, hS.F ht⟩) hS.2.2 dX13_tryChanges_237
              · --81 not
                have t73 : v75_4.toInt < (xi (E 0) 87).toInt := ti_nle c7
                have i74 : 0 ≤ v75_4.toInt ∧ v75_4.toInt ≤ 19 := iv_lt_l t73 hv75_4 i6 (by decide)
                have i75 : 1 ≤ (xi (E 0) 87).toInt ∧ (xi (E 0) 87).toInt ≤ 20 := iv_lt_r t73 hv75_4 i6 (by decide)
                refine lv_ldcw hx hb hown (hts _ (vA_in _ _ (in_30 _ (zs1 (zs1 (zs0)))))) dX13_tryChanges_84 ?_
                refine lv_istore (lv' := [(5, .int 2147483647), (4, .int v75_4), (3, .int v44_3), (2, .int v75_2), (0, .ref (ad 0)), (1, .int a0)]) hx hb dX13_tryChanges_87 hl (by decide) rfl (fun ls hl => ?_)
                refine lv_ldcw hx hb hown (hts _ (vA_in _ _ (in_30 _ (zs1 (zs1 (zs1 (zs0))))))) dX13_tryChanges_89 ?_
                refine lv_istore (lv' := [(6, .int (-2147483648)), (5, .int 2147483647), (4, .int v75_4), (3, .int v44_3), (2, .int v75_2), (0, .ref (ad 0)), (1, .int a0)]) hx hb dX13_tryChanges_92 hl (by decide) rfl (fun ls hl => ?_)
                refine lv_iconst (v := 0) hx hb dX13_tryChanges_94 (by decide) ?_
                refine lv_istore (lv' := [(7, .int 0), (6, .int (-2147483648)), (5, .int 2147483647), (4, .int v75_4), (3, .int v44_3), (2, .int v75_2), (0, .ref (ad 0)), (1, .int a0)]) hx hb dX13_tryChanges_95 hl (by decide) rfl (fun ls hl => ?_)
                have hL97 : ∀ d : Nat, ∀ (v97_7 : Int32) (v97_6 : Int32) (v97_5 : Int32) (H : Heap) (locs : List Loc) (ls : Array Slot), 0 ≤ v97_7.toInt ∧ v97_7.toInt ≤ 4 → -2147483648 ≤ v97_6.toInt ∧ v97_6.toInt ≤ 400600 → 0 ≤ v97_5.toInt ∧ v97_5.toInt ≤ 2147483647 → 4 - v97_7.toInt < (d : Int) → va_P (dC, dI) vwCl (WX 72 ad E) H → va_S A s.heap H locs → lv_has ls 9 [(7, .int v97_7), (6, .int v97_6), (5, .int v97_5), (4, .int v75_4), (3, .int v44_3), (2, .int v75_2), (0, .ref (ad 0)), (1, .int a0)] → W p l e (headSpec v_tryChanges (rm_tryChanges n)).room s m args below meth c H locs 0 0 Q (F0 m 97 ls []) := by
                  intro d
                  induction d with
                  | zero =>
                    intro v97_7 v97_6 v97_5 H locs ls hv97_7 hv97_6 hv97_5 hx97_0 hP hS hl
                    exact absurd hx97_0 (by first | exact ms_zu hv97_7.2 | omega)
                  | succ d ih97 =>
                    intro v97_7 v97_6 v97_5 H locs ls hv97_7 hv97_6 hv97_5 hx97_0 hP hS hl
                    refine lv_iload hx hb dX13_tryChanges_97 (lv_at hl 0 rfl) ?_
                    refine lv_aload_n hx hb dX13_tryChanges_99 rfl (lv_at hl 6 rfl) ?_
                    refine th_get (ci := 14) (C := RX13) (T := TX13) (N := 97) (v := .int (xi (E 0) 86)) hx hb hts hinX13 hown hK hP hI 0 (Nat.le_of_ble_eq_true rfl) rfl rfl 86 (Nat.le_of_ble_eq_true rfl) (hts _ (vA_in _ _ (in_27 _ (zs16 (zs4 (zs1 (zs1 (zs0)))))))) (fun _ h9 => h9) (th_v0 hKp hI0 0 (Nat.le_of_ble_eq_true rfl) rfl (Nat.le_of_ble_eq_true rfl) rfl rfl) dX13_tryChanges_100 ?_
                    refine lv_icmp_ge (tgt := 191) hx hb dX13_tryChanges_103 (by decide) (fun c76 => ?_) (fun c76 => ?_)
                    · --103 taken
                      have t77 : (xi (E 0) 86).toInt ≤ v97_7.toInt := ti_le c76
                      refine lv_iload_n hx hb dX13_tryChanges_191 rfl (lv_at hl 5 rfl) ?_
                      refine lv_iload hx hb dX13_tryChanges_192 (lv_at hl 1 rfl) ?_
                      refine lv_iload hx hb dX13_tryChanges_194 (lv_at hl 2 rfl) ?_
                      refine lv_isub hx hb dX13_tryChanges_196 ?_
                      refine lv_topi (fun y78 ey78 => ?_)
                      refine lv_iadd hx hb dX13_tryChanges_197 ?_
                      refine lv_topi (fun y79 ey79 => ?_)
                      refine lv_istore_n (lv' := [(2, .int y79), (7, .int v97_7), (6, .int v97_6), (5, .int v97_5), (4, .int v75_4), (3, .int v44_3), (0, .ref (ad 0)), (1, .int a0)]) hx hb dX13_tryChanges_198 rfl hl (by decide) rfl (fun ls hl => ?_)
                      obtain ⟨y80, ey80⟩ : ∃ y : Int32, y = v75_4 + (1 : Int32) := ⟨_, rfl⟩
                      obtain ⟨ty80, iy80⟩ := ti_add (e := 1) (f := 20) i74 ln_1 ey80 (by decide)
                      have ty80 : y80.toInt = v75_4.toInt + 1 := ty80
                      have iy80 : 1 ≤ y80.toInt ∧ y80.toInt ≤ 20 := iy80
                      refine lv_iinc (v := y80) (lv' := [(4, .int y80), (2, .int y79), (7, .int v97_7), (6, .int v97_6), (5, .int v97_5), (3, .int v44_3), (0, .ref (ad 0)), (1, .int a0)]) hx hb dX13_tryChanges_199 hl (k := 4) rfl (by rw [ey80]; rfl) (by decide) rfl (fun ls hl => ?_)
                      refine lv_goto (tgt := 75) hx hb dX13_tryChanges_202 (by decide) ?_
                      exact ih75 y80 y79 _ _ _ (iv_w iy80 (by decide)) (by first | exact ms_su hx75_0 ty80 (by decide) | omega) hP hS (lv_sub hl [0, 5, 1, 6, 7] rfl)
                    · --103 not
                      have t81 : v97_7.toInt < (xi (E 0) 86).toInt := ti_nle c76
                      have i82 : 0 ≤ v97_7.toInt ∧ v97_7.toInt ≤ 3 := iv_lt_l t81 hv97_7 i1 (by decide)
                      have i83 : 1 ≤ (xi (E 0) 86).toInt ∧ (xi (E 0) 86).toInt ≤ 4 := iv_lt_r t81 hv97_7 i1 (by decide)
                      refine lv_aload_n hx hb dX13_tryChanges_106 rfl (lv_at hl 6 rfl) ?_
                      refine th_get (ci := 14) (C := RX13) (T := TX13) (N := 97) (v := .ref (ad 62)) hx hb hts hinX13 hown hK hP hI 0 (Nat.le_of_ble_eq_true rfl) rfl rfl 82 (Nat.le_of_ble_eq_true rfl) (hts _ (vA_in _ _ (in_27 _ (zs16 (zs4 (zs4 (zs4 (zs1 (zs1 (zs0)))))))))) (fun _ h9 => h9) (hI.fr 0 (Nat.le_of_ble_eq_true rfl) rfl (Nat.le_of_ble_eq_true rfl) 62 rfl) dX13_tryChanges_107 ?_
                      refine lv_iconst (v := 4) hx hb dX13_tryChanges_110 (by decide) ?_
                      refine lv_iload hx hb dX13_tryChanges_111 (lv_at hl 3 rfl) ?_
                      refine lv_imul hx hb dX13_tryChanges_113 ?_
                      refine lv_topi (fun y84 ey84 => ?_)
                      obtain ⟨ty84, iy84⟩ := ti_mul (e := 0) (f := 76) ln_4 i74 ey84 (by decide)
                      have ty84 : y84.toInt = 4 * v75_4.toInt := ty84
                      have iy84 : 0 ≤ y84.toInt ∧ y84.toInt ≤ 76 := iy84
                      refine lv_iload hx hb dX13_tryChanges_114 (lv_at hl 0 rfl) ?_
                      refine lv_iadd hx hb dX13_tryChanges_116 ?_
                      refine lv_topi (fun y85 ey85 => ?_)
                      obtain ⟨ty85, iy85⟩ := ti_add (e := 0) (f := 79) iy84 i82 ey85 (by decide)
                      have ty85 : y85.toInt = y84.toInt + v97_7.toInt := ty85
                      have iy85 : 0 ≤ y85.toInt ∧ y85.toInt ≤ 79 := iy85
                      have n87 : vp_in y85 80 := (iv_in (n := 80) iy85 (by decide))
                      refine th_iald hx hb hK hP hI 62 (Nat.le_of_ble_eq_true rfl) rfl rfl n87 dX13_tryChanges_117 (fun y86 ey86 => ?_)
                      have iy86 : 0 ≤ y86.toInt ∧ y86.toInt ≤ 200000 := hI.el 62 (Nat.le_of_ble_eq_true rfl) rfl n87 (fun _ => rfl) ey86
                      have ey86 := ey86.trans (hKp.ei 62 _ rfl)
                      refine lv_if_ne (tgt := 124) hx hb dX13_tryChanges_118 (by decide) (fun c88 => ?_) (fun c88 => ?_)
                      · --118 taken
                        have t89 : ¬ y86.toInt = 0 := ti_ne c88
                        have i90 : 1 ≤ y86.toInt ∧ y86.toInt ≤ 200000 := iv_ne_l t89 iy86 (il_ 0)
                        refine lv_aload_n hx hb dX13_tryChanges_124 rfl (lv_at hl 6 rfl) ?_
                        refine th_get (ci := 14) (C := RX13) (T := TX13) (N := 97) (v := .ref (ad 62)) hx hb hts hinX13 hown hK hP hI 0 (Nat.le_of_ble_eq_true rfl) rfl rfl 82 (Nat.le_of_ble_eq_true rfl) (hts _ (vA_in _ _ (in_27 _ (zs16 (zs4 (zs4 (zs4 (zs1 (zs1 (zs0)))))))))) (fun _ h9 => h9) (hI.fr 0 (Nat.le_of_ble_eq_true rfl) rfl (Nat.le_of_ble_eq_true rfl) 62 rfl) dX13_tryChanges_125 ?_
                        refine lv_iconst (v := 4) hx hb dX13_tryChanges_128 (by decide) ?_
                        refine lv_iload hx hb dX13_tryChanges_129 (lv_at hl 3 rfl) ?_
                        refine lv_imul hx hb dX13_tryChanges_131 ?_
                        refine lv_topi (fun y91 ey91 => ?_)
                        obtain ⟨ty91, iy91⟩ := ti_mul (e := 0) (f := 76) ln_4 i74 ey91 (by decide)
                        have ty91 : y91.toInt = 4 * v75_4.toInt := ty91
                        have iy91 : 0 ≤ y91.toInt ∧ y91.toInt ≤ 76 := iy91
                        refine lv_iload hx hb dX13_tryChanges_132 (lv_at hl 0 rfl) ?_
                        refine lv_iadd hx hb dX13_tryChanges_134 ?_
                        refine lv_topi (fun y92 ey92 => ?_)
                        obtain ⟨ty92, iy92⟩ := ti_add (e := 0) (f := 79) iy91 i82 ey92 (by decide)
                        have ty92 : y92.toInt = y91.toInt + v97_7.toInt := ty92
                        have iy92 : 0 ≤ y92.toInt ∧ y92.toInt ≤ 79 := iy92
                        have n94 : vp_in y92 80 := (iv_in (n := 80) iy92 (by decide))
                        refine th_iald hx hb hK hP hI 62 (Nat.le_of_ble_eq_true rfl) rfl rfl n94 dX13_tryChanges_135 (fun y93 ey93 => ?_)
                        have iy93 : 0 ≤ y93.toInt ∧ y93.toInt ≤ 200000 := hI.el 62 (Nat.le_of_ble_eq_true rfl) rfl n94 (fun _ => rfl) ey93
                        have ey93 := ey93.trans (hKp.ei 62 _ rfl)
                        refine lv_iconst (v := 1) hx hb dX13_tryChanges_136 (by decide) ?_
                        refine lv_aload_n hx hb dX13_tryChanges_137 rfl (lv_at hl 6 rfl) ?_
                        refine th_get (ci := 14) (C := RX13) (T := TX13) (N := 97) (v := .ref (ad 63)) hx hb hts hinX13 hown hK hP hI 0 (Nat.le_of_ble_eq_true rfl) rfl rfl 83 (Nat.le_of_ble_eq_true rfl) (hts _ (vA_in _ _ (in_27 _ (zs16 (zs4 (zs4 (zs4 (zs1 (zs1 (zs1 (zs0))))))))))) (fun _ h9 => h9) (hI.fr 0 (Nat.le_of_ble_eq_true rfl) rfl (Nat.le_of_ble_eq_true rfl) 63 rfl) dX13_tryChanges_138 ?_
                        refine lv_iconst (v := 4) hx hb dX13_tryChanges_141 (by decide) ?_
                        refine lv_iload hx hb dX13_tryChanges_142 (lv_at hl 3 rfl) ?_
                        refine lv_imul hx hb dX13_tryChanges_144 ?_
                        refine lv_topi (fun y95 ey95 => ?_)
                        obtain ⟨ty95, iy95⟩ := ti_mul (e := 0) (f := 76) ln_4 i74 ey95 (by decide)
                        have ty95 : y95.toInt = 4 * v75_4.toInt := ty95
                        have iy95 : 0 ≤ y95.toInt ∧ y95.toInt ≤ 76 := iy95
                        refine lv_iload hx hb dX13_tryChanges_145 (lv_at hl 0 rfl) ?_
                        refine lv_iadd hx hb dX13_tryChanges_147 ?_
                        refine lv_topi (fun y96 ey96 => ?_)
                        obtain ⟨ty96, iy96⟩ := ti_add (e := 0) (f := 79) iy95 i82 ey96 (by decide)
                        have ty96 : y96.toInt = y95.toInt + v97_7.toInt := ty96
                        have iy96 : 0 ≤ y96.toInt ∧ y96.toInt ≤ 79 := iy96
                        have n98 : vp_in y96 80 := (iv_in (n := 80) iy96 (by decide))
                        refine th_iald hx hb hK hP hI 63 (Nat.le_of_ble_eq_true rfl) rfl rfl n98 dX13_tryChanges_148 (fun y97 ey97 => ?_)
                        have iy97 : 0 ≤ y97.toInt ∧ y97.toInt ≤ 2000 := hI.el 63 (Nat.le_of_ble_eq_true rfl) rfl n98 (fun _ => rfl) ey97
                        have ey97 := ey97.trans (hKp.ei 63 _ rfl)
                        refine lv_aload_n hx hb dX13_tryChanges_149 rfl (lv_at hl 6 rfl) ?_
                        refine th_get (ci := 14) (C := RX13) (T := TX13) (N := 97) (v := .ref (ad 64)) hx hb hts hinX13 hown hK hP hI 0 (Nat.le_of_ble_eq_true rfl) rfl rfl 84 (Nat.le_of_ble_eq_true rfl) (hts _ (vA_in _ _ (in_30 _ (zs1 (zs0))))) (fun _ h9 => h9) (hI.fr 0 (Nat.le_of_ble_eq_true rfl) rfl (Nat.le_of_ble_eq_true rfl) 64 rfl) dX13_tryChanges_150 ?_
                        refine lv_iload hx hb dX13_tryChanges_153 (lv_at hl 0 rfl) ?_
                        have n100 : vp_in v97_7 4 := (iv_in (n := 4) i82 (by decide))
                        refine th_iald hx hb hK hP hI 64 (Nat.le_of_ble_eq_true rfl) rfl rfl n100 dX13_tryChanges_155 (fun y99 ey99 => ?_)
                        have iy99 : -3 ≤ y99.toInt ∧ y99.toInt ≤ 3 := hI.el 64 (Nat.le_of_ble_eq_true rfl) rfl n100 (fun _ => rfl) ey99
                        refine lv_iadd hx hb dX13_tryChanges_156 ?_
                        refine lv_topi (fun y101 ey101 => ?_)
                        obtain ⟨ty101, iy101⟩ := ti_add (e := (-3)) (f := 2003) iy97 iy99 ey101 (by decide)
                        have ty101 : y101.toInt = y97.toInt + y99.toInt := ty101
                        have iy101 : -3 ≤ y101.toInt ∧ y101.toInt ≤ 2003 := iy101
                        refine va_mmax hx hb (by rw [hml]; exact hl.1.symm) hown (hts _ (vA_in _ _ (in_25 _ (zs16 (zs4 (zs4 (zs1 (zs1 (zs1 (zs0)))))))))) (hts _ (vA_in _ _ (in_0 _ (zs16 (zs16 (zs0)))))) (hts _ (vA_in _ _ (in_0 _ (zs16 (zs16 (zs1 (zs0))))))) (hts _ (vA_in _ _ (in_0 _ (zs16 (zs16 (zs1 (zs1 (zs0)))))))) (Nat.le_of_ble_eq_true rfl) (Nat.le_of_ble_eq_true rfl) (Nat.le_of_ble_eq_true rfl) (Nat.le_of_ble_eq_true rfl) dX13_tryChanges_157 ?_
                        have z1 := ln_1
                        refine lv_topi (fun y102 ey102 => ?_)
                        obtain ⟨ty102, iy102⟩ := ti_max (e := 1) (f := 2003) ln_1 iy101 ey102 (by decide)
                        have iy102 : 1 ≤ y102.toInt ∧ y102.toInt ≤ 2003 := iy102
                        refine lv_imul hx hb dX13_tryChanges_160 ?_
                        refine lv_topi (fun y103 ey103 => ?_)
                        obtain ⟨ty103, iy103⟩ := ti_mul (e := 0) (f := 400600000) iy93 iy102 ey103 (by decide)
                        have ty103 : y103.toInt = y93.toInt * y102.toInt := ty103
                        have iy103 : 0 ≤ y103.toInt ∧ y103.toInt ≤ 400600000 := iy103
                        refine lv_sipush (v := 1000) hx hb dX13_tryChanges_161 (by decide) ?_
                        refine lv_idiv hx hb dX13_tryChanges_164 (by decide) ?_
                        refine lv_topi (fun y104 ey104 => ?_)
                        obtain ⟨ty104, iy104⟩ := ti_div (e := 0) (f := 400600) iy103 ln_1000 ey104 (by decide)
                        have iy104 : 0 ≤ y104.toInt ∧ y104.toInt ≤ 400600 := iy104
                        refine lv_istore (lv' := [(8, .int y104), (7, .int v97_7), (6, .int v97_6), (5, .int v97_5), (4, .int v75_4), (3, .int v44_3), (2, .int v75_2), (0, .ref (ad 0)), (1, .int a0)]) hx hb dX13_tryChanges_165 hl (by decide) rfl (fun ls hl => ?_)
                        refine lv_iload hx hb dX13_tryChanges_167 (lv_at hl 3 rfl) ?_
                        refine lv_iload hx hb dX13_tryChanges_169 (lv_at hl 0 rfl) ?_
                        refine va_mmin hx hb (by rw [hml]; exact hl.1.symm) hown (hts _ (vA_in _ _ (in_28 _ (zs16 (zs4 (zs4 (zs1 (zs1 (zs0))))))))) (hts _ (vA_in _ _ (in_0 _ (zs16 (zs16 (zs4 (zs0))))))) (hts _ (vA_in _ _ (in_0 _ (zs16 (zs16 (zs1 (zs0))))))) (hts _ (vA_in _ _ (in_0 _ (zs16 (zs16 (zs4 (zs1 (zs0)))))))) (Nat.le_of_ble_eq_true rfl) (Nat.le_of_ble_eq_true rfl) (Nat.le_of_ble_eq_true rfl) (Nat.le_of_ble_eq_true rfl) dX13_tryChanges_171 ?_
                        refine lv_topi (fun y105 ey105 => ?_)
                        obtain ⟨ty105, iy105⟩ := ti_min (e := 0) (f := 400600) hv97_5 iy104 ey105 (by decide)
                        have iy105 : 0 ≤ y105.toInt ∧ y105.toInt ≤ 400600 := iy105
                        refine lv_istore (lv' := [(5, .int y105), (8, .int y104), (7, .int v97_7), (6, .int v97_6), (4, .int v75_4), (3, .int v44_3), (2, .int v75_2), (0, .ref (ad 0)), (1, .int a0)]) hx hb dX13_tryChanges_174 hl (by decide) rfl (fun ls hl => ?_)
                        refine lv_iload hx hb dX13_tryChanges_176 (lv_at hl 3 rfl) ?_
                        refine lv_iload hx hb dX13_tryChanges_178 (lv_at hl 1 rfl) ?_
                        refine va_mmax hx hb (by rw [hml]; exact hl.1.symm) hown (hts _ (vA_in _ _ (in_25 _ (zs16 (zs4 (zs4 (zs1 (zs1 (zs1 (zs0)))))))))) (hts _ (vA_in _ _ (in_0 _ (zs16 (zs16 (zs0)))))) (hts _ (vA_in _ _ (in_0 _ (zs16 (zs16 (zs1 (zs0))))))) (hts _ (vA_in _ _ (in_0 _ (zs16 (zs16 (zs1 (zs1 (zs0)))))))) (Nat.le_of_ble_eq_true rfl) (Nat.le_of_ble_eq_true rfl) (Nat.le_of_ble_eq_true rfl) (Nat.le_of_ble_eq_true rfl) dX13_tryChanges_180 ?_
                        refine lv_topi (fun y106 ey106 => ?_)
                        obtain ⟨ty106, iy106⟩ := ti_max (e := 0) (f := 400600) hv97_6 iy104 ey106 (by decide)
                        have iy106 : 0 ≤ y106.toInt ∧ y106.toInt ≤ 400600 := iy106
                        refine lv_istore (lv' := [(6, .int y106), (5, .int y105), (8, .int y104), (7, .int v97_7), (4, .int v75_4), (3, .int v44_3), (2, .int v75_2), (0, .ref (ad 0)), (1, .int a0)]) hx hb dX13_tryChanges_183 hl (by decide) rfl (fun ls hl => ?_)
                        obtain ⟨y107, ey107⟩ : ∃ y : Int32, y = v97_7 + (1 : Int32) := ⟨_, rfl⟩
                        obtain ⟨ty107, iy107⟩ := ti_add (e := 1) (f := 4) i82 ln_1 ey107 (by decide)
                        have ty107 : y107.toInt = v97_7.toInt + 1 := ty107
                        have iy107 : 1 ≤ y107.toInt ∧ y107.toInt ≤ 4 := iy107
                        refine lv_iinc (v := y107) (lv' := [(7, .int y107), (6, .int y106), (5, .int y105), (8, .int y104), (4, .int v75_4), (3, .int v44_3), (2, .int v75_2), (0, .ref (ad 0)), (1, .int a0)]) hx hb dX13_tryChanges_185 hl (k := 3) rfl (by rw [ey107]; rfl) (by decide) rfl (fun ls hl => ?_)
                        refine lv_goto (tgt := 97) hx hb dX13_tryChanges_188 (by decide) ?_
                        exact ih97 y107 y106 y105 _ _ _ (iv_w iy107 (by decide)) (iv_w iy106 (by decide)) (iv_w iy105 (by decide)) (by first | exact ms_su hx97_0 ty107 (by decide) | omega) hP hS (lv_sub hl [0, 1, 2, 4, 5, 6, 7, 8] rfl)
                      · --118 not
                        have t108 : y86.toInt = 0 := ti_eq c88
                        have i109 : 0 ≤ y86.toInt ∧ y86.toInt ≤ 0 := iv_eqi t108 iy86 (il_ 0) (by decide)
                        refine lv_goto (tgt := 185) hx hb dX13_tryChanges_121 (by decide) ?_
                        obtain ⟨y110, ey110⟩ : ∃ y : Int32, y = v97_7 + (1 : Int32) := ⟨_, rfl⟩
                        obtain ⟨ty110, iy110⟩ := ti_add (e := 1) (f := 4) i82 ln_1 ey110 (by decide)
                        have ty110 : y110.toInt = v97_7.toInt + 1 := ty110
                        have iy110 : 1 ≤ y110.toInt ∧ y110.toInt ≤ 4 := iy110
                        refine lv_iinc (v := y110) (lv' := [(7, .int y110), (6, .int v97_6), (5, .int v97_5), (4, .int v75_4), (3, .int v44_3), (2, .int v75_2), (0, .ref (ad 0)), (1, .int a0)]) hx hb dX13_tryChanges_185 hl (k := 0) rfl (by rw [ey110]; rfl) (by decide) rfl (fun ls hl => ?_)
                        refine lv_goto (tgt := 97) hx hb dX13_tryChanges_188 (by decide) ?_
                        exact ih97 y110 v97_6 v97_5 _ _ _ (iv_w iy110 (by decide)) hv97_6 hv97_5 (by first | exact ms_su hx97_0 ty110 (by decide) | omega) hP hS (lv_sub hl [0, 1, 2, 3, 4, 5, 6, 7] rfl)
                exact hL97 (5) (0 : Int32) (-2147483648 : Int32) (2147483647 : Int32) _ _ _ (iv_w ln_0 (by decide)) (iv_w ln_m2147483648 (by decide)) (iv_w ln_2147483647 (by decide)) (by have h9 := ln_0; first | exact ms_bu h9.1 (by decide) | omega) hP hS (lv_sub hl [0, 1, 2, 3, 4, 5, 6, 7] rfl)
          exact hL75 (21) (0 : Int32) (0 : Int32) _ _ _ (iv_w ln_0 (by decide)) (by have h9 := ln_0; first | exact ms_bu h9.1 (by decide) | omega) hP hS (lv_sub hl [0, 1, 2, 3, 4] rfl)
        · --50 not
          have t111 : v44_4.toInt < (xi (E 0) 86).toInt := ti_nle c4
          have i112 : 0 ≤ v44_4.toInt ∧ v44_4.toInt ≤ 3 := iv_lt_l t111 hv44_4 i1 (by decide)
          have i113 : 1 ≤ (xi (E 0) 86).toInt ∧ (xi (E 0) 86).toInt ≤ 4 := iv_lt_r t111 hv44_4 i1 (by decide)
          refine lv_iload_n hx hb dX13_tryChanges_53 rfl (lv_at hl 1 rfl) ?_
          refine lv_aload_n hx hb dX13_tryChanges_54 rfl (lv_at hl 3 rfl) ?_
          refine th_get (ci := 14) (C := RX13) (T := TX13) (N := 97) (v := .ref (ad 64)) hx hb hts hinX13 hown hK hP hI 0 (Nat.le_of_ble_eq_true rfl) rfl rfl 84 (Nat.le_of_ble_eq_true rfl) (hts _ (vA_in _ _ (in_30 _ (zs1 (zs0))))) (fun _ h9 => h9) (hI.fr 0 (Nat.le_of_ble_eq_true rfl) rfl (Nat.le_of_ble_eq_true rfl) 64 rfl) dX13_tryChanges_55 ?_
          refine lv_iload hx hb dX13_tryChanges_58 (lv_at hl 0 rfl) ?_
          have n115 : vp_in v44_4 4 := (iv_in (n := 4) i112 (by decide))
          refine th_iald hx hb hK hP hI 64 (Nat.le_of_ble_eq_true rfl) rfl rfl n115 dX13_tryChanges_60 (fun y114 ey114 => ?_)
          have iy114 : -3 ≤ y114.toInt ∧ y114.toInt ≤ 3 := hI.el 64 (Nat.le_of_ble_eq_true rfl) rfl n115 (fun _ => rfl) ey114
          refine va_mabs hx hb (by rw [hml]; exact hl.1.symm) hown (hts _ (vA_in _ _ (in_25 _ (zs16 (zs16 (zs1 (zs1 (zs0)))))))) (hts _ (vA_in _ _ (in_23 _ (zs4 (zs4 (zs1 (zs1 (zs0)))))))) (hts _ (vA_in _ _ (in_0 _ (zs16 (zs16 (zs1 (zs0))))))) (hts _ (vA_in _ _ (in_23 _ (zs4 (zs4 (zs1 (zs1 (zs1 (zs0))))))))) (Nat.le_of_ble_eq_true rfl) (Nat.le_of_ble_eq_true rfl) (Nat.le_of_ble_eq_true rfl) (Nat.le_of_ble_eq_true rfl) dX13_tryChanges_61 ?_
          refine lv_topi (fun y116 ey116 => ?_)
          obtain ⟨ty116, iy116⟩ := ti_abs (e := 0) (f := 3) iy114 ey116 (by decide)
          have iy116 : 0 ≤ y116.toInt ∧ y116.toInt ≤ 3 := iy116
          refine lv_iadd hx hb dX13_tryChanges_64 ?_
          refine lv_topi (fun y117 ey117 => ?_)
          refine lv_istore_n (lv' := [(3, .int y117), (4, .int v44_4), (2, .int 0), (0, .ref (ad 0)), (1, .int a0)]) hx hb dX13_tryChanges_65 rfl hl (by decide) rfl (fun ls hl => ?_)
          obtain ⟨y118, ey118⟩ : ∃ y : Int32, y = v44_4 + (1 : Int32) := ⟨_, rfl⟩
          obtain ⟨ty118, iy118⟩ := ti_add (e := 1) (f := 4) i112 ln_1 ey118 (by decide)
          have ty118 : y118.toInt = v44_4.toInt + 1 := ty118
          have iy118 : 1 ≤ y118.toInt ∧ y118.toInt ≤ 4 := iy118
          refine lv_iinc (v := y118) (lv' := [(4, .int y118), (3, .int y117), (2, .int 0), (0, .ref (ad 0)), (1, .int a0)]) hx hb dX13_tryChanges_66 hl (k := 1) rfl (by rw [ey118]; rfl) (by decide) rfl (fun ls hl => ?_)
          refine lv_goto (tgt := 44) hx hb dX13_tryChanges_69 (by decide) ?_
          exact ih44 y118 y117 _ _ _ (iv_w iy118 (by decide)) (by first | exact ms_su hx44_0 ty118 (by decide) | omega) hP hS (lv_sub hl [0, 1, 2, 3, 4] rfl)
    exact hL44 (5) (0 : Int32) (0 : Int32) _ _ _ (iv_w ln_0 (by decide)) (by have h9 := ln_0; first | exact ms_bu h9.1 (by decide) | omega) hP hS (lv_sub hl [0, 1, 2, 3, 4] rfl)
  · --5 not
    have t119 : a0.toInt < (xi (E 0) 86).toInt := ti_nle c2
    have i120 : 0 ≤ a0.toInt ∧ a0.toInt ≤ 3 := iv_lt_l t119 hh0 i1 (by decide)
    have i121 : 1 ≤ (xi (E 0) 86).toInt ∧ (xi (E 0) 86).toInt ≤ 4 := iv_lt_r t119 hh0 i1 (by decide)
    obtain ⟨k9, hk9⟩ : ∃ k9, n = k9 + 1 := ⟨n - 1, by omega⟩
    refine lv_bipush (v := -3) hx hb dX13_tryChanges_8 (by decide) ?_
    refine lv_istore_n (lv' := [(2, .int (-3)), (0, .ref (ad 0)), (1, .int a0)]) hx hb dX13_tryChanges_10 rfl hl (by decide) rfl (fun ls hl => ?_)
    have hL11 : ∀ d : Nat, ∀ (v11_2 : Int32) (E11_ : Nat → va_E) (H : Heap) (locs : List Loc) (ls : Array Slot), -3 ≤ v11_2.toInt ∧ v11_2.toInt ≤ 4 → 4 - v11_2.toInt < (d : Int) → IX cT shM spM 72 ad E11_ → Kp w_tryChanges E E11_ → va_P (dC, dI) vwCl (WX 72 ad E11_) H → va_S A s.heap H locs → lv_has ls 9 [(2, .int v11_2), (0, .ref (ad 0)), (1, .int a0)] → W p l e (headSpec v_tryChanges (rm_tryChanges n)).room s m args below meth c H locs 0 0 Q (F0 m 11 ls []) := by
      intro d
      induction d with
      | zero =>
        intro v11_2 E11_ H locs ls hv11_2 hx11_0 hI hKp hP hS hl
        exact absurd hx11_0 (by first | exact ms_zu hv11_2.2 | omega)
      | succ d ih11 =>
        intro v11_2 E11_ H locs ls hv11_2 hx11_0 hI hKp hP hS hl
        refine lv_iload_n hx hb dX13_tryChanges_11 rfl (lv_at hl 0 rfl) ?_
        refine lv_iconst (v := 3) hx hb dX13_tryChanges_12 (by decide) ?_
        refine lv_icmp_gt (tgt := 36) hx hb dX13_tryChanges_13 (by decide) (fun c122 => ?_) (fun c122 => ?_)
        · --13 taken
          have t123 : (3 : Int) < v11_2.toInt := ti_lt c122
          have i124 : 4 ≤ v11_2.toInt ∧ v11_2.toInt ≤ 4 := iv_lt_r t123 (il_ 3) hv11_2 (by decide)
          rw [hQ]
          exact W.vret hx hb hr (fun t ht hW => ⟨⟨E11_, rfl, ⟨hI, hKp, trivial⟩, by show va_P (dC, dI) vwCl (WX 72 ad E11_) t.heap; rw [ht]; exact hP⟩, hS.F ht⟩) hS.2.2 dX13_tryChanges_36
        · --13 not
          have t125 : v11_2.toInt ≤ 3 := ti_nlt c122
          have i126 : -3 ≤ v11_2.toInt ∧ v11_2.toInt ≤ 3 := iv_le_l t125 hv11_2 (il_ 3) (by decide)
          refine lv_aload_n hx hb dX13_tryChanges_16 rfl (lv_at hl 1 rfl) ?_
          refine th_get (ci := 14) (C := RX13) (T := TX13) (N := 97) (v := .ref (ad 64)) hx hb hts hinX13 hown hK hP hI 0 (Nat.le_of_ble_eq_true rfl) rfl rfl 84 (Nat.le_of_ble_eq_true rfl) (hts _ (vA_in _ _ (in_30 _ (zs1 (zs0))))) (fun _ h9 => h9) (hI.fr 0 (Nat.le_of_ble_eq_true rfl) rfl (Nat.le_of_ble_eq_true rfl) 64 rfl) dX13_tryChanges_17 ?_
          refine lv_iload_n hx hb dX13_tryChanges_20 rfl (lv_at hl 2 rfl) ?_
          refine lv_iload_n hx hb dX13_tryChanges_21 rfl (lv_at hl 0 rfl) ?_
          have n127 : vp_in a0 4 := (iv_in (n := 4) i120 (by decide))
          refine th_iast hx hb hK hP (WX_D hD) hS hI 64 (Nat.le_of_ble_eq_true rfl) rfl rfl n127 (okI rfl i126) dX13_tryChanges_22 (fun H locs E128 pw129 hI hP hS => ?_)
          have hKp := hKp.pw pw129 rfl
          refine lv_aload_n hx hb dX13_tryChanges_23 rfl (lv_at hl 1 rfl) ?_
          refine lv_iload_n hx hb dX13_tryChanges_24 rfl (lv_at hl 2 rfl) ?_
          refine lv_iconst (v := 1) hx hb dX13_tryChanges_25 (by decide) ?_
          refine lv_iadd hx hb dX13_tryChanges_26 ?_
          refine lv_topi (fun y130 ey130 => ?_)
          obtain ⟨ty130, iy130⟩ := ti_add (e := 1) (f := 4) i120 ln_1 ey130 (by decide)
          have ty130 : y130.toInt = a0.toInt + 1 := ty130
          have iy130 : 1 ≤ y130.toInt ∧ y130.toInt ≤ 4 := iy130
          refine th_v (va_runV (As := [.int y130]) (rest := []) ⟨hx, hb, hml, hown, hts⟩ ((gR k9 (by omega)) dC dI cT ad E128 H.size y130 hI (iv_w iy130 (by decide)) (by omega)) (cwV 1 hts (gi_V (in_29 _ (zs16 (zs16 (zs4 (zs1 (zs0)))))) (in_29 _ (zs16 (zs16 (zs4 (zs1 (zs1 (zs0))))))) (in_29 _ (zs16 (zs16 (zs4 (zs1 (zs1 (zs1 (zs0)))))))) (in_24 _ (zs4 (zs4 (zs4 (zs1 (zs1 (zs1 (zs0)))))))) (in_30 _ zs0)) rfl rfl rfl (by decide +kernel) ⟨(show 2 * k9 + 1 + 1 ≤ 2 * n + 1 by omega), (show 8 + (9 + 11) + 40 * (2 * k9 + 1) ≤ 40 * (2 * n + 1) by omega)⟩) ⟨HW_bl, va_recv hK hP (ci := 14) (q0 := 0) rfl (hI.ob 0 (Nat.le_of_ble_eq_true rfl) rfl), (HW_wi hP hK (WX_D hD) hS hA hEV)⟩ rfl rfl hl.1 rfl (lv_room (Nat.le_of_ble_eq_true rfl)) dX13_tryChanges_27 ⟨Nat.le_of_ble_eq_true rfl, Nat.le_of_ble_eq_true rfl⟩) (WX_D hD) hS hA (fun E132 H locs hw hP hS => ?_)
          obtain ⟨hI, kq133, hw⟩ := hw
          have hKb := hKp
          have hKp := hKp.tr kq133 (wl_sub rfl rfl)
          obtain ⟨y134, ey134⟩ : ∃ y : Int32, y = v11_2 + (1 : Int32) := ⟨_, rfl⟩
          obtain ⟨ty134, iy134⟩ := ti_add (e := (-2)) (f := 4) i126 ln_1 ey134 (by decide)
          have ty134 : y134.toInt = v11_2.toInt + 1 := ty134
          have iy134 : -2 ≤ y134.toInt ∧ y134.toInt ≤ 4 := iy134
          refine lv_iinc (v := y134) (lv' := [(2, .int y134), (0, .ref (ad 0)), (1, .int a0)]) hx hb dX13_tryChanges_30 hl (k := 0) rfl (by rw [ey134]; rfl) (by decide) rfl (fun ls hl => ?_)
          refine lv_goto (tgt := 11) hx hb dX13_tryChanges_33 (by decide) ?_
          exact ih11 y134 E132 _ _ _ (iv_w iy134 (by decide)) (by first | exact ms_su hx11_0 ty134 (by decide) | omega) hI hKp hP hS (lv_sub hl [0, 1, 2] rfl)
    exact hL11 (8) (-3 : Int32) E _ _ _ (iv_w ln_m3 (by decide)) (by have h9 := ln_m3; first | exact ms_bu h9.1 (by decide) | omega) hI hKp hP hS (lv_sub hl [0, 1, 2] rfl)
theorem q_tryAll (l : Launch) : ∀ n, C_tryChanges l n := by
  have key : ∀ n, ∀ k, k < n → C_tryChanges l k := by
    intro n
    induction n with
    | zero => intro k hk; exact absurd hk (by omega)
    | succ n ih => intro k hk; exact q_tryChanges l k (fun j hj => ih j (by omega))
  exact fun n => key (n + 1) n (by omega)
end

