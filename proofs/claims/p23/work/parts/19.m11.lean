set_option maxRecDepth 100000 in
theorem zh_dX13_findEven_0_0 : zc cX13_findEven 0 [42, 3, 181, 0, 228, 27, 4, 4, 42, 180, 0, 239, 120, 4, 100, 184] = true := by decide +kernel
set_option maxRecDepth 100000 in
theorem zh_dX13_findEven_15_16 : zc cX13_findEven 16 [0, 235, 153, 0, 19, 27, 184, 1, 247, 5, 161, 0, 11, 27, 184, 1] = true := by decide +kernel
set_option maxRecDepth 100000 in
theorem zh_dX13_findEven_30_32 : zc cX13_findEven 32 [247, 7, 164, 0, 5, 3, 172, 42, 3, 181, 1, 252, 3, 61, 28, 42] = true := by decide +kernel
set_option maxRecDepth 100000 in
theorem zh_dX13_findEven_48_48 : zc cX13_findEven 48 [180, 0, 239, 162, 0, 40, 27, 28, 122, 4, 126, 154, 0, 6, 167, 0] = true := by decide +kernel
set_option maxRecDepth 100000 in
theorem zh_dX13_findEven_62_64 : zc cX13_findEven 64 [23, 42, 180, 0, 192, 42, 180, 1, 252, 28, 79, 42, 89, 180, 1, 252] = true := by decide +kernel
set_option maxRecDepth 100000 in
theorem zh_dX13_findEven_80_80 : zc cX13_findEven 80 [4, 96, 181, 1, 252, 132, 2, 1, 167, 255, 214, 42, 3, 181, 1, 255] = true := by decide +kernel
set_option maxRecDepth 100000 in
theorem zh_dX13_findEven_96_96 : zc cX13_findEven 96 [3, 61, 28, 42, 180, 1, 134, 162, 0, 175, 3, 62, 3, 54, 4, 21] = true := by decide +kernel
set_option maxRecDepth 100000 in
theorem zh_dX13_findEven_111_112 : zc cX13_findEven 112 [4, 42, 180, 1, 252, 162, 0, 131, 42, 28, 42, 180, 0, 192, 21, 4] = true := by decide +kernel
set_option maxRecDepth 100000 in
theorem zh_dX13_findEven_128_128 : zc cX13_findEven 128 [46, 42, 180, 0, 232, 182, 1, 163, 154, 0, 7, 4, 167, 0, 4, 3] = true := by decide +kernel
set_option maxRecDepth 100000 in
theorem zh_dX13_findEven_144_144 : zc cX13_findEven 144 [54, 5, 42, 180, 0, 198, 7, 42, 180, 1, 255, 104, 21, 4, 96, 21] = true := by decide +kernel
set_option maxRecDepth 100000 in
theorem zh_dX13_findEven_159_160 : zc cX13_findEven 160 [5, 153, 0, 22, 42, 28, 42, 180, 0, 192, 21, 4, 46, 42, 180, 0] = true := by decide +kernel
set_option maxRecDepth 100000 in
theorem zh_dX13_findEven_174_176 : zc cX13_findEven 176 [232, 182, 1, 166, 167, 0, 4, 3, 79, 42, 180, 0, 201, 7, 42, 180] = true := by decide +kernel
set_option maxRecDepth 100000 in
theorem zh_dX13_findEven_191_192 : zc cX13_findEven 192 [1, 255, 104, 21, 4, 96, 21, 5, 153, 0, 27, 42, 42, 180, 0, 192] = true := by decide +kernel
set_option maxRecDepth 100000 in
theorem zh_dX13_findEven_208_208 : zc cX13_findEven 208 [21, 4, 46, 42, 180, 0, 50, 28, 46, 42, 180, 0, 232, 182, 1, 131] = true := by decide +kernel
set_option maxRecDepth 100000 in
theorem zh_dX13_findEven_224_224 : zc cX13_findEven 224 [167, 0, 4, 3, 79, 29, 21, 5, 153, 0, 7, 4, 167, 0, 4, 3] = true := by decide +kernel
set_option maxRecDepth 100000 in
theorem zh_dX13_findEven_240_240 : zc cX13_findEven 240 [96, 62, 132, 4, 1, 167, 255, 122, 42, 180, 0, 56, 28, 46, 154, 0] = true := by decide +kernel
set_option maxRecDepth 100000 in
theorem zh_dX13_findEven_254_256 : zc cX13_findEven 256 [18, 29, 4, 164, 0, 13, 42, 89, 180, 1, 255, 4, 96, 181, 1, 255] = true := by decide +kernel
set_option maxRecDepth 100000 in
theorem zh_dX13_findEven_272_272 : zc cX13_findEven 272 [132, 2, 1, 167, 255, 79, 42, 2, 181, 2, 2, 42, 3, 182, 2, 5] = true := by decide +kernel
set_option maxRecDepth 100000 in
theorem zh_dX13_findEven_288_288 : zc cX13_findEven 288 [4, 172] = true := by decide +kernel
set_option maxRecDepth 100000 in
theorem zh_dX13_even_0_0 : zc cX13_even 0 [42, 27, 182, 2, 13, 153, 0, 10, 42, 180, 2, 2, 167, 0, 4, 2] = true := by decide +kernel
set_option maxRecDepth 100000 in
theorem zh_dX13_even_16_16 : zc cX13_even 16 [172] = true := by decide +kernel
set_option maxRecDepth 100000 in
theorem zh_dX13_change_0_0 : zc cX13_change 0 [42, 27, 182, 2, 13, 154, 0, 7, 19, 1, 175, 172, 3, 62, 29, 42] = true := by decide +kernel
set_option maxRecDepth 100000 in
theorem zh_dX13_change_16_16 : zc cX13_change 16 [180, 1, 252, 162, 0, 26, 42, 180, 0, 192, 29, 46, 28, 160, 0, 10] = true := by decide +kernel
set_option maxRecDepth 100000 in
theorem zh_dX13_change_32_32 : zc cX13_change 32 [42, 180, 0, 207, 29, 46, 172, 132, 3, 1, 167, 255, 228, 19, 1, 175] = true := by decide +kernel
set_option maxRecDepth 100000 in
theorem zh_dX13_change_48_48 : zc cX13_change 48 [172] = true := by decide +kernel
set_option maxRecDepth 100000 in
theorem zh_dJ6_bitCount_0f7a4_0_0 : zc cJ6_bitCount_0f7a4 0 [26, 26, 4, 124, 19, 1, 9, 126, 100, 59, 26, 19, 1, 10, 126, 26] = true := by decide +kernel
set_option maxRecDepth 100000 in
theorem zh_dJ6_bitCount_0f7a4_16_16 : zc cJ6_bitCount_0f7a4 16 [5, 124, 19, 1, 10, 126, 96, 59, 26, 26, 7, 124, 96, 19, 1, 11] = true := by decide +kernel
set_option maxRecDepth 100000 in
theorem zh_dJ6_bitCount_0f7a4_32_32 : zc cJ6_bitCount_0f7a4 32 [126, 59, 26, 26, 16, 8, 124, 96, 59, 26, 26, 16, 16, 124, 96, 59] = true := by decide +kernel
set_option maxRecDepth 100000 in
theorem zh_dJ6_bitCount_0f7a4_48_48 : zc cJ6_bitCount_0f7a4 48 [26, 16, 63, 126, 172] = true := by decide +kernel
theorem dX13_findEven_0 : decode cX13_findEven 0 = .ok (.aload_n 0, 1) := zo_42 (zi_at zh_dX13_findEven_0_0 0 rfl)
theorem dX13_findEven_1 : decode cX13_findEven 1 = .ok (.iconst 0, 1) := zo_3 (zi_at zh_dX13_findEven_0_0 1 rfl)
theorem dX13_findEven_2 : decode cX13_findEven 2 = .ok (.putfield 228, 3) := zo_181 (zi_at zh_dX13_findEven_0_0 2 rfl) (zi_at zh_dX13_findEven_0_0 3 rfl) (zi_at zh_dX13_findEven_0_0 4 rfl) rfl
theorem dX13_findEven_5 : decode cX13_findEven 5 = .ok (.iload_n 1, 1) := zo_27 (zi_at zh_dX13_findEven_0_0 5 rfl)
theorem dX13_findEven_6 : decode cX13_findEven 6 = .ok (.iconst 1, 1) := zo_4 (zi_at zh_dX13_findEven_0_0 6 rfl)
theorem dX13_findEven_7 : decode cX13_findEven 7 = .ok (.iconst 1, 1) := zo_4 (zi_at zh_dX13_findEven_0_0 7 rfl)
theorem dX13_findEven_8 : decode cX13_findEven 8 = .ok (.aload_n 0, 1) := zo_42 (zi_at zh_dX13_findEven_0_0 8 rfl)
theorem dX13_findEven_9 : decode cX13_findEven 9 = .ok (.getfield 239, 3) := zo_180 (zi_at zh_dX13_findEven_0_0 9 rfl) (zi_at zh_dX13_findEven_0_0 10 rfl) (zi_at zh_dX13_findEven_0_0 11 rfl) rfl
theorem dX13_findEven_12 : decode cX13_findEven 12 = .ok (.ishl, 1) := zo_120 (zi_at zh_dX13_findEven_0_0 12 rfl)
theorem dX13_findEven_13 : decode cX13_findEven 13 = .ok (.iconst 1, 1) := zo_4 (zi_at zh_dX13_findEven_0_0 13 rfl)
theorem dX13_findEven_14 : decode cX13_findEven 14 = .ok (.isub, 1) := zo_100 (zi_at zh_dX13_findEven_0_0 14 rfl)
theorem dX13_findEven_15 : decode cX13_findEven 15 = .ok (.invokestatic 235, 3) := zo_184 (zi_at zh_dX13_findEven_0_0 15 rfl) (zi_at zh_dX13_findEven_15_16 0 rfl) (zi_at zh_dX13_findEven_15_16 1 rfl) rfl
theorem dX13_findEven_18 : decode cX13_findEven 18 = .ok (.ifCond .eq 19, 3) := zo_153 (zi_at zh_dX13_findEven_15_16 2 rfl) (zi_at zh_dX13_findEven_15_16 3 rfl) (zi_at zh_dX13_findEven_15_16 4 rfl) rfl
theorem dX13_findEven_21 : decode cX13_findEven 21 = .ok (.iload_n 1, 1) := zo_27 (zi_at zh_dX13_findEven_15_16 5 rfl)
theorem dX13_findEven_22 : decode cX13_findEven 22 = .ok (.invokestatic 503, 3) := zo_184 (zi_at zh_dX13_findEven_15_16 6 rfl) (zi_at zh_dX13_findEven_15_16 7 rfl) (zi_at zh_dX13_findEven_15_16 8 rfl) rfl
theorem dX13_findEven_25 : decode cX13_findEven 25 = .ok (.iconst 2, 1) := zo_5 (zi_at zh_dX13_findEven_15_16 9 rfl)
theorem dX13_findEven_26 : decode cX13_findEven 26 = .ok (.if_icmp .lt 11, 3) := zo_161 (zi_at zh_dX13_findEven_15_16 10 rfl) (zi_at zh_dX13_findEven_15_16 11 rfl) (zi_at zh_dX13_findEven_15_16 12 rfl) rfl
theorem dX13_findEven_29 : decode cX13_findEven 29 = .ok (.iload_n 1, 1) := zo_27 (zi_at zh_dX13_findEven_15_16 13 rfl)
theorem dX13_findEven_30 : decode cX13_findEven 30 = .ok (.invokestatic 503, 3) := zo_184 (zi_at zh_dX13_findEven_15_16 14 rfl) (zi_at zh_dX13_findEven_15_16 15 rfl) (zi_at zh_dX13_findEven_30_32 0 rfl) rfl
theorem dX13_findEven_33 : decode cX13_findEven 33 = .ok (.iconst 4, 1) := zo_7 (zi_at zh_dX13_findEven_30_32 1 rfl)
theorem dX13_findEven_34 : decode cX13_findEven 34 = .ok (.if_icmp .le 5, 3) := zo_164 (zi_at zh_dX13_findEven_30_32 2 rfl) (zi_at zh_dX13_findEven_30_32 3 rfl) (zi_at zh_dX13_findEven_30_32 4 rfl) rfl
theorem dX13_findEven_37 : decode cX13_findEven 37 = .ok (.iconst 0, 1) := zo_3 (zi_at zh_dX13_findEven_30_32 5 rfl)
theorem dX13_findEven_38 : decode cX13_findEven 38 = .ok (.ireturn, 1) := zo_172 (zi_at zh_dX13_findEven_30_32 6 rfl)
theorem dX13_findEven_39 : decode cX13_findEven 39 = .ok (.aload_n 0, 1) := zo_42 (zi_at zh_dX13_findEven_30_32 7 rfl)
theorem dX13_findEven_40 : decode cX13_findEven 40 = .ok (.iconst 0, 1) := zo_3 (zi_at zh_dX13_findEven_30_32 8 rfl)
theorem dX13_findEven_41 : decode cX13_findEven 41 = .ok (.putfield 508, 3) := zo_181 (zi_at zh_dX13_findEven_30_32 9 rfl) (zi_at zh_dX13_findEven_30_32 10 rfl) (zi_at zh_dX13_findEven_30_32 11 rfl) rfl
theorem dX13_findEven_44 : decode cX13_findEven 44 = .ok (.iconst 0, 1) := zo_3 (zi_at zh_dX13_findEven_30_32 12 rfl)
theorem dX13_findEven_45 : decode cX13_findEven 45 = .ok (.istore_n 2, 1) := zo_61 (zi_at zh_dX13_findEven_30_32 13 rfl)
theorem dX13_findEven_46 : decode cX13_findEven 46 = .ok (.iload_n 2, 1) := zo_28 (zi_at zh_dX13_findEven_30_32 14 rfl)
theorem dX13_findEven_47 : decode cX13_findEven 47 = .ok (.aload_n 0, 1) := zo_42 (zi_at zh_dX13_findEven_30_32 15 rfl)
theorem dX13_findEven_48 : decode cX13_findEven 48 = .ok (.getfield 239, 3) := zo_180 (zi_at zh_dX13_findEven_48_48 0 rfl) (zi_at zh_dX13_findEven_48_48 1 rfl) (zi_at zh_dX13_findEven_48_48 2 rfl) rfl
theorem dX13_findEven_51 : decode cX13_findEven 51 = .ok (.if_icmp .ge 40, 3) := zo_162 (zi_at zh_dX13_findEven_48_48 3 rfl) (zi_at zh_dX13_findEven_48_48 4 rfl) (zi_at zh_dX13_findEven_48_48 5 rfl) rfl
theorem dX13_findEven_54 : decode cX13_findEven 54 = .ok (.iload_n 1, 1) := zo_27 (zi_at zh_dX13_findEven_48_48 6 rfl)
theorem dX13_findEven_55 : decode cX13_findEven 55 = .ok (.iload_n 2, 1) := zo_28 (zi_at zh_dX13_findEven_48_48 7 rfl)
theorem dX13_findEven_56 : decode cX13_findEven 56 = .ok (.ishr, 1) := zo_122 (zi_at zh_dX13_findEven_48_48 8 rfl)
theorem dX13_findEven_57 : decode cX13_findEven 57 = .ok (.iconst 1, 1) := zo_4 (zi_at zh_dX13_findEven_48_48 9 rfl)
theorem dX13_findEven_58 : decode cX13_findEven 58 = .ok (.iand, 1) := zo_126 (zi_at zh_dX13_findEven_48_48 10 rfl)
theorem dX13_findEven_59 : decode cX13_findEven 59 = .ok (.ifCond .ne 6, 3) := zo_154 (zi_at zh_dX13_findEven_48_48 11 rfl) (zi_at zh_dX13_findEven_48_48 12 rfl) (zi_at zh_dX13_findEven_48_48 13 rfl) rfl
theorem dX13_findEven_62 : decode cX13_findEven 62 = .ok (.goto 23, 3) := zo_167 (zi_at zh_dX13_findEven_48_48 14 rfl) (zi_at zh_dX13_findEven_48_48 15 rfl) (zi_at zh_dX13_findEven_62_64 0 rfl) rfl
theorem dX13_findEven_65 : decode cX13_findEven 65 = .ok (.aload_n 0, 1) := zo_42 (zi_at zh_dX13_findEven_62_64 1 rfl)
theorem dX13_findEven_66 : decode cX13_findEven 66 = .ok (.getfield 192, 3) := zo_180 (zi_at zh_dX13_findEven_62_64 2 rfl) (zi_at zh_dX13_findEven_62_64 3 rfl) (zi_at zh_dX13_findEven_62_64 4 rfl) rfl
theorem dX13_findEven_69 : decode cX13_findEven 69 = .ok (.aload_n 0, 1) := zo_42 (zi_at zh_dX13_findEven_62_64 5 rfl)
theorem dX13_findEven_70 : decode cX13_findEven 70 = .ok (.getfield 508, 3) := zo_180 (zi_at zh_dX13_findEven_62_64 6 rfl) (zi_at zh_dX13_findEven_62_64 7 rfl) (zi_at zh_dX13_findEven_62_64 8 rfl) rfl
theorem dX13_findEven_73 : decode cX13_findEven 73 = .ok (.iload_n 2, 1) := zo_28 (zi_at zh_dX13_findEven_62_64 9 rfl)
theorem dX13_findEven_74 : decode cX13_findEven 74 = .ok (.iastore, 1) := zo_79 (zi_at zh_dX13_findEven_62_64 10 rfl)
theorem dX13_findEven_75 : decode cX13_findEven 75 = .ok (.aload_n 0, 1) := zo_42 (zi_at zh_dX13_findEven_62_64 11 rfl)
theorem dX13_findEven_76 : decode cX13_findEven 76 = .ok (.dup, 1) := zo_89 (zi_at zh_dX13_findEven_62_64 12 rfl)
theorem dX13_findEven_77 : decode cX13_findEven 77 = .ok (.getfield 508, 3) := zo_180 (zi_at zh_dX13_findEven_62_64 13 rfl) (zi_at zh_dX13_findEven_62_64 14 rfl) (zi_at zh_dX13_findEven_62_64 15 rfl) rfl
theorem dX13_findEven_80 : decode cX13_findEven 80 = .ok (.iconst 1, 1) := zo_4 (zi_at zh_dX13_findEven_80_80 0 rfl)
theorem dX13_findEven_81 : decode cX13_findEven 81 = .ok (.iadd, 1) := zo_96 (zi_at zh_dX13_findEven_80_80 1 rfl)
theorem dX13_findEven_82 : decode cX13_findEven 82 = .ok (.putfield 508, 3) := zo_181 (zi_at zh_dX13_findEven_80_80 2 rfl) (zi_at zh_dX13_findEven_80_80 3 rfl) (zi_at zh_dX13_findEven_80_80 4 rfl) rfl
theorem dX13_findEven_85 : decode cX13_findEven 85 = .ok (.iinc 2 1, 3) := zo_132 (zi_at zh_dX13_findEven_80_80 5 rfl) (zi_at zh_dX13_findEven_80_80 6 rfl) (zi_at zh_dX13_findEven_80_80 7 rfl) rfl
theorem dX13_findEven_88 : decode cX13_findEven 88 = .ok (.goto (-42), 3) := zo_167 (zi_at zh_dX13_findEven_80_80 8 rfl) (zi_at zh_dX13_findEven_80_80 9 rfl) (zi_at zh_dX13_findEven_80_80 10 rfl) rfl
theorem dX13_findEven_91 : decode cX13_findEven 91 = .ok (.aload_n 0, 1) := zo_42 (zi_at zh_dX13_findEven_80_80 11 rfl)
theorem dX13_findEven_92 : decode cX13_findEven 92 = .ok (.iconst 0, 1) := zo_3 (zi_at zh_dX13_findEven_80_80 12 rfl)
theorem dX13_findEven_93 : decode cX13_findEven 93 = .ok (.putfield 511, 3) := zo_181 (zi_at zh_dX13_findEven_80_80 13 rfl) (zi_at zh_dX13_findEven_80_80 14 rfl) (zi_at zh_dX13_findEven_80_80 15 rfl) rfl
theorem dX13_findEven_96 : decode cX13_findEven 96 = .ok (.iconst 0, 1) := zo_3 (zi_at zh_dX13_findEven_96_96 0 rfl)
theorem dX13_findEven_97 : decode cX13_findEven 97 = .ok (.istore_n 2, 1) := zo_61 (zi_at zh_dX13_findEven_96_96 1 rfl)
theorem dX13_findEven_98 : decode cX13_findEven 98 = .ok (.iload_n 2, 1) := zo_28 (zi_at zh_dX13_findEven_96_96 2 rfl)
theorem dX13_findEven_99 : decode cX13_findEven 99 = .ok (.aload_n 0, 1) := zo_42 (zi_at zh_dX13_findEven_96_96 3 rfl)
theorem dX13_findEven_100 : decode cX13_findEven 100 = .ok (.getfield 390, 3) := zo_180 (zi_at zh_dX13_findEven_96_96 4 rfl) (zi_at zh_dX13_findEven_96_96 5 rfl) (zi_at zh_dX13_findEven_96_96 6 rfl) rfl
theorem dX13_findEven_103 : decode cX13_findEven 103 = .ok (.if_icmp .ge 175, 3) := zo_162 (zi_at zh_dX13_findEven_96_96 7 rfl) (zi_at zh_dX13_findEven_96_96 8 rfl) (zi_at zh_dX13_findEven_96_96 9 rfl) rfl
theorem dX13_findEven_106 : decode cX13_findEven 106 = .ok (.iconst 0, 1) := zo_3 (zi_at zh_dX13_findEven_96_96 10 rfl)
theorem dX13_findEven_107 : decode cX13_findEven 107 = .ok (.istore_n 3, 1) := zo_62 (zi_at zh_dX13_findEven_96_96 11 rfl)
theorem dX13_findEven_108 : decode cX13_findEven 108 = .ok (.iconst 0, 1) := zo_3 (zi_at zh_dX13_findEven_96_96 12 rfl)
theorem dX13_findEven_109 : decode cX13_findEven 109 = .ok (.istore 4, 2) := zo_54 (zi_at zh_dX13_findEven_96_96 13 rfl) (zi_at zh_dX13_findEven_96_96 14 rfl)
theorem dX13_findEven_111 : decode cX13_findEven 111 = .ok (.iload 4, 2) := zo_21 (zi_at zh_dX13_findEven_96_96 15 rfl) (zi_at zh_dX13_findEven_111_112 0 rfl)
theorem dX13_findEven_113 : decode cX13_findEven 113 = .ok (.aload_n 0, 1) := zo_42 (zi_at zh_dX13_findEven_111_112 1 rfl)
theorem dX13_findEven_114 : decode cX13_findEven 114 = .ok (.getfield 508, 3) := zo_180 (zi_at zh_dX13_findEven_111_112 2 rfl) (zi_at zh_dX13_findEven_111_112 3 rfl) (zi_at zh_dX13_findEven_111_112 4 rfl) rfl
theorem dX13_findEven_117 : decode cX13_findEven 117 = .ok (.if_icmp .ge 131, 3) := zo_162 (zi_at zh_dX13_findEven_111_112 5 rfl) (zi_at zh_dX13_findEven_111_112 6 rfl) (zi_at zh_dX13_findEven_111_112 7 rfl) rfl
theorem dX13_findEven_120 : decode cX13_findEven 120 = .ok (.aload_n 0, 1) := zo_42 (zi_at zh_dX13_findEven_111_112 8 rfl)
theorem dX13_findEven_121 : decode cX13_findEven 121 = .ok (.iload_n 2, 1) := zo_28 (zi_at zh_dX13_findEven_111_112 9 rfl)
theorem dX13_findEven_122 : decode cX13_findEven 122 = .ok (.aload_n 0, 1) := zo_42 (zi_at zh_dX13_findEven_111_112 10 rfl)
theorem dX13_findEven_123 : decode cX13_findEven 123 = .ok (.getfield 192, 3) := zo_180 (zi_at zh_dX13_findEven_111_112 11 rfl) (zi_at zh_dX13_findEven_111_112 12 rfl) (zi_at zh_dX13_findEven_111_112 13 rfl) rfl
theorem dX13_findEven_126 : decode cX13_findEven 126 = .ok (.iload 4, 2) := zo_21 (zi_at zh_dX13_findEven_111_112 14 rfl) (zi_at zh_dX13_findEven_111_112 15 rfl)
theorem dX13_findEven_128 : decode cX13_findEven 128 = .ok (.iaload, 1) := zo_46 (zi_at zh_dX13_findEven_128_128 0 rfl)
theorem dX13_findEven_129 : decode cX13_findEven 129 = .ok (.aload_n 0, 1) := zo_42 (zi_at zh_dX13_findEven_128_128 1 rfl)
theorem dX13_findEven_130 : decode cX13_findEven 130 = .ok (.getfield 232, 3) := zo_180 (zi_at zh_dX13_findEven_128_128 2 rfl) (zi_at zh_dX13_findEven_128_128 3 rfl) (zi_at zh_dX13_findEven_128_128 4 rfl) rfl
theorem dX13_findEven_133 : decode cX13_findEven 133 = .ok (.invokevirtual 419, 3) := zo_182 (zi_at zh_dX13_findEven_128_128 5 rfl) (zi_at zh_dX13_findEven_128_128 6 rfl) (zi_at zh_dX13_findEven_128_128 7 rfl) rfl
theorem dX13_findEven_136 : decode cX13_findEven 136 = .ok (.ifCond .ne 7, 3) := zo_154 (zi_at zh_dX13_findEven_128_128 8 rfl) (zi_at zh_dX13_findEven_128_128 9 rfl) (zi_at zh_dX13_findEven_128_128 10 rfl) rfl
theorem dX13_findEven_139 : decode cX13_findEven 139 = .ok (.iconst 1, 1) := zo_4 (zi_at zh_dX13_findEven_128_128 11 rfl)
theorem dX13_findEven_140 : decode cX13_findEven 140 = .ok (.goto 4, 3) := zo_167 (zi_at zh_dX13_findEven_128_128 12 rfl) (zi_at zh_dX13_findEven_128_128 13 rfl) (zi_at zh_dX13_findEven_128_128 14 rfl) rfl
theorem dX13_findEven_143 : decode cX13_findEven 143 = .ok (.iconst 0, 1) := zo_3 (zi_at zh_dX13_findEven_128_128 15 rfl)
theorem dX13_findEven_144 : decode cX13_findEven 144 = .ok (.istore 5, 2) := zo_54 (zi_at zh_dX13_findEven_144_144 0 rfl) (zi_at zh_dX13_findEven_144_144 1 rfl)
theorem dX13_findEven_146 : decode cX13_findEven 146 = .ok (.aload_n 0, 1) := zo_42 (zi_at zh_dX13_findEven_144_144 2 rfl)
theorem dX13_findEven_147 : decode cX13_findEven 147 = .ok (.getfield 198, 3) := zo_180 (zi_at zh_dX13_findEven_144_144 3 rfl) (zi_at zh_dX13_findEven_144_144 4 rfl) (zi_at zh_dX13_findEven_144_144 5 rfl) rfl
theorem dX13_findEven_150 : decode cX13_findEven 150 = .ok (.iconst 4, 1) := zo_7 (zi_at zh_dX13_findEven_144_144 6 rfl)
theorem dX13_findEven_151 : decode cX13_findEven 151 = .ok (.aload_n 0, 1) := zo_42 (zi_at zh_dX13_findEven_144_144 7 rfl)
theorem dX13_findEven_152 : decode cX13_findEven 152 = .ok (.getfield 511, 3) := zo_180 (zi_at zh_dX13_findEven_144_144 8 rfl) (zi_at zh_dX13_findEven_144_144 9 rfl) (zi_at zh_dX13_findEven_144_144 10 rfl) rfl
theorem dX13_findEven_155 : decode cX13_findEven 155 = .ok (.imul, 1) := zo_104 (zi_at zh_dX13_findEven_144_144 11 rfl)
theorem dX13_findEven_156 : decode cX13_findEven 156 = .ok (.iload 4, 2) := zo_21 (zi_at zh_dX13_findEven_144_144 12 rfl) (zi_at zh_dX13_findEven_144_144 13 rfl)
theorem dX13_findEven_158 : decode cX13_findEven 158 = .ok (.iadd, 1) := zo_96 (zi_at zh_dX13_findEven_144_144 14 rfl)
theorem dX13_findEven_159 : decode cX13_findEven 159 = .ok (.iload 5, 2) := zo_21 (zi_at zh_dX13_findEven_144_144 15 rfl) (zi_at zh_dX13_findEven_159_160 0 rfl)
theorem dX13_findEven_161 : decode cX13_findEven 161 = .ok (.ifCond .eq 22, 3) := zo_153 (zi_at zh_dX13_findEven_159_160 1 rfl) (zi_at zh_dX13_findEven_159_160 2 rfl) (zi_at zh_dX13_findEven_159_160 3 rfl) rfl
theorem dX13_findEven_164 : decode cX13_findEven 164 = .ok (.aload_n 0, 1) := zo_42 (zi_at zh_dX13_findEven_159_160 4 rfl)
theorem dX13_findEven_165 : decode cX13_findEven 165 = .ok (.iload_n 2, 1) := zo_28 (zi_at zh_dX13_findEven_159_160 5 rfl)
theorem dX13_findEven_166 : decode cX13_findEven 166 = .ok (.aload_n 0, 1) := zo_42 (zi_at zh_dX13_findEven_159_160 6 rfl)
theorem dX13_findEven_167 : decode cX13_findEven 167 = .ok (.getfield 192, 3) := zo_180 (zi_at zh_dX13_findEven_159_160 7 rfl) (zi_at zh_dX13_findEven_159_160 8 rfl) (zi_at zh_dX13_findEven_159_160 9 rfl) rfl
theorem dX13_findEven_170 : decode cX13_findEven 170 = .ok (.iload 4, 2) := zo_21 (zi_at zh_dX13_findEven_159_160 10 rfl) (zi_at zh_dX13_findEven_159_160 11 rfl)
theorem dX13_findEven_172 : decode cX13_findEven 172 = .ok (.iaload, 1) := zo_46 (zi_at zh_dX13_findEven_159_160 12 rfl)
theorem dX13_findEven_173 : decode cX13_findEven 173 = .ok (.aload_n 0, 1) := zo_42 (zi_at zh_dX13_findEven_159_160 13 rfl)
theorem dX13_findEven_174 : decode cX13_findEven 174 = .ok (.getfield 232, 3) := zo_180 (zi_at zh_dX13_findEven_159_160 14 rfl) (zi_at zh_dX13_findEven_159_160 15 rfl) (zi_at zh_dX13_findEven_174_176 0 rfl) rfl
theorem dX13_findEven_177 : decode cX13_findEven 177 = .ok (.invokevirtual 422, 3) := zo_182 (zi_at zh_dX13_findEven_174_176 1 rfl) (zi_at zh_dX13_findEven_174_176 2 rfl) (zi_at zh_dX13_findEven_174_176 3 rfl) rfl
theorem dX13_findEven_180 : decode cX13_findEven 180 = .ok (.goto 4, 3) := zo_167 (zi_at zh_dX13_findEven_174_176 4 rfl) (zi_at zh_dX13_findEven_174_176 5 rfl) (zi_at zh_dX13_findEven_174_176 6 rfl) rfl
theorem dX13_findEven_183 : decode cX13_findEven 183 = .ok (.iconst 0, 1) := zo_3 (zi_at zh_dX13_findEven_174_176 7 rfl)
theorem dX13_findEven_184 : decode cX13_findEven 184 = .ok (.iastore, 1) := zo_79 (zi_at zh_dX13_findEven_174_176 8 rfl)
theorem dX13_findEven_185 : decode cX13_findEven 185 = .ok (.aload_n 0, 1) := zo_42 (zi_at zh_dX13_findEven_174_176 9 rfl)
theorem dX13_findEven_186 : decode cX13_findEven 186 = .ok (.getfield 201, 3) := zo_180 (zi_at zh_dX13_findEven_174_176 10 rfl) (zi_at zh_dX13_findEven_174_176 11 rfl) (zi_at zh_dX13_findEven_174_176 12 rfl) rfl
theorem dX13_findEven_189 : decode cX13_findEven 189 = .ok (.iconst 4, 1) := zo_7 (zi_at zh_dX13_findEven_174_176 13 rfl)
theorem dX13_findEven_190 : decode cX13_findEven 190 = .ok (.aload_n 0, 1) := zo_42 (zi_at zh_dX13_findEven_174_176 14 rfl)
theorem dX13_findEven_191 : decode cX13_findEven 191 = .ok (.getfield 511, 3) := zo_180 (zi_at zh_dX13_findEven_174_176 15 rfl) (zi_at zh_dX13_findEven_191_192 0 rfl) (zi_at zh_dX13_findEven_191_192 1 rfl) rfl
theorem dX13_findEven_194 : decode cX13_findEven 194 = .ok (.imul, 1) := zo_104 (zi_at zh_dX13_findEven_191_192 2 rfl)
theorem dX13_findEven_195 : decode cX13_findEven 195 = .ok (.iload 4, 2) := zo_21 (zi_at zh_dX13_findEven_191_192 3 rfl) (zi_at zh_dX13_findEven_191_192 4 rfl)
theorem dX13_findEven_197 : decode cX13_findEven 197 = .ok (.iadd, 1) := zo_96 (zi_at zh_dX13_findEven_191_192 5 rfl)
theorem dX13_findEven_198 : decode cX13_findEven 198 = .ok (.iload 5, 2) := zo_21 (zi_at zh_dX13_findEven_191_192 6 rfl) (zi_at zh_dX13_findEven_191_192 7 rfl)
theorem dX13_findEven_200 : decode cX13_findEven 200 = .ok (.ifCond .eq 27, 3) := zo_153 (zi_at zh_dX13_findEven_191_192 8 rfl) (zi_at zh_dX13_findEven_191_192 9 rfl) (zi_at zh_dX13_findEven_191_192 10 rfl) rfl
theorem dX13_findEven_203 : decode cX13_findEven 203 = .ok (.aload_n 0, 1) := zo_42 (zi_at zh_dX13_findEven_191_192 11 rfl)
theorem dX13_findEven_204 : decode cX13_findEven 204 = .ok (.aload_n 0, 1) := zo_42 (zi_at zh_dX13_findEven_191_192 12 rfl)
theorem dX13_findEven_205 : decode cX13_findEven 205 = .ok (.getfield 192, 3) := zo_180 (zi_at zh_dX13_findEven_191_192 13 rfl) (zi_at zh_dX13_findEven_191_192 14 rfl) (zi_at zh_dX13_findEven_191_192 15 rfl) rfl
theorem dX13_findEven_208 : decode cX13_findEven 208 = .ok (.iload 4, 2) := zo_21 (zi_at zh_dX13_findEven_208_208 0 rfl) (zi_at zh_dX13_findEven_208_208 1 rfl)
theorem dX13_findEven_210 : decode cX13_findEven 210 = .ok (.iaload, 1) := zo_46 (zi_at zh_dX13_findEven_208_208 2 rfl)
theorem dX13_findEven_211 : decode cX13_findEven 211 = .ok (.aload_n 0, 1) := zo_42 (zi_at zh_dX13_findEven_208_208 3 rfl)
theorem dX13_findEven_212 : decode cX13_findEven 212 = .ok (.getfield 50, 3) := zo_180 (zi_at zh_dX13_findEven_208_208 4 rfl) (zi_at zh_dX13_findEven_208_208 5 rfl) (zi_at zh_dX13_findEven_208_208 6 rfl) rfl
theorem dX13_findEven_215 : decode cX13_findEven 215 = .ok (.iload_n 2, 1) := zo_28 (zi_at zh_dX13_findEven_208_208 7 rfl)
theorem dX13_findEven_216 : decode cX13_findEven 216 = .ok (.iaload, 1) := zo_46 (zi_at zh_dX13_findEven_208_208 8 rfl)
theorem dX13_findEven_217 : decode cX13_findEven 217 = .ok (.aload_n 0, 1) := zo_42 (zi_at zh_dX13_findEven_208_208 9 rfl)
theorem dX13_findEven_218 : decode cX13_findEven 218 = .ok (.getfield 232, 3) := zo_180 (zi_at zh_dX13_findEven_208_208 10 rfl) (zi_at zh_dX13_findEven_208_208 11 rfl) (zi_at zh_dX13_findEven_208_208 12 rfl) rfl
theorem dX13_findEven_221 : decode cX13_findEven 221 = .ok (.invokevirtual 387, 3) := zo_182 (zi_at zh_dX13_findEven_208_208 13 rfl) (zi_at zh_dX13_findEven_208_208 14 rfl) (zi_at zh_dX13_findEven_208_208 15 rfl) rfl
theorem dX13_findEven_224 : decode cX13_findEven 224 = .ok (.goto 4, 3) := zo_167 (zi_at zh_dX13_findEven_224_224 0 rfl) (zi_at zh_dX13_findEven_224_224 1 rfl) (zi_at zh_dX13_findEven_224_224 2 rfl) rfl
theorem dX13_findEven_227 : decode cX13_findEven 227 = .ok (.iconst 0, 1) := zo_3 (zi_at zh_dX13_findEven_224_224 3 rfl)
theorem dX13_findEven_228 : decode cX13_findEven 228 = .ok (.iastore, 1) := zo_79 (zi_at zh_dX13_findEven_224_224 4 rfl)
theorem dX13_findEven_229 : decode cX13_findEven 229 = .ok (.iload_n 3, 1) := zo_29 (zi_at zh_dX13_findEven_224_224 5 rfl)
theorem dX13_findEven_230 : decode cX13_findEven 230 = .ok (.iload 5, 2) := zo_21 (zi_at zh_dX13_findEven_224_224 6 rfl) (zi_at zh_dX13_findEven_224_224 7 rfl)
theorem dX13_findEven_232 : decode cX13_findEven 232 = .ok (.ifCond .eq 7, 3) := zo_153 (zi_at zh_dX13_findEven_224_224 8 rfl) (zi_at zh_dX13_findEven_224_224 9 rfl) (zi_at zh_dX13_findEven_224_224 10 rfl) rfl
theorem dX13_findEven_235 : decode cX13_findEven 235 = .ok (.iconst 1, 1) := zo_4 (zi_at zh_dX13_findEven_224_224 11 rfl)
theorem dX13_findEven_236 : decode cX13_findEven 236 = .ok (.goto 4, 3) := zo_167 (zi_at zh_dX13_findEven_224_224 12 rfl) (zi_at zh_dX13_findEven_224_224 13 rfl) (zi_at zh_dX13_findEven_224_224 14 rfl) rfl
theorem dX13_findEven_239 : decode cX13_findEven 239 = .ok (.iconst 0, 1) := zo_3 (zi_at zh_dX13_findEven_224_224 15 rfl)
theorem dX13_findEven_240 : decode cX13_findEven 240 = .ok (.iadd, 1) := zo_96 (zi_at zh_dX13_findEven_240_240 0 rfl)
theorem dX13_findEven_241 : decode cX13_findEven 241 = .ok (.istore_n 3, 1) := zo_62 (zi_at zh_dX13_findEven_240_240 1 rfl)
theorem dX13_findEven_242 : decode cX13_findEven 242 = .ok (.iinc 4 1, 3) := zo_132 (zi_at zh_dX13_findEven_240_240 2 rfl) (zi_at zh_dX13_findEven_240_240 3 rfl) (zi_at zh_dX13_findEven_240_240 4 rfl) rfl
theorem dX13_findEven_245 : decode cX13_findEven 245 = .ok (.goto (-134), 3) := zo_167 (zi_at zh_dX13_findEven_240_240 5 rfl) (zi_at zh_dX13_findEven_240_240 6 rfl) (zi_at zh_dX13_findEven_240_240 7 rfl) rfl
theorem dX13_findEven_248 : decode cX13_findEven 248 = .ok (.aload_n 0, 1) := zo_42 (zi_at zh_dX13_findEven_240_240 8 rfl)
theorem dX13_findEven_249 : decode cX13_findEven 249 = .ok (.getfield 56, 3) := zo_180 (zi_at zh_dX13_findEven_240_240 9 rfl) (zi_at zh_dX13_findEven_240_240 10 rfl) (zi_at zh_dX13_findEven_240_240 11 rfl) rfl
theorem dX13_findEven_252 : decode cX13_findEven 252 = .ok (.iload_n 2, 1) := zo_28 (zi_at zh_dX13_findEven_240_240 12 rfl)
theorem dX13_findEven_253 : decode cX13_findEven 253 = .ok (.iaload, 1) := zo_46 (zi_at zh_dX13_findEven_240_240 13 rfl)
theorem dX13_findEven_254 : decode cX13_findEven 254 = .ok (.ifCond .ne 18, 3) := zo_154 (zi_at zh_dX13_findEven_240_240 14 rfl) (zi_at zh_dX13_findEven_240_240 15 rfl) (zi_at zh_dX13_findEven_254_256 0 rfl) rfl
theorem dX13_findEven_257 : decode cX13_findEven 257 = .ok (.iload_n 3, 1) := zo_29 (zi_at zh_dX13_findEven_254_256 1 rfl)
theorem dX13_findEven_258 : decode cX13_findEven 258 = .ok (.iconst 1, 1) := zo_4 (zi_at zh_dX13_findEven_254_256 2 rfl)
theorem dX13_findEven_259 : decode cX13_findEven 259 = .ok (.if_icmp .le 13, 3) := zo_164 (zi_at zh_dX13_findEven_254_256 3 rfl) (zi_at zh_dX13_findEven_254_256 4 rfl) (zi_at zh_dX13_findEven_254_256 5 rfl) rfl
theorem dX13_findEven_262 : decode cX13_findEven 262 = .ok (.aload_n 0, 1) := zo_42 (zi_at zh_dX13_findEven_254_256 6 rfl)
theorem dX13_findEven_263 : decode cX13_findEven 263 = .ok (.dup, 1) := zo_89 (zi_at zh_dX13_findEven_254_256 7 rfl)
theorem dX13_findEven_264 : decode cX13_findEven 264 = .ok (.getfield 511, 3) := zo_180 (zi_at zh_dX13_findEven_254_256 8 rfl) (zi_at zh_dX13_findEven_254_256 9 rfl) (zi_at zh_dX13_findEven_254_256 10 rfl) rfl
theorem dX13_findEven_267 : decode cX13_findEven 267 = .ok (.iconst 1, 1) := zo_4 (zi_at zh_dX13_findEven_254_256 11 rfl)
theorem dX13_findEven_268 : decode cX13_findEven 268 = .ok (.iadd, 1) := zo_96 (zi_at zh_dX13_findEven_254_256 12 rfl)
theorem dX13_findEven_269 : decode cX13_findEven 269 = .ok (.putfield 511, 3) := zo_181 (zi_at zh_dX13_findEven_254_256 13 rfl) (zi_at zh_dX13_findEven_254_256 14 rfl) (zi_at zh_dX13_findEven_254_256 15 rfl) rfl
theorem dX13_findEven_272 : decode cX13_findEven 272 = .ok (.iinc 2 1, 3) := zo_132 (zi_at zh_dX13_findEven_272_272 0 rfl) (zi_at zh_dX13_findEven_272_272 1 rfl) (zi_at zh_dX13_findEven_272_272 2 rfl) rfl
theorem dX13_findEven_275 : decode cX13_findEven 275 = .ok (.goto (-177), 3) := zo_167 (zi_at zh_dX13_findEven_272_272 3 rfl) (zi_at zh_dX13_findEven_272_272 4 rfl) (zi_at zh_dX13_findEven_272_272 5 rfl) rfl
theorem dX13_findEven_278 : decode cX13_findEven 278 = .ok (.aload_n 0, 1) := zo_42 (zi_at zh_dX13_findEven_272_272 6 rfl)
theorem dX13_findEven_279 : decode cX13_findEven 279 = .ok (.iconst (-1), 1) := zo_2 (zi_at zh_dX13_findEven_272_272 7 rfl)
theorem dX13_findEven_280 : decode cX13_findEven 280 = .ok (.putfield 514, 3) := zo_181 (zi_at zh_dX13_findEven_272_272 8 rfl) (zi_at zh_dX13_findEven_272_272 9 rfl) (zi_at zh_dX13_findEven_272_272 10 rfl) rfl
theorem dX13_findEven_283 : decode cX13_findEven 283 = .ok (.aload_n 0, 1) := zo_42 (zi_at zh_dX13_findEven_272_272 11 rfl)
theorem dX13_findEven_284 : decode cX13_findEven 284 = .ok (.iconst 0, 1) := zo_3 (zi_at zh_dX13_findEven_272_272 12 rfl)
theorem dX13_findEven_285 : decode cX13_findEven 285 = .ok (.invokevirtual 517, 3) := zo_182 (zi_at zh_dX13_findEven_272_272 13 rfl) (zi_at zh_dX13_findEven_272_272 14 rfl) (zi_at zh_dX13_findEven_272_272 15 rfl) rfl
theorem dX13_findEven_288 : decode cX13_findEven 288 = .ok (.iconst 1, 1) := zo_4 (zi_at zh_dX13_findEven_288_288 0 rfl)
theorem dX13_findEven_289 : decode cX13_findEven 289 = .ok (.ireturn, 1) := zo_172 (zi_at zh_dX13_findEven_288_288 1 rfl)
theorem dX13_even_0 : decode cX13_even 0 = .ok (.aload_n 0, 1) := zo_42 (zi_at zh_dX13_even_0_0 0 rfl)
theorem dX13_even_1 : decode cX13_even 1 = .ok (.iload_n 1, 1) := zo_27 (zi_at zh_dX13_even_0_0 1 rfl)
theorem dX13_even_2 : decode cX13_even 2 = .ok (.invokevirtual 525, 3) := zo_182 (zi_at zh_dX13_even_0_0 2 rfl) (zi_at zh_dX13_even_0_0 3 rfl) (zi_at zh_dX13_even_0_0 4 rfl) rfl
theorem dX13_even_5 : decode cX13_even 5 = .ok (.ifCond .eq 10, 3) := zo_153 (zi_at zh_dX13_even_0_0 5 rfl) (zi_at zh_dX13_even_0_0 6 rfl) (zi_at zh_dX13_even_0_0 7 rfl) rfl
theorem dX13_even_8 : decode cX13_even 8 = .ok (.aload_n 0, 1) := zo_42 (zi_at zh_dX13_even_0_0 8 rfl)
theorem dX13_even_9 : decode cX13_even 9 = .ok (.getfield 514, 3) := zo_180 (zi_at zh_dX13_even_0_0 9 rfl) (zi_at zh_dX13_even_0_0 10 rfl) (zi_at zh_dX13_even_0_0 11 rfl) rfl
theorem dX13_even_12 : decode cX13_even 12 = .ok (.goto 4, 3) := zo_167 (zi_at zh_dX13_even_0_0 12 rfl) (zi_at zh_dX13_even_0_0 13 rfl) (zi_at zh_dX13_even_0_0 14 rfl) rfl
theorem dX13_even_15 : decode cX13_even 15 = .ok (.iconst (-1), 1) := zo_2 (zi_at zh_dX13_even_0_0 15 rfl)
theorem dX13_even_16 : decode cX13_even 16 = .ok (.ireturn, 1) := zo_172 (zi_at zh_dX13_even_16_16 0 rfl)
theorem dX13_change_0 : decode cX13_change 0 = .ok (.aload_n 0, 1) := zo_42 (zi_at zh_dX13_change_0_0 0 rfl)
theorem dX13_change_1 : decode cX13_change 1 = .ok (.iload_n 1, 1) := zo_27 (zi_at zh_dX13_change_0_0 1 rfl)
theorem dX13_change_2 : decode cX13_change 2 = .ok (.invokevirtual 525, 3) := zo_182 (zi_at zh_dX13_change_0_0 2 rfl) (zi_at zh_dX13_change_0_0 3 rfl) (zi_at zh_dX13_change_0_0 4 rfl) rfl
theorem dX13_change_5 : decode cX13_change 5 = .ok (.ifCond .ne 7, 3) := zo_154 (zi_at zh_dX13_change_0_0 5 rfl) (zi_at zh_dX13_change_0_0 6 rfl) (zi_at zh_dX13_change_0_0 7 rfl) rfl
theorem dX13_change_8 : decode cX13_change 8 = .ok (.ldc_w 431, 3) := zo_19 (zi_at zh_dX13_change_0_0 8 rfl) (zi_at zh_dX13_change_0_0 9 rfl) (zi_at zh_dX13_change_0_0 10 rfl) rfl
theorem dX13_change_11 : decode cX13_change 11 = .ok (.ireturn, 1) := zo_172 (zi_at zh_dX13_change_0_0 11 rfl)
theorem dX13_change_12 : decode cX13_change 12 = .ok (.iconst 0, 1) := zo_3 (zi_at zh_dX13_change_0_0 12 rfl)
theorem dX13_change_13 : decode cX13_change 13 = .ok (.istore_n 3, 1) := zo_62 (zi_at zh_dX13_change_0_0 13 rfl)
theorem dX13_change_14 : decode cX13_change 14 = .ok (.iload_n 3, 1) := zo_29 (zi_at zh_dX13_change_0_0 14 rfl)
theorem dX13_change_15 : decode cX13_change 15 = .ok (.aload_n 0, 1) := zo_42 (zi_at zh_dX13_change_0_0 15 rfl)
theorem dX13_change_16 : decode cX13_change 16 = .ok (.getfield 508, 3) := zo_180 (zi_at zh_dX13_change_16_16 0 rfl) (zi_at zh_dX13_change_16_16 1 rfl) (zi_at zh_dX13_change_16_16 2 rfl) rfl
theorem dX13_change_19 : decode cX13_change 19 = .ok (.if_icmp .ge 26, 3) := zo_162 (zi_at zh_dX13_change_16_16 3 rfl) (zi_at zh_dX13_change_16_16 4 rfl) (zi_at zh_dX13_change_16_16 5 rfl) rfl
theorem dX13_change_22 : decode cX13_change 22 = .ok (.aload_n 0, 1) := zo_42 (zi_at zh_dX13_change_16_16 6 rfl)
theorem dX13_change_23 : decode cX13_change 23 = .ok (.getfield 192, 3) := zo_180 (zi_at zh_dX13_change_16_16 7 rfl) (zi_at zh_dX13_change_16_16 8 rfl) (zi_at zh_dX13_change_16_16 9 rfl) rfl
theorem dX13_change_26 : decode cX13_change 26 = .ok (.iload_n 3, 1) := zo_29 (zi_at zh_dX13_change_16_16 10 rfl)
theorem dX13_change_27 : decode cX13_change 27 = .ok (.iaload, 1) := zo_46 (zi_at zh_dX13_change_16_16 11 rfl)
theorem dX13_change_28 : decode cX13_change 28 = .ok (.iload_n 2, 1) := zo_28 (zi_at zh_dX13_change_16_16 12 rfl)
theorem dX13_change_29 : decode cX13_change 29 = .ok (.if_icmp .ne 10, 3) := zo_160 (zi_at zh_dX13_change_16_16 13 rfl) (zi_at zh_dX13_change_16_16 14 rfl) (zi_at zh_dX13_change_16_16 15 rfl) rfl
theorem dX13_change_32 : decode cX13_change 32 = .ok (.aload_n 0, 1) := zo_42 (zi_at zh_dX13_change_32_32 0 rfl)
theorem dX13_change_33 : decode cX13_change 33 = .ok (.getfield 207, 3) := zo_180 (zi_at zh_dX13_change_32_32 1 rfl) (zi_at zh_dX13_change_32_32 2 rfl) (zi_at zh_dX13_change_32_32 3 rfl) rfl
theorem dX13_change_36 : decode cX13_change 36 = .ok (.iload_n 3, 1) := zo_29 (zi_at zh_dX13_change_32_32 4 rfl)
theorem dX13_change_37 : decode cX13_change 37 = .ok (.iaload, 1) := zo_46 (zi_at zh_dX13_change_32_32 5 rfl)
theorem dX13_change_38 : decode cX13_change 38 = .ok (.ireturn, 1) := zo_172 (zi_at zh_dX13_change_32_32 6 rfl)
theorem dX13_change_39 : decode cX13_change 39 = .ok (.iinc 3 1, 3) := zo_132 (zi_at zh_dX13_change_32_32 7 rfl) (zi_at zh_dX13_change_32_32 8 rfl) (zi_at zh_dX13_change_32_32 9 rfl) rfl
theorem dX13_change_42 : decode cX13_change 42 = .ok (.goto (-28), 3) := zo_167 (zi_at zh_dX13_change_32_32 10 rfl) (zi_at zh_dX13_change_32_32 11 rfl) (zi_at zh_dX13_change_32_32 12 rfl) rfl
theorem dX13_change_45 : decode cX13_change 45 = .ok (.ldc_w 431, 3) := zo_19 (zi_at zh_dX13_change_32_32 13 rfl) (zi_at zh_dX13_change_32_32 14 rfl) (zi_at zh_dX13_change_32_32 15 rfl) rfl
theorem dX13_change_48 : decode cX13_change 48 = .ok (.ireturn, 1) := zo_172 (zi_at zh_dX13_change_48_48 0 rfl)
theorem dJ6_bitCount_0f7a4_0 : decode cJ6_bitCount_0f7a4 0 = .ok (.iload_n 0, 1) := zo_26 (zi_at zh_dJ6_bitCount_0f7a4_0_0 0 rfl)
theorem dJ6_bitCount_0f7a4_1 : decode cJ6_bitCount_0f7a4 1 = .ok (.iload_n 0, 1) := zo_26 (zi_at zh_dJ6_bitCount_0f7a4_0_0 1 rfl)
theorem dJ6_bitCount_0f7a4_2 : decode cJ6_bitCount_0f7a4 2 = .ok (.iconst 1, 1) := zo_4 (zi_at zh_dJ6_bitCount_0f7a4_0_0 2 rfl)
theorem dJ6_bitCount_0f7a4_3 : decode cJ6_bitCount_0f7a4 3 = .ok (.iushr, 1) := zo_124 (zi_at zh_dJ6_bitCount_0f7a4_0_0 3 rfl)
theorem dJ6_bitCount_0f7a4_4 : decode cJ6_bitCount_0f7a4 4 = .ok (.ldc_w 265, 3) := zo_19 (zi_at zh_dJ6_bitCount_0f7a4_0_0 4 rfl) (zi_at zh_dJ6_bitCount_0f7a4_0_0 5 rfl) (zi_at zh_dJ6_bitCount_0f7a4_0_0 6 rfl) rfl
theorem dJ6_bitCount_0f7a4_7 : decode cJ6_bitCount_0f7a4 7 = .ok (.iand, 1) := zo_126 (zi_at zh_dJ6_bitCount_0f7a4_0_0 7 rfl)
theorem dJ6_bitCount_0f7a4_8 : decode cJ6_bitCount_0f7a4 8 = .ok (.isub, 1) := zo_100 (zi_at zh_dJ6_bitCount_0f7a4_0_0 8 rfl)
theorem dJ6_bitCount_0f7a4_9 : decode cJ6_bitCount_0f7a4 9 = .ok (.istore_n 0, 1) := zo_59 (zi_at zh_dJ6_bitCount_0f7a4_0_0 9 rfl)
theorem dJ6_bitCount_0f7a4_10 : decode cJ6_bitCount_0f7a4 10 = .ok (.iload_n 0, 1) := zo_26 (zi_at zh_dJ6_bitCount_0f7a4_0_0 10 rfl)
theorem dJ6_bitCount_0f7a4_11 : decode cJ6_bitCount_0f7a4 11 = .ok (.ldc_w 266, 3) := zo_19 (zi_at zh_dJ6_bitCount_0f7a4_0_0 11 rfl) (zi_at zh_dJ6_bitCount_0f7a4_0_0 12 rfl) (zi_at zh_dJ6_bitCount_0f7a4_0_0 13 rfl) rfl
theorem dJ6_bitCount_0f7a4_14 : decode cJ6_bitCount_0f7a4 14 = .ok (.iand, 1) := zo_126 (zi_at zh_dJ6_bitCount_0f7a4_0_0 14 rfl)
theorem dJ6_bitCount_0f7a4_15 : decode cJ6_bitCount_0f7a4 15 = .ok (.iload_n 0, 1) := zo_26 (zi_at zh_dJ6_bitCount_0f7a4_0_0 15 rfl)
theorem dJ6_bitCount_0f7a4_16 : decode cJ6_bitCount_0f7a4 16 = .ok (.iconst 2, 1) := zo_5 (zi_at zh_dJ6_bitCount_0f7a4_16_16 0 rfl)
theorem dJ6_bitCount_0f7a4_17 : decode cJ6_bitCount_0f7a4 17 = .ok (.iushr, 1) := zo_124 (zi_at zh_dJ6_bitCount_0f7a4_16_16 1 rfl)
theorem dJ6_bitCount_0f7a4_18 : decode cJ6_bitCount_0f7a4 18 = .ok (.ldc_w 266, 3) := zo_19 (zi_at zh_dJ6_bitCount_0f7a4_16_16 2 rfl) (zi_at zh_dJ6_bitCount_0f7a4_16_16 3 rfl) (zi_at zh_dJ6_bitCount_0f7a4_16_16 4 rfl) rfl
theorem dJ6_bitCount_0f7a4_21 : decode cJ6_bitCount_0f7a4 21 = .ok (.iand, 1) := zo_126 (zi_at zh_dJ6_bitCount_0f7a4_16_16 5 rfl)
theorem dJ6_bitCount_0f7a4_22 : decode cJ6_bitCount_0f7a4 22 = .ok (.iadd, 1) := zo_96 (zi_at zh_dJ6_bitCount_0f7a4_16_16 6 rfl)
theorem dJ6_bitCount_0f7a4_23 : decode cJ6_bitCount_0f7a4 23 = .ok (.istore_n 0, 1) := zo_59 (zi_at zh_dJ6_bitCount_0f7a4_16_16 7 rfl)
theorem dJ6_bitCount_0f7a4_24 : decode cJ6_bitCount_0f7a4 24 = .ok (.iload_n 0, 1) := zo_26 (zi_at zh_dJ6_bitCount_0f7a4_16_16 8 rfl)
theorem dJ6_bitCount_0f7a4_25 : decode cJ6_bitCount_0f7a4 25 = .ok (.iload_n 0, 1) := zo_26 (zi_at zh_dJ6_bitCount_0f7a4_16_16 9 rfl)
theorem dJ6_bitCount_0f7a4_26 : decode cJ6_bitCount_0f7a4 26 = .ok (.iconst 4, 1) := zo_7 (zi_at zh_dJ6_bitCount_0f7a4_16_16 10 rfl)
theorem dJ6_bitCount_0f7a4_27 : decode cJ6_bitCount_0f7a4 27 = .ok (.iushr, 1) := zo_124 (zi_at zh_dJ6_bitCount_0f7a4_16_16 11 rfl)
theorem dJ6_bitCount_0f7a4_28 : decode cJ6_bitCount_0f7a4 28 = .ok (.iadd, 1) := zo_96 (zi_at zh_dJ6_bitCount_0f7a4_16_16 12 rfl)
theorem dJ6_bitCount_0f7a4_29 : decode cJ6_bitCount_0f7a4 29 = .ok (.ldc_w 267, 3) := zo_19 (zi_at zh_dJ6_bitCount_0f7a4_16_16 13 rfl) (zi_at zh_dJ6_bitCount_0f7a4_16_16 14 rfl) (zi_at zh_dJ6_bitCount_0f7a4_16_16 15 rfl) rfl
theorem dJ6_bitCount_0f7a4_32 : decode cJ6_bitCount_0f7a4 32 = .ok (.iand, 1) := zo_126 (zi_at zh_dJ6_bitCount_0f7a4_32_32 0 rfl)
theorem dJ6_bitCount_0f7a4_33 : decode cJ6_bitCount_0f7a4 33 = .ok (.istore_n 0, 1) := zo_59 (zi_at zh_dJ6_bitCount_0f7a4_32_32 1 rfl)
theorem dJ6_bitCount_0f7a4_34 : decode cJ6_bitCount_0f7a4 34 = .ok (.iload_n 0, 1) := zo_26 (zi_at zh_dJ6_bitCount_0f7a4_32_32 2 rfl)
theorem dJ6_bitCount_0f7a4_35 : decode cJ6_bitCount_0f7a4 35 = .ok (.iload_n 0, 1) := zo_26 (zi_at zh_dJ6_bitCount_0f7a4_32_32 3 rfl)
theorem dJ6_bitCount_0f7a4_36 : decode cJ6_bitCount_0f7a4 36 = .ok (.bipush 8, 2) := zo_16 (zi_at zh_dJ6_bitCount_0f7a4_32_32 4 rfl) (zi_at zh_dJ6_bitCount_0f7a4_32_32 5 rfl) rfl
theorem dJ6_bitCount_0f7a4_38 : decode cJ6_bitCount_0f7a4 38 = .ok (.iushr, 1) := zo_124 (zi_at zh_dJ6_bitCount_0f7a4_32_32 6 rfl)
theorem dJ6_bitCount_0f7a4_39 : decode cJ6_bitCount_0f7a4 39 = .ok (.iadd, 1) := zo_96 (zi_at zh_dJ6_bitCount_0f7a4_32_32 7 rfl)
theorem dJ6_bitCount_0f7a4_40 : decode cJ6_bitCount_0f7a4 40 = .ok (.istore_n 0, 1) := zo_59 (zi_at zh_dJ6_bitCount_0f7a4_32_32 8 rfl)
theorem dJ6_bitCount_0f7a4_41 : decode cJ6_bitCount_0f7a4 41 = .ok (.iload_n 0, 1) := zo_26 (zi_at zh_dJ6_bitCount_0f7a4_32_32 9 rfl)
theorem dJ6_bitCount_0f7a4_42 : decode cJ6_bitCount_0f7a4 42 = .ok (.iload_n 0, 1) := zo_26 (zi_at zh_dJ6_bitCount_0f7a4_32_32 10 rfl)
theorem dJ6_bitCount_0f7a4_43 : decode cJ6_bitCount_0f7a4 43 = .ok (.bipush 16, 2) := zo_16 (zi_at zh_dJ6_bitCount_0f7a4_32_32 11 rfl) (zi_at zh_dJ6_bitCount_0f7a4_32_32 12 rfl) rfl
theorem dJ6_bitCount_0f7a4_45 : decode cJ6_bitCount_0f7a4 45 = .ok (.iushr, 1) := zo_124 (zi_at zh_dJ6_bitCount_0f7a4_32_32 13 rfl)
theorem dJ6_bitCount_0f7a4_46 : decode cJ6_bitCount_0f7a4 46 = .ok (.iadd, 1) := zo_96 (zi_at zh_dJ6_bitCount_0f7a4_32_32 14 rfl)
theorem dJ6_bitCount_0f7a4_47 : decode cJ6_bitCount_0f7a4 47 = .ok (.istore_n 0, 1) := zo_59 (zi_at zh_dJ6_bitCount_0f7a4_32_32 15 rfl)
theorem dJ6_bitCount_0f7a4_48 : decode cJ6_bitCount_0f7a4 48 = .ok (.iload_n 0, 1) := zo_26 (zi_at zh_dJ6_bitCount_0f7a4_48_48 0 rfl)
theorem dJ6_bitCount_0f7a4_49 : decode cJ6_bitCount_0f7a4 49 = .ok (.bipush 63, 2) := zo_16 (zi_at zh_dJ6_bitCount_0f7a4_48_48 1 rfl) (zi_at zh_dJ6_bitCount_0f7a4_48_48 2 rfl) rfl
theorem dJ6_bitCount_0f7a4_51 : decode cJ6_bitCount_0f7a4 51 = .ok (.iand, 1) := zo_126 (zi_at zh_dJ6_bitCount_0f7a4_48_48 3 rfl)
theorem dJ6_bitCount_0f7a4_52 : decode cJ6_bitCount_0f7a4 52 = .ok (.ireturn, 1) := zo_172 (zi_at zh_dJ6_bitCount_0f7a4_48_48 4 rfl)
theorem hz_yJ6_bitCount_0f7a4_1 : yJ6_bitCount_0f7a4.cls ≠ "java/lang/invoke/MethodHandle" ∧ yJ6_bitCount_0f7a4.cls ≠ "java/lang/invoke/VarHandle" ∧ (parseMethodDescriptor yJ6_bitCount_0f7a4.desc).map (fun d => d.parameters.length) = some 1 := by decide +kernel
theorem hz_yX13_codeOf_3 : yX13_codeOf.cls ≠ "java/lang/invoke/MethodHandle" ∧ yX13_codeOf.cls ≠ "java/lang/invoke/VarHandle" ∧ (parseMethodDescriptor yX13_codeOf.desc).map (fun d => d.parameters.length) = some 3 := by decide +kernel
theorem hz_yX13_secondsOf_3 : yX13_secondsOf.cls ≠ "java/lang/invoke/MethodHandle" ∧ yX13_secondsOf.cls ≠ "java/lang/invoke/VarHandle" ∧ (parseMethodDescriptor yX13_secondsOf.desc).map (fun d => d.parameters.length) = some 3 := by decide +kernel
theorem hz_yX13_numberOf_3 : yX13_numberOf.cls ≠ "java/lang/invoke/MethodHandle" ∧ yX13_numberOf.cls ≠ "java/lang/invoke/VarHandle" ∧ (parseMethodDescriptor yX13_numberOf.desc).map (fun d => d.parameters.length) = some 3 := by decide +kernel
theorem hz_yX13_findEven_1 : yX13_findEven.cls ≠ "java/lang/invoke/MethodHandle" ∧ yX13_findEven.cls ≠ "java/lang/invoke/VarHandle" ∧ (parseMethodDescriptor yX13_findEven.desc).map (fun d => d.parameters.length) = some 1 := by decide +kernel
def v_bitCount : List Cond := .code yJ6_bitCount_0f7a4 cJ6_bitCount_0f7a4 1 (some .int) :: vA
abbrev rm_bitCount : Room := { frames := 0, cells := 0, slots := 0, locals := 0 }
set_option maxHeartbeats 4000000 in
set_option maxRecDepth 100000 in
theorem q_bitCount (l : Launch) (a0 : Int32) (hh0 : 0 ≤ a0.toInt ∧ a0.toInt ≤ 65535) : Met l yJ6_bitCount_0f7a4 v_bitCount rm_bitCount (va_Pc [.int a0] (fun _ => True)) (va_Qi (S := Unit) (fun r _ => (r.toInt = (pcS a0.toNatClampNeg 16 : Int))) (fun _ _ => True) (fun _ => False)) 0 0 (fun _ => False) := by
  refine Met.ofW (cc := cJ6_bitCount_0f7a4) (maxL := 1) (ret := (some .int)) (by decide) rfl ?_
  intro p e s m args below meth c s₁ B hml hv
  obtain ⟨hargs, -⟩ := hv
  have hx := B.exec
  have hb := B.bytes
  have hr := B.returns
  have hts := atoms_spec (ws := v_bitCount) B.pre
  have hown : s.vm.findClass RJ6 = some m.cls := findClass_of_methodNamed B.named
  have hlocks := B.notSynchronized
  have hS : va_S (fun _ : Nat => False) s.heap s.heap [] := va_S.rf
  have hl := lv_entry ([.int a0]) (n := 1) (Nat.le_of_ble_eq_true rfl)
  obtain ⟨Q, hQ⟩ : ∃ Q, Q = MQ below (va_Qi (S := Unit) (fun r _ => (r.toInt = (pcS a0.toNatClampNeg 16 : Int))) (fun _ _ => True) (fun _ => False)) args s 0 0 (fun _ => False) := ⟨_, rfl⟩
  rw [← hQ, show entryFrame m args 1 = _ from (congrArg (fun z => entryFrame m z 1) hargs).trans (lg_entry_eq _ _ _)]
  generalize (lg_sl ([.int a0]) ++ List.replicate (1 - (lg_sl ([.int a0])).length) Slot.unset).toArray = ls at hl ⊢
  have hl : lv_has ls 1 [(0, .int a0)] := hl
  refine lv_iload_n hx hb dJ6_bitCount_0f7a4_0 rfl (lv_at hl 0 rfl) ?_
  refine lv_iload_n hx hb dJ6_bitCount_0f7a4_1 rfl (lv_at hl 0 rfl) ?_
  refine lv_iconst (v := 1) hx hb dJ6_bitCount_0f7a4_2 (by decide) ?_
  refine lv_iushr hx hb dJ6_bitCount_0f7a4_3 rfl ?_
  refine lv_topi (fun y1 ey1 => ?_)
  refine lv_ldcw hx hb hown (hts _ (vA_in _ _ (in_2 _ (zs4 (zs4 (zs1 (zs1 (zs1 (zs0))))))))) dJ6_bitCount_0f7a4_4 ?_
  refine lv_iand hx hb dJ6_bitCount_0f7a4_7 ?_
  refine lv_topi (fun y2 ey2 => ?_)
  have iy2 : 0 ≤ y2.toInt ∧ y2.toInt ≤ 1431655765 := ti_and (by decide) ey2
  refine lv_isub hx hb dJ6_bitCount_0f7a4_8 ?_
  refine lv_topi (fun y3 ey3 => ?_)
  obtain ⟨ty3, iy3⟩ := ti_sub (e := (-1431655765)) (f := 65535) hh0 iy2 ey3 (by decide)
  have ty3 : y3.toInt = a0.toInt - y2.toInt := ty3
  have iy3 : -1431655765 ≤ y3.toInt ∧ y3.toInt ≤ 65535 := iy3
  refine lv_istore_n (lv' := [(0, .int y3)]) hx hb dJ6_bitCount_0f7a4_9 rfl hl (by decide) rfl (fun ls hl => ?_)
  refine lv_iload_n hx hb dJ6_bitCount_0f7a4_10 rfl (lv_at hl 0 rfl) ?_
  refine lv_ldcw hx hb hown (hts _ (vA_in _ _ (in_2 _ (zs4 (zs4 (zs4 (zs0))))))) dJ6_bitCount_0f7a4_11 ?_
  refine lv_iand hx hb dJ6_bitCount_0f7a4_14 ?_
  refine lv_topi (fun y4 ey4 => ?_)
  have iy4 : 0 ≤ y4.toInt ∧ y4.toInt ≤ 858993459 := ti_and (by decide) ey4
  refine lv_iload_n hx hb dJ6_bitCount_0f7a4_15 rfl (lv_at hl 0 rfl) ?_
  refine lv_iconst (v := 2) hx hb dJ6_bitCount_0f7a4_16 (by decide) ?_
  refine lv_iushr hx hb dJ6_bitCount_0f7a4_17 rfl ?_
  refine lv_topi (fun y5 ey5 => ?_)
  refine lv_ldcw hx hb hown (hts _ (vA_in _ _ (in_2 _ (zs4 (zs4 (zs4 (zs0))))))) dJ6_bitCount_0f7a4_18 ?_
  refine lv_iand hx hb dJ6_bitCount_0f7a4_21 ?_
  refine lv_topi (fun y6 ey6 => ?_)
  have iy6 : 0 ≤ y6.toInt ∧ y6.toInt ≤ 858993459 := ti_and (by decide) ey6
  refine lv_iadd hx hb dJ6_bitCount_0f7a4_22 ?_
  refine lv_topi (fun y7 ey7 => ?_)
  obtain ⟨ty7, iy7⟩ := ti_add (e := 0) (f := 1717986918) iy4 iy6 ey7 (by decide)
  have ty7 : y7.toInt = y4.toInt + y6.toInt := ty7
  have iy7 : 0 ≤ y7.toInt ∧ y7.toInt ≤ 1717986918 := iy7
  refine lv_istore_n (lv' := [(0, .int y7)]) hx hb dJ6_bitCount_0f7a4_23 rfl hl (by decide) rfl (fun ls hl => ?_)
  refine lv_iload_n hx hb dJ6_bitCount_0f7a4_24 rfl (lv_at hl 0 rfl) ?_
  refine lv_iload_n hx hb dJ6_bitCount_0f7a4_25 rfl (lv_at hl 0 rfl) ?_
  refine lv_iconst (v := 4) hx hb dJ6_bitCount_0f7a4_26 (by decide) ?_
  refine lv_iushr hx hb dJ6_bitCount_0f7a4_27 rfl ?_
  refine lv_topi (fun y8 ey8 => ?_)
  refine lv_iadd hx hb dJ6_bitCount_0f7a4_28 ?_
  refine lv_topi (fun y9 ey9 => ?_)
  refine lv_ldcw hx hb hown (hts _ (vA_in _ _ (in_2 _ (zs4 (zs4 (zs4 (zs1 (zs0)))))))) dJ6_bitCount_0f7a4_29 ?_
  refine lv_iand hx hb dJ6_bitCount_0f7a4_32 ?_
  refine lv_topi (fun y10 ey10 => ?_)
  have iy10 : 0 ≤ y10.toInt ∧ y10.toInt ≤ 252645135 := ti_and (by decide) ey10
  refine lv_istore_n (lv' := [(0, .int y10)]) hx hb dJ6_bitCount_0f7a4_33 rfl hl (by decide) rfl (fun ls hl => ?_)
  refine lv_iload_n hx hb dJ6_bitCount_0f7a4_34 rfl (lv_at hl 0 rfl) ?_
  refine lv_iload_n hx hb dJ6_bitCount_0f7a4_35 rfl (lv_at hl 0 rfl) ?_
  refine lv_bipush (v := 8) hx hb dJ6_bitCount_0f7a4_36 (by decide) ?_
  refine lv_iushr hx hb dJ6_bitCount_0f7a4_38 rfl ?_
  refine lv_topi (fun y11 ey11 => ?_)
  refine lv_iadd hx hb dJ6_bitCount_0f7a4_39 ?_
  refine lv_topi (fun y12 ey12 => ?_)
  refine lv_istore_n (lv' := [(0, .int y12)]) hx hb dJ6_bitCount_0f7a4_40 rfl hl (by decide) rfl (fun ls hl => ?_)
  refine lv_iload_n hx hb dJ6_bitCount_0f7a4_41 rfl (lv_at hl 0 rfl) ?_
  refine lv_iload_n hx hb dJ6_bitCount_0f7a4_42 rfl (lv_at hl 0 rfl) ?_
  refine lv_bipush (v := 16) hx hb dJ6_bitCount_0f7a4_43 (by decide) ?_
  refine lv_iushr hx hb dJ6_bitCount_0f7a4_45 rfl ?_
  refine lv_topi (fun y13 ey13 => ?_)
  refine lv_iadd hx hb dJ6_bitCount_0f7a4_46 ?_
  refine lv_topi (fun y14 ey14 => ?_)
  refine lv_istore_n (lv' := [(0, .int y14)]) hx hb dJ6_bitCount_0f7a4_47 rfl hl (by decide) rfl (fun ls hl => ?_)
  refine lv_iload_n hx hb dJ6_bitCount_0f7a4_48 rfl (lv_at hl 0 rfl) ?_
  refine lv_bipush (v := 63) hx hb dJ6_bitCount_0f7a4_49 (by decide) ?_
  refine lv_iand hx hb dJ6_bitCount_0f7a4_51 ?_
  refine lv_topi (fun y15 ey15 => ?_)
  have iy15 : 0 ≤ y15.toInt ∧ y15.toInt ≤ 63 := ti_and (by decide) ey15
  rw [hQ]
  exact W.iret (v := y15) hx hb hr (fun t ht hW => ⟨⟨y15, (), rfl, (by obtain ⟨N, hN, ha, he⟩ : ∃ N : Nat, N < 65536 ∧ a0 = nI N ∧ a0.toNatClampNeg = N := ⟨a0.toNatClampNeg, by rw [tn_]; omega, (nI_tn (by omega)).symm, rfl⟩; rw [he]; have b1 : (N / 2) &&& 1431655765 ≤ N / 2 := Nat.and_le_left; have b2 : ((N - ((N / 2) &&& 1431655765)) &&& 858993459) ≤ (N - ((N / 2) &&& 1431655765)) := Nat.and_le_left; have b3 : ((N - ((N / 2) &&& 1431655765)) / 4) &&& 858993459 ≤ (N - ((N / 2) &&& 1431655765)) / 4 := Nat.and_le_left; have b4 : (((((N - ((N / 2) &&& 1431655765)) &&& 858993459) + (((N - ((N / 2) &&& 1431655765)) / 4) &&& 858993459)) + (((N - ((N / 2) &&& 1431655765)) &&& 858993459) + (((N - ((N / 2) &&& 1431655765)) / 4) &&& 858993459)) / 16) &&& 252645135) ≤ (((N - ((N / 2) &&& 1431655765)) &&& 858993459) + (((N - ((N / 2) &&& 1431655765)) / 4) &&& 858993459)) + (((N - ((N / 2) &&& 1431655765)) &&& 858993459) + (((N - ((N / 2) &&& 1431655765)) / 4) &&& 858993459)) / 16 := Nat.and_le_left; have b5 : (((((((N - ((N / 2) &&& 1431655765)) &&& 858993459) + (((N - ((N / 2) &&& 1431655765)) / 4) &&& 858993459)) + (((N - ((N / 2) &&& 1431655765)) &&& 858993459) + (((N - ((N / 2) &&& 1431655765)) / 4) &&& 858993459)) / 16) &&& 252645135) + (((((N - ((N / 2) &&& 1431655765)) &&& 858993459) + (((N - ((N / 2) &&& 1431655765)) / 4) &&& 858993459)) + (((N - ((N / 2) &&& 1431655765)) &&& 858993459) + (((N - ((N / 2) &&& 1431655765)) / 4) &&& 858993459)) / 16) &&& 252645135) / 256) + ((((((N - ((N / 2) &&& 1431655765)) &&& 858993459) + (((N - ((N / 2) &&& 1431655765)) / 4) &&& 858993459)) + (((N - ((N / 2) &&& 1431655765)) &&& 858993459) + (((N - ((N / 2) &&& 1431655765)) / 4) &&& 858993459)) / 16) &&& 252645135) + (((((N - ((N / 2) &&& 1431655765)) &&& 858993459) + (((N - ((N / 2) &&& 1431655765)) / 4) &&& 858993459)) + (((N - ((N / 2) &&& 1431655765)) &&& 858993459) + (((N - ((N / 2) &&& 1431655765)) / 4) &&& 858993459)) / 16) &&& 252645135) / 256) / 65536) &&& 63 ≤ 63 := Nat.and_le_right; have n1 : y1 = nI (N / 2) := (by rw [ey1, ha]; exact pk_ushrN (by omega) 1 1 (by decide)); have n2 : y2 = nI ((N / 2) &&& 1431655765) := (by rw [ey2, n1]; exact nI_and _ _); have n3 : y3 = nI (N - ((N / 2) &&& 1431655765)) := (by rw [ey3, n2, ha]; exact pk_sub (by omega)); have n4 : y4 = nI ((N - ((N / 2) &&& 1431655765)) &&& 858993459) := (by rw [ey4, n3]; exact nI_and _ _); have n5 : y5 = nI ((N - ((N / 2) &&& 1431655765)) / 4) := (by rw [ey5, n3]; exact pk_ushrN (by omega) 2 2 (by decide)); have n6 : y6 = nI (((N - ((N / 2) &&& 1431655765)) / 4) &&& 858993459) := (by rw [ey6, n5]; exact nI_and _ _); have n7 : y7 = nI (((N - ((N / 2) &&& 1431655765)) &&& 858993459) + (((N - ((N / 2) &&& 1431655765)) / 4) &&& 858993459)) := (by rw [ey7, n4, n6]; exact nI_add _ _); have n8 : y8 = nI ((((N - ((N / 2) &&& 1431655765)) &&& 858993459) + (((N - ((N / 2) &&& 1431655765)) / 4) &&& 858993459)) / 16) := (by rw [ey8, n7]; exact pk_ushrN (by omega) 4 4 (by decide)); have n9 : y9 = nI ((((N - ((N / 2) &&& 1431655765)) &&& 858993459) + (((N - ((N / 2) &&& 1431655765)) / 4) &&& 858993459)) + (((N - ((N / 2) &&& 1431655765)) &&& 858993459) + (((N - ((N / 2) &&& 1431655765)) / 4) &&& 858993459)) / 16) := (by rw [ey9, n7, n8]; exact nI_add _ _); have n10 : y10 = nI (((((N - ((N / 2) &&& 1431655765)) &&& 858993459) + (((N - ((N / 2) &&& 1431655765)) / 4) &&& 858993459)) + (((N - ((N / 2) &&& 1431655765)) &&& 858993459) + (((N - ((N / 2) &&& 1431655765)) / 4) &&& 858993459)) / 16) &&& 252645135) := (by rw [ey10, n9]; exact nI_and _ _); have n11 : y11 = nI ((((((N - ((N / 2) &&& 1431655765)) &&& 858993459) + (((N - ((N / 2) &&& 1431655765)) / 4) &&& 858993459)) + (((N - ((N / 2) &&& 1431655765)) &&& 858993459) + (((N - ((N / 2) &&& 1431655765)) / 4) &&& 858993459)) / 16) &&& 252645135) / 256) := (by rw [ey11, n10]; exact pk_ushrN (by omega) 8 8 (by decide)); have n12 : y12 = nI ((((((N - ((N / 2) &&& 1431655765)) &&& 858993459) + (((N - ((N / 2) &&& 1431655765)) / 4) &&& 858993459)) + (((N - ((N / 2) &&& 1431655765)) &&& 858993459) + (((N - ((N / 2) &&& 1431655765)) / 4) &&& 858993459)) / 16) &&& 252645135) + (((((N - ((N / 2) &&& 1431655765)) &&& 858993459) + (((N - ((N / 2) &&& 1431655765)) / 4) &&& 858993459)) + (((N - ((N / 2) &&& 1431655765)) &&& 858993459) + (((N - ((N / 2) &&& 1431655765)) / 4) &&& 858993459)) / 16) &&& 252645135) / 256) := (by rw [ey12, n10, n11]; exact nI_add _ _); have n13 : y13 = nI (((((((N - ((N / 2) &&& 1431655765)) &&& 858993459) + (((N - ((N / 2) &&& 1431655765)) / 4) &&& 858993459)) + (((N - ((N / 2) &&& 1431655765)) &&& 858993459) + (((N - ((N / 2) &&& 1431655765)) / 4) &&& 858993459)) / 16) &&& 252645135) + (((((N - ((N / 2) &&& 1431655765)) &&& 858993459) + (((N - ((N / 2) &&& 1431655765)) / 4) &&& 858993459)) + (((N - ((N / 2) &&& 1431655765)) &&& 858993459) + (((N - ((N / 2) &&& 1431655765)) / 4) &&& 858993459)) / 16) &&& 252645135) / 256) / 65536) := (by rw [ey13, n12]; exact pk_ushrN (by omega) 16 16 (by decide)); have n14 : y14 = nI (((((((N - ((N / 2) &&& 1431655765)) &&& 858993459) + (((N - ((N / 2) &&& 1431655765)) / 4) &&& 858993459)) + (((N - ((N / 2) &&& 1431655765)) &&& 858993459) + (((N - ((N / 2) &&& 1431655765)) / 4) &&& 858993459)) / 16) &&& 252645135) + (((((N - ((N / 2) &&& 1431655765)) &&& 858993459) + (((N - ((N / 2) &&& 1431655765)) / 4) &&& 858993459)) + (((N - ((N / 2) &&& 1431655765)) &&& 858993459) + (((N - ((N / 2) &&& 1431655765)) / 4) &&& 858993459)) / 16) &&& 252645135) / 256) + ((((((N - ((N / 2) &&& 1431655765)) &&& 858993459) + (((N - ((N / 2) &&& 1431655765)) / 4) &&& 858993459)) + (((N - ((N / 2) &&& 1431655765)) &&& 858993459) + (((N - ((N / 2) &&& 1431655765)) / 4) &&& 858993459)) / 16) &&& 252645135) + (((((N - ((N / 2) &&& 1431655765)) &&& 858993459) + (((N - ((N / 2) &&& 1431655765)) / 4) &&& 858993459)) + (((N - ((N / 2) &&& 1431655765)) &&& 858993459) + (((N - ((N / 2) &&& 1431655765)) / 4) &&& 858993459)) / 16) &&& 252645135) / 256) / 65536) := (by rw [ey14, n12, n13]; exact nI_add _ _); have n15 : y15 = nI (bcN N) := (by rw [ey15, n14]; exact nI_and _ _); have h9 : bcN N < 2 ^ 31 := Nat.lt_of_le_of_lt b5 (by decide); rw [n15, nI_toInt h9, bcN_ok hN]), trivial⟩, hS.F ht⟩) hS.2.2 dJ6_bitCount_0f7a4_52
def v_findEven : List Cond := .code yX13_findEven cX13_findEven 6 (some .boolean) :: vA
abbrev rm_findEven : Room := { frames := 72, cells := 0, slots := 0, locals := 2880 }
def w_findEven : Nat → Nat → Bool := wl [12, 60, 62, 63, 64, 65] [(0, 0), (0, 18), (0, 19), (0, 20), (0, 21), (0, 22), (0, 23), (0, 24), (0, 25), (0, 26), (0, 86), (0, 87), (0, 88), (0, 89)]
set_option maxHeartbeats 4000000 in
set_option maxRecDepth 100000 in
theorem q_findEven (l : Launch) (dC : Nat → ClassId) (dI : Nat → Nat → Nat) (cT : Nat → ClassId) (ad : Nat → Nat) (E : Nat → va_E) (sz : Nat) (a0 : Int32) (hI0 : IX cT shM spM 72 ad E)  : Met l yX13_findEven v_findEven rm_findEven (va_Pc [.ref (ad 0), .int a0] (HW dC dI (TYM cT) 72 ad E sz)) (va_Qi (S := Nat → va_E) (fun r u => IX cT shM spM 72 ad u ∧ Kp w_findEven E u ∧ ((r = 1) ∨ (r = 0))) (HB dC dI 72 ad) (va_A (WX 72 ad E) sz)) 0 0 (va_A (WX 72 ad E) sz) := by
  refine Met.ofW (cc := cX13_findEven) (maxL := 6) (ret := (some .boolean)) (by decide) rfl ?_
  intro p e s m args below meth c s₁ B hml hv
  obtain ⟨hargs, hsz, hP, hK, hD0, hEV⟩ := hv
  subst hsz
  have hx := B.exec
  have hb := B.bytes
  have hr := B.returns
  have hts := atoms_spec (ws := v_findEven) B.pre
  have hown : s.vm.findClass RX13 = some m.cls := findClass_of_methodNamed B.named
  have hlocks := B.notSynchronized
  have hinX13 : ∀ w ∈ u_ws RX13 TX13 97, w ∈ v_findEven := fun w h => vA_in _ w (in_X13 w h)
  generalize hAe : va_A (WX 72 ad E) s.heap.size = A at hEV ⊢
  have hA : ∀ q : Nat, s.heap.size ≤ q → A q := fun q h => by rw [← hAe]; exact Or.inr h
  have hD : va_D A (WX 72 ad E) := by rw [← hAe]; exact hD0.self
  have hS : va_S A s.heap s.heap [] := va_S.rf
  have hI := hI0
  have hKp : Kp w_findEven E E := Kp.rf
  have hl := lv_entry ([.ref (ad 0), .int a0]) (n := 6) (Nat.le_of_ble_eq_true rfl)
  obtain ⟨Q, hQ⟩ : ∃ Q, Q = MQ below (va_Qi (S := Nat → va_E) (fun r u => IX cT shM spM 72 ad u ∧ Kp w_findEven E u ∧ ((r = 1) ∨ (r = 0))) (HB dC dI 72 ad) (A)) args s 0 0 (A) := ⟨_, rfl⟩
  rw [← hQ, show entryFrame m args 6 = _ from (congrArg (fun z => entryFrame m z 6) hargs).trans (lg_entry_eq _ _ _)]
  generalize (lg_sl ([.ref (ad 0), .int a0]) ++ List.replicate (6 - (lg_sl ([.ref (ad 0), .int a0])).length) Slot.unset).toArray = ls at hl ⊢
  have hl : lv_has ls 6 [(0, .ref (ad 0)), (1, .int a0)] := hl
  refine lv_aload_n hx hb dX13_findEven_0 rfl (lv_at hl 0 rfl) ?_
  refine lv_iconst (v := 0) hx hb dX13_findEven_1 (by decide) ?_
  refine th_put (ci := 14) (C := RX13) (T := TX13) (N := 97) (v := .int 0) (ty := .int) hx hb hts hinX13 tyX13 tyX13_ok nmX13 hown hK hP (WX_D hD) hS hI 0 (Nat.le_of_ble_eq_true rfl) rfl rfl 0 (Nat.le_of_ble_eq_true rfl) (hts _ (vA_in _ _ (in_24 _ (zs4 (zs4 (zs1 (zs1 (zs0)))))))) (fun _ h9 => h9) rfl (by decide +kernel) rfl rfl (okI rfl (iv_w ln_0 (by decide))) dX13_findEven_2 (fun H locs E1 pw2 hI hP hS => ?_)
  have hKp := hKp.pw pw2 rfl
  refine lv_iload_n hx hb dX13_findEven_5 rfl (lv_at hl 1 rfl) ?_
  refine lv_iconst (v := 1) hx hb dX13_findEven_6 (by decide) ?_
  refine lv_iconst (v := 1) hx hb dX13_findEven_7 (by decide) ?_
  refine lv_aload_n hx hb dX13_findEven_8 rfl (lv_at hl 0 rfl) ?_
  have i3 : 0 ≤ (xi (E 0) 8).toInt ∧ (xi (E 0) 8).toInt ≤ 16 := hI0.iv 0 (Nat.le_of_ble_eq_true rfl) rfl (Nat.le_of_ble_eq_true rfl) rfl
  refine th_get (ci := 14) (C := RX13) (T := TX13) (N := 97) (v := .int (xi (E 0) 8)) hx hb hts hinX13 hown hK hP hI 0 (Nat.le_of_ble_eq_true rfl) rfl rfl 8 (Nat.le_of_ble_eq_true rfl) (hts _ (vA_in _ _ (in_24 _ (zs16 (zs4 (zs1 (zs1 (zs0)))))))) (fun _ h9 => h9) (th_v0 hKp hI0 0 (Nat.le_of_ble_eq_true rfl) rfl (Nat.le_of_ble_eq_true rfl) rfl rfl) dX13_findEven_9 ?_
  refine lv_ishl hx hb dX13_findEven_12 ?_
  refine lv_topi (fun y4 ey4 => ?_)
  have iy4 : 1 ≤ y4.toInt ∧ y4.toInt ≤ 65536 := ti_shl1 i3 ey4 (by decide)
  refine lv_iconst (v := 1) hx hb dX13_findEven_13 (by decide) ?_
  refine lv_isub hx hb dX13_findEven_14 ?_
  refine lv_topi (fun y5 ey5 => ?_)
  obtain ⟨ty5, iy5⟩ := ti_sub (e := 0) (f := 65535) iy4 ln_1 ey5 (by decide)
  have ty5 : y5.toInt = y4.toInt - 1 := ty5
  have iy5 : 0 ≤ y5.toInt ∧ y5.toInt ≤ 65535 := iy5
  refine th_pi (va_runS (As := [.int a0, .int 1, .int y5]) (rest := []) ⟨hx, hb, hml, hown, hts⟩ (q_isIn l a0 (1 : Int32) y5) (va_cwS 3 hts (gi_S (in_24 _ (zs16 (zs4 (zs4 (zs4 (zs0)))))) (in_24 _ (zs16 (zs4 (zs4 (zs4 (zs1 (zs0))))))) (in_24 _ (zs4 (zs4 (zs4 (zs1 (zs1 (zs1 (zs0)))))))) (in_24 _ (zs16 (zs4 (zs4 (zs4 (zs1 (zs1 (zs0))))))))) rfl rfl rfl hz_yX13_isIn_3 ⟨Nat.le_of_ble_eq_true rfl, Nat.le_of_ble_eq_true rfl⟩) ⟨fun _ _ _ _ q => q, fun _ _ _ => ⟨rfl, trivial⟩⟩ rfl rfl hl.1 rfl (lv_room (Nat.le_of_ble_eq_true rfl)) dX13_findEven_15 ⟨Nat.le_of_ble_eq_true rfl, Nat.le_of_ble_eq_true rfl⟩) hS (fun r6 H1 locs1 hw hk1 hS => ?_)
  have hP := ub_keep hP hk1
  generalize H1 = H at hP hS ⊢
  generalize locs1 = locs at hS ⊢
  rcases hw with hw | hw
  · -- isIn, case 0
    obtain ⟨rfl, f7⟩ := hw
    have t8 : (1 : Int) ≤ a0.toInt := f7.1
    have t9 : a0.toInt ≤ y5.toInt := f7.2
    have i10 : 1 ≤ a0.toInt ∧ a0.toInt ≤ 2147483647 := iv_le_r t8 (il_ 1) (iv_all _) (by decide)
    have i11 : 1 ≤ a0.toInt ∧ a0.toInt ≤ 65535 := iv_le_l t9 i10 iy5 (by decide)
    have i12 : 1 ≤ y5.toInt ∧ y5.toInt ≤ 65535 := iv_le_r t9 i10 iy5 (by decide)
    refine lv_if_eq (tgt := 37) hx hb dX13_findEven_18 (by decide) (fun c13 => ?_) (fun c13 => ?_)
    · --18 taken
      exact absurd c13 (by decide)
    · --18 not
      refine lv_iload_n hx hb dX13_findEven_21 rfl (lv_at hl 1 rfl) ?_
      refine th_pi (va_runS (As := [.int a0]) (rest := []) ⟨hx, hb, hml, hown, hts⟩ (q_bitCount l a0 (iv_w i11 (by decide))) (va_cwS 1 hts (gi_S (in_27 _ (zs16 (zs16 (zs1 (zs1 (zs1 (zs0))))))) (in_4 _ (zs16 (zs4 (zs4 (zs1 (zs1 (zs0))))))) (in_4 _ (zs16 (zs4 (zs4 (zs1 (zs1 (zs1 (zs0)))))))) (in_2 _ (zs4 (zs4 (zs1 (zs1 (zs0))))))) rfl rfl rfl hz_yJ6_bitCount_0f7a4_1 ⟨Nat.le_of_ble_eq_true rfl, Nat.le_of_ble_eq_true rfl⟩) ⟨fun _ _ _ _ q => q, fun _ _ _ => ⟨rfl, trivial⟩⟩ rfl rfl hl.1 rfl (lv_room (Nat.le_of_ble_eq_true rfl)) dX13_findEven_22 ⟨Nat.le_of_ble_eq_true rfl, Nat.le_of_ble_eq_true rfl⟩) hS (fun r14 H1 locs1 hw hk1 hS => ?_)
      have hP := ub_keep hP hk1
      generalize H1 = H at hP hS ⊢
      generalize locs1 = locs at hS ⊢
      have f15 := hw
      refine lv_iconst (v := 2) hx hb dX13_findEven_25 (by decide) ?_
      refine lv_icmp_lt (tgt := 37) hx hb dX13_findEven_26 (by decide) (fun c16 => ?_) (fun c16 => ?_)
      · --26 taken
        have t17 : r14.toInt < 2 := ti_lt c16
        have i18 : -2147483648 ≤ r14.toInt ∧ r14.toInt ≤ 1 := iv_lt_l t17 (iv_all _) (il_ 2) (by decide)
        refine lv_iconst (v := 0) hx hb dX13_findEven_37 (by decide) ?_
        rw [hQ]
        exact W.zret (v := 0) hx hb hr rfl (fun t ht hW => ⟨⟨0, E1, rfl, ⟨hI, hKp, Or.inr (rfl)⟩, by show va_P (dC, dI) vwCl (WX 72 ad E1) t.heap; rw [ht]; exact hP⟩, hS.F ht⟩) hS.2.2 dX13_findEven_38
      · --26 not
        have t19 : (2 : Int) ≤ r14.toInt := ti_nlt c16
        have i20 : 2 ≤ r14.toInt ∧ r14.toInt ≤ 2147483647 := iv_le_r t19 (il_ 2) (iv_all _) (by decide)
        refine lv_iload_n hx hb dX13_findEven_29 rfl (lv_at hl 1 rfl) ?_
        refine th_pi (va_runS (As := [.int a0]) (rest := []) ⟨hx, hb, hml, hown, hts⟩ (q_bitCount l a0 (iv_w i11 (by decide))) (va_cwS 1 hts (gi_S (in_27 _ (zs16 (zs16 (zs1 (zs1 (zs1 (zs0))))))) (in_4 _ (zs16 (zs4 (zs4 (zs1 (zs1 (zs0))))))) (in_4 _ (zs16 (zs4 (zs4 (zs1 (zs1 (zs1 (zs0)))))))) (in_2 _ (zs4 (zs4 (zs1 (zs1 (zs0))))))) rfl rfl rfl hz_yJ6_bitCount_0f7a4_1 ⟨Nat.le_of_ble_eq_true rfl, Nat.le_of_ble_eq_true rfl⟩) ⟨fun _ _ _ _ q => q, fun _ _ _ => ⟨rfl, trivial⟩⟩ rfl rfl hl.1 rfl (lv_room (Nat.le_of_ble_eq_true rfl)) dX13_findEven_30 ⟨Nat.le_of_ble_eq_true rfl, Nat.le_of_ble_eq_true rfl⟩) hS (fun r21 H1 locs1 hw hk1 hS => ?_)
        have hP := ub_keep hP hk1
        generalize H1 = H at hP hS ⊢
        generalize locs1 = locs at hS ⊢
        have f22 := hw
        refine lv_iconst (v := 4) hx hb dX13_findEven_33 (by decide) ?_
        refine lv_icmp_le (tgt := 39) hx hb dX13_findEven_34 (by decide) (fun c23 => ?_) (fun c23 => ?_)
        · --34 taken
          have t24 : r21.toInt ≤ 4 := ti_le c23
          have i25 : -2147483648 ≤ r21.toInt ∧ r21.toInt ≤ 4 := iv_le_l t24 (iv_all _) (il_ 4) (by decide)
          refine lv_aload_n hx hb dX13_findEven_39 rfl (lv_at hl 0 rfl) ?_
          refine lv_iconst (v := 0) hx hb dX13_findEven_40 (by decide) ?_
          refine th_put (ci := 14) (C := RX13) (T := TX13) (N := 97) (v := .int 0) (ty := .int) hx hb hts hinX13 tyX13 tyX13_ok nmX13 hown hK hP (WX_D hD) hS hI 0 (Nat.le_of_ble_eq_true rfl) rfl rfl 86 (Nat.le_of_ble_eq_true rfl) (hts _ (vA_in _ _ (in_27 _ (zs16 (zs4 (zs1 (zs1 (zs0)))))))) (fun _ h9 => h9) rfl (by decide +kernel) rfl rfl (okI rfl (iv_w ln_0 (by decide))) dX13_findEven_41 (fun H locs E26 pw27 hI hP hS => ?_)
          have hKp := hKp.pw pw27 rfl
          refine lv_iconst (v := 0) hx hb dX13_findEven_44 (by decide) ?_
          refine lv_istore_n (lv' := [(2, .int 0), (0, .ref (ad 0)), (1, .int a0)]) hx hb dX13_findEven_45 rfl hl (by decide) rfl (fun ls hl => ?_)
          obtain ⟨g28, hg28⟩ : ∃ g, xi (E26 60) = g := ⟨_, rfl⟩
          have hL46 : ∀ d : Nat, ∀ (w46_0_86 : Int32) (g46_60 : Nat → Int32) (v46_2 : Int32) (E46_ : Nat → va_E) (H : Heap) (locs : List Loc) (ls : Array Slot), 0 ≤ w46_0_86.toInt ∧ w46_0_86.toInt ≤ 4 → 0 ≤ v46_2.toInt ∧ v46_2.toInt ≤ 16 → w46_0_86.toInt = (pcS a0.toNatClampNeg v46_2.toNatClampNeg : Int) → 16 - v46_2.toInt < (d : Int) → IX cT shM spM 72 ad E46_ → Kp w_findEven E E46_ → xv (E46_ 0) 86 = .int w46_0_86 → xv (E46_ 0) 0 = .int 0 → xi (E46_ 60) = g46_60 → va_P (dC, dI) vwCl (WX 72 ad E46_) H → va_S A s.heap H locs → lv_has ls 6 [(2, .int v46_2), (0, .ref (ad 0)), (1, .int a0)] → W p l e (headSpec v_findEven rm_findEven).room s m args below meth c H locs 0 0 Q (F0 m 46 ls []) := by
            intro d
            induction d with
            | zero =>
              intro w46_0_86 g46_60 v46_2 E46_ H locs ls hw46_0_86 hv46_2 hx46_0 hx46_1 hI hKp hs46_0_86 hs46_0_0 hr46_60 hP hS hl
              exact absurd hx46_1 (by first | exact ms_zu hv46_2.2 | omega)
            | succ d ih46 =>
              intro w46_0_86 g46_60 v46_2 E46_ H locs ls hw46_0_86 hv46_2 hx46_0 hx46_1 hI hKp hs46_0_86 hs46_0_0 hr46_60 hP hS hl
              refine lv_iload_n hx hb dX13_findEven_46 rfl (lv_at hl 0 rfl) ?_
              refine lv_aload_n hx hb dX13_findEven_47 rfl (lv_at hl 1 rfl) ?_
              refine th_get (ci := 14) (C := RX13) (T := TX13) (N := 97) (v := .int (xi (E 0) 8)) hx hb hts hinX13 hown hK hP hI 0 (Nat.le_of_ble_eq_true rfl) rfl rfl 8 (Nat.le_of_ble_eq_true rfl) (hts _ (vA_in _ _ (in_24 _ (zs16 (zs4 (zs1 (zs1 (zs0)))))))) (fun _ h9 => h9) (th_v0 hKp hI0 0 (Nat.le_of_ble_eq_true rfl) rfl (Nat.le_of_ble_eq_true rfl) rfl rfl) dX13_findEven_48 ?_
              refine lv_icmp_ge (tgt := 91) hx hb dX13_findEven_51 (by decide) (fun c29 => ?_) (fun c29 => ?_)
              · --51 taken
                have t30 : (xi (E 0) 8).toInt ≤ v46_2.toInt := ti_le c29
                refine lv_aload_n hx hb dX13_findEven_91 rfl (lv_at hl 1 rfl) ?_
                refine lv_iconst (v := 0) hx hb dX13_findEven_92 (by decide) ?_
                refine th_put (ci := 14) (C := RX13) (T := TX13) (N := 97) (v := .int 0) (ty := .int) hx hb hts hinX13 tyX13 tyX13_ok nmX13 hown hK hP (WX_D hD) hS hI 0 (Nat.le_of_ble_eq_true rfl) rfl rfl 87 (Nat.le_of_ble_eq_true rfl) (hts _ (vA_in _ _ (in_27 _ (zs16 (zs4 (zs4 (zs4 (zs1 (zs0))))))))) (fun _ h9 => h9) rfl (by decide +kernel) rfl rfl (okI rfl (iv_w ln_0 (by decide))) dX13_findEven_93 (fun H locs E31 pw32 hI hP hS => ?_)
                have hKp := hKp.pw pw32 rfl
                refine lv_iconst (v := 0) hx hb dX13_findEven_96 (by decide) ?_
                refine lv_istore_n (lv' := [(2, .int 0), (0, .ref (ad 0)), (1, .int a0)]) hx hb dX13_findEven_97 rfl hl (by decide) rfl (fun ls hl => ?_)
                have hL98 : ∀ d : Nat, ∀ (w98_0_87 : Int32) (v98_2 : Int32) (E98_ : Nat → va_E) (H : Heap) (locs : List Loc) (ls : Array Slot), 0 ≤ w98_0_87.toInt ∧ w98_0_87.toInt ≤ 20 → 0 ≤ v98_2.toInt ∧ v98_2.toInt ≤ 20 → w98_0_87.toInt ≤ v98_2.toInt → 20 - v98_2.toInt < (d : Int) → IX cT shM spM 72 ad E98_ → Kp w_findEven E E98_ → xv (E98_ 0) 87 = .int w98_0_87 → xv (E98_ 0) 86 = .int w46_0_86 → xv (E98_ 0) 0 = .int 0 → xi (E98_ 60) = g46_60 → va_P (dC, dI) vwCl (WX 72 ad E98_) H → va_S A s.heap H locs → lv_has ls 6 [(2, .int v98_2), (0, .ref (ad 0)), (1, .int a0)] → W p l e (headSpec v_findEven rm_findEven).room s m args below meth c H locs 0 0 Q (F0 m 98 ls []) := by
                  intro d
                  induction d with
                  | zero =>
                    intro w98_0_87 v98_2 E98_ H locs ls hw98_0_87 hv98_2 hx98_0 hx98_1 hI hKp hs98_0_87 hs98_0_86 hs98_0_0 hr98_60 hP hS hl
                    exact absurd hx98_1 (by first | exact ms_zu hv98_2.2 | omega)
                  | succ d ih98 =>
                    intro w98_0_87 v98_2 E98_ H locs ls hw98_0_87 hv98_2 hx98_0 hx98_1 hI hKp hs98_0_87 hs98_0_86 hs98_0_0 hr98_60 hP hS hl
                    refine lv_iload_n hx hb dX13_findEven_98 rfl (lv_at hl 0 rfl) ?_
                    refine lv_aload_n hx hb dX13_findEven_99 rfl (lv_at hl 1 rfl) ?_
                    have i33 : 0 ≤ (xi (E 0) 46).toInt ∧ (xi (E 0) 46).toInt ≤ 20 := hI0.iv 0 (Nat.le_of_ble_eq_true rfl) rfl (Nat.le_of_ble_eq_true rfl) rfl
                    refine th_get (ci := 14) (C := RX13) (T := TX13) (N := 97) (v := .int (xi (E 0) 46)) hx hb hts hinX13 hown hK hP hI 0 (Nat.le_of_ble_eq_true rfl) rfl rfl 46 (Nat.le_of_ble_eq_true rfl) (hts _ (vA_in _ _ (in_24 _ (zs16 (zs1 (zs0)))))) (fun _ h9 => h9) (th_v0 hKp hI0 0 (Nat.le_of_ble_eq_true rfl) rfl (Nat.le_of_ble_eq_true rfl) rfl rfl) dX13_findEven_100 ?_
                    refine lv_icmp_ge (tgt := 278) hx hb dX13_findEven_103 (by decide) (fun c34 => ?_) (fun c34 => ?_)
                    · --103 taken
                      have t35 : (xi (E 0) 46).toInt ≤ v98_2.toInt := ti_le c34
                      refine lv_aload_n hx hb dX13_findEven_278 rfl (lv_at hl 1 rfl) ?_
                      refine lv_iconst (v := -1) hx hb dX13_findEven_279 (by decide) ?_
                      refine th_put (ci := 14) (C := RX13) (T := TX13) (N := 97) (v := .int (-1)) (ty := .int) hx hb hts hinX13 tyX13 tyX13_ok nmX13 hown hK hP (WX_D hD) hS hI 0 (Nat.le_of_ble_eq_true rfl) rfl rfl 88 (Nat.le_of_ble_eq_true rfl) (hts _ (vA_in _ _ (in_27 _ (zs16 (zs16 (zs1 (zs1 (zs0)))))))) (fun _ h9 => h9) rfl (by decide +kernel) rfl rfl (okI rfl (iv_w ln_m1 (by decide))) dX13_findEven_280 (fun H locs E36 pw37 hI hP hS => ?_)
                      have hKp := hKp.pw pw37 rfl
                      refine lv_aload_n hx hb dX13_findEven_283 rfl (lv_at hl 1 rfl) ?_
                      refine lv_iconst (v := 0) hx hb dX13_findEven_284 (by decide) ?_
                      have z0 := ln_0
                      refine th_v (va_runV (As := [.int 0]) (rest := []) ⟨hx, hb, hml, hown, hts⟩ ((q_tryAll l 4) dC dI cT ad E36 H.size (0 : Int32) hI (iv_w ln_0 (by decide)) (by omega)) (cwV 1 hts (gi_V (in_29 _ (zs16 (zs16 (zs4 (zs1 (zs0)))))) (in_29 _ (zs16 (zs16 (zs4 (zs1 (zs1 (zs0))))))) (in_29 _ (zs16 (zs16 (zs4 (zs1 (zs1 (zs1 (zs0)))))))) (in_24 _ (zs4 (zs4 (zs4 (zs1 (zs1 (zs1 (zs0)))))))) (in_30 _ zs0)) rfl rfl rfl (by decide +kernel) ⟨(show 2 * 4 + 1 + 1 ≤ 72 from Nat.le_of_ble_eq_true rfl), (show 8 + (9 + 11) + 40 * (2 * 4 + 1) ≤ 40 * (72) from Nat.le_of_ble_eq_true rfl)⟩) ⟨HW_bl, va_recv hK hP (ci := 14) (q0 := 0) rfl (hI.ob 0 (Nat.le_of_ble_eq_true rfl) rfl), (HW_wi hP hK (WX_D hD) hS hA hEV)⟩ rfl rfl hl.1 rfl (lv_room (Nat.le_of_ble_eq_true rfl)) dX13_findEven_285 ⟨Nat.le_of_ble_eq_true rfl, Nat.le_of_ble_eq_true rfl⟩) (WX_D hD) hS hA (fun E39 H locs hw hP hS => ?_)
                      obtain ⟨hI, kq40, hw⟩ := hw
                      have hKb := hKp
                      have hKp := hKp.tr kq40 (wl_sub rfl rfl)
                      refine lv_iconst (v := 1) hx hb dX13_findEven_288 (by decide) ?_
                      rw [hQ]
                      exact W.zret (v := 1) hx hb hr rfl (fun t ht hW => ⟨⟨1, E39, rfl, ⟨hI, hKp, Or.inl rfl⟩, by show va_P (dC, dI) vwCl (WX 72 ad E39) t.heap; rw [ht]; exact hP⟩, hS.F ht⟩) hS.2.2 dX13_findEven_289
                    · --103 not
                      have t41 : v98_2.toInt < (xi (E 0) 46).toInt := ti_nle c34
                      have i42 : 0 ≤ v98_2.toInt ∧ v98_2.toInt ≤ 19 := iv_lt_l t41 hv98_2 i33 (by decide)
                      have i43 : 1 ≤ (xi (E 0) 46).toInt ∧ (xi (E 0) 46).toInt ≤ 20 := iv_lt_r t41 hv98_2 i33 (by decide)
                      have i44 : 0 ≤ w98_0_87.toInt ∧ w98_0_87.toInt ≤ 19 := by omega
                      refine lv_iconst (v := 0) hx hb dX13_findEven_106 (by decide) ?_
                      refine lv_istore_n (lv' := [(3, .int 0), (2, .int v98_2), (0, .ref (ad 0)), (1, .int a0)]) hx hb dX13_findEven_107 rfl hl (by decide) rfl (fun ls hl => ?_)
                      refine lv_iconst (v := 0) hx hb dX13_findEven_108 (by decide) ?_
                      refine lv_istore (lv' := [(4, .int 0), (3, .int 0), (2, .int v98_2), (0, .ref (ad 0)), (1, .int a0)]) hx hb dX13_findEven_109 hl (by decide) rfl (fun ls hl => ?_)
                      have hL111 : ∀ d : Nat, ∀ (v111_4 : Int32) (v111_3 : Int32) (E111_ : Nat → va_E) (H : Heap) (locs : List Loc) (ls : Array Slot), 0 ≤ v111_4.toInt ∧ v111_4.toInt ≤ 4 → 4 - v111_4.toInt < (d : Int) → IX cT shM spM 72 ad E111_ → Kp w_findEven E E111_ → xv (E111_ 0) 87 = .int w98_0_87 → xv (E111_ 0) 86 = .int w46_0_86 → xv (E111_ 0) 0 = .int 0 → xi (E111_ 60) = g46_60 → va_P (dC, dI) vwCl (WX 72 ad E111_) H → va_S A s.heap H locs → lv_has ls 6 [(4, .int v111_4), (3, .int v111_3), (2, .int v98_2), (0, .ref (ad 0)), (1, .int a0)] → W p l e (headSpec v_findEven rm_findEven).room s m args below meth c H locs 0 0 Q (F0 m 111 ls []) := by
                        intro d
                        induction d with
                        | zero =>
                          intro v111_4 v111_3 E111_ H locs ls hv111_4 hx111_0 hI hKp hs111_0_87 hs111_0_86 hs111_0_0 hr111_60 hP hS hl
                          exact absurd hx111_0 (by first | exact ms_zu hv111_4.2 | omega)
                        | succ d ih111 =>
                          intro v111_4 v111_3 E111_ H locs ls hv111_4 hx111_0 hI hKp hs111_0_87 hs111_0_86 hs111_0_0 hr111_60 hP hS hl
                          refine lv_iload hx hb dX13_findEven_111 (lv_at hl 0 rfl) ?_
                          refine lv_aload_n hx hb dX13_findEven_113 rfl (lv_at hl 3 rfl) ?_
                          refine th_get (ci := 14) (C := RX13) (T := TX13) (N := 97) (v := .int w46_0_86) hx hb hts hinX13 hown hK hP hI 0 (Nat.le_of_ble_eq_true rfl) rfl rfl 86 (Nat.le_of_ble_eq_true rfl) (hts _ (vA_in _ _ (in_27 _ (zs16 (zs4 (zs1 (zs1 (zs0)))))))) (fun _ h9 => h9) hs111_0_86 dX13_findEven_114 ?_
                          refine lv_icmp_ge (tgt := 248) hx hb dX13_findEven_117 (by decide) (fun c45 => ?_) (fun c45 => ?_)
                          · --117 taken
                            have t46 : w46_0_86.toInt ≤ v111_4.toInt := ti_le c45
                            refine lv_aload_n hx hb dX13_findEven_248 rfl (lv_at hl 3 rfl) ?_
                            refine th_get (ci := 14) (C := RX13) (T := TX13) (N := 97) (v := .ref (ad 15)) hx hb hts hinX13 hown hK hP hI 0 (Nat.le_of_ble_eq_true rfl) rfl rfl 29 (Nat.le_of_ble_eq_true rfl) (hts _ (vA_in _ _ (in_27 _ (zs16 (zs16 (zs1 (zs0))))))) (fun _ h9 => h9) (hI.fr 0 (Nat.le_of_ble_eq_true rfl) rfl (Nat.le_of_ble_eq_true rfl) 15 rfl) dX13_findEven_249 ?_
                            refine lv_iload_n hx hb dX13_findEven_252 rfl (lv_at hl 2 rfl) ?_
                            have n48 : vp_in v98_2 20 := (iv_in (n := 20) i42 (by decide))
                            refine th_iald hx hb hK hP hI 15 (Nat.le_of_ble_eq_true rfl) rfl rfl n48 dX13_findEven_253 (fun y47 ey47 => ?_)
                            have iy47 : 0 ≤ y47.toInt ∧ y47.toInt ≤ 1 := hI.el 15 (Nat.le_of_ble_eq_true rfl) rfl n48 (fun _ => rfl) ey47
                            have ey47 := ey47.trans (hKp.ei 15 _ rfl)
                            refine lv_if_ne (tgt := 272) hx hb dX13_findEven_254 (by decide) (fun c49 => ?_) (fun c49 => ?_)
                            · --254 taken
                              have t50 : ¬ y47.toInt = 0 := ti_ne c49
                              have i51 : 1 ≤ y47.toInt ∧ y47.toInt ≤ 1 := iv_ne_l t50 iy47 (il_ 0)
                              obtain ⟨y52, ey52⟩ : ∃ y : Int32, y = v98_2 + (1 : Int32) := ⟨_, rfl⟩
                              obtain ⟨ty52, iy52⟩ := ti_add (e := 1) (f := 20) i42 ln_1 ey52 (by decide)
                              have ty52 : y52.toInt = v98_2.toInt + 1 := ty52
                              have iy52 : 1 ≤ y52.toInt ∧ y52.toInt ≤ 20 := iy52
                              refine lv_iinc (v := y52) (lv' := [(2, .int y52), (4, .int v111_4), (3, .int v111_3), (0, .ref (ad 0)), (1, .int a0)]) hx hb dX13_findEven_272 hl (k := 2) rfl (by rw [ey52]; rfl) (by decide) rfl (fun ls hl => ?_)
                              refine lv_goto (tgt := 98) hx hb dX13_findEven_275 (by decide) ?_
                              exact ih98 w98_0_87 y52 E111_ _ _ _ (iv_w i44 (by decide)) (iv_w iy52 (by decide)) (by have h9 := i44; have h8 := iy52; omega) (by first | exact ms_su hx98_1 ty52 (by decide) | omega) hI hKp hs111_0_87 hs111_0_86 hs111_0_0 hr111_60 hP hS (lv_sub hl [0, 3, 4] rfl)
                            · --254 not
                              have t53 : y47.toInt = 0 := ti_eq c49
                              have i54 : 0 ≤ y47.toInt ∧ y47.toInt ≤ 0 := iv_eqi t53 iy47 (il_ 0) (by decide)
                              refine lv_iload_n hx hb dX13_findEven_257 rfl (lv_at hl 1 rfl) ?_
                              refine lv_iconst (v := 1) hx hb dX13_findEven_258 (by decide) ?_
                              refine lv_icmp_le (tgt := 272) hx hb dX13_findEven_259 (by decide) (fun c55 => ?_) (fun c55 => ?_)
                              · --259 taken
                                have t56 : v111_3.toInt ≤ 1 := ti_le c55
                                have i57 : -2147483648 ≤ v111_3.toInt ∧ v111_3.toInt ≤ 1 := iv_le_l t56 (iv_all _) (il_ 1) (by decide)
                                obtain ⟨y58, ey58⟩ : ∃ y : Int32, y = v98_2 + (1 : Int32) := ⟨_, rfl⟩
                                obtain ⟨ty58, iy58⟩ := ti_add (e := 1) (f := 20) i42 ln_1 ey58 (by decide)
                                have ty58 : y58.toInt = v98_2.toInt + 1 := ty58
                                have iy58 : 1 ≤ y58.toInt ∧ y58.toInt ≤ 20 := iy58
                                refine lv_iinc (v := y58) (lv' := [(2, .int y58), (4, .int v111_4), (3, .int v111_3), (0, .ref (ad 0)), (1, .int a0)]) hx hb dX13_findEven_272 hl (k := 2) rfl (by rw [ey58]; rfl) (by decide) rfl (fun ls hl => ?_)
                                refine lv_goto (tgt := 98) hx hb dX13_findEven_275 (by decide) ?_
                                exact ih98 w98_0_87 y58 E111_ _ _ _ (iv_w i44 (by decide)) (iv_w iy58 (by decide)) (by have h9 := i44; have h8 := iy58; omega) (by first | exact ms_su hx98_1 ty58 (by decide) | omega) hI hKp hs111_0_87 hs111_0_86 hs111_0_0 hr111_60 hP hS (lv_sub hl [0, 3, 4] rfl)
                              · --259 not
                                have t59 : (1 : Int) < v111_3.toInt := ti_nle c55
                                have i60 : 2 ≤ v111_3.toInt ∧ v111_3.toInt ≤ 2147483647 := iv_lt_r t59 (il_ 1) (iv_all _) (by decide)
                                refine lv_aload_n hx hb dX13_findEven_262 rfl (lv_at hl 3 rfl) ?_
                                refine lv_dup hx hb dX13_findEven_263 rfl ?_
                                refine th_get (ci := 14) (C := RX13) (T := TX13) (N := 97) (v := .int w98_0_87) hx hb hts hinX13 hown hK hP hI 0 (Nat.le_of_ble_eq_true rfl) rfl rfl 87 (Nat.le_of_ble_eq_true rfl) (hts _ (vA_in _ _ (in_27 _ (zs16 (zs4 (zs4 (zs4 (zs1 (zs0))))))))) (fun _ h9 => h9) hs111_0_87 dX13_findEven_264 ?_
                                refine lv_iconst (v := 1) hx hb dX13_findEven_267 (by decide) ?_
                                refine lv_iadd hx hb dX13_findEven_268 ?_
                                refine lv_topi (fun y61 ey61 => ?_)
                                obtain ⟨ty61, iy61⟩ := ti_add (e := 1) (f := 20) i44 ln_1 ey61 (by decide)
                                have ty61 : y61.toInt = w98_0_87.toInt + 1 := ty61
                                have iy61 : 1 ≤ y61.toInt ∧ y61.toInt ≤ 20 := iy61
                                refine th_put (ci := 14) (C := RX13) (T := TX13) (N := 97) (v := .int y61) (ty := .int) hx hb hts hinX13 tyX13 tyX13_ok nmX13 hown hK hP (WX_D hD) hS hI 0 (Nat.le_of_ble_eq_true rfl) rfl rfl 87 (Nat.le_of_ble_eq_true rfl) (hts _ (vA_in _ _ (in_27 _ (zs16 (zs4 (zs4 (zs4 (zs1 (zs0))))))))) (fun _ h9 => h9) rfl (by decide +kernel) rfl rfl (okI rfl (iv_w iy61 (by decide))) dX13_findEven_269 (fun H locs E62 pw63 hI hP hS => ?_)
                                have hKp := hKp.pw pw63 rfl
                                obtain ⟨y64, ey64⟩ : ∃ y : Int32, y = v98_2 + (1 : Int32) := ⟨_, rfl⟩
                                obtain ⟨ty64, iy64⟩ := ti_add (e := 1) (f := 20) i42 ln_1 ey64 (by decide)
                                have ty64 : y64.toInt = v98_2.toInt + 1 := ty64
                                have iy64 : 1 ≤ y64.toInt ∧ y64.toInt ≤ 20 := iy64
                                refine lv_iinc (v := y64) (lv' := [(2, .int y64), (4, .int v111_4), (3, .int v111_3), (0, .ref (ad 0)), (1, .int a0)]) hx hb dX13_findEven_272 hl (k := 2) rfl (by rw [ey64]; rfl) (by decide) rfl (fun ls hl => ?_)
                                refine lv_goto (tgt := 98) hx hb dX13_findEven_275 (by decide) ?_
                                exact ih98 y61 y64 E62 _ _ _ (iv_w iy61 (by decide)) (iv_w iy64 (by decide)) (by have h9 := iy61; have h8 := iy64; omega) (by first | exact ms_su hx98_1 ty64 (by decide) | omega) hI hKp pw63.1 ((pw63.2 0 86 (fun q9 => absurd q9.2 (Nat.ne_of_beq_eq_false rfl))).trans hs111_0_86) ((pw63.2 0 0 (fun q9 => absurd q9.2 (Nat.ne_of_beq_eq_false rfl))).trans hs111_0_0) ((pw63.ef 60 (Nat.ne_of_beq_eq_false rfl)).trans hr111_60) hP hS (lv_sub hl [0, 3, 4] rfl)
                          · --117 not
                            have t65 : v111_4.toInt < w46_0_86.toInt := ti_nle c45
                            have i66 : 0 ≤ v111_4.toInt ∧ v111_4.toInt ≤ 3 := iv_lt_l t65 hv111_4 hw46_0_86 (by decide)
                            have i67 : 1 ≤ w46_0_86.toInt ∧ w46_0_86.toInt ≤ 4 := iv_lt_r t65 hv111_4 hw46_0_86 (by decide)
                            refine lv_aload_n hx hb dX13_findEven_120 rfl (lv_at hl 3 rfl) ?_
                            refine lv_iload_n hx hb dX13_findEven_121 rfl (lv_at hl 2 rfl) ?_
                            refine lv_aload_n hx hb dX13_findEven_122 rfl (lv_at hl 3 rfl) ?_
                            refine th_get (ci := 14) (C := RX13) (T := TX13) (N := 97) (v := .ref (ad 60)) hx hb hts hinX13 hown hK hP hI 0 (Nat.le_of_ble_eq_true rfl) rfl rfl 80 (Nat.le_of_ble_eq_true rfl) (hts _ (vA_in _ _ (in_27 _ (zs16 (zs4 (zs1 (zs1 (zs1 (zs0))))))))) (fun _ h9 => h9) (hI.fr 0 (Nat.le_of_ble_eq_true rfl) rfl (Nat.le_of_ble_eq_true rfl) 60 rfl) dX13_findEven_123 ?_
                            refine lv_iload hx hb dX13_findEven_126 (lv_at hl 0 rfl) ?_
                            have n69 : vp_in v111_4 4 := (iv_in (n := 4) i66 (by decide))
                            refine th_iald hx hb hK hP hI 60 (Nat.le_of_ble_eq_true rfl) rfl rfl n69 dX13_findEven_128 (fun y68 ey68 => ?_)
                            have iy68 : 0 ≤ y68.toInt ∧ y68.toInt ≤ 15 := hI.el 60 (Nat.le_of_ble_eq_true rfl) rfl n69 (fun _ => rfl) ey68
                            have ey68 := ey68.trans (congrFun hr111_60 _)
                            refine lv_aload_n hx hb dX13_findEven_129 rfl (lv_at hl 3 rfl) ?_
                            have i70 : 0 ≤ (xi (E 0) 1).toInt ∧ (xi (E 0) 1).toInt ≤ 400 := hI0.iv 0 (Nat.le_of_ble_eq_true rfl) rfl (Nat.le_of_ble_eq_true rfl) rfl
                            refine th_get (ci := 14) (C := RX13) (T := TX13) (N := 97) (v := .int (xi (E 0) 1)) hx hb hts hinX13 hown hK hP hI 0 (Nat.le_of_ble_eq_true rfl) rfl rfl 1 (Nat.le_of_ble_eq_true rfl) (hts _ (vA_in _ _ (in_24 _ (zs16 (zs4 (zs4 (zs1 (zs1 (zs1 (zs0)))))))))) (fun _ h9 => h9) (th_v0 hKp hI0 0 (Nat.le_of_ble_eq_true rfl) rfl (Nat.le_of_ble_eq_true rfl) rfl rfl) dX13_findEven_130 ?_
                            refine th_ri (va_runV (As := [.int v98_2, .int y68, .int (xi (E 0) 1)]) (rest := []) ⟨hx, hb, hml, hown, hts⟩ (q_codeOf l dC dI cT ad E111_ H.size v98_2 y68 (xi (E 0) 1) hI i42 iy68) (cwV 3 hts (gi_V (in_27 _ (zs16 (zs16 (zs4 (zs0))))) (in_27 _ (zs16 (zs16 (zs4 (zs1 (zs0)))))) (in_27 _ (zs16 (zs16 (zs4 (zs1 (zs1 (zs0))))))) (in_24 _ (zs4 (zs4 (zs4 (zs1 (zs1 (zs1 (zs0)))))))) (in_27 _ (zs16 (zs16 (zs4 (zs1 (zs1 (zs1 (zs0))))))))) rfl rfl rfl ⟨rfl, hz_yX13_codeOf_3⟩ ⟨Nat.le_of_ble_eq_true rfl, Nat.le_of_ble_eq_true rfl⟩) ⟨HW_bl, va_recv hK hP (ci := 14) (q0 := 0) rfl (hI.ob 0 (Nat.le_of_ble_eq_true rfl) rfl), (HW_wi hP hK (WX_D hD) hS hA hEV)⟩ rfl rfl hl.1 rfl (lv_room (Nat.le_of_ble_eq_true rfl)) dX13_findEven_133 ⟨Nat.le_of_ble_eq_true rfl, Nat.le_of_ble_eq_true rfl⟩) hS hP (fun r71 H locs hw hP hS => ?_)
                            obtain ⟨f72, f73⟩ := hw
                            have i74 : 0 ≤ (xi (E 0) 47).toInt ∧ (xi (E 0) 47).toInt ≤ 300 := (show 0 ≤ (xi (E 0) 47).toInt ∧ (xi (E 0) 47).toInt ≤ 300 from hI0.iv 0 (Nat.le_of_ble_eq_true rfl) rfl (Nat.le_of_ble_eq_true rfl) rfl)
                            try rw [hKp.ei 0 47 rfl] at f73
                            try rw [hKp.ef 24 (fun _ => rfl)] at f73
                            try rw [hKp.ef 25 (fun _ => rfl)] at f73
                            try rw [hKp.ef 28 (fun _ => rfl)] at f73
                            refine lv_if_ne (tgt := 143) hx hb dX13_findEven_136 (by decide) (fun c75 => ?_) (fun c75 => ?_)
                            · --136 taken
                              have t76 : ¬ r71.toInt = 0 := ti_ne c75
                              have i77 : 1 ≤ r71.toInt ∧ r71.toInt ≤ 5 := iv_ne_l t76 f72 (il_ 0)
                              refine lv_iconst (v := 0) hx hb dX13_findEven_143 (by decide) ?_
                              refine lv_istore (lv' := [(5, .int 0), (4, .int v111_4), (3, .int v111_3), (2, .int v98_2), (0, .ref (ad 0)), (1, .int a0)]) hx hb dX13_findEven_144 hl (by decide) rfl (fun ls hl => ?_)
                              refine lv_aload_n hx hb dX13_findEven_146 rfl (lv_at hl 4 rfl) ?_
                              refine th_get (ci := 14) (C := RX13) (T := TX13) (N := 97) (v := .ref (ad 62)) hx hb hts hinX13 hown hK hP hI 0 (Nat.le_of_ble_eq_true rfl) rfl rfl 82 (Nat.le_of_ble_eq_true rfl) (hts _ (vA_in _ _ (in_27 _ (zs16 (zs4 (zs4 (zs4 (zs1 (zs1 (zs0)))))))))) (fun _ h9 => h9) (hI.fr 0 (Nat.le_of_ble_eq_true rfl) rfl (Nat.le_of_ble_eq_true rfl) 62 rfl) dX13_findEven_147 ?_
                              refine lv_iconst (v := 4) hx hb dX13_findEven_150 (by decide) ?_
                              refine lv_aload_n hx hb dX13_findEven_151 rfl (lv_at hl 4 rfl) ?_
                              refine th_get (ci := 14) (C := RX13) (T := TX13) (N := 97) (v := .int w98_0_87) hx hb hts hinX13 hown hK hP hI 0 (Nat.le_of_ble_eq_true rfl) rfl rfl 87 (Nat.le_of_ble_eq_true rfl) (hts _ (vA_in _ _ (in_27 _ (zs16 (zs4 (zs4 (zs4 (zs1 (zs0))))))))) (fun _ h9 => h9) hs111_0_87 dX13_findEven_152 ?_
                              refine lv_imul hx hb dX13_findEven_155 ?_
                              refine lv_topi (fun y78 ey78 => ?_)
                              obtain ⟨ty78, iy78⟩ := ti_mul (e := 0) (f := 76) ln_4 i44 ey78 (by decide)
                              have ty78 : y78.toInt = 4 * w98_0_87.toInt := ty78
                              have iy78 : 0 ≤ y78.toInt ∧ y78.toInt ≤ 76 := iy78
                              refine lv_iload hx hb dX13_findEven_156 (lv_at hl 1 rfl) ?_
                              refine lv_iadd hx hb dX13_findEven_158 ?_
                              refine lv_topi (fun y79 ey79 => ?_)
                              obtain ⟨ty79, iy79⟩ := ti_add (e := 0) (f := 79) iy78 i66 ey79 (by decide)
                              have ty79 : y79.toInt = y78.toInt + v111_4.toInt := ty79
                              have iy79 : 0 ≤ y79.toInt ∧ y79.toInt ≤ 79 := iy79
                              refine lv_iload hx hb dX13_findEven_159 (lv_at hl 0 rfl) ?_
                              refine lv_if_eq (tgt := 183) hx hb dX13_findEven_161 (by decide) (fun c80 => ?_) (fun c80 => ?_)
                              · --161 taken
                                refine lv_iconst (v := 0) hx hb dX13_findEven_183 (by decide) ?_
                                have n81 : vp_in y79 80 := (iv_in (n := 80) iy79 (by decide))
                                refine th_iast hx hb hK hP (WX_D hD) hS hI 62 (Nat.le_of_ble_eq_true rfl) rfl rfl n81 (okI rfl (iv_w ln_0 (by decide))) dX13_findEven_184 (fun H locs E82 pw83 hI hP hS => ?_)
                                have hKp := hKp.pw pw83 rfl
                                refine lv_aload_n hx hb dX13_findEven_185 rfl (lv_at hl 4 rfl) ?_
                                refine th_get (ci := 14) (C := RX13) (T := TX13) (N := 97) (v := .ref (ad 63)) hx hb hts hinX13 hown hK hP hI 0 (Nat.le_of_ble_eq_true rfl) rfl rfl 83 (Nat.le_of_ble_eq_true rfl) (hts _ (vA_in _ _ (in_27 _ (zs16 (zs4 (zs4 (zs4 (zs1 (zs1 (zs1 (zs0))))))))))) (fun _ h9 => h9) (hI.fr 0 (Nat.le_of_ble_eq_true rfl) rfl (Nat.le_of_ble_eq_true rfl) 63 rfl) dX13_findEven_186 ?_
                                refine lv_iconst (v := 4) hx hb dX13_findEven_189 (by decide) ?_
                                refine lv_aload_n hx hb dX13_findEven_190 rfl (lv_at hl 4 rfl) ?_
                                refine th_get (ci := 14) (C := RX13) (T := TX13) (N := 97) (v := .int w98_0_87) hx hb hts hinX13 hown hK hP hI 0 (Nat.le_of_ble_eq_true rfl) rfl rfl 87 (Nat.le_of_ble_eq_true rfl) (hts _ (vA_in _ _ (in_27 _ (zs16 (zs4 (zs4 (zs4 (zs1 (zs0))))))))) (fun _ h9 => h9) ((pw83.2 0 87 (fun q9 => absurd q9.1 (Nat.ne_of_beq_eq_false rfl))).trans hs111_0_87) dX13_findEven_191 ?_
                                refine lv_imul hx hb dX13_findEven_194 ?_
                                refine lv_topi (fun y84 ey84 => ?_)
                                obtain ⟨ty84, iy84⟩ := ti_mul (e := 0) (f := 76) ln_4 i44 ey84 (by decide)
                                have ty84 : y84.toInt = 4 * w98_0_87.toInt := ty84
                                have iy84 : 0 ≤ y84.toInt ∧ y84.toInt ≤ 76 := iy84
                                refine lv_iload hx hb dX13_findEven_195 (lv_at hl 1 rfl) ?_
                                refine lv_iadd hx hb dX13_findEven_197 ?_
                                refine lv_topi (fun y85 ey85 => ?_)
                                obtain ⟨ty85, iy85⟩ := ti_add (e := 0) (f := 79) iy84 i66 ey85 (by decide)
                                have ty85 : y85.toInt = y84.toInt + v111_4.toInt := ty85
                                have iy85 : 0 ≤ y85.toInt ∧ y85.toInt ≤ 79 := iy85
                                refine lv_iload hx hb dX13_findEven_198 (lv_at hl 0 rfl) ?_
                                refine lv_if_eq (tgt := 227) hx hb dX13_findEven_200 (by decide) (fun c86 => ?_) (fun c86 => ?_)
                                · --200 taken
                                  refine lv_iconst (v := 0) hx hb dX13_findEven_227 (by decide) ?_
                                  have n87 : vp_in y85 80 := (iv_in (n := 80) iy85 (by decide))
                                  refine th_iast hx hb hK hP (WX_D hD) hS hI 63 (Nat.le_of_ble_eq_true rfl) rfl rfl n87 (okI rfl (iv_w ln_0 (by decide))) dX13_findEven_228 (fun H locs E88 pw89 hI hP hS => ?_)
                                  have hKp := hKp.pw pw89 rfl
                                  refine lv_iload_n hx hb dX13_findEven_229 rfl (lv_at hl 2 rfl) ?_
                                  refine lv_iload hx hb dX13_findEven_230 (lv_at hl 0 rfl) ?_
                                  refine lv_if_eq (tgt := 239) hx hb dX13_findEven_232 (by decide) (fun c90 => ?_) (fun c90 => ?_)
                                  · --232 taken
                                    refine lv_iconst (v := 0) hx hb dX13_findEven_239 (by decide) ?_
                                    refine lv_iadd hx hb dX13_findEven_240 ?_
                                    refine lv_topi (fun y91 ey91 => ?_)
                                    obtain ⟨ty91, iy91⟩ := ti_add (e := (-2147483648)) (f := 2147483647) (iv_all _) ln_0 ey91 (by decide)
                                    have ty91 : y91.toInt = v111_3.toInt + 0 := ty91
                                    have iy91 : -2147483648 ≤ y91.toInt ∧ y91.toInt ≤ 2147483647 := iy91
                                    refine lv_istore_n (lv' := [(3, .int y91), (5, .int 0), (4, .int v111_4), (2, .int v98_2), (0, .ref (ad 0)), (1, .int a0)]) hx hb dX13_findEven_241 rfl hl (by decide) rfl (fun ls hl => ?_)
                                    obtain ⟨y92, ey92⟩ : ∃ y : Int32, y = v111_4 + (1 : Int32) := ⟨_, rfl⟩
                                    obtain ⟨ty92, iy92⟩ := ti_add (e := 1) (f := 4) i66 ln_1 ey92 (by decide)
                                    have ty92 : y92.toInt = v111_4.toInt + 1 := ty92
                                    have iy92 : 1 ≤ y92.toInt ∧ y92.toInt ≤ 4 := iy92
                                    refine lv_iinc (v := y92) (lv' := [(4, .int y92), (3, .int y91), (5, .int 0), (2, .int v98_2), (0, .ref (ad 0)), (1, .int a0)]) hx hb dX13_findEven_242 hl (k := 2) rfl (by rw [ey92]; rfl) (by decide) rfl (fun ls hl => ?_)
                                    refine lv_goto (tgt := 111) hx hb dX13_findEven_245 (by decide) ?_
                                    exact ih111 y92 y91 E88 _ _ _ (iv_w iy92 (by decide)) (by first | exact ms_su hx111_0 ty92 (by decide) | omega) hI hKp ((pw89.2 0 87 (fun q9 => absurd q9.1 (Nat.ne_of_beq_eq_false rfl))).trans ((pw83.2 0 87 (fun q9 => absurd q9.1 (Nat.ne_of_beq_eq_false rfl))).trans hs111_0_87)) ((pw89.2 0 86 (fun q9 => absurd q9.1 (Nat.ne_of_beq_eq_false rfl))).trans ((pw83.2 0 86 (fun q9 => absurd q9.1 (Nat.ne_of_beq_eq_false rfl))).trans hs111_0_86)) ((pw89.2 0 0 (fun q9 => absurd q9.1 (Nat.ne_of_beq_eq_false rfl))).trans ((pw83.2 0 0 (fun q9 => absurd q9.1 (Nat.ne_of_beq_eq_false rfl))).trans hs111_0_0)) ((pw89.ef 60 (Nat.ne_of_beq_eq_false rfl)).trans ((pw83.ef 60 (Nat.ne_of_beq_eq_false rfl)).trans hr111_60)) hP hS (lv_sub hl [0, 1, 3, 4, 5] rfl)
                                  · --232 not
                                    exact absurd c90 (by decide)
                                · --200 not
                                  exact absurd c86 (by decide)
                              · --161 not
                                exact absurd c80 (by decide)
                            · --136 not
                              have t93 : r71.toInt = 0 := ti_eq c75
                              have i94 : 0 ≤ r71.toInt ∧ r71.toInt ≤ 0 := iv_eqi t93 f72 (il_ 0) (by decide)
                              refine lv_iconst (v := 1) hx hb dX13_findEven_139 (by decide) ?_
                              refine lv_goto (tgt := 144) hx hb dX13_findEven_140 (by decide) ?_
                              refine lv_istore (lv' := [(5, .int 1), (4, .int v111_4), (3, .int v111_3), (2, .int v98_2), (0, .ref (ad 0)), (1, .int a0)]) hx hb dX13_findEven_144 hl (by decide) rfl (fun ls hl => ?_)
                              refine lv_aload_n hx hb dX13_findEven_146 rfl (lv_at hl 4 rfl) ?_
                              refine th_get (ci := 14) (C := RX13) (T := TX13) (N := 97) (v := .ref (ad 62)) hx hb hts hinX13 hown hK hP hI 0 (Nat.le_of_ble_eq_true rfl) rfl rfl 82 (Nat.le_of_ble_eq_true rfl) (hts _ (vA_in _ _ (in_27 _ (zs16 (zs4 (zs4 (zs4 (zs1 (zs1 (zs0)))))))))) (fun _ h9 => h9) (hI.fr 0 (Nat.le_of_ble_eq_true rfl) rfl (Nat.le_of_ble_eq_true rfl) 62 rfl) dX13_findEven_147 ?_
                              refine lv_iconst (v := 4) hx hb dX13_findEven_150 (by decide) ?_
                              refine lv_aload_n hx hb dX13_findEven_151 rfl (lv_at hl 4 rfl) ?_
                              refine th_get (ci := 14) (C := RX13) (T := TX13) (N := 97) (v := .int w98_0_87) hx hb hts hinX13 hown hK hP hI 0 (Nat.le_of_ble_eq_true rfl) rfl rfl 87 (Nat.le_of_ble_eq_true rfl) (hts _ (vA_in _ _ (in_27 _ (zs16 (zs4 (zs4 (zs4 (zs1 (zs0))))))))) (fun _ h9 => h9) hs111_0_87 dX13_findEven_152 ?_
                              refine lv_imul hx hb dX13_findEven_155 ?_
                              refine lv_topi (fun y95 ey95 => ?_)
                              obtain ⟨ty95, iy95⟩ := ti_mul (e := 0) (f := 76) ln_4 i44 ey95 (by decide)
                              have ty95 : y95.toInt = 4 * w98_0_87.toInt := ty95
                              have iy95 : 0 ≤ y95.toInt ∧ y95.toInt ≤ 76 := iy95
                              refine lv_iload hx hb dX13_findEven_156 (lv_at hl 1 rfl) ?_
                              refine lv_iadd hx hb dX13_findEven_158 ?_
                              refine lv_topi (fun y96 ey96 => ?_)
                              obtain ⟨ty96, iy96⟩ := ti_add (e := 0) (f := 79) iy95 i66 ey96 (by decide)
                              have ty96 : y96.toInt = y95.toInt + v111_4.toInt := ty96
                              have iy96 : 0 ≤ y96.toInt ∧ y96.toInt ≤ 79 := iy96
                              refine lv_iload hx hb dX13_findEven_159 (lv_at hl 0 rfl) ?_
                              refine lv_if_eq (tgt := 183) hx hb dX13_findEven_161 (by decide) (fun c97 => ?_) (fun c97 => ?_)
                              · --161 taken
                                exact absurd c97 (by decide)
                              · --161 not
                                refine lv_aload_n hx hb dX13_findEven_164 rfl (lv_at hl 4 rfl) ?_
                                refine lv_iload_n hx hb dX13_findEven_165 rfl (lv_at hl 3 rfl) ?_
                                refine lv_aload_n hx hb dX13_findEven_166 rfl (lv_at hl 4 rfl) ?_
                                refine th_get (ci := 14) (C := RX13) (T := TX13) (N := 97) (v := .ref (ad 60)) hx hb hts hinX13 hown hK hP hI 0 (Nat.le_of_ble_eq_true rfl) rfl rfl 80 (Nat.le_of_ble_eq_true rfl) (hts _ (vA_in _ _ (in_27 _ (zs16 (zs4 (zs1 (zs1 (zs1 (zs0))))))))) (fun _ h9 => h9) (hI.fr 0 (Nat.le_of_ble_eq_true rfl) rfl (Nat.le_of_ble_eq_true rfl) 60 rfl) dX13_findEven_167 ?_
                                refine lv_iload hx hb dX13_findEven_170 (lv_at hl 1 rfl) ?_
                                have n99 : vp_in v111_4 4 := (iv_in (n := 4) i66 (by decide))
                                refine th_iald hx hb hK hP hI 60 (Nat.le_of_ble_eq_true rfl) rfl rfl n99 dX13_findEven_172 (fun y98 ey98 => ?_)
                                have iy98 : 0 ≤ y98.toInt ∧ y98.toInt ≤ 15 := hI.el 60 (Nat.le_of_ble_eq_true rfl) rfl n99 (fun _ => rfl) ey98
                                have ey98 := ey98.trans (congrFun hr111_60 _)
                                refine lv_aload_n hx hb dX13_findEven_173 rfl (lv_at hl 4 rfl) ?_
                                refine th_get (ci := 14) (C := RX13) (T := TX13) (N := 97) (v := .int (xi (E 0) 1)) hx hb hts hinX13 hown hK hP hI 0 (Nat.le_of_ble_eq_true rfl) rfl rfl 1 (Nat.le_of_ble_eq_true rfl) (hts _ (vA_in _ _ (in_24 _ (zs16 (zs4 (zs4 (zs1 (zs1 (zs1 (zs0)))))))))) (fun _ h9 => h9) (th_v0 hKp hI0 0 (Nat.le_of_ble_eq_true rfl) rfl (Nat.le_of_ble_eq_true rfl) rfl rfl) dX13_findEven_174 ?_
                                refine th_ri (va_runV (As := [.int v98_2, .int y98, .int (xi (E 0) 1)]) (rest := [.int y96, .ref (ad 62)]) ⟨hx, hb, hml, hown, hts⟩ (q_secondsOf l dC dI cT ad E111_ H.size v98_2 y98 (xi (E 0) 1) hI (by (try rw [hKp.ei 0 47 rfl]); (try rw [hKp.ef 24 (fun _ => rfl)]); (try rw [hKp.ef 25 (fun _ => rfl)]); (try rw [hKp.ef 28 (fun _ => rfl)]); rw [show y98 = y68 from ey98.trans ey68.symm]; exact f73 t93)) (cwV 3 hts (gi_V (in_28 _ (zs16 (zs1 (zs0)))) (in_28 _ (zs16 (zs1 (zs1 (zs0))))) (in_28 _ (zs16 (zs1 (zs1 (zs1 (zs0)))))) (in_24 _ (zs4 (zs4 (zs4 (zs1 (zs1 (zs1 (zs0)))))))) (in_28 _ (zs16 (zs4 (zs0))))) rfl rfl rfl ⟨rfl, hz_yX13_secondsOf_3⟩ ⟨Nat.le_of_ble_eq_true rfl, Nat.le_of_ble_eq_true rfl⟩) ⟨HW_bl, va_recv hK hP (ci := 14) (q0 := 0) rfl (hI.ob 0 (Nat.le_of_ble_eq_true rfl) rfl), (HW_wi hP hK (WX_D hD) hS hA hEV)⟩ rfl rfl hl.1 rfl (lv_room (Nat.le_of_ble_eq_true rfl)) dX13_findEven_177 ⟨Nat.le_of_ble_eq_true rfl, Nat.le_of_ble_eq_true rfl⟩) hS hP (fun r100 H locs hw hP hS => ?_)
                                have f101 := hw
                                refine lv_goto (tgt := 184) hx hb dX13_findEven_180 (by decide) ?_
                                have n102 : vp_in y96 80 := (iv_in (n := 80) iy96 (by decide))
                                refine th_iast hx hb hK hP (WX_D hD) hS hI 62 (Nat.le_of_ble_eq_true rfl) rfl rfl n102 (okI rfl f101) dX13_findEven_184 (fun H locs E103 pw104 hI hP hS => ?_)
                                have hKp := hKp.pw pw104 rfl
                                refine lv_aload_n hx hb dX13_findEven_185 rfl (lv_at hl 4 rfl) ?_
                                refine th_get (ci := 14) (C := RX13) (T := TX13) (N := 97) (v := .ref (ad 63)) hx hb hts hinX13 hown hK hP hI 0 (Nat.le_of_ble_eq_true rfl) rfl rfl 83 (Nat.le_of_ble_eq_true rfl) (hts _ (vA_in _ _ (in_27 _ (zs16 (zs4 (zs4 (zs4 (zs1 (zs1 (zs1 (zs0))))))))))) (fun _ h9 => h9) (hI.fr 0 (Nat.le_of_ble_eq_true rfl) rfl (Nat.le_of_ble_eq_true rfl) 63 rfl) dX13_findEven_186 ?_
                                refine lv_iconst (v := 4) hx hb dX13_findEven_189 (by decide) ?_
                                refine lv_aload_n hx hb dX13_findEven_190 rfl (lv_at hl 4 rfl) ?_
                                refine th_get (ci := 14) (C := RX13) (T := TX13) (N := 97) (v := .int w98_0_87) hx hb hts hinX13 hown hK hP hI 0 (Nat.le_of_ble_eq_true rfl) rfl rfl 87 (Nat.le_of_ble_eq_true rfl) (hts _ (vA_in _ _ (in_27 _ (zs16 (zs4 (zs4 (zs4 (zs1 (zs0))))))))) (fun _ h9 => h9) ((pw104.2 0 87 (fun q9 => absurd q9.1 (Nat.ne_of_beq_eq_false rfl))).trans hs111_0_87) dX13_findEven_191 ?_
                                refine lv_imul hx hb dX13_findEven_194 ?_
                                refine lv_topi (fun y105 ey105 => ?_)
                                obtain ⟨ty105, iy105⟩ := ti_mul (e := 0) (f := 76) ln_4 i44 ey105 (by decide)
                                have ty105 : y105.toInt = 4 * w98_0_87.toInt := ty105
                                have iy105 : 0 ≤ y105.toInt ∧ y105.toInt ≤ 76 := iy105
                                refine lv_iload hx hb dX13_findEven_195 (lv_at hl 1 rfl) ?_
                                refine lv_iadd hx hb dX13_findEven_197 ?_
                                refine lv_topi (fun y106 ey106 => ?_)
                                obtain ⟨ty106, iy106⟩ := ti_add (e := 0) (f := 79) iy105 i66 ey106 (by decide)
                                have ty106 : y106.toInt = y105.toInt + v111_4.toInt := ty106
                                have iy106 : 0 ≤ y106.toInt ∧ y106.toInt ≤ 79 := iy106
                                refine lv_iload hx hb dX13_findEven_198 (lv_at hl 0 rfl) ?_
                                refine lv_if_eq (tgt := 227) hx hb dX13_findEven_200 (by decide) (fun c107 => ?_) (fun c107 => ?_)
                                · --200 taken
                                  exact absurd c107 (by decide)
                                · --200 not
                                  refine lv_aload_n hx hb dX13_findEven_203 rfl (lv_at hl 4 rfl) ?_
                                  refine lv_aload_n hx hb dX13_findEven_204 rfl (lv_at hl 4 rfl) ?_
                                  refine th_get (ci := 14) (C := RX13) (T := TX13) (N := 97) (v := .ref (ad 60)) hx hb hts hinX13 hown hK hP hI 0 (Nat.le_of_ble_eq_true rfl) rfl rfl 80 (Nat.le_of_ble_eq_true rfl) (hts _ (vA_in _ _ (in_27 _ (zs16 (zs4 (zs1 (zs1 (zs1 (zs0))))))))) (fun _ h9 => h9) (hI.fr 0 (Nat.le_of_ble_eq_true rfl) rfl (Nat.le_of_ble_eq_true rfl) 60 rfl) dX13_findEven_205 ?_
                                  refine lv_iload hx hb dX13_findEven_208 (lv_at hl 1 rfl) ?_
                                  have n109 : vp_in v111_4 4 := (iv_in (n := 4) i66 (by decide))
                                  refine th_iald hx hb hK hP hI 60 (Nat.le_of_ble_eq_true rfl) rfl rfl n109 dX13_findEven_210 (fun y108 ey108 => ?_)
                                  have iy108 : 0 ≤ y108.toInt ∧ y108.toInt ≤ 15 := hI.el 60 (Nat.le_of_ble_eq_true rfl) rfl n109 (fun _ => rfl) ey108
                                  have ey108 := ey108.trans (congrFun ((pw104.ef 60 (Nat.ne_of_beq_eq_false rfl)).trans hr111_60) _)
                                  refine lv_aload_n hx hb dX13_findEven_211 rfl (lv_at hl 4 rfl) ?_
                                  refine th_get (ci := 14) (C := RX13) (T := TX13) (N := 97) (v := .ref (ad 13)) hx hb hts hinX13 hown hK hP hI 0 (Nat.le_of_ble_eq_true rfl) rfl rfl 27 (Nat.le_of_ble_eq_true rfl) (hts _ (vA_in _ _ (in_27 _ (zs16 (zs16 (zs0)))))) (fun _ h9 => h9) (hI.fr 0 (Nat.le_of_ble_eq_true rfl) rfl (Nat.le_of_ble_eq_true rfl) 13 rfl) dX13_findEven_212 ?_
                                  refine lv_iload_n hx hb dX13_findEven_215 rfl (lv_at hl 3 rfl) ?_
                                  have n111 : vp_in v98_2 20 := (iv_in (n := 20) i42 (by decide))
                                  refine th_iald hx hb hK hP hI 13 (Nat.le_of_ble_eq_true rfl) rfl rfl n111 dX13_findEven_216 (fun y110 ey110 => ?_)
                                  have iy110 : 0 ≤ y110.toInt ∧ y110.toInt ≤ 400 := hI.el 13 (Nat.le_of_ble_eq_true rfl) rfl n111 (fun _ => rfl) ey110
                                  have ey110 := ey110.trans (hKp.ei 13 _ rfl)
                                  refine lv_aload_n hx hb dX13_findEven_217 rfl (lv_at hl 4 rfl) ?_
                                  refine th_get (ci := 14) (C := RX13) (T := TX13) (N := 97) (v := .int (xi (E 0) 1)) hx hb hts hinX13 hown hK hP hI 0 (Nat.le_of_ble_eq_true rfl) rfl rfl 1 (Nat.le_of_ble_eq_true rfl) (hts _ (vA_in _ _ (in_24 _ (zs16 (zs4 (zs4 (zs1 (zs1 (zs1 (zs0)))))))))) (fun _ h9 => h9) (th_v0 hKp hI0 0 (Nat.le_of_ble_eq_true rfl) rfl (Nat.le_of_ble_eq_true rfl) rfl rfl) dX13_findEven_218 ?_
                                  refine th_i (va_runV (As := [.int y108, .int y110, .int (xi (E 0) 1)]) (rest := [.int y106, .ref (ad 63)]) ⟨hx, hb, hml, hown, hts⟩ (q_numberOf l dC dI cT ad E103 H.size y108 y110 (xi (E 0) 1) hI) (cwV 3 hts (gi_V (in_28 _ (zs16 (zs4 (zs1 (zs1 (zs0)))))) (in_28 _ (zs16 (zs4 (zs1 (zs1 (zs1 (zs0))))))) (in_28 _ (zs16 (zs4 (zs4 (zs0))))) (in_24 _ (zs4 (zs4 (zs4 (zs1 (zs1 (zs1 (zs0)))))))) (in_28 _ (zs16 (zs4 (zs4 (zs1 (zs0))))))) rfl rfl rfl ⟨rfl, hz_yX13_numberOf_3⟩ ⟨Nat.le_of_ble_eq_true rfl, Nat.le_of_ble_eq_true rfl⟩) ⟨HW_bl, va_recv hK hP (ci := 14) (q0 := 0) rfl (hI.ob 0 (Nat.le_of_ble_eq_true rfl) rfl), (HW_wi hP hK (WX_D hD) hS hA hEV)⟩ rfl rfl hl.1 rfl (lv_room (Nat.le_of_ble_eq_true rfl)) dX13_findEven_221 ⟨Nat.le_of_ble_eq_true rfl, Nat.le_of_ble_eq_true rfl⟩) (WX_D hD) hS hA (fun r112 E113 H locs hw hP hS => ?_)
                                  obtain ⟨hI, kq114, hw⟩ := hw
                                  have hKb := hKp
                                  have hKp := hKp.tr kq114 (wl_sub rfl rfl)
                                  have f115 := hw
                                  refine lv_goto (tgt := 228) hx hb dX13_findEven_224 (by decide) ?_
                                  have n116 : vp_in y106 80 := (iv_in (n := 80) iy106 (by decide))
                                  refine th_iast hx hb hK hP (WX_D hD) hS hI 63 (Nat.le_of_ble_eq_true rfl) rfl rfl n116 (okI rfl (iv_w f115 (by decide))) dX13_findEven_228 (fun H locs E117 pw118 hI hP hS => ?_)
                                  have hKp := hKp.pw pw118 rfl
                                  refine lv_iload_n hx hb dX13_findEven_229 rfl (lv_at hl 2 rfl) ?_
                                  refine lv_iload hx hb dX13_findEven_230 (lv_at hl 0 rfl) ?_
                                  refine lv_if_eq (tgt := 239) hx hb dX13_findEven_232 (by decide) (fun c119 => ?_) (fun c119 => ?_)
                                  · --232 taken
                                    exact absurd c119 (by decide)
                                  · --232 not
                                    refine lv_iconst (v := 1) hx hb dX13_findEven_235 (by decide) ?_
                                    refine lv_goto (tgt := 240) hx hb dX13_findEven_236 (by decide) ?_
                                    refine lv_iadd hx hb dX13_findEven_240 ?_
                                    refine lv_topi (fun y120 ey120 => ?_)
                                    refine lv_istore_n (lv' := [(3, .int y120), (5, .int 1), (4, .int v111_4), (2, .int v98_2), (0, .ref (ad 0)), (1, .int a0)]) hx hb dX13_findEven_241 rfl hl (by decide) rfl (fun ls hl => ?_)
                                    obtain ⟨y121, ey121⟩ : ∃ y : Int32, y = v111_4 + (1 : Int32) := ⟨_, rfl⟩
                                    obtain ⟨ty121, iy121⟩ := ti_add (e := 1) (f := 4) i66 ln_1 ey121 (by decide)
                                    have ty121 : y121.toInt = v111_4.toInt + 1 := ty121
                                    have iy121 : 1 ≤ y121.toInt ∧ y121.toInt ≤ 4 := iy121
                                    refine lv_iinc (v := y121) (lv' := [(4, .int y121), (3, .int y120), (5, .int 1), (2, .int v98_2), (0, .ref (ad 0)), (1, .int a0)]) hx hb dX13_findEven_242 hl (k := 2) rfl (by rw [ey121]; rfl) (by decide) rfl (fun ls hl => ?_)
                                    refine lv_goto (tgt := 111) hx hb dX13_findEven_245 (by decide) ?_
                                    exact ih111 y121 y120 E117 _ _ _ (iv_w iy121 (by decide)) (by first | exact ms_su hx111_0 ty121 (by decide) | omega) hI hKp ((pw118.2 0 87 (fun q9 => absurd q9.1 (Nat.ne_of_beq_eq_false rfl))).trans ((kq114 0 87 rfl).trans ((pw104.2 0 87 (fun q9 => absurd q9.1 (Nat.ne_of_beq_eq_false rfl))).trans hs111_0_87))) ((pw118.2 0 86 (fun q9 => absurd q9.1 (Nat.ne_of_beq_eq_false rfl))).trans ((kq114 0 86 rfl).trans ((pw104.2 0 86 (fun q9 => absurd q9.1 (Nat.ne_of_beq_eq_false rfl))).trans hs111_0_86))) ((pw118.2 0 0 (fun q9 => absurd q9.1 (Nat.ne_of_beq_eq_false rfl))).trans ((kq114 0 0 rfl).trans ((pw104.2 0 0 (fun q9 => absurd q9.1 (Nat.ne_of_beq_eq_false rfl))).trans hs111_0_0))) ((pw118.ef 60 (Nat.ne_of_beq_eq_false rfl)).trans ((kq114.ef 60 (fun _ => rfl)).trans ((pw104.ef 60 (Nat.ne_of_beq_eq_false rfl)).trans hr111_60))) hP hS (lv_sub hl [0, 1, 3, 4, 5] rfl)
                      exact hL111 (5) (0 : Int32) (0 : Int32) E98_ _ _ _ (iv_w ln_0 (by decide)) (by have h9 := ln_0; first | exact ms_bu h9.1 (by decide) | omega) hI hKp hs98_0_87 hs98_0_86 hs98_0_0 hr98_60 hP hS (lv_sub hl [0, 1, 2, 3, 4] rfl)
                exact hL98 (21) (0 : Int32) (0 : Int32) E31 _ _ _ (iv_w ln_0 (by decide)) (iv_w ln_0 (by decide)) (by have h9 := ln_0; have h8 := ln_0; omega) (by have h9 := ln_0; first | exact ms_bu h9.1 (by decide) | omega) hI hKp pw32.1 ((pw32.2 0 86 (fun q9 => absurd q9.2 (Nat.ne_of_beq_eq_false rfl))).trans hs46_0_86) ((pw32.2 0 0 (fun q9 => absurd q9.2 (Nat.ne_of_beq_eq_false rfl))).trans hs46_0_0) ((pw32.ef 60 (Nat.ne_of_beq_eq_false rfl)).trans hr46_60) hP hS (lv_sub hl [0, 1, 2] rfl)
              · --51 not
                have t122 : v46_2.toInt < (xi (E 0) 8).toInt := ti_nle c29
                have i123 : 0 ≤ v46_2.toInt ∧ v46_2.toInt ≤ 15 := iv_lt_l t122 hv46_2 i3 (by decide)
                have i124 : 1 ≤ (xi (E 0) 8).toInt ∧ (xi (E 0) 8).toInt ≤ 16 := iv_lt_r t122 hv46_2 i3 (by decide)
                refine lv_iload_n hx hb dX13_findEven_54 rfl (lv_at hl 2 rfl) ?_
                refine lv_iload_n hx hb dX13_findEven_55 rfl (lv_at hl 0 rfl) ?_
                refine lv_ishr hx hb dX13_findEven_56 ?_
                refine lv_topi (fun y125 ey125 => ?_)
                refine lv_iconst (v := 1) hx hb dX13_findEven_57 (by decide) ?_
                refine lv_iand hx hb dX13_findEven_58 ?_
                refine lv_topi (fun y126 ey126 => ?_)
                have iy126 : 0 ≤ y126.toInt ∧ y126.toInt ≤ 1 := ti_and (by decide) ey126
                refine lv_if_ne (tgt := 65) hx hb dX13_findEven_59 (by decide) (fun c127 => ?_) (fun c127 => ?_)
                · --59 taken
                  have t128 : ¬ y126.toInt = 0 := ti_ne c127
                  have i129 : 1 ≤ y126.toInt ∧ y126.toInt ≤ 1 := iv_ne_l t128 iy126 (il_ 0)
                  have qb := bit_at (a := a0) (v := v46_2) (by omega) (by omega) ey125 ey126
                  have ql : a0.toNatClampNeg / 2 ^ v46_2.toNatClampNeg % 2 < 2 := Nat.mod_lt _ (by decide)
                  have qs : pcS a0.toNatClampNeg (v46_2.toNatClampNeg + 1) = pcS a0.toNatClampNeg v46_2.toNatClampNeg + a0.toNatClampNeg / 2 ^ v46_2.toNatClampNeg % 2 := rfl
                  have q0 : ¬ a0.toNatClampNeg / 2 ^ v46_2.toNatClampNeg % 2 = 0 := fun h9 => c127 (by rw [qb]; exact (nI01 ql).mpr h9)
                  have qm := pcS_mono a0.toNatClampNeg (show v46_2.toNatClampNeg + 1 ≤ 16 by rw [tn_]; omega)
                  refine lv_aload_n hx hb dX13_findEven_65 rfl (lv_at hl 1 rfl) ?_
                  refine th_get (ci := 14) (C := RX13) (T := TX13) (N := 97) (v := .ref (ad 60)) hx hb hts hinX13 hown hK hP hI 0 (Nat.le_of_ble_eq_true rfl) rfl rfl 80 (Nat.le_of_ble_eq_true rfl) (hts _ (vA_in _ _ (in_27 _ (zs16 (zs4 (zs1 (zs1 (zs1 (zs0))))))))) (fun _ h9 => h9) (hI.fr 0 (Nat.le_of_ble_eq_true rfl) rfl (Nat.le_of_ble_eq_true rfl) 60 rfl) dX13_findEven_66 ?_
                  refine lv_aload_n hx hb dX13_findEven_69 rfl (lv_at hl 1 rfl) ?_
                  refine th_get (ci := 14) (C := RX13) (T := TX13) (N := 97) (v := .int w46_0_86) hx hb hts hinX13 hown hK hP hI 0 (Nat.le_of_ble_eq_true rfl) rfl rfl 86 (Nat.le_of_ble_eq_true rfl) (hts _ (vA_in _ _ (in_27 _ (zs16 (zs4 (zs1 (zs1 (zs0)))))))) (fun _ h9 => h9) hs46_0_86 dX13_findEven_70 ?_
                  refine lv_iload_n hx hb dX13_findEven_73 rfl (lv_at hl 0 rfl) ?_
                  have i130 : 0 ≤ w46_0_86.toInt ∧ w46_0_86.toInt ≤ 3 := by omega
                  have n131 : vp_in w46_0_86 4 := (iv_in (n := 4) i130 (by decide))
                  refine th_iast hx hb hK hP (WX_D hD) hS hI 60 (Nat.le_of_ble_eq_true rfl) rfl rfl n131 (okI rfl i123) dX13_findEven_74 (fun H locs E132 pw133 hI hP hS => ?_)
                  have hKp := hKp.pw pw133 rfl
                  obtain ⟨g134, eg134⟩ : ∃ z : Nat → Int32, z = upd g46_60 w46_0_86.toNatClampNeg v46_2 := ⟨_, rfl⟩
                  have hg134 : xi (E132 60) = g134 := by rw [pw133.eu, hr46_60, eg134]
                  refine lv_aload_n hx hb dX13_findEven_75 rfl (lv_at hl 1 rfl) ?_
                  refine lv_dup hx hb dX13_findEven_76 rfl ?_
                  refine th_get (ci := 14) (C := RX13) (T := TX13) (N := 97) (v := .int w46_0_86) hx hb hts hinX13 hown hK hP hI 0 (Nat.le_of_ble_eq_true rfl) rfl rfl 86 (Nat.le_of_ble_eq_true rfl) (hts _ (vA_in _ _ (in_27 _ (zs16 (zs4 (zs1 (zs1 (zs0)))))))) (fun _ h9 => h9) ((pw133.2 0 86 (fun q9 => absurd q9.1 (Nat.ne_of_beq_eq_false rfl))).trans hs46_0_86) dX13_findEven_77 ?_
                  refine lv_iconst (v := 1) hx hb dX13_findEven_80 (by decide) ?_
                  refine lv_iadd hx hb dX13_findEven_81 ?_
                  refine lv_topi (fun y135 ey135 => ?_)
                  obtain ⟨ty135, iy135⟩ := ti_add (e := 1) (f := 4) i130 ln_1 ey135 (by decide)
                  have ty135 : y135.toInt = w46_0_86.toInt + 1 := ty135
                  have iy135 : 1 ≤ y135.toInt ∧ y135.toInt ≤ 4 := iy135
                  refine th_put (ci := 14) (C := RX13) (T := TX13) (N := 97) (v := .int y135) (ty := .int) hx hb hts hinX13 tyX13 tyX13_ok nmX13 hown hK hP (WX_D hD) hS hI 0 (Nat.le_of_ble_eq_true rfl) rfl rfl 86 (Nat.le_of_ble_eq_true rfl) (hts _ (vA_in _ _ (in_27 _ (zs16 (zs4 (zs1 (zs1 (zs0)))))))) (fun _ h9 => h9) rfl (by decide +kernel) rfl rfl (okI rfl (iv_w iy135 (by decide))) dX13_findEven_82 (fun H locs E136 pw137 hI hP hS => ?_)
                  have hKp := hKp.pw pw137 rfl
                  obtain ⟨y138, ey138⟩ : ∃ y : Int32, y = v46_2 + (1 : Int32) := ⟨_, rfl⟩
                  obtain ⟨ty138, iy138⟩ := ti_add (e := 1) (f := 16) i123 ln_1 ey138 (by decide)
                  have ty138 : y138.toInt = v46_2.toInt + 1 := ty138
                  have iy138 : 1 ≤ y138.toInt ∧ y138.toInt ≤ 16 := iy138
                  refine lv_iinc (v := y138) (lv' := [(2, .int y138), (0, .ref (ad 0)), (1, .int a0)]) hx hb dX13_findEven_85 hl (k := 0) rfl (by rw [ey138]; rfl) (by decide) rfl (fun ls hl => ?_)
                  refine lv_goto (tgt := 46) hx hb dX13_findEven_88 (by decide) ?_
                  exact ih46 y135 g134 y138 E136 _ _ _ (iv_w iy135 (by decide)) (iv_w iy138 (by decide)) (by rw [tn_s ty138 hv46_2 (by decide)]; omega) (by first | exact ms_su hx46_1 ty138 (by decide) | omega) hI hKp pw137.1 ((pw137.2 0 0 (fun q9 => absurd q9.2 (Nat.ne_of_beq_eq_false rfl))).trans ((pw133.2 0 0 (fun q9 => absurd q9.1 (Nat.ne_of_beq_eq_false rfl))).trans hs46_0_0)) ((pw137.ef 60 (Nat.ne_of_beq_eq_false rfl)).trans hg134) hP hS (lv_sub hl [0, 1, 2] rfl)
                · --59 not
                  have t139 : y126.toInt = 0 := ti_eq c127
                  have i140 : 0 ≤ y126.toInt ∧ y126.toInt ≤ 0 := iv_eqi t139 iy126 (il_ 0) (by decide)
                  have qb := bit_at (a := a0) (v := v46_2) (by omega) (by omega) ey125 ey126
                  have ql : a0.toNatClampNeg / 2 ^ v46_2.toNatClampNeg % 2 < 2 := Nat.mod_lt _ (by decide)
                  have qs : pcS a0.toNatClampNeg (v46_2.toNatClampNeg + 1) = pcS a0.toNatClampNeg v46_2.toNatClampNeg + a0.toNatClampNeg / 2 ^ v46_2.toNatClampNeg % 2 := rfl
                  have q0 : a0.toNatClampNeg / 2 ^ v46_2.toNatClampNeg % 2 = 0 := (nI01 ql).mp (by rw [← qb]; exact c127)
                  refine lv_goto (tgt := 85) hx hb dX13_findEven_62 (by decide) ?_
                  obtain ⟨y141, ey141⟩ : ∃ y : Int32, y = v46_2 + (1 : Int32) := ⟨_, rfl⟩
                  obtain ⟨ty141, iy141⟩ := ti_add (e := 1) (f := 16) i123 ln_1 ey141 (by decide)
                  have ty141 : y141.toInt = v46_2.toInt + 1 := ty141
                  have iy141 : 1 ≤ y141.toInt ∧ y141.toInt ≤ 16 := iy141
                  refine lv_iinc (v := y141) (lv' := [(2, .int y141), (0, .ref (ad 0)), (1, .int a0)]) hx hb dX13_findEven_85 hl (k := 0) rfl (by rw [ey141]; rfl) (by decide) rfl (fun ls hl => ?_)
                  refine lv_goto (tgt := 46) hx hb dX13_findEven_88 (by decide) ?_
                  exact ih46 w46_0_86 g46_60 y141 E46_ _ _ _ hw46_0_86 (iv_w iy141 (by decide)) (by rw [tn_s ty141 hv46_2 (by decide)]; omega) (by first | exact ms_su hx46_1 ty141 (by decide) | omega) hI hKp hs46_0_86 hs46_0_0 hr46_60 hP hS (lv_sub hl [0, 1, 2] rfl)
          exact hL46 (17) (0 : Int32) g28 (0 : Int32) E26 _ _ _ (iv_w ln_0 (by decide)) (iv_w ln_0 (by decide)) rfl (by have h9 := ln_0; first | exact ms_bu h9.1 (by decide) | omega) hI hKp pw27.1 ((pw27.2 0 0 (fun q9 => absurd q9.2 (Nat.ne_of_beq_eq_false rfl))).trans pw2.1) hg28 hP hS (lv_sub hl [0, 1, 2] rfl)
        · --34 not
          have t142 : (4 : Int) < r21.toInt := ti_nle c23
          have i143 : 5 ≤ r21.toInt ∧ r21.toInt ≤ 2147483647 := iv_lt_r t142 (il_ 4) (iv_all _) (by decide)
          refine lv_iconst (v := 0) hx hb dX13_findEven_37 (by decide) ?_
          rw [hQ]
          exact W.zret (v := 0) hx hb hr rfl (fun t ht hW => ⟨⟨0, E1, rfl, ⟨hI, hKp, Or.inr (rfl)⟩, by show va_P (dC, dI) vwCl (WX 72 ad E1) t.heap; rw [ht]; exact hP⟩, hS.F ht⟩) hS.2.2 dX13_findEven_38
  · -- isIn, case 1
    obtain ⟨rfl, f144⟩ := hw
    have t145 : ¬ ((1 : Int) ≤ a0.toInt ∧ a0.toInt ≤ y5.toInt) := f144
    refine lv_if_eq (tgt := 37) hx hb dX13_findEven_18 (by decide) (fun c146 => ?_) (fun c146 => ?_)
    · --18 taken
      refine lv_iconst (v := 0) hx hb dX13_findEven_37 (by decide) ?_
      rw [hQ]
      exact W.zret (v := 0) hx hb hr rfl (fun t ht hW => ⟨⟨0, E1, rfl, ⟨hI, hKp, Or.inr (rfl)⟩, by show va_P (dC, dI) vwCl (WX 72 ad E1) t.heap; rw [ht]; exact hP⟩, hS.F ht⟩) hS.2.2 dX13_findEven_38
    · --18 not
      exact absurd c146 (by decide)
def v_even : List Cond := .code yX13_even cX13_even 2 (some .int) :: vA
abbrev rm_even : Room := { frames := 73, cells := 0, slots := 0, locals := 2920 }
def w_even : Nat → Nat → Bool := wl [12, 60, 62, 63, 64, 65] [(0, 0), (0, 18), (0, 19), (0, 20), (0, 21), (0, 22), (0, 23), (0, 24), (0, 25), (0, 26), (0, 86), (0, 87), (0, 88), (0, 89)]
set_option maxHeartbeats 4000000 in
set_option maxRecDepth 100000 in
theorem q_even (l : Launch) (dC : Nat → ClassId) (dI : Nat → Nat → Nat) (cT : Nat → ClassId) (ad : Nat → Nat) (E : Nat → va_E) (sz : Nat) (a0 : Int32) (hI0 : IX cT shM spM 72 ad E)  : Met l yX13_even v_even rm_even (va_Pc [.ref (ad 0), .int a0] (HW dC dI (TYM cT) 72 ad E sz)) (va_Qi (S := Nat → va_E) (fun r u => IX cT shM spM 72 ad u ∧ Kp w_even E u ∧ (True)) (HB dC dI 72 ad) (va_A (WX 72 ad E) sz)) 0 0 (va_A (WX 72 ad E) sz) := by
  refine Met.ofW (cc := cX13_even) (maxL := 2) (ret := (some .int)) (by decide) rfl ?_
  intro p e s m args below meth c s₁ B hml hv
  obtain ⟨hargs, hsz, hP, hK, hD0, hEV⟩ := hv
  subst hsz
  have hx := B.exec
  have hb := B.bytes
  have hr := B.returns
  have hts := atoms_spec (ws := v_even) B.pre
  have hown : s.vm.findClass RX13 = some m.cls := findClass_of_methodNamed B.named
  have hlocks := B.notSynchronized
  have hinX13 : ∀ w ∈ u_ws RX13 TX13 97, w ∈ v_even := fun w h => vA_in _ w (in_X13 w h)
  generalize hAe : va_A (WX 72 ad E) s.heap.size = A at hEV ⊢
  have hA : ∀ q : Nat, s.heap.size ≤ q → A q := fun q h => by rw [← hAe]; exact Or.inr h
  have hD : va_D A (WX 72 ad E) := by rw [← hAe]; exact hD0.self
  have hS : va_S A s.heap s.heap [] := va_S.rf
  have hI := hI0
  have hKp : Kp w_even E E := Kp.rf
  have hl := lv_entry ([.ref (ad 0), .int a0]) (n := 2) (Nat.le_of_ble_eq_true rfl)
  obtain ⟨Q, hQ⟩ : ∃ Q, Q = MQ below (va_Qi (S := Nat → va_E) (fun r u => IX cT shM spM 72 ad u ∧ Kp w_even E u ∧ (True)) (HB dC dI 72 ad) (A)) args s 0 0 (A) := ⟨_, rfl⟩
  rw [← hQ, show entryFrame m args 2 = _ from (congrArg (fun z => entryFrame m z 2) hargs).trans (lg_entry_eq _ _ _)]
  generalize (lg_sl ([.ref (ad 0), .int a0]) ++ List.replicate (2 - (lg_sl ([.ref (ad 0), .int a0])).length) Slot.unset).toArray = ls at hl ⊢
  have hl : lv_has ls 2 [(0, .ref (ad 0)), (1, .int a0)] := hl
  refine lv_aload_n hx hb dX13_even_0 rfl (lv_at hl 0 rfl) ?_
  refine lv_iload_n hx hb dX13_even_1 rfl (lv_at hl 1 rfl) ?_
  refine th_i (va_runV (As := [.int a0]) (rest := []) ⟨hx, hb, hml, hown, hts⟩ (q_findEven l dC dI cT ad E s.heap.size a0 hI) (cwV 1 hts (gi_V (in_27 _ (zs16 (zs4 (zs4 (zs1 (zs0)))))) (in_27 _ (zs16 (zs4 (zs4 (zs1 (zs1 (zs0))))))) (in_27 _ (zs16 (zs4 (zs4 (zs1 (zs1 (zs1 (zs0)))))))) (in_24 _ (zs4 (zs4 (zs4 (zs1 (zs1 (zs1 (zs0)))))))) (in_27 _ (zs16 (zs4 (zs4 (zs4 (zs0))))))) rfl rfl rfl ⟨rfl, hz_yX13_findEven_1⟩ ⟨Nat.le_of_ble_eq_true rfl, Nat.le_of_ble_eq_true rfl⟩) ⟨HW_bl, va_recv hK hP (ci := 14) (q0 := 0) rfl (hI.ob 0 (Nat.le_of_ble_eq_true rfl) rfl), (HW_wi hP hK (WX_D hD) hS hA hEV)⟩ rfl rfl hl.1 rfl (lv_room (Nat.le_of_ble_eq_true rfl)) dX13_even_2 ⟨Nat.le_of_ble_eq_true rfl, Nat.le_of_ble_eq_true rfl⟩) (WX_D hD) hS hA (fun r1 E2 H locs hw hP hS => ?_)
  obtain ⟨hI, kq3, hw⟩ := hw
  have hKb := hKp
  have hKp := hKp.tr kq3 (wl_sub rfl rfl)
  rcases hw with hw | hw
  · -- findEven, case 0
    obtain rfl := hw
    refine lv_if_eq (tgt := 15) hx hb dX13_even_5 (by decide) (fun c4 => ?_) (fun c4 => ?_)
    · --5 taken
      exact absurd c4 (by decide)
    · --5 not
      refine lv_aload_n hx hb dX13_even_8 rfl (lv_at hl 0 rfl) ?_
      obtain ⟨y5, ey5⟩ : ∃ y, xi (E2 0) 88 = y := ⟨_, rfl⟩
      have fy5 : xv (E2 0) 88 = .int y5 := (hI.fi 0 (Nat.le_of_ble_eq_true rfl) rfl (Nat.le_of_ble_eq_true rfl) rfl).trans (congrArg Value.int ey5)
      refine th_get (ci := 14) (C := RX13) (T := TX13) (N := 97) (v := .int y5) hx hb hts hinX13 hown hK hP hI 0 (Nat.le_of_ble_eq_true rfl) rfl rfl 88 (Nat.le_of_ble_eq_true rfl) (hts _ (vA_in _ _ (in_27 _ (zs16 (zs16 (zs1 (zs1 (zs0)))))))) (fun _ h9 => h9) fy5 dX13_even_9 ?_
      refine lv_goto (tgt := 16) hx hb dX13_even_12 (by decide) ?_
      rw [hQ]
      exact W.iret (v := y5) hx hb hr (fun t ht hW => ⟨⟨y5, E2, rfl, ⟨hI, hKp, trivial⟩, by show va_P (dC, dI) vwCl (WX 72 ad E2) t.heap; rw [ht]; exact hP⟩, hS.F ht⟩) hS.2.2 dX13_even_16
  · -- findEven, case 1
    obtain rfl := hw
    refine lv_if_eq (tgt := 15) hx hb dX13_even_5 (by decide) (fun c6 => ?_) (fun c6 => ?_)
    · --5 taken
      refine lv_iconst (v := -1) hx hb dX13_even_15 (by decide) ?_
      rw [hQ]
      exact W.iret (v := (-1)) hx hb hr (fun t ht hW => ⟨⟨(-1), E2, rfl, ⟨hI, hKp, trivial⟩, by show va_P (dC, dI) vwCl (WX 72 ad E2) t.heap; rw [ht]; exact hP⟩, hS.F ht⟩) hS.2.2 dX13_even_16
    · --5 not
      exact absurd c6 (by decide)
def v_change : List Cond := .code yX13_change cX13_change 4 (some .int) :: vA
abbrev rm_change : Room := { frames := 73, cells := 0, slots := 0, locals := 2920 }
def w_change : Nat → Nat → Bool := wl [12, 60, 62, 63, 64, 65] [(0, 0), (0, 18), (0, 19), (0, 20), (0, 21), (0, 22), (0, 23), (0, 24), (0, 25), (0, 26), (0, 86), (0, 87), (0, 88), (0, 89)]
set_option maxHeartbeats 4000000 in
set_option maxRecDepth 100000 in
theorem q_change (l : Launch) (dC : Nat → ClassId) (dI : Nat → Nat → Nat) (cT : Nat → ClassId) (ad : Nat → Nat) (E : Nat → va_E) (sz : Nat) (a0 : Int32) (a1 : Int32) (hI0 : IX cT shM spM 72 ad E)  : Met l yX13_change v_change rm_change (va_Pc [.ref (ad 0), .int a0, .int a1] (HW dC dI (TYM cT) 72 ad E sz)) (va_Qi (S := Nat → va_E) (fun r u => IX cT shM spM 72 ad u ∧ Kp w_change E u ∧ (True)) (HB dC dI 72 ad) (va_A (WX 72 ad E) sz)) 0 0 (va_A (WX 72 ad E) sz) := by
  refine Met.ofW (cc := cX13_change) (maxL := 4) (ret := (some .int)) (by decide) rfl ?_
  intro p e s m args below meth c s₁ B hml hv
  obtain ⟨hargs, hsz, hP, hK, hD0, hEV⟩ := hv
  subst hsz
  have hx := B.exec
  have hb := B.bytes
  have hr := B.returns
  have hts := atoms_spec (ws := v_change) B.pre
  have hown : s.vm.findClass RX13 = some m.cls := findClass_of_methodNamed B.named
  have hlocks := B.notSynchronized
  have hinX13 : ∀ w ∈ u_ws RX13 TX13 97, w ∈ v_change := fun w h => vA_in _ w (in_X13 w h)
  generalize hAe : va_A (WX 72 ad E) s.heap.size = A at hEV ⊢
  have hA : ∀ q : Nat, s.heap.size ≤ q → A q := fun q h => by rw [← hAe]; exact Or.inr h
  have hD : va_D A (WX 72 ad E) := by rw [← hAe]; exact hD0.self
  have hS : va_S A s.heap s.heap [] := va_S.rf
  have hI := hI0
  have hKp : Kp w_change E E := Kp.rf
  have hl := lv_entry ([.ref (ad 0), .int a0, .int a1]) (n := 4) (Nat.le_of_ble_eq_true rfl)
  obtain ⟨Q, hQ⟩ : ∃ Q, Q = MQ below (va_Qi (S := Nat → va_E) (fun r u => IX cT shM spM 72 ad u ∧ Kp w_change E u ∧ (True)) (HB dC dI 72 ad) (A)) args s 0 0 (A) := ⟨_, rfl⟩
  rw [← hQ, show entryFrame m args 4 = _ from (congrArg (fun z => entryFrame m z 4) hargs).trans (lg_entry_eq _ _ _)]
  generalize (lg_sl ([.ref (ad 0), .int a0, .int a1]) ++ List.replicate (4 - (lg_sl ([.ref (ad 0), .int a0, .int a1])).length) Slot.unset).toArray = ls at hl ⊢
  have hl : lv_has ls 4 [(0, .ref (ad 0)), (1, .int a0), (2, .int a1)] := hl
  refine lv_aload_n hx hb dX13_change_0 rfl (lv_at hl 0 rfl) ?_
  refine lv_iload_n hx hb dX13_change_1 rfl (lv_at hl 1 rfl) ?_
  refine th_i (va_runV (As := [.int a0]) (rest := []) ⟨hx, hb, hml, hown, hts⟩ (q_findEven l dC dI cT ad E s.heap.size a0 hI) (cwV 1 hts (gi_V (in_27 _ (zs16 (zs4 (zs4 (zs1 (zs0)))))) (in_27 _ (zs16 (zs4 (zs4 (zs1 (zs1 (zs0))))))) (in_27 _ (zs16 (zs4 (zs4 (zs1 (zs1 (zs1 (zs0)))))))) (in_24 _ (zs4 (zs4 (zs4 (zs1 (zs1 (zs1 (zs0)))))))) (in_27 _ (zs16 (zs4 (zs4 (zs4 (zs0))))))) rfl rfl rfl ⟨rfl, hz_yX13_findEven_1⟩ ⟨Nat.le_of_ble_eq_true rfl, Nat.le_of_ble_eq_true rfl⟩) ⟨HW_bl, va_recv hK hP (ci := 14) (q0 := 0) rfl (hI.ob 0 (Nat.le_of_ble_eq_true rfl) rfl), (HW_wi hP hK (WX_D hD) hS hA hEV)⟩ rfl rfl hl.1 rfl (lv_room (Nat.le_of_ble_eq_true rfl)) dX13_change_2 ⟨Nat.le_of_ble_eq_true rfl, Nat.le_of_ble_eq_true rfl⟩) (WX_D hD) hS hA (fun r1 E2 H locs hw hP hS => ?_)
  obtain ⟨hI, kq3, hw⟩ := hw
  have hKb := hKp
  have hKp := hKp.tr kq3 (wl_sub rfl rfl)
  rcases hw with hw | hw
  · -- findEven, case 0
    obtain rfl := hw
    refine lv_if_ne (tgt := 12) hx hb dX13_change_5 (by decide) (fun c4 => ?_) (fun c4 => ?_)
    · --5 taken
      refine lv_iconst (v := 0) hx hb dX13_change_12 (by decide) ?_
      refine lv_istore_n (lv' := [(3, .int 0), (0, .ref (ad 0)), (1, .int a0), (2, .int a1)]) hx hb dX13_change_13 rfl hl (by decide) rfl (fun ls hl => ?_)
      have hL14 : ∀ d : Nat, ∀ (v14_3 : Int32) (H : Heap) (locs : List Loc) (ls : Array Slot), 0 ≤ v14_3.toInt ∧ v14_3.toInt ≤ 4 → 4 - v14_3.toInt < (d : Int) → va_P (dC, dI) vwCl (WX 72 ad E2) H → va_S A s.heap H locs → lv_has ls 4 [(3, .int v14_3), (0, .ref (ad 0)), (1, .int a0), (2, .int a1)] → W p l e (headSpec v_change rm_change).room s m args below meth c H locs 0 0 Q (F0 m 14 ls []) := by
        intro d
        induction d with
        | zero =>
          intro v14_3 H locs ls hv14_3 hx14_0 hP hS hl
          exact absurd hx14_0 (by first | exact ms_zu hv14_3.2 | omega)
        | succ d ih14 =>
          intro v14_3 H locs ls hv14_3 hx14_0 hP hS hl
          refine lv_iload_n hx hb dX13_change_14 rfl (lv_at hl 0 rfl) ?_
          refine lv_aload_n hx hb dX13_change_15 rfl (lv_at hl 1 rfl) ?_
          obtain ⟨y5, ey5⟩ : ∃ y, xi (E2 0) 86 = y := ⟨_, rfl⟩
          have fy5 : xv (E2 0) 86 = .int y5 := (hI.fi 0 (Nat.le_of_ble_eq_true rfl) rfl (Nat.le_of_ble_eq_true rfl) rfl).trans (congrArg Value.int ey5)
          have iy5 : 0 ≤ y5.toInt ∧ y5.toInt ≤ 4 := by rw [← ey5]; exact hI.iv 0 (Nat.le_of_ble_eq_true rfl) rfl (Nat.le_of_ble_eq_true rfl) rfl
          refine th_get (ci := 14) (C := RX13) (T := TX13) (N := 97) (v := .int y5) hx hb hts hinX13 hown hK hP hI 0 (Nat.le_of_ble_eq_true rfl) rfl rfl 86 (Nat.le_of_ble_eq_true rfl) (hts _ (vA_in _ _ (in_27 _ (zs16 (zs4 (zs1 (zs1 (zs0)))))))) (fun _ h9 => h9) fy5 dX13_change_16 ?_
          refine lv_icmp_ge (tgt := 45) hx hb dX13_change_19 (by decide) (fun c6 => ?_) (fun c6 => ?_)
          · --19 taken
            have t7 : y5.toInt ≤ v14_3.toInt := ti_le c6
            refine lv_ldcw hx hb hown (hts _ (vA_in _ _ (in_27 _ (zs16 (zs4 (zs1 (zs0))))))) dX13_change_45 ?_
            rw [hQ]
            exact W.iret (v := (-1000000000)) hx hb hr (fun t ht hW => ⟨⟨(-1000000000), E2, rfl, ⟨hI, hKp, trivial⟩, by show va_P (dC, dI) vwCl (WX 72 ad E2) t.heap; rw [ht]; exact hP⟩, hS.F ht⟩) hS.2.2 dX13_change_48
          · --19 not
            have t8 : v14_3.toInt < y5.toInt := ti_nle c6
            have i9 : 0 ≤ v14_3.toInt ∧ v14_3.toInt ≤ 3 := iv_lt_l t8 hv14_3 iy5 (by decide)
            have i10 : 1 ≤ y5.toInt ∧ y5.toInt ≤ 4 := iv_lt_r t8 hv14_3 iy5 (by decide)
            refine lv_aload_n hx hb dX13_change_22 rfl (lv_at hl 1 rfl) ?_
            refine th_get (ci := 14) (C := RX13) (T := TX13) (N := 97) (v := .ref (ad 60)) hx hb hts hinX13 hown hK hP hI 0 (Nat.le_of_ble_eq_true rfl) rfl rfl 80 (Nat.le_of_ble_eq_true rfl) (hts _ (vA_in _ _ (in_27 _ (zs16 (zs4 (zs1 (zs1 (zs1 (zs0))))))))) (fun _ h9 => h9) (hI.fr 0 (Nat.le_of_ble_eq_true rfl) rfl (Nat.le_of_ble_eq_true rfl) 60 rfl) dX13_change_23 ?_
            refine lv_iload_n hx hb dX13_change_26 rfl (lv_at hl 0 rfl) ?_
            have n12 : vp_in v14_3 4 := (iv_in (n := 4) i9 (by decide))
            refine th_iald hx hb hK hP hI 60 (Nat.le_of_ble_eq_true rfl) rfl rfl n12 dX13_change_27 (fun y11 ey11 => ?_)
            have iy11 : 0 ≤ y11.toInt ∧ y11.toInt ≤ 15 := hI.el 60 (Nat.le_of_ble_eq_true rfl) rfl n12 (fun _ => rfl) ey11
            refine lv_iload_n hx hb dX13_change_28 rfl (lv_at hl 3 rfl) ?_
            refine lv_icmp_ne (tgt := 39) hx hb dX13_change_29 (by decide) (fun c13 => ?_) (fun c13 => ?_)
            · --29 taken
              have t14 : ¬ y11.toInt = a1.toInt := ti_ne c13
              obtain ⟨y15, ey15⟩ : ∃ y : Int32, y = v14_3 + (1 : Int32) := ⟨_, rfl⟩
              obtain ⟨ty15, iy15⟩ := ti_add (e := 1) (f := 4) i9 ln_1 ey15 (by decide)
              have ty15 : y15.toInt = v14_3.toInt + 1 := ty15
              have iy15 : 1 ≤ y15.toInt ∧ y15.toInt ≤ 4 := iy15
              refine lv_iinc (v := y15) (lv' := [(3, .int y15), (0, .ref (ad 0)), (1, .int a0), (2, .int a1)]) hx hb dX13_change_39 hl (k := 0) rfl (by rw [ey15]; rfl) (by decide) rfl (fun ls hl => ?_)
              refine lv_goto (tgt := 14) hx hb dX13_change_42 (by decide) ?_
              exact ih14 y15 _ _ _ (iv_w iy15 (by decide)) (by first | exact ms_su hx14_0 ty15 (by decide) | omega) hP hS (lv_sub hl [0, 1, 2, 3] rfl)
            · --29 not
              have t16 : y11.toInt = a1.toInt := ti_eq c13
              have i17 : 0 ≤ a1.toInt ∧ a1.toInt ≤ 15 := iv_eqi t16.symm (iv_all _) iy11 (by decide)
              refine lv_aload_n hx hb dX13_change_32 rfl (lv_at hl 1 rfl) ?_
              refine th_get (ci := 14) (C := RX13) (T := TX13) (N := 97) (v := .ref (ad 65)) hx hb hts hinX13 hown hK hP hI 0 (Nat.le_of_ble_eq_true rfl) rfl rfl 85 (Nat.le_of_ble_eq_true rfl) (hts _ (vA_in _ _ (in_27 _ (zs16 (zs4 (zs4 (zs0))))))) (fun _ h9 => h9) (hI.fr 0 (Nat.le_of_ble_eq_true rfl) rfl (Nat.le_of_ble_eq_true rfl) 65 rfl) dX13_change_33 ?_
              refine lv_iload_n hx hb dX13_change_36 rfl (lv_at hl 0 rfl) ?_
              have n19 : vp_in v14_3 4 := (iv_in (n := 4) i9 (by decide))
              refine th_iald hx hb hK hP hI 65 (Nat.le_of_ble_eq_true rfl) rfl rfl n19 dX13_change_37 (fun y18 ey18 => ?_)
              have iy18 : -3 ≤ y18.toInt ∧ y18.toInt ≤ 3 := hI.el 65 (Nat.le_of_ble_eq_true rfl) rfl n19 (fun _ => rfl) ey18
              rw [hQ]
              exact W.iret (v := y18) hx hb hr (fun t ht hW => ⟨⟨y18, E2, rfl, ⟨hI, hKp, trivial⟩, by show va_P (dC, dI) vwCl (WX 72 ad E2) t.heap; rw [ht]; exact hP⟩, hS.F ht⟩) hS.2.2 dX13_change_38
      exact hL14 (5) (0 : Int32) _ _ _ (iv_w ln_0 (by decide)) (by have h9 := ln_0; first | exact ms_bu h9.1 (by decide) | omega) hP hS (lv_sub hl [0, 1, 2, 3] rfl)
    · --5 not
      exact absurd c4 (by decide)
  · -- findEven, case 1
    obtain rfl := hw
    refine lv_if_ne (tgt := 12) hx hb dX13_change_5 (by decide) (fun c20 => ?_) (fun c20 => ?_)
    · --5 taken
      exact absurd c20 (by decide)
    · --5 not
      refine lv_ldcw hx hb hown (hts _ (vA_in _ _ (in_27 _ (zs16 (zs4 (zs1 (zs0))))))) dX13_change_8 ?_
      rw [hQ]
      exact W.iret (v := (-1000000000)) hx hb hr (fun t ht hW => ⟨⟨(-1000000000), E2, rfl, ⟨hI, hKp, trivial⟩, by show va_P (dC, dI) vwCl (WX 72 ad E2) t.heap; rw [ht]; exact hP⟩, hS.F ht⟩) hS.2.2 dX13_change_11
